/-! THE ABSTRACT HEAP: cells by their numbers; a reference of the world is '.ref number', one of an old cell '.retAddr k' (ρ.1 k is where it lies) -/
abbrev xCl : Type := (Nat × List Value) ⊕ (List Int32) ⊕ (Nat × List (Option Nat)) ⊕ (List Int64) ⊕ (List Int32)
abbrev cO (k : Nat) (fs : List Value) : xCl := .inl (k, fs)
abbrev cI (a : List Int32) : xCl := .inr (.inl a)
abbrev cR (k : Nat) (a : List (Option Nat)) : xCl := .inr (.inr (.inl (k, a)))
abbrev cL (a : List Int64) : xCl := .inr (.inr (.inr (.inl a)))
abbrev cZ (a : List Int32) : xCl := .inr (.inr (.inr (.inr a)))
/-- the kind of a cell: a class's number, or 100 and more for arrays -/
def xkd (c : xCl) : Nat := match c with
  | .inl o => o.1
  | .inr (.inl _) => 100
  | .inr (.inr (.inl r)) => 200 + r.1
  | .inr (.inr (.inr (.inl _))) => 102
  | .inr (.inr (.inr (.inr _))) => 103
abbrev xR : Type := (Nat → Nat) × Nat × (Nat → Int32)
abbrev xM : Type := MethodName × ByteArray × Nat × Option FieldType
def xvr (ρ : xR) (ad : List Nat) (v w : Value) : Prop := match v with
  | .ref i => ∃ a, ad[i]? = some a ∧ w = .ref a
  | .retAddr k => w = .ref (ρ.1 k)
  | .int x => w = .int x
  | .long x => w = .long x
  | .float x => w = .float x
  | .double x => w = .double x
  | .null => w = .null
def xvs (ρ : xR) (ad : List Nat) : List Value → List Value → Prop
  | [], t => t = []
  | v :: vs, t => ∃ w t', t = w :: t' ∧ xvr ρ ad v w ∧ xvs ρ ad vs t'
def xlr (ρ : xR) (ad : List Nat) : List (Nat × Value) → List (Nat × Value) → Prop
  | [], t => t = []
  | q :: L, t => ∃ w t', t = (q.1, w) :: t' ∧ xvr ρ ad q.2 w ∧ xlr ρ ad L t'
def xls (ρ : xR) (ad : List Nat) (nL : Nat) (L : List (Nat × Value)) (ls : Array Slot) : Prop := ∃ L', lv_has ls nL L' ∧ xlr ρ ad L L'
def xopt (ad : List Nat) (o o' : Option Nat) : Prop := match o with
  | none => o' = none
  | some i => ∃ a, ad[i]? = some a ∧ o' = some a
def xcr (ρ : xR) (tys : List (ClassId × FieldType)) (ad : List Nat) (c : xCl) (e : va_E) : Prop := match c with
  | .inl o => ∃ fs', e = .inr (o.1, fs') ∧ xvs ρ ad o.2 fs'
  | .inr (.inl l) => ∃ (t0 : Nat) (cA : ClassId) (f : Nat → Int32), tys[t0]? = some (cA, .int) ∧ e = .inl (cA, l.length, .inl f) ∧ ∀ (j : Nat) (x : Int32), l[j]? = some x → f j = x
  | .inr (.inr (.inl r)) => ∃ (t0 : Nat) (cA : ClassId) (f : Nat → Option Nat), tys[t0]? = some (cA, .object (xEl r.1)) ∧ e = .inl (cA, r.2.length, .inr (.inr (.inr (.inr f)))) ∧ ∀ (j : Nat) (x : Option Nat), r.2[j]? = some x → xopt ad x (f j)
  | .inr (.inr (.inr (.inl l))) => ∃ (t0 : Nat) (cA : ClassId) (f : Nat → Int64), tys[t0]? = some (cA, .long) ∧ e = .inl (cA, l.length, .inr (.inl f)) ∧ ∀ (j : Nat) (x : Int64), l[j]? = some x → f j = x
  | .inr (.inr (.inr (.inr l))) => ∃ (t0 : Nat) (cA : ClassId) (f : Nat → Int32), tys[t0]? = some (cA, .boolean) ∧ e = .inl (cA, l.length, .inl f) ∧ ∀ (j : Nat) (x : Int32), l[j]? = some x → f j = x
def xWr (ρ : xR) (tys : List (ClassId × FieldType)) (ad : List Nat) (ws : va_W) (M : List xCl) : Prop :=
  ad.length = M.length ∧ ws.length = M.length ∧ ∀ (i : Nat) (c : xCl), M[i]? = some c → ∃ (a : Nat) (e : va_E), ad[i]? = some a ∧ ws[i]? = some (a, e) ∧ xcr ρ tys ad c e
def xle {α : Type} (l l' : List α) : Prop := ∃ t, l' = l ++ t
theorem xle_rf {α : Type} (l : List α) : xle l l := ⟨[], (List.append_nil l).symm⟩
theorem xle_tr {α : Type} {a b c : List α} (h : xle a b) (k : xle b c) : xle a c := by
  obtain ⟨t, rfl⟩ := h
  obtain ⟨u, rfl⟩ := k
  exact ⟨t ++ u, List.append_assoc a t u⟩
theorem xle_at {α : Type} {l l' : List α} (h : xle l l') {i : Nat} {a : α} (hi : l[i]? = some a) : l'[i]? = some a := by
  obtain ⟨t, rfl⟩ := h
  rw [List.getElem?_append_left (List.getElem?_eq_some_iff.mp hi).1]
  exact hi
theorem xvr_mono {ρ : xR} {ad ad' : List Nat} (h : xle ad ad') {v w : Value} (k : xvr ρ ad v w) : xvr ρ ad' v w := by
  cases v with
  | ref i =>
    obtain ⟨a, h1, h2⟩ := k
    exact ⟨a, xle_at h h1, h2⟩
  | _ => exact k
theorem xvs_mono {ρ : xR} {ad ad' : List Nat} (h : xle ad ad') : ∀ {vs t : List Value}, xvs ρ ad vs t → xvs ρ ad' vs t
  | [], _, k => k
  | _ :: _, _, k => by
    obtain ⟨w, t', e, k1, k2⟩ := k
    exact ⟨w, t', e, xvr_mono h k1, xvs_mono h k2⟩
theorem xlr_mono {ρ : xR} {ad ad' : List Nat} (h : xle ad ad') : ∀ {L t : List (Nat × Value)}, xlr ρ ad L t → xlr ρ ad' L t
  | [], _, k => k
  | _ :: _, _, k => by
    obtain ⟨w, t', e, k1, k2⟩ := k
    exact ⟨w, t', e, xvr_mono h k1, xlr_mono h k2⟩
theorem xls_mono {ρ : xR} {ad ad' : List Nat} (h : xle ad ad') {nL : Nat} {L : List (Nat × Value)} {ls : Array Slot} (k : xls ρ ad nL L ls) : xls ρ ad' nL L ls := by
  obtain ⟨L', k1, k2⟩ := k
  exact ⟨L', k1, xlr_mono h k2⟩
theorem xopt_mono {ad ad' : List Nat} (h : xle ad ad') {o o' : Option Nat} (k : xopt ad o o') : xopt ad' o o' := by
  cases o with
  | none => exact k
  | some i =>
    obtain ⟨a, h1, h2⟩ := k
    exact ⟨a, xle_at h h1, h2⟩
theorem xcr_mono {ρ : xR} {tys tys' : List (ClassId × FieldType)} {ad ad' : List Nat} (h : xle ad ad') (ht : xle tys tys') {c : xCl} {e : va_E} (k : xcr ρ tys ad c e) : xcr ρ tys' ad' c e := by
  match c, k with
  | .inl o, k =>
    obtain ⟨fs', k1, k2⟩ := k
    exact ⟨fs', k1, xvs_mono h k2⟩
  | .inr (.inl l), k =>
    obtain ⟨t0, cA, f, k1, k2, k3⟩ := k
    exact ⟨t0, cA, f, xle_at ht k1, k2, k3⟩
  | .inr (.inr (.inl r)), k =>
    obtain ⟨t0, cA, f, k1, k2, k3⟩ := k
    exact ⟨t0, cA, f, xle_at ht k1, k2, fun j x hj => xopt_mono h (k3 j x hj)⟩
  | .inr (.inr (.inr (.inl l))), k =>
    obtain ⟨t0, cA, f, k1, k2, k3⟩ := k
    exact ⟨t0, cA, f, xle_at ht k1, k2, k3⟩
  | .inr (.inr (.inr (.inr l))), k =>
    obtain ⟨t0, cA, f, k1, k2, k3⟩ := k
    exact ⟨t0, cA, f, xle_at ht k1, k2, k3⟩
theorem xWr_len {ρ : xR} {tys : List (ClassId × FieldType)} {ad : List Nat} {ws : va_W} {M : List xCl} (h : xWr ρ tys ad ws M) {i a : Nat} (ha : ad[i]? = some a) : ∃ (c : xCl) (e : va_E), M[i]? = some c ∧ ws[i]? = some (a, e) ∧ xcr ρ tys ad c e := by
  obtain ⟨h1, h2, h3⟩ := h
  have hi : i < M.length := by rw [← h1]; exact (List.getElem?_eq_some_iff.mp ha).1
  have hM : M[i]? = some M[i] := List.getElem?_eq_getElem hi
  obtain ⟨a', e, k1, k2, k3⟩ := h3 i _ hM
  cases ha.symm.trans k1
  exact ⟨_, e, hM, k2, k3⟩
theorem xWr_set {ρ : xR} {tys : List (ClassId × FieldType)} {ad : List Nat} {ws : va_W} {M : List xCl} (h : xWr ρ tys ad ws M) {i a : Nat} {c : xCl} {e : va_E} (ha : ad[i]? = some a) (hc : xcr ρ tys ad c e) : xWr ρ tys ad (ws.set i (a, e)) (M.set i c) := by
  obtain ⟨h1, h2, h3⟩ := h
  refine ⟨by rw [List.length_set]; exact h1, by rw [List.length_set, List.length_set]; exact h2, fun j b hj => ?_⟩
  by_cases hij : i = j
  · subst hij
    have hi : i < M.length := by
      have := (List.getElem?_eq_some_iff.mp hj).1
      rw [List.length_set] at this
      exact this
    rw [List.getElem?_set_self hi] at hj
    cases hj
    exact ⟨a, e, ha, List.getElem?_set_self (by rw [h2]; exact hi), hc⟩
  · rw [List.getElem?_set_ne hij] at hj
    obtain ⟨a', e', k1, k2, k3⟩ := h3 j b hj
    exact ⟨a', e', k1, by rw [List.getElem?_set_ne hij]; exact k2, k3⟩
theorem xWr_push {ρ : xR} {tys tys' : List (ClassId × FieldType)} {ad : List Nat} {ws : va_W} {M : List xCl} (h : xWr ρ tys ad ws M) (ht : xle tys tys') {q : Nat} {c : xCl} {e : va_E} (hc : xcr ρ tys' (ad ++ [q]) c e) : xWr ρ tys' (ad ++ [q]) (ws ++ [(q, e)]) (M ++ [c]) := by
  obtain ⟨h1, h2, h3⟩ := h
  refine ⟨by simp [h1], by simp [h2], fun j b hj => ?_⟩
  by_cases hl : j < M.length
  · rw [List.getElem?_append_left hl] at hj
    obtain ⟨a', e', k1, k2, k3⟩ := h3 j b hj
    exact ⟨a', e', xle_at ⟨[q], rfl⟩ k1, xle_at ⟨_, rfl⟩ k2, xcr_mono ⟨[q], rfl⟩ ht k3⟩
  · have hz : j < (M ++ [c]).length := (List.getElem?_eq_some_iff.mp hj).1
    rw [List.length_append, List.length_singleton] at hz
    have hj2 : j = M.length := by omega
    subst hj2
    rw [List.getElem?_append_right (Nat.le_refl _), Nat.sub_self] at hj
    cases hj
    refine ⟨q, e, ?_, ?_, hc⟩
    · rw [← h1, List.getElem?_append_right (Nat.le_refl _), Nat.sub_self]; rfl
    · rw [← h2, List.getElem?_append_right (Nat.le_refl _), Nat.sub_self]; rfl
theorem xvs_at {ρ : xR} {ad : List Nat} : ∀ {vs t : List Value}, xvs ρ ad vs t → ∀ {k : Nat} {v : Value}, vs[k]? = some v → ∃ w, t[k]? = some w ∧ xvr ρ ad v w
  | [], _, _, k, v, hv => by simp at hv
  | _ :: _, _, h, 0, v, hv => by
    obtain ⟨w, t', rfl, k1, k2⟩ := h
    cases hv
    exact ⟨w, rfl, k1⟩
  | _ :: _, _, h, k + 1, v, hv => by
    obtain ⟨w, t', rfl, k1, k2⟩ := h
    exact xvs_at k2 (k := k) hv
theorem xvs_set {ρ : xR} {ad : List Nat} : ∀ {vs t : List Value}, xvs ρ ad vs t → ∀ (k : Nat) {v w : Value}, xvr ρ ad v w → xvs ρ ad (vs.set k v) (t.set k w)
  | [], _, h, k, v, w, _ => by
    subst h
    exact rfl
  | _ :: _, _, h, 0, v, w, hv => by
    obtain ⟨w', t', rfl, k1, k2⟩ := h
    exact ⟨w, t', rfl, hv, k2⟩
  | _ :: _, _, h, k + 1, v, w, hv => by
    obtain ⟨w', t', rfl, k1, k2⟩ := h
    exact ⟨w', _, rfl, k1, xvs_set k2 k hv⟩
theorem xvs_len {ρ : xR} {ad : List Nat} : ∀ {vs t : List Value}, xvs ρ ad vs t → t.length = vs.length
  | [], _, h => by subst h; rfl
  | _ :: _, _, h => by
    obtain ⟨w', t', rfl, k1, k2⟩ := h
    simp [xvs_len k2]
theorem xvs_app {ρ : xR} {ad : List Nat} : ∀ {vs us t u : List Value}, xvs ρ ad vs t → xvs ρ ad us u → xvs ρ ad (vs ++ us) (t ++ u)
  | [], _, _, _, h, k => by subst h; exact k
  | _ :: _, _, _, _, h, k => by
    obtain ⟨w', t', rfl, k1, k2⟩ := h
    exact ⟨w', _, rfl, k1, xvs_app k2 k⟩
theorem xvs_split {ρ : xR} {ad : List Nat} : ∀ {vs us t : List Value}, xvs ρ ad (vs ++ us) t → ∃ t1 t2, t = t1 ++ t2 ∧ xvs ρ ad vs t1 ∧ xvs ρ ad us t2
  | [], _, t, h => ⟨[], t, rfl, rfl, h⟩
  | _ :: _, _, _, h => by
    obtain ⟨w', t', rfl, k1, k2⟩ := h
    obtain ⟨t1, t2, rfl, j1, j2⟩ := xvs_split k2
    exact ⟨w' :: t1, t2, rfl, ⟨w', t1, rfl, k1, j1⟩, j2⟩
theorem xvs_rev {ρ : xR} {ad : List Nat} : ∀ {vs t : List Value}, xvs ρ ad vs t → xvs ρ ad vs.reverse t.reverse
  | [], _, h => by subst h; exact rfl
  | _ :: _, _, h => by
    obtain ⟨w', t', rfl, k1, k2⟩ := h
    rw [List.reverse_cons, List.reverse_cons]
    exact xvs_app (xvs_rev k2) ⟨w', [], rfl, k1, rfl⟩
theorem xvr_cat {ρ : xR} {ad : List Nat} {v w : Value} (h : xvr ρ ad v w) : w.category = v.category := by
  cases v with
  | ref i => obtain ⟨a, -, rfl⟩ := h; rfl
  | retAddr k => obtain rfl : w = _ := h; rfl
  | _ => obtain rfl : w = _ := h; rfl
theorem xvs_cat {ρ : xR} {ad : List Nat} : ∀ {vs t : List Value}, xvs ρ ad vs t → (t.map fun v => v.category) = (vs.map fun v => v.category)
  | [], _, h => by subst h; rfl
  | _ :: _, _, h => by
    obtain ⟨w', t', rfl, k1, k2⟩ := h
    rw [List.map_cons, List.map_cons, xvr_cat k1, xvs_cat k2]
theorem xlr_filter {ρ : xR} {ad : List Nat} (P : Nat → Nat → Bool) : ∀ {L t : List (Nat × Value)}, xlr ρ ad L t → xlr ρ ad (L.filter fun q => P q.1 q.2.category) (t.filter fun q => P q.1 q.2.category)
  | [], _, h => by subst h; exact rfl
  | q :: L, _, h => by
    obtain ⟨w', t', rfl, k1, k2⟩ := h
    have hc := xvr_cat k1
    by_cases hP : P q.1 q.2.category = true
    · have hP2 : P q.1 w'.category = true := by rw [hc]; exact hP
      rw [List.filter_cons_of_pos (by exact hP), List.filter_cons_of_pos (by exact hP2)]
      exact ⟨w', _, rfl, k1, xlr_filter P k2⟩
    · have hP2 : ¬ P q.1 w'.category = true := by rw [hc]; exact hP
      rw [List.filter_cons_of_neg (by exact hP), List.filter_cons_of_neg (by exact hP2)]
      exact xlr_filter P k2
theorem xlr_at {ρ : xR} {ad : List Nat} : ∀ {L t : List (Nat × Value)}, xlr ρ ad L t → ∀ {k : Nat} {q : Nat × Value}, L[k]? = some q → ∃ w, t[k]? = some (q.1, w) ∧ xvr ρ ad q.2 w
  | [], _, _, k, q, hv => by simp at hv
  | _ :: _, _, h, 0, q, hv => by
    obtain ⟨w, t', rfl, k1, k2⟩ := h
    cases hv
    exact ⟨w, rfl, k1⟩
  | _ :: _, _, h, k + 1, q, hv => by
    obtain ⟨w, t', rfl, k1, k2⟩ := h
    exact xlr_at k2 (k := k) hv
theorem xls_at {ρ : xR} {ad : List Nat} {nL : Nat} {L : List (Nat × Value)} {ls : Array Slot} (h : xls ρ ad nL L ls) (k : Nat) {i : Nat} {v : Value} (hk : L[k]? = some (i, v)) : ∃ w, ls[i]? = some (.val w) ∧ xvr ρ ad v w := by
  obtain ⟨L', h1, h2⟩ := h
  obtain ⟨w, k1, k2⟩ := xlr_at h2 hk
  exact ⟨w, lv_at h1 k k1, k2⟩
theorem xls_pick {ρ : xR} {ad : List Nat} {nL : Nat} {L : List (Nat × Value)} {ls : Array Slot} (h : xls ρ ad nL L ls) : ∀ (ks : List Nat), xls ρ ad nL (lv_pick L ks) ls := by
  intro ks
  induction ks with
  | nil =>
    obtain ⟨L', h1, h2⟩ := h
    exact ⟨[], ⟨h1.1, h1.2.1, fun q hq => by cases hq⟩, rfl⟩
  | cons k ks ih =>
    obtain ⟨T', i1, i2⟩ := ih
    cases hk : L[k]? with
    | none =>
      refine ⟨T', i1, ?_⟩
      rw [show lv_pick L (k :: ks) = lv_pick L ks by simp [lv_pick, hk]]
      exact i2
    | some q =>
      obtain ⟨w, k1, k2⟩ := xls_at h k (i := q.1) (v := q.2) hk
      refine ⟨(q.1, w) :: T', ⟨i1.1, i1.2.1, fun x hx => ?_⟩, ?_⟩
      · rcases List.mem_cons.mp hx with rfl | hx
        · exact k1
        · exact i1.2.2 x hx
      · rw [show lv_pick L (k :: ks) = q :: lv_pick L ks by simp [lv_pick, hk]]
        exact ⟨w, T', rfl, k2, i2⟩
/-- the locals with which a method begins -/
theorem xlr_args {ρ : xR} {ad : List Nat} : ∀ {vs t : List Value}, xvs ρ ad vs t → ∀ (i : Nat), xlr ρ ad (lv_args i vs) (lv_args i t)
  | [], _, h, i => by subst h; exact rfl
  | v :: vs, _, h, i => by
    obtain ⟨w', t', rfl, k1, k2⟩ := h
    show xlr ρ ad ((i, v) :: lv_args (if v.category = 2 then i + 2 else i + 1) vs) ((i, w') :: lv_args (if w'.category = 2 then i + 2 else i + 1) t')
    rw [xvr_cat k1]
    exact ⟨w', _, rfl, k1, xlr_args k2 _⟩
theorem xsl_len {ρ : xR} {ad : List Nat} : ∀ {vs t : List Value}, xvs ρ ad vs t → (lg_sl t).length = (lg_sl vs).length
  | [], _, h => by subst h; rfl
  | v :: vs, _, h => by
    obtain ⟨w', t', rfl, k1, k2⟩ := h
    have ih := xsl_len k2
    simp only [lg_sl, List.flatMap_cons, List.length_append] at ih ⊢
    rw [ih, xvr_cat k1]
    split <;> rfl
def xret (ρ : xR) (ad : List Nat) (r r' : Option Value) : Prop := match r with
  | none => r' = none
  | some v => ∃ w, r' = some w ∧ xvr ρ ad v w
theorem xret_list {ρ : xR} {ad : List Nat} {r r' : Option Value} (h : xret ρ ad r r') : xvs ρ ad r.toList r'.toList := by
  cases r with
  | none => obtain rfl : r' = none := h; exact rfl
  | some v =>
    obtain ⟨w, rfl, k⟩ := h
    exact ⟨w, [], rfl, k, rfl⟩
/-! OLD CELLS: 0 the script, 1 ArrayList's empty array, 2 the Class object of Object[] -/
def xRO (ρ : xR) (A : Nat → Prop) (U : State) (H : Heap) : Prop :=
  va_T .int (ρ.1 0) ρ.2.1 (fun j => .int (ρ.2.2 j)) A U H ∧ va_Z "java/util/ArrayList" "DEFAULTCAPACITY_EMPTY_ELEMENTDATA" "[Ljava/lang/Object;" (.ref (ρ.1 1)) A U H ∧ va_T (.object "java/lang/Object") (ρ.1 1) 0 (fun _ => .null) A U H ∧ va_Mi "[Ljava/lang/Object;" (ρ.1 2) U ∧ va_Dc U
theorem xRO_moved {ρ : xR} {A : Nat → Prop} {u U : State} {H : Heap} (hvm : u.vm.Alike U.vm) (h : xRO ρ A u H) : xRO ρ A U H := ⟨va_T.moved hvm h.1, va_Z.moved hvm h.2.1, va_T.moved hvm h.2.2.1, va_Mi.moved hvm h.2.2.2.1, va_Dc.moved hvm h.2.2.2.2⟩
theorem xRO_kept {ρ : xR} {A : Nat → Prop} {U : State} {H H1 : Heap} (h : xRO ρ A U H) (hq : ∀ a : Nat, a < H.size → ¬ A a → H1[a]? = H[a]?) : xRO ρ A U H1 := ⟨va_T.kept h.1 hq, va_Z.kept h.2.1 hq, va_T.kept h.2.2.1 hq, h.2.2.2⟩
theorem xRO_narrow {ρ : xR} {A B : Nat → Prop} {U : State} {H : Heap} (h : xRO ρ A U H) (hAB : ∀ q, B q → A q) : xRO ρ B U H := ⟨va_T.narrow h.1 hAB, va_Z.narrow h.2.1 hAB, va_T.narrow h.2.2.1 hAB, h.2.2.2⟩
