/-! CALLS -/
theorem xnw_warm {w : Cond} (h : xnw w = true) {s U : State} (hW : s.WarmedH U.vm) (k : va_Nw w s) : va_Nw w U := by
  cases w with
  | fieldLinkNest a i b n d h => exact va_Nw.warmF hW k
  | methodLinkNest a i x h => exact va_Nw.warmM hW k
  | castable C T => exact va_Nw.warmC hW k
  | arrayOver t =>
    cases t with
    | object C => exact va_AO.moved hW.alike k
    | _ => simp [xnw] at h
  | _ => simp [xnw] at h
theorem xnw_same {w : Cond} (h : xnw w = true) {s U : State} (hW : s.vm = U.vm) (k : va_Nw w s) : va_Nw w U := by
  cases w with
  | fieldLinkNest a i b n d h => exact va_Nw.same rfl hW k
  | methodLinkNest a i x h => exact va_Nw.same rfl hW k
  | castable C T => exact va_Nw.same rfl hW k
  | arrayOver t =>
    cases t with
    | object C => exact va_AO.moved (hW ▸ Vm.Alike.refl s.vm) k
    | _ => simp [xnw] at h
  | _ => simp [xnw] at h
def xPc (D : va_G) (ρ : xR) (As : List Value) (tys : List (ClassId × FieldType)) (ws : va_W) (sz : Nat) : Array Value → State → Prop :=
  va_Pc As (fun U => U.heap.size = sz ∧ va_P D classes ws U.heap ∧ va_K D classes tys U ∧ va_D (fun _ => True) ws ∧ (∀ w ∈ Nw, va_Nw w U) ∧ xRO ρ (va_A ws sz) U U.heap)
def xQ (D : va_G) (ρ : xR) (ad : List Nat) (A : Nat → Prop) (Q : Option Value → List xCl → Prop) : Array Value → State → Outcome → State → Prop := fun _ st oc t =>
  (∃ (r r1 : Option Value) (tys1 : List (ClassId × FieldType)) (ad1 : List Nat) (ws1 : va_W) (M1 : List xCl), oc = .returned r1 ∧ Q r M1 ∧ xret ρ ad1 r r1 ∧ va_P D classes ws1 t.heap ∧ va_K D classes tys1 t ∧ va_D A ws1 ∧ xWr ρ tys1 ad1 ws1 M1 ∧ xle ad ad1) ∧ va_F A st t
def xrm (d kc ks : Nat) : Room := { frames := d, cells := kc, slots := ks, locals := d * 45 }
def xws (z : xM) : List Cond := Cond.code z.1 z.2.1 z.2.2.1 z.2.2.2 :: Gw
theorem xblind {D : va_G} {ρ : xR} {As : List Value} {tys : List (ClassId × FieldType)} {ws : va_W} {sz : Nat} : FrameBlind (xPc D ρ As tys ws sz) := by
  intro a U g mk h
  obtain ⟨h1, h2, h3, h4, h5, h6, h7⟩ := h
  exact ⟨h1, h2, h3, va_K.moved (u := U) (U := U.calling g mk a) (Vm.Alike.refl U.vm) h4, h5, fun w hw => xnw_same (Nw_ok w hw) (s := U) rfl (h6 w hw), xRO_moved (u := U) (U := U.calling g mk a) (Vm.Alike.refl U.vm) h7⟩
section XC
variable {l : Launch} {D : va_G} {ρ : xR} {y z : xM} {pc : Nat} {L : List (Nat × Value)} {st : List Value} {M : List xCl} {d kc ks : Nat} {Q : Option Value → List xCl → Prop}
theorem x_met {As As' : List Value} (kz : Xw l D ρ z 0 (lv_args 0 As) [] M d kc ks Q) (hy : plainFor z.1 = true) (hsl : (lg_sl As).length ≤ z.2.2.1) {tys : List (ClassId × FieldType)} {ad : List Nat} {ws : va_W} (sz : Nat) (hW : xWr ρ tys ad ws M) (hAs : xvs ρ ad As As') :
    Met l z.1 (xws z) (xrm d kc ks) (xPc D ρ As' tys ws sz) (xQ D ρ ad (va_A ws sz) Q) kc ks (va_A ws sz) := by
  refine va_MetF (cc := z.2.1) (maxL := z.2.2.1) (ret := z.2.2.2) hy rfl ?_
  intro p e s m args below meth c s₁ B hml hv
  obtain ⟨rfl, hsz, hP, hK, hD0, hN, hRO⟩ := hv
  subst hsz
  have hx := B.exec
  have hb := B.bytes
  have hr := B.returns
  have hlocks := B.notSynchronized
  have hts : ∀ w ∈ Gw, w.before As'.toArray s = true := fun w hw => atoms_spec (ws := xws z) B.pre w (List.mem_cons_of_mem _ hw)
  have hl := lv_entry As' (n := z.2.2.1) (by rw [xsl_len hAs]; exact hsl)
  rw [lg_entry_eq]
  generalize (lg_sl As' ++ List.replicate (z.2.2.1 - (lg_sl As').length) Slot.unset).toArray = ls at hl ⊢
  refine kz p e _ s m _ below meth c (va_A ws s.heap.size) ad _ s.heap [] 0 0 tys ad ws ls [] ⟨hx, hb, hr, hml, findClass_of_methodNamed B.named, hts, hN, hRO, hlocks, fun q h => Or.inr h, Nat.le_refl _, Nat.le_refl _, fun h => (name_of_methodNamed B.named B.method).1.trans h⟩ ?_ (xle_rf _) ⟨hK, hP, hD0.self, va_S.rf, hW, Nat.le_of_eq (Nat.zero_add _), Nat.le_of_eq (Nat.zero_add _)⟩ rfl ⟨_, hl, xlr_args hAs 0⟩
  intro H locs cells slots tys1 ad1 ws1 M1 r r1 pc1 ls1 g0 gX gQ gr gt
  obtain ⟨b1, b2, b3, b4, b5, b6, b7⟩ := gX
  have fin : ∀ t : State, t.heap = H → s.WarmedH t.vm → xQ D ρ ad (va_A ws s.heap.size) Q As'.toArray s (.returned r1) t := fun t ht hWm => ⟨⟨r, r1, tys1, ad1, ws1, M1, rfl, gQ, gr, by rw [ht]; exact b2, va_K.moved hWm.alike b1, b3, b5, g0⟩, b4.F ht⟩
  refine W.widen (k := kc) (n := ks) b6 b7 ?_
  cases r with
  | none =>
    obtain rfl : r1 = none := gr
    exact W.vret hx hb (hr.trans gt.1) fin b4.2.2 gt.2
  | some v =>
    obtain ⟨w, rfl, gw⟩ := gr
    cases v with
    | int x =>
      obtain rfl : w = _ := gw
      obtain ⟨ty, t1, t2, t3⟩ := gt
      exact W.zret hx hb (hr.trans t1) t2 fin b4.2.2 t3
    | long x =>
      obtain rfl : w = _ := gw
      exact W.lret hx hb (hr.trans gt.1) fin b4.2.2 gt.2
    | float x => exact absurd gt (fun z => z)
    | double x => exact absurd gt (fun z => z)
    | null =>
      obtain ⟨⟨rt, t1, t2⟩, t3⟩ := gt
      exact W.aret hx hb (hr.trans t1) t2 (xrf_or (v := .null) trivial gw) fin b4.2.2 t3
    | ref i =>
      obtain ⟨⟨rt, t1, t2⟩, t3⟩ := gt
      exact W.aret hx hb (hr.trans t1) t2 (xrf_or (v := .ref i) trivial gw) fin b4.2.2 t3
    | retAddr i =>
      obtain ⟨⟨rt, t1, t2⟩, t3⟩ := gt
      exact W.aret hx hb (hr.trans t1) t2 (xrf_or (v := .retAddr i) trivial gw) fin b4.2.2 t3
theorem x_back {p : Program} {e : Env} {R : Room} {s : State} {m : MethodId} {args : Array Value} {below : List Frame} {meth : Method} {c : Code} {A : Nat → Prop} {ad0 : List Nat} {F : State → Prop} {H : Heap} {locs : List Loc} {cells slots : Nat} {tys : List (ClassId × FieldType)} {ad : List Nat} {ws : va_W} {ls : Array Slot} {st0 rest : List Value} {a : Array Value} {kc1 ks1 kc2 ks2 : Nat} {Q1 : Option Value → List xCl → Prop}
    (hr : va_Run p l e R s m args below meth c H locs cells slots kc1 ks1 (F0 m pc ls st0) rest (xQ D ρ ad (va_A ws H.size) Q1 a) (va_A ws H.size)) (CC : xCx ρ y p R s m args meth c A d) (E : xEn l D ρ y p e R s m args below meth c A ad0 F Q) (hle : xle ad0 ad) (X : xWo D ρ R s A H locs cells slots tys ad ws M kc ks) (hst : xvs ρ ad st rest) (hl : xls ρ ad y.2.2.1 L ls) (h2 : kc1 + kc2 ≤ kc) (h3 : ks1 + ks2 ≤ ks)
    (kk : ∀ r N, Q1 r N → Xw l D ρ y (pc + 3) L (r.toList ++ st) N d kc2 ks2 Q) : W p l e R s m args below meth c H locs cells slots F (F0 m pc ls st0) := by
  obtain ⟨hx, hb, hr', hml, hown, hts, hNw, hRO, hlk, hA, hfr, hlo, hnm⟩ := id CC
  obtain ⟨hK, hP, hD, hS, hW, hc1, hs1⟩ := id X
  intro T hT Xs
  obtain ⟨v, st₀, t, T', Lc, g0, X', hL, e1, e2, ⟨⟨r, r1, tys1, ad1, ws1, M1, hv, hq, hret, hP1, hK1, hD1, hW1, hle1⟩, hz, hk⟩, stp⟩ := hr T hT Xs
  cases hv
  rw [g0] at hz hk
  have hfree : ∀ q, va_A ws H.size q → A q := by
    rintro q (⟨k, e', h⟩ | h)
    · exact hD.2 k _ h
    · exact hA q (Nat.le_trans hS.1 h)
  have hS1 : va_S A s.heap T'.heap (locs ++ Lc) := ⟨Nat.le_trans hS.1 (by rw [e1]; exact hz), fun q h1 h2 => by
      rw [e1, hk q (Nat.lt_of_lt_of_le h1 hS.1) (fun z => h2 (hfree q z))]
      exact hS.2.1 q h1 h2, fun q hq' => by
      rcases List.mem_append.mp hq' with h | h
      · exact hS.2.2 q h
      · exact hfree _ (hL q h)⟩
  have hvm : s.vm.Alike t.vm := by rw [← e2]; exact X'.warmed.alike
  obtain ⟨t2, a1, b1⟩ := kk r M1 hq p e R s m args below meth c A ad0 F T'.heap (locs ++ Lc) (cells + kc1) (slots + ks1) tys1 ad1 ws1 ls (v.toList ++ rest) CC E (xle_tr hle hle1) ⟨va_K.moved hvm.symm hK1, by rw [e1]; exact hP1, hD1.weaken (fun k q _ h => hfree _ h), hS1, hW1, by omega, by omega⟩ (xvs_app (xret_list hret) (xvs_mono hle1 hst)) (xls_mono hle1 hl) T' rfl X'
  exact ⟨t2, stp t2 a1, b1⟩
/-- what the tables say of a method -/
def xMk (z : xM) (n : Nat) : Prop := Cond.code z.1 z.2.1 z.2.2.1 z.2.2.2 ∈ Gw ∧ Cond.initialized z.1.cls ∈ Gw ∧ (z.1.cls ≠ "java/lang/invoke/MethodHandle" ∧ z.1.cls ≠ "java/lang/invoke/VarHandle") ∧ (parseMethodDescriptor z.1.desc).map (fun d => d.parameters.length) = some n ∧ plainFor z.1 = true ∧ z.2.2.1 ≤ 26
theorem xgood (z : xM) (h : Cond.code z.1 z.2.1 z.2.2.1 z.2.2.2 ∈ Gw) : GoodIn Gw (xws z) := by
  intro w hw
  rcases List.mem_cons.mp hw with rfl | hw
  · exact ⟨h, Gw_ok _ h⟩
  · exact ⟨hw, Gw_ok _ hw⟩
theorem x_callB {n index kc1 ks1 d1 : Nat} {p : Program} {R : Room} {s : State} {m : MethodId} {args : Array Value} {meth : Method} {c : Code} {A : Nat → Prop} (CC : xCx ρ y p R s m args meth c A d) (hz : xMk z n) (hdp : d1 + 1 ≤ d) (hlk : Cond.methodLink y.1.cls index z.1 ∈ Gw) :
    CallB R s args y.1.cls index z.1 z.2.1 z.2.2.1 z.2.2.2 (xws z) (xrm d1 kc1 ks1) kc1 ks1 n := by
  obtain ⟨hx, hb, hr', hml, hown, hts, hNw, hRO, hlk', hA, hfr, hlo, hnm⟩ := CC
  obtain ⟨z1, z2, z3, z4, z5, z6⟩ := hz
  exact callB_of n hts (xgood z z1) rfl rfl rfl (hts _ z2) (hts _ hlk) ⟨z3.1, z3.2, z4⟩ ⟨by show d1 + 1 ≤ R.frames; omega, by show 8 + (z.2.2.1 + 11) + d1 * 45 ≤ R.locals; omega⟩
theorem x_callN {n index kc1 ks1 d1 : Nat} {host : String} {p : Program} {R : Room} {s : State} {m : MethodId} {args : Array Value} {meth : Method} {c : Code} {A : Nat → Prop} (CC : xCx ρ y p R s m args meth c A d) (hz : xMk z n) (hdp : d1 + 1 ≤ d) (hlk : Cond.methodLinkNest y.1.cls index z.1 host ∈ Nw) :
    va_CN R s args y.1.cls index z.1 host z.2.1 z.2.2.1 z.2.2.2 (xws z) (xrm d1 kc1 ks1) kc1 ks1 n := by
  obtain ⟨hx, hb, hr', hml, hown, hts, hNw, hRO, hlk', hA, hfr, hlo, hnm⟩ := CC
  obtain ⟨z1, z2, z3, z4, z5, z6⟩ := hz
  exact va_cnB n hts (xgood z z1) rfl rfl rfl (hNw _ hlk) (hts _ z2) ⟨z3.1, z3.2, z4⟩ ⟨by show d1 + 1 ≤ R.frames; omega, by show 8 + (z.2.2.1 + 11) + d1 * 45 ≤ R.locals; omega⟩
/-- the callee's start, out of the caller's world -/
theorem x_pre {p : Program} {R : Room} {s : State} {m : MethodId} {args : Array Value} {meth : Method} {c : Code} {A : Nat → Prop} {H : Heap} {locs : List Loc} {cells slots : Nat} {tys : List (ClassId × FieldType)} {ad : List Nat} {ws : va_W} {As' : List Value} (CC : xCx ρ y p R s m args meth c A d) (X : xWo D ρ R s A H locs cells slots tys ad ws M kc ks) :
    PreS s H (xPc D ρ As' tys ws H.size) As' := by
  obtain ⟨hx, hb, hr', hml, hown, hts, hNw, hRO, hlk', hA, hfr, hlo, hnm⟩ := CC
  obtain ⟨hK, hP, hD, hS, hW, hc1, hs1⟩ := X
  have hfree : ∀ q, va_A ws H.size q → A q := by
    rintro q (⟨k, e', h⟩ | h)
    · exact hD.2 k _ h
    · exact hA q (Nat.le_trans hS.1 h)
  refine ⟨xblind, fun U hU hWm => ⟨rfl, by rw [hU], by rw [hU]; exact hP, va_K.moved hWm.alike hK, hD.weaken (fun _ _ _ _ => trivial), fun w hw => xnw_warm (Nw_ok w hw) hWm (hNw w hw), ?_⟩⟩
  rw [hU]
  exact xRO_narrow (xRO_kept (xRO_moved hWm.alike hRO) (fun a h1 h2 => hS.2.1 a h1 h2)) hfree
theorem x_args {tys : List (ClassId × FieldType)} {ad : List Nat} {As stk st' : List Value} (h : xvs ρ ad (As.reverse ++ st) st') : ∃ As' rest, st' = As'.reverse ++ rest ∧ xvs ρ ad As As' ∧ xvs ρ ad st rest := by
  obtain ⟨t1, t2, rfl, h1, h2⟩ := xvs_split h
  refine ⟨t1.reverse, t2, by rw [List.reverse_reverse], ?_, h2⟩
  have := xvs_rev h1
  rw [List.reverse_reverse] at this
  exact this
variable {n index d1 kc1 ks1 kc2 ks2 i ci N : Nat} {As stk : List Value} {Q1 : Option Value → List xCl → Prop} {T : u_T} {ty : Nat → FieldType} {fs : List Value} {host : String}
theorem x_callS (hd : decode y.2.1 pc = .ok (.invokestatic index, 3)) (hstk : stk = As.reverse ++ st) (hz : xMk z n) (hsta : Cond.static z.1 ∈ Gw) (hlk : Cond.methodLink y.1.cls index z.1 ∈ Gw ∨ Cond.methodLinkNest y.1.cls index z.1 host ∈ Nw) (hn : As.length = n) (hsl : (lg_sl As).length ≤ z.2.2.1) (hcat : (st.map fun v => v.category).sum ≤ 8) (hdp : d1 + 1 ≤ d) (h2 : kc1 + kc2 ≤ kc) (h3 : ks1 + ks2 ≤ ks)
    {La : List (Nat × Value)} (hLa : lv_args 0 As = La) (kz : Xw l D ρ z 0 La [] M d1 kc1 ks1 Q1) (kk : ∀ r N, Q1 r N → Xw l D ρ y (pc + 3) L (r.toList ++ st) N d kc2 ks2 Q) : Xw l D ρ y pc L stk M d kc ks Q := by
  intro p e R s m args below meth c A ad0 F H locs cells slots tys ad ws ls st' CC E hle X hst hl
  subst hstk
  subst hLa
  obtain ⟨As', rest, hsteq, hAs, hst2⟩ := x_args (tys := tys) (stk := []) hst
  clear hst
  subst hsteq
  rename xvs ρ ad _ rest => hst
  obtain ⟨hx, hb, hr', hml, hown, hts, hNw, hRO, hlk', hA, hfr, hlo, hnm⟩ := id CC
  obtain ⟨hK, hP, hD, hS, hW, hc1, hs1⟩ := id X
  have hMet := x_met kz hz.2.2.2.2.1 hsl H.size hW hAs
  have hc0 : 2 * (F0 m pc ls (As'.reverse ++ rest)).monitorRoom + (rest.map fun v => v.category).sum ≤ 8 := lv_room (by rw [xvs_cat hst]; exact hcat)
  rcases hlk with hlk | hlk
  · exact x_back (va_runS (As := As') (rest := rest) ⟨hx, hb, hml, hown, hts⟩ hMet ⟨x_callB CC hz hdp hlk, hts _ hsta⟩ (x_pre CC X) rfl ((xvs_len hAs).trans hn) (xls_size hl) rfl hc0 hd ⟨by omega, by omega⟩) CC E hle X hst hl h2 h3 kk
  · exact x_back (va_runSN (As := As') (rest := rest) ⟨hx, hb, hml, hown, hts⟩ hMet ⟨x_callN CC hz hdp hlk, hts _ hsta, trivial⟩ (x_pre CC X) rfl ((xvs_len hAs).trans hn) (xls_size hl) rfl hc0 hd ⟨by omega, by omega⟩) CC E hle X hst hl h2 h3 kk
theorem x_callI (hd : decode y.2.1 pc = .ok (.invokespecial index, 3)) (hstk : stk = As.reverse ++ .ref i :: st) (hz : xMk z n) (hret : z.2.2.2 = none) (hini : z.1.name = "<init>") (hins : Cond.instanceMethod z.1 ∈ Gw) (hlk : Cond.methodLink y.1.cls index z.1 ∈ Gw) (hn : As.length = n) (hsl : (lg_sl (.ref i :: As)).length ≤ z.2.2.1) (hcat : (st.map fun v => v.category).sum ≤ 8) (hdp : d1 + 1 ≤ d) (h2 : kc1 + kc2 ≤ kc) (h3 : ks1 + ks2 ≤ ks)
    {La : List (Nat × Value)} (hLa : lv_args 0 (.ref i :: As) = La) (kz : Xw l D ρ z 0 La [] M d1 kc1 ks1 Q1) (kk : ∀ r N, Q1 r N → Xw l D ρ y (pc + 3) L (r.toList ++ st) N d kc2 ks2 Q) : Xw l D ρ y pc L stk M d kc ks Q := by
  intro p e R s m args below meth c A ad0 F H locs cells slots tys ad ws ls st' CC E hle X hst hl
  subst hstk
  subst hLa
  obtain ⟨As', rest, hsteq, hAs, hst2⟩ := x_args (tys := tys) (stk := []) hst
  clear hst
  subst hsteq
  rename xvs ρ ad _ rest => hst
  obtain ⟨w0, t0, rfl, hri, hst⟩ := hst
  obtain ⟨a, ha, rfl⟩ := id hri
  obtain ⟨hx, hb, hr', hml, hown, hts, hNw, hRO, hlk', hA, hfr, hlo, hnm⟩ := id CC
  obtain ⟨hK, hP, hD, hS, hW, hc1, hs1⟩ := id X
  have hMet := x_met kz hz.2.2.2.2.1 hsl H.size hW (As' := .ref a :: As') ⟨_, _, rfl, hri, hAs⟩
  have hc0 : 2 * (F0 m pc ls (As'.reverse ++ Value.ref a :: t0)).monitorRoom + (t0.map fun v => v.category).sum ≤ 8 := lv_room (by rw [xvs_cat hst]; exact hcat)
  have hB := x_callB (kc1 := kc1) (ks1 := ks1) CC hz hdp hlk
  rw [hret] at hB
  exact x_back (va_runI (As := As') (rest := t0) ⟨hx, hb, hml, hown, hts⟩ hMet ⟨hB, hini, hts _ hins⟩ (x_pre CC X) rfl ((xvs_len hAs).trans hn) (xls_size hl) rfl hc0 hd ⟨by omega, by omega⟩) CC E hle X hst hl h2 h3 kk
theorem x_callV (hd : decode y.2.1 pc = .ok (.invokevirtual index, 3)) (hstk : stk = As.reverse ++ .ref i :: st) (hz : xMk z n) (hins : Cond.instanceMethod z.1 ∈ Gw) (hsel : Cond.selects z.1.cls z.1 z.1 ∈ Gw) (hlk : Cond.methodLink y.1.cls index z.1 ∈ Gw ∨ Cond.methodLinkNest y.1.cls index z.1 host ∈ Nw) (hn : As.length = n) (hsl : (lg_sl (.ref i :: As)).length ≤ z.2.2.1) (hcat : (st.map fun v => v.category).sum ≤ 8) (hC : xCk ci z.1.cls T N ty) (hM : M[i]? = some (.inl (ci, fs))) (hdp : d1 + 1 ≤ d) (h2 : kc1 + kc2 ≤ kc) (h3 : ks1 + ks2 ≤ ks)
    {La : List (Nat × Value)} (hLa : lv_args 0 (.ref i :: As) = La) (kz : Xw l D ρ z 0 La [] M d1 kc1 ks1 Q1) (kk : ∀ r N, Q1 r N → Xw l D ρ y (pc + 3) L (r.toList ++ st) N d kc2 ks2 Q) : Xw l D ρ y pc L stk M d kc ks Q := by
  intro p e R s m args below meth c A ad0 F H locs cells slots tys ad ws ls st' CC E hle X hst hl
  subst hstk
  subst hLa
  obtain ⟨As', rest, hsteq, hAs, hst2⟩ := x_args (tys := tys) (stk := []) hst
  clear hst
  subst hsteq
  rename xvs ρ ad _ rest => hst
  obtain ⟨w0, t0, rfl, hri, hst⟩ := hst
  obtain ⟨a, ha, rfl⟩ := id hri
  obtain ⟨hx, hb, hr', hml, hown, hts, hNw, hRO, hlk', hA, hfr, hlo, hnm⟩ := id CC
  obtain ⟨hK, hP, hD, hS, hW, hc1, hs1⟩ := id X
  obtain ⟨a', e', k1, k2, fs', rfl, k3⟩ := hW.2.2 _ _ hM
  cases ha.symm.trans k1
  have hrec := va_recv hK hP hC.1 k2
  have hMet := x_met kz hz.2.2.2.2.1 hsl H.size hW (As' := .ref a :: As') ⟨_, _, rfl, hri, hAs⟩
  have hc0 : 2 * (F0 m pc ls (As'.reverse ++ Value.ref a :: t0)).monitorRoom + (t0.map fun v => v.category).sum ≤ 8 := lv_room (by rw [xvs_cat hst]; exact hcat)
  have hpre := x_pre (As' := .ref a :: As') CC X
  rcases hlk with hlk | hlk
  · exact x_back (va_runV (As := As') (rest := t0) ⟨hx, hb, hml, hown, hts⟩ hMet ⟨x_callB CC hz hdp hlk, hts _ hins, hts _ hsel⟩ ⟨hpre.1, hrec, hpre.2⟩ rfl ((xvs_len hAs).trans hn) (xls_size hl) rfl hc0 hd ⟨by omega, by omega⟩) CC E hle X hst hl h2 h3 kk
  · exact x_back (va_runVN (As := As') (rest := t0) ⟨hx, hb, hml, hown, hts⟩ hMet ⟨x_callN CC hz hdp hlk, hts _ hins, hts _ hsel⟩ ⟨hpre.1, hrec, hpre.2⟩ rfl ((xvs_len hAs).trans hn) (xls_size hl) rfl hc0 hd ⟨by omega, by omega⟩) CC E hle X hst hl h2 h3 kk
end XC
