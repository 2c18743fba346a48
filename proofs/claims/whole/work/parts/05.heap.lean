/-! RULES OF THE HEAP -/
def xft (ty : FieldType) (v : Value) : Bool := match ty, v with
  | .int, .int _ => true
  | .long, .long _ => true
  | .boolean, .int x => x == 0 || x == 1
  | .object _, .ref _ => true
  | .object _, .null => true
  | .object _, .retAddr _ => true
  | .array _, .ref _ => true
  | .array _, .null => true
  | .array _, .retAddr _ => true
  | _, _ => false
theorem xft_ok {ρ : xR} {ad : List Nat} {ty : FieldType} {v w : Value} (h : xft ty v = true) (k : xvr ρ ad v w) : narrow ty w = w ∧ fits ty w = true := by
  cases ty with
  | int => cases v <;> simp [xft] at h; obtain rfl : w = _ := k; exact ⟨rfl, rfl⟩
  | long => cases v <;> simp [xft] at h; obtain rfl : w = _ := k; exact ⟨rfl, rfl⟩
  | boolean =>
    cases v with
    | int x =>
      obtain rfl : w = _ := k
      have h2 : x = 0 ∨ x = 1 := by simpa [xft] using h
      rcases h2 with rfl | rfl <;> exact ⟨by decide, by decide⟩
    | _ => simp [xft] at h
  | object n =>
    cases v with
    | ref i => obtain ⟨a, -, rfl⟩ := k; exact ⟨rfl, rfl⟩
    | null => obtain rfl : w = _ := k; exact ⟨rfl, rfl⟩
    | retAddr i => obtain rfl : w = _ := k; exact ⟨rfl, rfl⟩
    | _ => simp [xft] at h
  | array n =>
    cases v with
    | ref i => obtain ⟨a, -, rfl⟩ := k; exact ⟨rfl, rfl⟩
    | null => obtain rfl : w = _ := k; exact ⟨rfl, rfl⟩
    | retAddr i => obtain rfl : w = _ := k; exact ⟨rfl, rfl⟩
    | _ => simp [xft] at h
  | _ => cases v <;> simp [xft] at h
def xdf : List Value → Bool
  | [] => true
  | .int _ :: t => xdf t
  | .long _ :: t => xdf t
  | .null :: t => xdf t
  | _ :: _ => false
theorem xdf_ok {ρ : xR} {ad : List Nat} : ∀ {fs : List Value}, xdf fs = true → xvs ρ ad fs fs
  | [], _ => rfl
  | .int x :: t, h => ⟨.int x, t, rfl, rfl, xdf_ok (fs := t) h⟩
  | .long x :: t, h => ⟨.long x, t, rfl, rfl, xdf_ok (fs := t) h⟩
  | .null :: t, h => ⟨.null, t, rfl, rfl, xdf_ok (fs := t) h⟩
/-- a class that the worlds hold -/
def xCk (ci : Nat) (C : String) (T : u_T) (N : Nat) (ty : Nat → FieldType) : Prop := classes[ci]? = some (C, T, N) ∧ (∀ w ∈ u_ws C T N, w ∈ Gw) ∧ (∀ k, k < N → parseFieldDescriptor (T k).2.2.1 = some (ty k)) ∧ ∀ a, a < N → ∀ b, b < N → a ≠ b → (T a).2.1 ≠ (T b).2.1
/-- a field under the name by which own's place index spells it -/
def xFk (own : String) (index : Nat) (T : u_T) (k : Nat) : Prop := ∃ ref : String, Cond.fieldLink own index ref (T k).2.1 (T k).2.2.1 ∈ Gw ∧ (ref = (T k).1 ∨ Cond.sameField ref (T k).1 (T k).2.1 (T k).2.2.1 ∈ Gw)
def xrv (o : Option Nat) : Value := match o with
  | none => .null
  | some i => .ref i
theorem xrv_ok {ρ : xR} {ad : List Nat} {o o' : Option Nat} (h : xopt ad o o') : xvr ρ ad (xrv o) (va_rf o') := by
  cases o with
  | none => obtain rfl : o' = none := h; exact rfl
  | some i => obtain ⟨a, h1, rfl⟩ := h; exact ⟨a, h1, rfl⟩
theorem xls_size {ρ : xR} {ad : List Nat} {nL : Nat} {L : List (Nat × Value)} {ls : Array Slot} (h : xls ρ ad nL L ls) : ls.size = nL := by
  obtain ⟨L', h1, -⟩ := h
  exact h1.1
section XH
variable {l : Launch} {D : va_G} {ρ : xR} {y : xM} {pc : Nat} {L : List (Nat × Value)} {st : List Value} {M : List xCl} {d kc ks : Nat} {Q : Option Value → List xCl → Prop}
theorem xFk_same {args : Array Value} {s : State} {own ref : String} {T : u_T} {k : Nat} (hts : ∀ w ∈ Gw, w.before args s = true) (h : ref = (T k).1 ∨ Cond.sameField ref (T k).1 (T k).2.1 (T k).2.2.1 ∈ Gw) :
    ∀ x, s.fieldFound? (T k).1 (T k).2.1 (T k).2.2.1 = some x → s.fieldFound? ref (T k).2.1 (T k).2.2.1 = some x := by
  rcases h with rfl | h
  · exact fun _ z => z
  · exact fun x z => u_same (hts _ h) x z
theorem x_getf {index ci k N : Nat} {C : String} {T : u_T} {ty : Nat → FieldType} {i : Nat} {fs : List Value} {v : Value} (hd : decode y.2.1 pc = .ok (.getfield index, 3)) (hC : xCk ci C T N ty) (hf : xFk y.1.cls index T k) (hk : k < N) (hM : M[i]? = some (cO ci fs)) (hv : fs[k]? = some v)
    (kk : Xw l D ρ y (pc + 3) L (v :: st) M d kc ks Q) : Xw l D ρ y pc L (.ref i :: st) M d kc ks Q := by
  intro p e R s m args below meth c A ad0 F H locs cells slots tys ad ws ls st' CC E hle X hst hl
  obtain ⟨hx, hb, hr, hml, hown, hts, hrest⟩ := id CC
  obtain ⟨hK, hP, hD, hS, hW, hc1, hs1⟩ := id X
  obtain ⟨w0, t0, rfl, ⟨a, ha, rfl⟩, hst⟩ := hst
  obtain ⟨a', e', k1, k2, fs', rfl, k3⟩ := hW.2.2 _ _ hM
  cases ha.symm.trans k1
  obtain ⟨w, k4, k5⟩ := xvs_at k3 hv
  obtain ⟨ref, f1, f2⟩ := hf
  refine va_get hx hb hts hC.2.1 hown hK hP i k2 hC.1 k hk (hts _ f1) (xFk_same (own := y.1.cls) hts f2) k4 hd ?_
  exact kk p e R s m args below meth c A ad0 F H locs cells slots tys ad ws ls _ CC E hle X ⟨_, _, rfl, k5, hst⟩ hl
theorem x_putf {index ci k N : Nat} {C : String} {T : u_T} {ty : Nat → FieldType} {i : Nat} {fs : List Value} {v : Value} (hd : decode y.2.1 pc = .ok (.putfield index, 3)) (hC : xCk ci C T N ty) (hf : xFk y.1.cls index T k) (hk : k < N) (hfin : (T k).2.2.2 = false ∨ ((T k).2.2.2 = true ∧ y.1.name = "<init>" ∧ (T k).1 = y.1.cls)) (hv : xft (ty k) v = true) (hM : M[i]? = some (cO ci fs)) (hlen : k < fs.length) {fs' : List Value} (hset : fs.set k v = fs')
    (kk : Xw l D ρ y (pc + 3) L st (M.set i (cO ci fs')) d kc ks Q) : Xw l D ρ y pc L (v :: .ref i :: st) M d kc ks Q := by
  intro p e R s m args below meth c A ad0 F H locs cells slots tys ad ws ls st' CC E hle X hst hl
  obtain ⟨hx, hb, hr, hml, hown, hts, hNw, hRO, hlk, hA, hfr, hlo, hnm⟩ := id CC
  obtain ⟨hK, hP, hD, hS, hW, hc1, hs1⟩ := id X
  obtain ⟨w0, t0, rfl, hv0, hst⟩ := hst
  obtain ⟨w1, t1, rfl, ⟨a, ha, rfl⟩, hst⟩ := hst
  subst hset
  obtain ⟨a', e', k1, k2, fs', rfl, k3⟩ := hW.2.2 _ _ hM
  cases ha.symm.trans k1
  obtain ⟨ref, f1, f2⟩ := hf
  obtain ⟨n1, n2⟩ := xft_ok hv hv0
  have hl2 : k < fs'.length := by rw [xvs_len k3]; exact hlen
  have fin : ∀ (H1 : Heap) (locs1 : List Loc), va_P D classes (ws.set i (a, .inr (ci, fs'.set k w0))) H1 → va_D A (ws.set i (a, .inr (ci, fs'.set k w0))) → va_S A s.heap H1 locs1 → W p l e R s m args below meth c H1 locs1 cells slots F (F0 m (pc + 3) ls t1) := fun H1 locs1 hP1 hD1 hS1 =>
    kk p e R s m args below meth c A ad0 F H1 locs1 cells slots tys ad _ ls _ CC E hle ⟨hK, hP1, hD1, hS1, xWr_set hW ha ⟨_, rfl, xvs_set k3 k hv0⟩, hc1, hs1⟩ hst hl
  rcases hfin with hfin | ⟨hfin, hin, hdc⟩
  · exact va_put hx hb hts hC.2.1 ty hC.2.2.1 hC.2.2.2 hown hK hP hD hS i k2 hC.1 k hk (hts _ f1) (xFk_same (own := y.1.cls) hts f2) hfin (hC.2.2.1 k hk) n1 n2 hl2 hd fin
  · exact va_putF hx hb hts hC.2.1 ty hC.2.2.1 hC.2.2.2 hown hK hP hD hS i k2 hC.1 k hk (hts _ f1) (xFk_same (own := y.1.cls) hts f2) hfin (hnm hin) hdc (hC.2.2.1 k hk) n1 n2 hl2 hd fin
theorem x_new {index ci N kc' ks' : Nat} {C : String} {T : u_T} {ty : Nat → FieldType} {fs : List Value} (hd : decode y.2.1 pc = .ok (.new index, 3)) (hC : xCk ci C T N ty) (h1 : Cond.classLink y.1.cls index C ∈ Gw) (h2 : Cond.instantiable C N ∈ Gw) (h3 : Cond.initialized C ∈ Gw) (hfs : ∀ j, j < N → defaultValue (ty j) = vp_V fs j) (hdf : xdf fs = true) (h4 : kc' + 1 ≤ kc) (h5 : ks' + N ≤ ks)
    (kk : Xw l D ρ y (pc + 3) L (.ref M.length :: st) (M ++ [cO ci fs]) d kc' ks' Q) : Xw l D ρ y pc L st M d kc ks Q := by
  intro p e R s m args below meth c A ad0 F H locs cells slots tys ad ws ls st' CC E hle X hst hl
  obtain ⟨hx, hb, hr, hml, hown, hts, hNw, hRO, hlk, hA, hfr, hlo, hnm⟩ := id CC
  obtain ⟨hK, hP, hD, hS, hW, hc1, hs1⟩ := id X
  refine va_new hx hb hts hC.2.1 ty hC.2.2.1 hown (hts _ h1) (hts _ h2) (hts _ h3) hK hP hD hS hA hC.1 hfs (by omega) (by omega) hd (fun q H1 hP1 hD1 hS1 => ?_)
  have hq : xle ad (ad ++ [q]) := ⟨[q], rfl⟩
  have hat : (ad ++ [q])[M.length]? = some q := by rw [← hW.1, List.getElem?_append_right (Nat.le_refl _), Nat.sub_self]; rfl
  exact kk p e R s m args below meth c A ad0 F H1 locs (cells + 1) (slots + N) tys (ad ++ [q]) _ ls _ CC E (xle_tr hle hq) ⟨hK, hP1, hD1, hS1, xWr_push hW (xle_rf _) ⟨fs, rfl, xdf_ok hdf⟩, by omega, by omega⟩ ⟨_, _, rfl, ⟨q, hat, rfl⟩, xvs_mono hq hst⟩ (xls_mono hq hl)
theorem x_newi {n : Int32} {N kc' ks' : Nat} (hd : decode y.2.1 pc = .ok (.newarray .int, 2)) (hw : Cond.arrayClass .int ∈ Gw) (hn : n = nI N) (hN : N ≤ 100000000) (h4 : kc' + 1 ≤ kc) (h5 : ks' + N ≤ ks)
    (kk : Xw l D ρ y (pc + 2) L (.ref M.length :: st) (M ++ [cI (List.replicate N 0)]) d kc' ks' Q) : Xw l D ρ y pc L (.int n :: st) M d kc ks Q := by
  intro p e R s m args below meth c A ad0 F H locs cells slots tys ad ws ls st' CC E hle X hst hl
  obtain ⟨hx, hb, hr, hml, hown, hts, hNw, hRO, hlk, hA, hfr, hlo, hnm⟩ := id CC
  obtain ⟨hK, hP, hD, hS, hW, hc1, hs1⟩ := id X
  obtain ⟨w0, t0, rfl, h0, hst⟩ := hst
  obtain rfl : w0 = _ := h0
  subst hn
  refine va_newa hx hb (atype := .int) (hts _ hw) (ty := .int) rfl hK hP hD hS hA (a0 := (N, .inl (fun _ => 0))) (fun _ => rfl) (nI_pos (by omega)) (nI_clamp (by omega)) (show N * 4 ≤ 536870912 by omega) (by omega) (by omega) hd (fun q cA H1 hK1 hP1 hD1 hS1 => ?_)
  have hq : xle ad (ad ++ [q]) := ⟨[q], rfl⟩
  have hat : (ad ++ [q])[M.length]? = some q := by rw [← hW.1, List.getElem?_append_right (Nat.le_refl _), Nat.sub_self]; rfl
  have hty : (tys ++ [(cA, FieldType.int)])[tys.length]? = some (cA, FieldType.int) := by rw [List.getElem?_append_right (Nat.le_refl _), Nat.sub_self]; rfl
  have hcell : xcr ρ (tys ++ [(cA, FieldType.int)]) (ad ++ [q]) (cI (List.replicate N 0)) (.inl (cA, N, .inl (fun _ => 0))) := ⟨tys.length, cA, fun _ => 0, hty, by rw [List.length_replicate], fun j x hj => (List.eq_of_mem_replicate (List.mem_of_getElem? hj)).symm⟩
  exact kk p e R s m args below meth c A ad0 F H1 locs (cells + 1) (slots + N) _ (ad ++ [q]) _ ls _ CC E (xle_tr hle hq) ⟨hK1, hP1, hD1, hS1, xWr_push hW ⟨_, rfl⟩ hcell, by omega, by omega⟩ ⟨_, _, rfl, ⟨q, hat, rfl⟩, xvs_mono hq hst⟩ (xls_mono hq hl)
theorem x_newq {index k : Nat} {n : Int32} {N kc' ks' : Nat} (hd : decode y.2.1 pc = .ok (.anewarray index, 3)) (h1 : Cond.classLink y.1.cls index (xEl k) ∈ Gw) (h2 : Cond.arrayOver (.object (xEl k)) ∈ Nw) (hn : n = nI N) (hN : N ≤ 100000000) (h4 : kc' + 1 ≤ kc) (h5 : ks' + N ≤ ks)
    (kk : Xw l D ρ y (pc + 3) L (.ref M.length :: st) (M ++ [cR k (List.replicate N none)]) d kc' ks' Q) : Xw l D ρ y pc L (.int n :: st) M d kc ks Q := by
  intro p e R s m args below meth c A ad0 F H locs cells slots tys ad ws ls st' CC E hle X hst hl
  obtain ⟨hx, hb, hr, hml, hown, hts, hNw, hRO, hlk, hA, hfr, hlo, hnm⟩ := id CC
  obtain ⟨hK, hP, hD, hS, hW, hc1, hs1⟩ := id X
  obtain ⟨w0, t0, rfl, h0, hst⟩ := hst
  obtain rfl : w0 = _ := h0
  subst hn
  refine va_newq hx hb hown (hts _ h1) (hNw _ h2) hK hP hD hS hA (N' := N) (nI_pos (by omega)) (nI_clamp (by omega)) (by omega) (by omega) (by omega) hd (fun q cA H1 hK1 hP1 hD1 hS1 => ?_)
  have hq : xle ad (ad ++ [q]) := ⟨[q], rfl⟩
  have hat : (ad ++ [q])[M.length]? = some q := by rw [← hW.1, List.getElem?_append_right (Nat.le_refl _), Nat.sub_self]; rfl
  have hty : (tys ++ [(cA, FieldType.object (xEl k))])[tys.length]? = some (cA, FieldType.object (xEl k)) := by rw [List.getElem?_append_right (Nat.le_refl _), Nat.sub_self]; rfl
  have hcell : xcr ρ (tys ++ [(cA, FieldType.object (xEl k))]) (ad ++ [q]) (cR k (List.replicate N none)) (.inl (cA, N, .inr (.inr (.inr (.inr (fun _ => none)))))) := ⟨tys.length, cA, fun _ => none, hty, by rw [List.length_replicate], fun j x hj => by rw [List.eq_of_mem_replicate (List.mem_of_getElem? hj)]; exact rfl⟩
  exact kk p e R s m args below meth c A ad0 F H1 locs (cells + 1) (slots + N) _ (ad ++ [q]) _ ls _ CC E (xle_tr hle hq) ⟨hK1, hP1, hD1, hS1, xWr_push hW ⟨_, rfl⟩ hcell, by omega, by omega⟩ ⟨_, _, rfl, ⟨q, hat, rfl⟩, xvs_mono hq hst⟩ (xls_mono hq hl)
theorem x_alenI {i : Nat} {a : List Int32} (hd : decode y.2.1 pc = .ok (.arraylength, 1)) (hM : M[i]? = some (cI a)) (kk : Xw l D ρ y (pc + 1) L (.int (nI a.length) :: st) M d kc ks Q) : Xw l D ρ y pc L (.ref i :: st) M d kc ks Q := by
  intro p e R s m args below meth c A ad0 F H locs cells slots tys ad ws ls st' CC E hle X hst hl
  obtain ⟨hK, hP, hD, hS, hW, hc1, hs1⟩ := id X
  obtain ⟨w0, t0, rfl, ⟨q, ha, rfl⟩, hst⟩ := hst
  obtain ⟨a', e', k1, k2, t1, cA, f, k3, rfl, k4⟩ := hW.2.2 _ _ hM
  cases ha.symm.trans k1
  exact va_alen CC.1 CC.2.1 hK hP i t1 k2 k3 rfl hd (kk p e R s m args below meth c A ad0 F H locs cells slots tys ad ws ls _ CC E hle X ⟨_, _, rfl, rfl, hst⟩ hl)
theorem x_alenR {i k : Nat} {a : List (Option Nat)} (hd : decode y.2.1 pc = .ok (.arraylength, 1)) (hM : M[i]? = some (cR k a)) (kk : Xw l D ρ y (pc + 1) L (.int (nI a.length) :: st) M d kc ks Q) : Xw l D ρ y pc L (.ref i :: st) M d kc ks Q := by
  intro p e R s m args below meth c A ad0 F H locs cells slots tys ad ws ls st' CC E hle X hst hl
  obtain ⟨hK, hP, hD, hS, hW, hc1, hs1⟩ := id X
  obtain ⟨w0, t0, rfl, ⟨q, ha, rfl⟩, hst⟩ := hst
  obtain ⟨a', e', k1, k2, t1, cA, f, k3, rfl, k4⟩ := hW.2.2 _ _ hM
  cases ha.symm.trans k1
  exact va_alen CC.1 CC.2.1 hK hP i t1 k2 k3 rfl hd (kk p e R s m args below meth c A ad0 F H locs cells slots tys ad ws ls _ CC E hle X ⟨_, _, rfl, rfl, hst⟩ hl)
theorem x_iald {i j : Nat} {a : List Int32} {n x : Int32} (hd : decode y.2.1 pc = .ok (.iaload, 1)) (hn : n = nI j) (hM : M[i]? = some (cI a)) (hj : a[j]? = some x) (hlen : a.length ≤ 100000000) (kk : Xw l D ρ y (pc + 1) L (.int x :: st) M d kc ks Q) : Xw l D ρ y pc L (.int n :: .ref i :: st) M d kc ks Q := by
  intro p e R s m args below meth c A ad0 F H locs cells slots tys ad ws ls st' CC E hle X hst hl
  obtain ⟨hK, hP, hD, hS, hW, hc1, hs1⟩ := id X
  obtain ⟨w1, t1, rfl, h0, hst⟩ := hst
  obtain rfl : w1 = _ := h0
  obtain ⟨w0, t0, rfl, ⟨q, ha, rfl⟩, hst⟩ := hst
  obtain ⟨a', e', k1, k2, t1, cA, f, k3, rfl, k4⟩ := hW.2.2 _ _ hM
  cases ha.symm.trans k1
  subst hn
  have hlt := (List.getElem?_eq_some_iff.mp hj).1
  refine va_iald CC.1 CC.2.1 hK hP i t1 k2 k3 (vp_in_nI hlt (show a.length < 2 ^ 31 by omega)) hd ?_
  rw [nI_clamp (show j < 2 ^ 31 by omega), k4 j x hj]
  exact kk p e R s m args below meth c A ad0 F H locs cells slots tys ad ws ls _ CC E hle X ⟨_, _, rfl, rfl, hst⟩ hl
theorem x_iast {i j : Nat} {a : List Int32} {n x : Int32} (hd : decode y.2.1 pc = .ok (.iastore, 1)) (hn : n = nI j) (hM : M[i]? = some (cI a)) (hj : j < a.length) (hlen : a.length ≤ 100000000) (kk : Xw l D ρ y (pc + 1) L st (M.set i (cI (a.set j x))) d kc ks Q) : Xw l D ρ y pc L (.int x :: .int n :: .ref i :: st) M d kc ks Q := by
  intro p e R s m args below meth c A ad0 F H locs cells slots tys ad ws ls st' CC E hle X hst hl
  obtain ⟨hK, hP, hD, hS, hW, hc1, hs1⟩ := id X
  obtain ⟨w2, t2, rfl, h0, hst⟩ := hst
  obtain rfl : w2 = _ := h0
  obtain ⟨w1, t1, rfl, h0, hst⟩ := hst
  obtain rfl : w1 = _ := h0
  obtain ⟨w0, t0, rfl, ⟨q, ha, rfl⟩, hst⟩ := hst
  obtain ⟨a', e', k1, k2, t1, cA, f, k3, rfl, k4⟩ := hW.2.2 _ _ hM
  cases ha.symm.trans k1
  subst hn
  refine va_iast CC.1 CC.2.1 hK hP hD hS i t1 k2 k3 (vp_in_nI hj (show a.length < 2 ^ 31 by omega)) hd (fun H1 locs1 hP1 hD1 hS1 => ?_)
  rw [nI_clamp (show j < 2 ^ 31 by omega)] at hP1 hD1
  have hcell : xcr ρ tys ad (cI (a.set j x)) (.inl (cA, a.length, .inl (upd f j x))) := ⟨t1, cA, upd f j x, k3, by rw [List.length_set], fun b z hb => by
    by_cases hbj : b = j
    · subst hbj
      rw [List.getElem?_set_self hj] at hb
      cases hb
      exact pk_us
    · rw [List.getElem?_set_ne (fun q => hbj q.symm)] at hb
      rw [pk_un hbj]
      exact k4 b z hb⟩
  exact kk p e R s m args below meth c A ad0 F H1 locs1 cells slots tys ad _ ls _ CC E hle ⟨hK, hP1, hD1, hS1, xWr_set hW ha hcell, hc1, hs1⟩ hst hl
theorem x_aald {i j k : Nat} {a : List (Option Nat)} {n : Int32} {o : Option Nat} (hd : decode y.2.1 pc = .ok (.aaload, 1)) (hn : n = nI j) (hM : M[i]? = some (cR k a)) (hj : a[j]? = some o) (hlen : a.length ≤ 100000000) (kk : Xw l D ρ y (pc + 1) L (xrv o :: st) M d kc ks Q) : Xw l D ρ y pc L (.int n :: .ref i :: st) M d kc ks Q := by
  intro p e R s m args below meth c A ad0 F H locs cells slots tys ad ws ls st' CC E hle X hst hl
  obtain ⟨hK, hP, hD, hS, hW, hc1, hs1⟩ := id X
  obtain ⟨w1, t1, rfl, h0, hst⟩ := hst
  obtain rfl : w1 = _ := h0
  obtain ⟨w0, t0, rfl, ⟨q, ha, rfl⟩, hst⟩ := hst
  obtain ⟨a', e', k1, k2, t1, cA, f, k3, rfl, k4⟩ := hW.2.2 _ _ hM
  cases ha.symm.trans k1
  subst hn
  have hlt : j < a.length := (List.getElem?_eq_some_iff.mp hj).1
  refine va_aldq CC.1 CC.2.1 hK hP i t1 k2 k3 (vp_in_nI hlt (show a.length < 2 ^ 31 by omega)) hd ?_
  rw [nI_clamp (show j < 2 ^ 31 by omega)]
  exact kk p e R s m args below meth c A ad0 F H locs cells slots tys ad ws ls _ CC E hle X ⟨_, _, rfl, xrv_ok (k4 j o hj), hst⟩ hl
theorem x_aast {i j k v ci N : Nat} {a : List (Option Nat)} {n : Int32} {C : String} {T : u_T} {ty : Nat → FieldType} {fs : List Value} (hd : decode y.2.1 pc = .ok (.aastore, 1)) (hn : n = nI j) (hM : M[i]? = some (cR k a)) (hj : j < a.length) (hlen : a.length ≤ 100000000) (hV : M[v]? = some (cO ci fs)) (hC : xCk ci C T N ty) (hE : C = xEl k ∨ Cond.castable C (xEl k) ∈ Nw)
    (kk : Xw l D ρ y (pc + 1) L st (M.set i (cR k (a.set j (some v)))) d kc ks Q) : Xw l D ρ y pc L (.ref v :: .int n :: .ref i :: st) M d kc ks Q := by
  intro p e R s m args below meth c A ad0 F H locs cells slots tys ad ws ls st' CC E hle X hst hl
  obtain ⟨hx, hb, hr, hml, hown, hts, hNw, hRO, hlk, hA, hfr, hlo, hnm⟩ := id CC
  obtain ⟨hK, hP, hD, hS, hW, hc1, hs1⟩ := id X
  obtain ⟨w2, t2, rfl, ⟨qv, hav, rfl⟩, hst⟩ := hst
  obtain ⟨w1, t1, rfl, h0, hst⟩ := hst
  obtain rfl : w1 = _ := h0
  obtain ⟨w0, t0, rfl, ⟨q, ha, rfl⟩, hst⟩ := hst
  obtain ⟨a', e', k1, k2, t1, cA, f, k3, rfl, k4⟩ := hW.2.2 _ _ hM
  obtain ⟨av', ev', j1, j2, fs', rfl, j3⟩ := hW.2.2 _ _ hV
  cases ha.symm.trans k1
  cases hav.symm.trans j1
  subst hn
  have hcell : xcr ρ tys ad (cR k (a.set j (some v))) (.inl (cA, a.length, .inr (.inr (.inr (.inr (va_up f j (some qv))))))) := ⟨t1, cA, va_up f j (some qv), k3, by rw [List.length_set], fun b z hb => by
    by_cases hbj : b = j
    · subst hbj
      rw [List.getElem?_set_self hj] at hb
      cases hb
      rw [va_up_self]
      exact ⟨qv, hav, rfl⟩
    · rw [List.getElem?_set_ne (fun q => hbj q.symm)] at hb
      rw [va_up_ne _ _ hbj]
      exact k4 b z hb⟩
  have fin : ∀ (H1 : Heap) (locs1 : List Loc), va_P D classes (ws.set i (q, .inl (cA, a.length, .inr (.inr (.inr (.inr (va_up f j (some qv)))))))) H1 → va_D A (ws.set i (q, .inl (cA, a.length, .inr (.inr (.inr (.inr (va_up f j (some qv)))))))) → va_S A s.heap H1 locs1 → W p l e R s m args below meth c H1 locs1 cells slots F (F0 m (pc + 1) ls t0) := fun H1 locs1 hP1 hD1 hS1 =>
    kk p e R s m args below meth c A ad0 F H1 locs1 cells slots tys ad _ ls _ CC E hle ⟨hK, hP1, hD1, hS1, xWr_set hW ha hcell, hc1, hs1⟩ hst hl
  have hcl : (nI j).toNatClampNeg = j := nI_clamp (by omega)
  rcases hE with hE | hE
  · refine va_astq hx hb hK hP hD hS i t1 v ci k2 (r := (C, T, N)) (by rw [hE]; exact k3) j2 hC.1 (vp_in_nI hj (show a.length < 2 ^ 31 by omega)) hd (fun H1 locs1 hP1 hD1 hS1 => ?_)
    rw [hcl] at hP1 hD1
    exact fin H1 locs1 hP1 hD1 hS1
  · refine va_astqO hx hb hK hP hD hS i t1 v ci k2 (r := (C, T, N)) k3 (hNw _ hE) j2 hC.1 (vp_in_nI hj (show a.length < 2 ^ 31 by omega)) hd (fun H1 locs1 hP1 hD1 hS1 => ?_)
    rw [hcl] at hP1 hD1
    exact fin H1 locs1 hP1 hD1 hS1
theorem x_aastN {i j k : Nat} {a : List (Option Nat)} {n : Int32} (hd : decode y.2.1 pc = .ok (.aastore, 1)) (hn : n = nI j) (hM : M[i]? = some (cR k a)) (hj : j < a.length) (hlen : a.length ≤ 100000000)
    (kk : Xw l D ρ y (pc + 1) L st (M.set i (cR k (a.set j none))) d kc ks Q) : Xw l D ρ y pc L (.null :: .int n :: .ref i :: st) M d kc ks Q := by
  intro p e R s m args below meth c A ad0 F H locs cells slots tys ad ws ls st' CC E hle X hst hl
  obtain ⟨hx, hb, hr, hml, hown, hts, hNw, hRO, hlk, hA, hfr, hlo, hnm⟩ := id CC
  obtain ⟨hK, hP, hD, hS, hW, hc1, hs1⟩ := id X
  obtain ⟨w2, t2, rfl, h0, hst⟩ := hst
  obtain rfl : w2 = _ := h0
  obtain ⟨w1, t1, rfl, h0, hst⟩ := hst
  obtain rfl : w1 = _ := h0
  obtain ⟨w0, t0, rfl, ⟨q, ha, rfl⟩, hst⟩ := hst
  obtain ⟨a', e', k1, k2, t1, cA, f, k3, rfl, k4⟩ := hW.2.2 _ _ hM
  cases ha.symm.trans k1
  subst hn
  have hcell : xcr ρ tys ad (cR k (a.set j none)) (.inl (cA, a.length, .inr (.inr (.inr (.inr (va_up f j none)))))) := ⟨t1, cA, va_up f j none, k3, by rw [List.length_set], fun b z hb => by
    by_cases hbj : b = j
    · subst hbj
      rw [List.getElem?_set_self hj] at hb
      cases hb
      rw [va_up_self]
      exact rfl
    · rw [List.getElem?_set_ne (fun q => hbj q.symm)] at hb
      rw [va_up_ne _ _ hbj]
      exact k4 b z hb⟩
  refine va_astqN hx hb hK hP hD hS i t1 k2 k3 (vp_in_nI hj (show a.length < 2 ^ 31 by omega)) hd (fun H1 locs1 hP1 hD1 hS1 => ?_)
  rw [nI_clamp (show j < 2 ^ 31 by omega)] at hP1 hD1
  exact kk p e R s m args below meth c A ad0 F H1 locs1 cells slots tys ad _ ls _ CC E hle ⟨hK, hP1, hD1, hS1, xWr_set hW ha hcell, hc1, hs1⟩ hst hl
/-- two references: the same number, the same cell -/
theorem xref_eq {tys : List (ClassId × FieldType)} {ad : List Nat} {ws : va_W} {A : Nat → Prop} (hW : xWr ρ tys ad ws M) (hD : va_D A ws) {i j a b : Nat} (ha : ad[i]? = some a) (hb : ad[j]? = some b) : a = b ↔ i = j := by
  constructor
  · intro h
    subst h
    obtain ⟨c1, e1, -, k1, -⟩ := xWr_len hW ha
    obtain ⟨c2, e2, -, k2, -⟩ := xWr_len hW hb
    exact hD.1 i j _ _ k1 k2 rfl
  · intro h
    subst h
    exact Option.some.inj (ha.symm.trans hb)
theorem x_acmp_ne {i j : Nat} {off : Int} {tgt : Nat} (hd : decode y.2.1 pc = .ok (.if_acmp .ne off, 3)) (ht : (pc : Int) + off = (tgt : Int)) (kt : ¬ i = j → Xw l D ρ y tgt L st M d kc ks Q) (kf : i = j → Xw l D ρ y (pc + 3) L st M d kc ks Q) : Xw l D ρ y pc L (.ref j :: .ref i :: st) M d kc ks Q := by
  intro p e R s m args below meth c A ad0 F H locs cells slots tys ad ws ls st' CC E hle X hst hl
  obtain ⟨hK, hP, hD, hS, hW, hc1, hs1⟩ := id X
  obtain ⟨w1, t1, rfl, ⟨b, hb, rfl⟩, hst⟩ := hst
  obtain ⟨w0, t0, rfl, ⟨a, ha, rfl⟩, hst⟩ := hst
  have hq := xref_eq hW hD ha hb
  exact lv_acmp_ne (rx := some a) (ry := some b) CC.1 CC.2.1 hd ht (fun z => kt (fun q => z (by rw [hq.mpr q])) p e R s m args below meth c A ad0 F H locs cells slots tys ad ws ls _ CC E hle X hst hl) (fun z => kf (hq.mp (Option.some.inj z)) p e R s m args below meth c A ad0 F H locs cells slots tys ad ws ls _ CC E hle X hst hl)
theorem x_acmp_eq {i j : Nat} {off : Int} {tgt : Nat} (hd : decode y.2.1 pc = .ok (.if_acmp .eq off, 3)) (ht : (pc : Int) + off = (tgt : Int)) (kt : i = j → Xw l D ρ y tgt L st M d kc ks Q) (kf : ¬ i = j → Xw l D ρ y (pc + 3) L st M d kc ks Q) : Xw l D ρ y pc L (.ref j :: .ref i :: st) M d kc ks Q := by
  intro p e R s m args below meth c A ad0 F H locs cells slots tys ad ws ls st' CC E hle X hst hl
  obtain ⟨hK, hP, hD, hS, hW, hc1, hs1⟩ := id X
  obtain ⟨w1, t1, rfl, ⟨b, hb, rfl⟩, hst⟩ := hst
  obtain ⟨w0, t0, rfl, ⟨a, ha, rfl⟩, hst⟩ := hst
  have hq := xref_eq hW hD ha hb
  exact lv_acmp_eq (rx := some a) (ry := some b) CC.1 CC.2.1 hd ht (fun z => kt (hq.mp (Option.some.inj z)) p e R s m args below meth c A ad0 F H locs cells slots tys ad ws ls _ CC E hle X hst hl) (fun z => kf (fun q => z (by rw [hq.mpr q])) p e R s m args below meth c A ad0 F H locs cells slots tys ad ws ls _ CC E hle X hst hl)
/-- a cast that holds -/
theorem x_cast {index i ci N : Nat} {C nm : String} {T : u_T} {ty : Nat → FieldType} {fs : List Value} (hd : decode y.2.1 pc = .ok (.checkcast index, 3)) (h1 : Cond.classLink y.1.cls index nm ∈ Gw) (hC : xCk ci C T N ty) (hM : M[i]? = some (cO ci fs)) (hE : C = nm ∨ Cond.castable C nm ∈ Nw)
    (kk : Xw l D ρ y (pc + 3) L (.ref i :: st) M d kc ks Q) : Xw l D ρ y pc L (.ref i :: st) M d kc ks Q := by
  intro p e R s m args below meth c A ad0 F H locs cells slots tys ad ws ls st' CC E hle X hst hl
  obtain ⟨hx, hb, hr, hml, hown, hts, hNw, hRO, hlk, hA, hfr, hlo, hnm⟩ := id CC
  obtain ⟨hK, hP, hD, hS, hW, hc1, hs1⟩ := id X
  obtain ⟨w0, t0, rfl, ⟨a, ha, rfl⟩, hst⟩ := hst
  obtain ⟨a', e', k1, k2, fs', rfl, k3⟩ := hW.2.2 _ _ hM
  cases ha.symm.trans k1
  have hrec := va_recv hK hP hC.1 k2
  have h4 := kk p e R s m args below meth c A ad0 F H locs cells slots tys ad ws ls _ CC E hle X ⟨_, _, rfl, ⟨a, ha, rfl⟩, hst⟩ hl
  rcases hE with rfl | hE
  · exact va_castS hx hb hown (hts _ h1) (hK.1 ci _ hC.1).2 hrec hd h4
  · exact va_castY hx hb hown (hts _ h1) (hNw _ hE) hrec hd h4
theorem x_objInit {index i : Nat} (hd : decode y.2.1 pc = .ok (.invokespecial index, 3)) (h1 : Cond.methodLink y.1.cls index Lib.objectInit ∈ Gw) (h2 : Cond.instanceMethod Lib.objectInit ∈ Gw) (h3 : Cond.code Lib.objectInit ⟨#[0xb1]⟩ 1 none ∈ Gw) (hst0 : (st.map fun v => v.category).sum ≤ 8) (hd0 : 1 ≤ d) (kk : Xw l D ρ y (pc + 3) L st M d kc ks Q) : Xw l D ρ y pc L (.ref i :: st) M d kc ks Q := by
  intro p e R s m args below meth c A ad0 F H locs cells slots tys ad ws ls st' CC E hle X hst hl
  obtain ⟨hx, hb, hr, hml, hown, hts, hNw, hRO, hlk, hA, hfr, hlo, hnm⟩ := id CC
  obtain ⟨w0, t0, rfl, ⟨a, ha, rfl⟩, hst⟩ := hst
  have hcat : (t0.map fun v => v.category).sum ≤ 8 := by rw [xvs_cat hst]; exact hst0
  have hroom := lv_room (m := m) (pc := pc) (ls := ls) (rest := Value.ref a :: t0) hcat
  refine W.objInit hx hb hown (hts _ h1) (hts _ h2) (hts _ h3) rfl (by rw [hml]; exact xls_size hl) rfl hd (by omega) (by omega) ?_
  exact kk p e R s m args below meth c A ad0 F H locs cells slots tys ad ws ls _ CC E hle X hst hl
end XH
theorem xrf_cat {v : Value} (h : xrf v) : v.category = 1 := by
  cases v with
  | ref i => rfl
  | null => rfl
  | retAddr i => rfl
  | _ => exact absurd h (fun z => z)
theorem xrf_opt (o : Option Nat) : xrf (xrv o) := by
  cases o <;> exact trivial
theorem xft_obj {n : String} {v : Value} (h : xrf v) : xft (.object n) v = true := by
  cases v with
  | ref i => rfl
  | null => rfl
  | retAddr i => rfl
  | _ => exact absurd h (fun z => z)
theorem xft_arr {n : FieldType} {v : Value} (h : xrf v) : xft (.array n) v = true := by
  cases v with
  | ref i => rfl
  | null => rfl
  | retAddr i => rfl
  | _ => exact absurd h (fun z => z)
/-! what is known of a world behind a write -/
theorem xset_eq {α : Type} {M : List α} {i : Nat} {c c' : α} (h : M[i]? = some c) : (M.set i c')[i]? = some c' := List.getElem?_set_self (List.getElem?_eq_some_iff.mp h).1
theorem xset_ne {M : List xCl} {i j : Nat} {c e c' : xCl} (h : M[i]? = some c) (k : M[j]? = some e) (hne : Nat.beq (xkd c) (xkd e) = false) : (M.set j c')[i]? = some c := by
  rw [List.getElem?_set_ne (fun q => by
    subst q
    obtain rfl := Option.some.inj (h.symm.trans k)
    rw [Nat.beq_refl] at hne
    cases hne)]
  exact h
theorem xset_at {α : Type} {M : List α} {i j : Nat} {c c' : α} (h : M[i]? = some c) (hne : j ≠ i) : (M.set j c')[i]? = some c := by
  rw [List.getElem?_set_ne hne]
  exact h
theorem xpush_at {α : Type} {M : List α} {i : Nat} {c c' : α} (h : M[i]? = some c) : (M ++ [c'])[i]? = some c := xle_at ⟨_, rfl⟩ h
theorem xpush_last {α : Type} {M : List α} {c' : α} : (M ++ [c'])[M.length]? = some c' := by
  rw [List.getElem?_append_right (Nat.le_refl _), Nat.sub_self]; rfl
theorem xcat_i (x : Int32) : (Value.int x).category = 1 := rfl
theorem xcat_l (x : Int64) : (Value.long x).category = 2 := rfl
theorem xcat_r (x : Nat) : (Value.ref x).category = 1 := rfl
theorem xcat_n : Value.null.category = 1 := rfl
theorem xcat_o (x : Nat) : (Value.retAddr x).category = 1 := rfl
section XA
variable {l : Launch} {D : va_G} {ρ : xR} {y : xM} {pc : Nat} {L : List (Nat × Value)} {st : List Value} {M : List xCl} {d kc ks : Nat} {Q : Option Value → List xCl → Prop}
theorem x_newl {n : Int32} {N kc' ks' : Nat} (hd : decode y.2.1 pc = .ok (.newarray .long, 2)) (hw : Cond.arrayClass .long ∈ Gw) (hn : n = nI N) (hN : N ≤ 10000000) (h4 : kc' + 1 ≤ kc) (h5 : ks' + N ≤ ks)
    (kk : Xw l D ρ y (pc + 2) L (.ref M.length :: st) (M ++ [cL (List.replicate N 0)]) d kc' ks' Q) : Xw l D ρ y pc L (.int n :: st) M d kc ks Q := by
  intro p e R s m args below meth c A ad0 F H locs cells slots tys ad ws ls st' CC E hle X hst hl
  obtain ⟨hx, hb, hr, hml, hown, hts, hNw, hRO, hlk, hA, hfr, hlo, hnm⟩ := id CC
  obtain ⟨hK, hP, hD, hS, hW, hc1, hs1⟩ := id X
  obtain ⟨w0, t0, rfl, h0, hst⟩ := hst
  obtain rfl : w0 = _ := h0
  subst hn
  refine va_newa hx hb (atype := .long) (hts _ hw) (ty := .long) rfl hK hP hD hS hA (a0 := (N, .inr (.inl (fun _ => 0)))) (fun _ => rfl) (nI_pos (by omega)) (nI_clamp (by omega)) (show N * 8 ≤ 536870912 by omega) (by omega) (by omega) hd (fun q cA H1 hK1 hP1 hD1 hS1 => ?_)
  have hq : xle ad (ad ++ [q]) := ⟨[q], rfl⟩
  have hat : (ad ++ [q])[M.length]? = some q := by rw [← hW.1, List.getElem?_append_right (Nat.le_refl _), Nat.sub_self]; rfl
  have hty : (tys ++ [(cA, FieldType.long)])[tys.length]? = some (cA, FieldType.long) := by rw [List.getElem?_append_right (Nat.le_refl _), Nat.sub_self]; rfl
  have hcell : xcr ρ (tys ++ [(cA, FieldType.long)]) (ad ++ [q]) (cL (List.replicate N 0)) (.inl (cA, N, .inr (.inl (fun _ => 0)))) := ⟨tys.length, cA, fun _ => 0, hty, by rw [List.length_replicate], fun j x hj => (List.eq_of_mem_replicate (List.mem_of_getElem? hj)).symm⟩
  exact kk p e R s m args below meth c A ad0 F H1 locs (cells + 1) (slots + N) _ (ad ++ [q]) _ ls _ CC E (xle_tr hle hq) ⟨hK1, hP1, hD1, hS1, xWr_push hW ⟨_, rfl⟩ hcell, by omega, by omega⟩ ⟨_, _, rfl, ⟨q, hat, rfl⟩, xvs_mono hq hst⟩ (xls_mono hq hl)
theorem x_newz {n : Int32} {N kc' ks' : Nat} (hd : decode y.2.1 pc = .ok (.newarray .boolean, 2)) (hw : Cond.arrayClass .boolean ∈ Gw) (hn : n = nI N) (hN : N ≤ 10000000) (h4 : kc' + 1 ≤ kc) (h5 : ks' + N ≤ ks)
    (kk : Xw l D ρ y (pc + 2) L (.ref M.length :: st) (M ++ [cZ (List.replicate N 0)]) d kc' ks' Q) : Xw l D ρ y pc L (.int n :: st) M d kc ks Q := by
  intro p e R s m args below meth c A ad0 F H locs cells slots tys ad ws ls st' CC E hle X hst hl
  obtain ⟨hx, hb, hr, hml, hown, hts, hNw, hRO, hlk, hA, hfr, hlo, hnm⟩ := id CC
  obtain ⟨hK, hP, hD, hS, hW, hc1, hs1⟩ := id X
  obtain ⟨w0, t0, rfl, h0, hst⟩ := hst
  obtain rfl : w0 = _ := h0
  subst hn
  refine va_newa hx hb (atype := .boolean) (hts _ hw) (ty := .boolean) rfl hK hP hD hS hA (a0 := (N, .inl (fun _ => 0))) (fun _ => rfl) (nI_pos (by omega)) (nI_clamp (by omega)) (show N * 1 ≤ 536870912 by omega) (by omega) (by omega) hd (fun q cA H1 hK1 hP1 hD1 hS1 => ?_)
  have hq : xle ad (ad ++ [q]) := ⟨[q], rfl⟩
  have hat : (ad ++ [q])[M.length]? = some q := by rw [← hW.1, List.getElem?_append_right (Nat.le_refl _), Nat.sub_self]; rfl
  have hty : (tys ++ [(cA, FieldType.boolean)])[tys.length]? = some (cA, FieldType.boolean) := by rw [List.getElem?_append_right (Nat.le_refl _), Nat.sub_self]; rfl
  have hcell : xcr ρ (tys ++ [(cA, FieldType.boolean)]) (ad ++ [q]) (cZ (List.replicate N 0)) (.inl (cA, N, .inl (fun _ => 0))) := ⟨tys.length, cA, fun _ => 0, hty, by rw [List.length_replicate], fun j x hj => (List.eq_of_mem_replicate (List.mem_of_getElem? hj)).symm⟩
  exact kk p e R s m args below meth c A ad0 F H1 locs (cells + 1) (slots + N) _ (ad ++ [q]) _ ls _ CC E (xle_tr hle hq) ⟨hK1, hP1, hD1, hS1, xWr_push hW ⟨_, rfl⟩ hcell, by omega, by omega⟩ ⟨_, _, rfl, ⟨q, hat, rfl⟩, xvs_mono hq hst⟩ (xls_mono hq hl)
theorem x_lald {i j : Nat} {a : List Int64} {n : Int32} {x : Int64} (hd : decode y.2.1 pc = .ok (.laload, 1)) (hn : n = nI j) (hM : M[i]? = some (cL a)) (hj : a[j]? = some x) (hlen : a.length ≤ 100000000) (kk : Xw l D ρ y (pc + 1) L (.long x :: st) M d kc ks Q) : Xw l D ρ y pc L (.int n :: .ref i :: st) M d kc ks Q := by
  intro p e R s m args below meth c A ad0 F H locs cells slots tys ad ws ls st' CC E hle X hst hl
  obtain ⟨hK, hP, hD, hS, hW, hc1, hs1⟩ := id X
  obtain ⟨w1, t1, rfl, h0, hst⟩ := hst
  obtain rfl : w1 = _ := h0
  obtain ⟨w0, t0, rfl, ⟨q, ha, rfl⟩, hst⟩ := hst
  obtain ⟨a', e', k1, k2, t1, cA, f, k3, rfl, k4⟩ := hW.2.2 _ _ hM
  cases ha.symm.trans k1
  subst hn
  have hlt := (List.getElem?_eq_some_iff.mp hj).1
  refine va_lald CC.1 CC.2.1 hK hP i t1 k2 k3 (vp_in_nI hlt (show a.length < 2 ^ 31 by omega)) hd ?_
  rw [nI_clamp (show j < 2 ^ 31 by omega), k4 j x hj]
  exact kk p e R s m args below meth c A ad0 F H locs cells slots tys ad ws ls _ CC E hle X ⟨_, _, rfl, rfl, hst⟩ hl
theorem x_zald {i j : Nat} {a : List Int32} {n x : Int32} (hd : decode y.2.1 pc = .ok (.baload, 1)) (hn : n = nI j) (hM : M[i]? = some (cZ a)) (hj : a[j]? = some x) (hlen : a.length ≤ 100000000) (kk : Xw l D ρ y (pc + 1) L (.int x :: st) M d kc ks Q) : Xw l D ρ y pc L (.int n :: .ref i :: st) M d kc ks Q := by
  intro p e R s m args below meth c A ad0 F H locs cells slots tys ad ws ls st' CC E hle X hst hl
  obtain ⟨hK, hP, hD, hS, hW, hc1, hs1⟩ := id X
  obtain ⟨w1, t1, rfl, h0, hst⟩ := hst
  obtain rfl : w1 = _ := h0
  obtain ⟨w0, t0, rfl, ⟨q, ha, rfl⟩, hst⟩ := hst
  obtain ⟨a', e', k1, k2, t1, cA, f, k3, rfl, k4⟩ := hW.2.2 _ _ hM
  cases ha.symm.trans k1
  subst hn
  have hlt := (List.getElem?_eq_some_iff.mp hj).1
  refine va_zald CC.1 CC.2.1 hK hP i t1 k2 k3 (vp_in_nI hlt (show a.length < 2 ^ 31 by omega)) hd ?_
  rw [nI_clamp (show j < 2 ^ 31 by omega), k4 j x hj]
  exact kk p e R s m args below meth c A ad0 F H locs cells slots tys ad ws ls _ CC E hle X ⟨_, _, rfl, rfl, hst⟩ hl
theorem x_last {i j : Nat} {a : List Int64} {n : Int32} {x : Int64} (hd : decode y.2.1 pc = .ok (.lastore, 1)) (hn : n = nI j) (hM : M[i]? = some (cL a)) (hj : j < a.length) (hlen : a.length ≤ 100000000) (kk : Xw l D ρ y (pc + 1) L st (M.set i (cL (a.set j x))) d kc ks Q) : Xw l D ρ y pc L (.long x :: .int n :: .ref i :: st) M d kc ks Q := by
  intro p e R s m args below meth c A ad0 F H locs cells slots tys ad ws ls st' CC E hle X hst hl
  obtain ⟨hK, hP, hD, hS, hW, hc1, hs1⟩ := id X
  obtain ⟨w2, t2, rfl, h0, hst⟩ := hst
  obtain rfl : w2 = _ := h0
  obtain ⟨w1, t1, rfl, h0, hst⟩ := hst
  obtain rfl : w1 = _ := h0
  obtain ⟨w0, t0, rfl, ⟨q, ha, rfl⟩, hst⟩ := hst
  obtain ⟨a', e', k1, k2, t1, cA, f, k3, rfl, k4⟩ := hW.2.2 _ _ hM
  cases ha.symm.trans k1
  subst hn
  refine va_last CC.1 CC.2.1 hK hP hD hS i t1 k2 k3 (vp_in_nI hj (show a.length < 2 ^ 31 by omega)) hd (fun H1 locs1 hP1 hD1 hS1 => ?_)
  rw [nI_clamp (show j < 2 ^ 31 by omega)] at hP1 hD1
  have hcell : xcr ρ tys ad (cL (a.set j x)) (.inl (cA, a.length, .inr (.inl (vp_updL f j x)))) := ⟨t1, cA, vp_updL f j x, k3, by rw [List.length_set], fun b z hb => by
    by_cases hbj : b = j
    · subst hbj
      rw [List.getElem?_set_self hj] at hb
      cases hb
      exact pk_uLs
    · rw [List.getElem?_set_ne (fun q => hbj q.symm)] at hb
      rw [pk_uLn hbj]
      exact k4 b z hb⟩
  exact kk p e R s m args below meth c A ad0 F H1 locs1 cells slots tys ad _ ls _ CC E hle ⟨hK, hP1, hD1, hS1, xWr_set hW ha hcell, hc1, hs1⟩ hst hl
theorem x_zast {i j : Nat} {a : List Int32} {n x : Int32} (hd : decode y.2.1 pc = .ok (.bastore, 1)) (hn : n = nI j) (hM : M[i]? = some (cZ a)) (hj : j < a.length) (hlen : a.length ≤ 100000000) (hx : x = 0 ∨ x = 1) (kk : Xw l D ρ y (pc + 1) L st (M.set i (cZ (a.set j x))) d kc ks Q) : Xw l D ρ y pc L (.int x :: .int n :: .ref i :: st) M d kc ks Q := by
  intro p e R s m args below meth c A ad0 F H locs cells slots tys ad ws ls st' CC E hle X hst hl
  obtain ⟨hK, hP, hD, hS, hW, hc1, hs1⟩ := id X
  obtain ⟨w2, t2, rfl, h0, hst⟩ := hst
  obtain rfl : w2 = _ := h0
  obtain ⟨w1, t1, rfl, h0, hst⟩ := hst
  obtain rfl : w1 = _ := h0
  obtain ⟨w0, t0, rfl, ⟨q, ha, rfl⟩, hst⟩ := hst
  obtain ⟨a', e', k1, k2, t1, cA, f, k3, rfl, k4⟩ := hW.2.2 _ _ hM
  cases ha.symm.trans k1
  subst hn
  refine va_zast CC.1 CC.2.1 hK hP hD hS i t1 k2 k3 (vp_in_nI hj (show a.length < 2 ^ 31 by omega)) hd (fun H1 locs1 hP1 hD1 hS1 => ?_)
  have hnar : vp_nar .boolean x = x := by rcases hx with rfl | rfl <;> decide
  rw [nI_clamp (show j < 2 ^ 31 by omega), hnar] at hP1 hD1
  have hcell : xcr ρ tys ad (cZ (a.set j x)) (.inl (cA, a.length, .inl (upd f j x))) := ⟨t1, cA, upd f j x, k3, by rw [List.length_set], fun b z hb => by
    by_cases hbj : b = j
    · subst hbj
      rw [List.getElem?_set_self hj] at hb
      cases hb
      exact pk_us
    · rw [List.getElem?_set_ne (fun q => hbj q.symm)] at hb
      rw [pk_un hbj]
      exact k4 b z hb⟩
  exact kk p e R s m args below meth c A ad0 F H1 locs1 cells slots tys ad _ ls _ CC E hle ⟨hK, hP1, hD1, hS1, xWr_set hW ha hcell, hc1, hs1⟩ hst hl
/-! old cells -/
theorem x_gets {index : Nat} (hd : decode y.2.1 pc = .ok (.getstatic index, 3)) (h1 : Cond.fieldLink y.1.cls index "java/util/ArrayList" "DEFAULTCAPACITY_EMPTY_ELEMENTDATA" "[Ljava/lang/Object;" ∈ Gw) (kk : Xw l D ρ y (pc + 3) L (.retAddr 1 :: st) M d kc ks Q) : Xw l D ρ y pc L st M d kc ks Q := by
  intro p e R s m args below meth c A ad0 F H locs cells slots tys ad ws ls st' CC E hle X hst hl
  obtain ⟨hx, hb, hr, hml, hown, hts, hNw, hRO, hlk, hA, hfr, hlo, hnm⟩ := id CC
  obtain ⟨hK, hP, hD, hS, hW, hc1, hs1⟩ := id X
  exact va_gets hx hb hRO.2.1 hS hown (hts _ h1) (fun _ z => z) hd (kk p e R s m args below meth c A ad0 F H locs cells slots tys ad ws ls _ CC E hle X ⟨_, _, rfl, rfl, hst⟩ hl)
theorem x_alenE (hd : decode y.2.1 pc = .ok (.arraylength, 1)) (kk : Xw l D ρ y (pc + 1) L (.int 0 :: st) M d kc ks Q) : Xw l D ρ y pc L (.retAddr 1 :: st) M d kc ks Q := by
  intro p e R s m args below meth c A ad0 F H locs cells slots tys ad ws ls st' CC E hle X hst hl
  obtain ⟨hx, hb, hr, hml, hown, hts, hNw, hRO, hlk, hA, hfr, hlo, hnm⟩ := id CC
  obtain ⟨hK, hP, hD, hS, hW, hc1, hs1⟩ := id X
  obtain ⟨w0, t0, rfl, h0, hst⟩ := hst
  obtain rfl : w0 = _ := h0
  exact va_tlen hx hb hRO.2.2.1 hS (v := 0) rfl hd (kk p e R s m args below meth c A ad0 F H locs cells slots tys ad ws ls _ CC E hle X ⟨_, _, rfl, rfl, hst⟩ hl)
theorem x_alenS (hd : decode y.2.1 pc = .ok (.arraylength, 1)) (kk : Xw l D ρ y (pc + 1) L (.int (nI ρ.2.1) :: st) M d kc ks Q) : Xw l D ρ y pc L (.retAddr 0 :: st) M d kc ks Q := by
  intro p e R s m args below meth c A ad0 F H locs cells slots tys ad ws ls st' CC E hle X hst hl
  obtain ⟨hx, hb, hr, hml, hown, hts, hNw, hRO, hlk, hA, hfr, hlo, hnm⟩ := id CC
  obtain ⟨hK, hP, hD, hS, hW, hc1, hs1⟩ := id X
  obtain ⟨w0, t0, rfl, h0, hst⟩ := hst
  obtain rfl : w0 = _ := h0
  exact va_tlen hx hb hRO.1 hS (v := nI ρ.2.1) rfl hd (kk p e R s m args below meth c A ad0 F H locs cells slots tys ad ws ls _ CC E hle X ⟨_, _, rfl, rfl, hst⟩ hl)
theorem x_ialdS {n : Int32} {j : Nat} (hd : decode y.2.1 pc = .ok (.iaload, 1)) (hn : n = nI j) (hj : j < ρ.2.1) (hlen : ρ.2.1 ≤ 100000000) (kk : Xw l D ρ y (pc + 1) L (.int (ρ.2.2 j) :: st) M d kc ks Q) : Xw l D ρ y pc L (.int n :: .retAddr 0 :: st) M d kc ks Q := by
  intro p e R s m args below meth c A ad0 F H locs cells slots tys ad ws ls st' CC E hle X hst hl
  obtain ⟨hx, hb, hr, hml, hown, hts, hNw, hRO, hlk, hA, hfr, hlo, hnm⟩ := id CC
  obtain ⟨hK, hP, hD, hS, hW, hc1, hs1⟩ := id X
  obtain ⟨w1, t1, rfl, h0, hst⟩ := hst
  obtain rfl : w1 = _ := h0
  obtain ⟨w0, t0, rfl, h0, hst⟩ := hst
  obtain rfl : w0 = _ := h0
  subst hn
  refine va_ti hx hb hRO.1 hS (vp_in_nI hj (by omega)) (v := .int (ρ.2.2 j)) (by rw [nI_clamp (show j < 2 ^ 31 by omega)]) hd ?_
  exact kk p e R s m args below meth c A ad0 F H locs cells slots tys ad ws ls _ CC E hle X ⟨_, _, rfl, rfl, hst⟩ hl
theorem x_acmpO_eq {k : Nat} {off : Int} {tgt : Nat} (hd : decode y.2.1 pc = .ok (.if_acmp .eq off, 3)) (ht : (pc : Int) + off = (tgt : Int)) (kt : Xw l D ρ y tgt L st M d kc ks Q) : Xw l D ρ y pc L (.retAddr k :: .retAddr k :: st) M d kc ks Q := by
  intro p e R s m args below meth c A ad0 F H locs cells slots tys ad ws ls st' CC E hle X hst hl
  obtain ⟨w1, t1, rfl, h0, hst⟩ := hst
  obtain rfl : w1 = _ := h0
  obtain ⟨w0, t0, rfl, h0, hst⟩ := hst
  obtain rfl : w0 = _ := h0
  exact lv_acmp_eq (rx := some (ρ.1 k)) (ry := some (ρ.1 k)) CC.1 CC.2.1 hd ht (fun z => kt p e R s m args below meth c A ad0 F H locs cells slots tys ad ws ls _ CC E hle X hst hl) (fun z => absurd rfl z)
theorem x_acmpO_ne {k : Nat} {off : Int} {tgt : Nat} (hd : decode y.2.1 pc = .ok (.if_acmp .ne off, 3)) (ht : (pc : Int) + off = (tgt : Int)) (kf : Xw l D ρ y (pc + 3) L st M d kc ks Q) : Xw l D ρ y pc L (.retAddr k :: .retAddr k :: st) M d kc ks Q := by
  intro p e R s m args below meth c A ad0 F H locs cells slots tys ad ws ls st' CC E hle X hst hl
  obtain ⟨w1, t1, rfl, h0, hst⟩ := hst
  obtain rfl : w1 = _ := h0
  obtain ⟨w0, t0, rfl, h0, hst⟩ := hst
  obtain rfl : w0 = _ := h0
  exact lv_acmp_ne (rx := some (ρ.1 k)) (ry := some (ρ.1 k)) CC.1 CC.2.1 hd ht (fun z => absurd rfl z) (fun z => kf p e R s m args below meth c A ad0 F H locs cells slots tys ad ws ls _ CC E hle X hst hl)
theorem x_ldcM {index : Nat} (hd : decode y.2.1 pc = .ok (.ldc index, 2)) (h1 : Cond.classLink y.1.cls index "[Ljava/lang/Object;" ∈ Gw) (kk : Xw l D ρ y (pc + 2) L (.retAddr 2 :: st) M d kc ks Q) : Xw l D ρ y pc L st M d kc ks Q := by
  intro p e R s m args below meth c A ad0 F H locs cells slots tys ad ws ls st' CC E hle X hst hl
  obtain ⟨hx, hb, hr, hml, hown, hts, hNw, hRO, hlk, hA, hfr, hlo, hnm⟩ := id CC
  exact va_ldcM hx hb hown (hts _ h1) hRO.2.2.2.1 hd (kk p e R s m args below meth c A ad0 F H locs cells slots tys ad ws ls _ CC E hle X ⟨_, _, rfl, rfl, hst⟩ hl)
abbrev y_getClass : MethodName := ⟨"java/lang/Object", "getClass", "()Ljava/lang/Class;"⟩
theorem x_getC {index i : Nat} {a : List (Option Nat)} (hd : decode y.2.1 pc = .ok (.invokevirtual index, 3)) (h1 : Cond.methodLink y.1.cls index y_getClass ∈ Gw) (h2 : Cond.selects "[Ljava/lang/Object;" y_getClass y_getClass ∈ Gw) (h3 : Cond.instanceMethod y_getClass ∈ Gw) (h4 : Cond.native y_getClass ∈ Gw) (hE : xEl 3 = "java/lang/Object") (hM : M[i]? = some (cR 3 a)) (hcat : (st.map fun v => v.category).sum ≤ 8) (hd0 : 1 ≤ d) (kk : Xw l D ρ y (pc + 3) L (.retAddr 2 :: st) M d kc ks Q) : Xw l D ρ y pc L (.ref i :: st) M d kc ks Q := by
  intro p e R s m args below meth c A ad0 F H locs cells slots tys ad ws ls st' CC E hle X hst hl
  obtain ⟨hx, hb, hr, hml, hown, hts, hNw, hRO, hlk, hA, hfr, hlo, hnm⟩ := id CC
  obtain ⟨hK, hP, hD, hS, hW, hc1, hs1⟩ := id X
  obtain ⟨w0, t0, rfl, ⟨q, ha, rfl⟩, hst⟩ := hst
  obtain ⟨a', e', k1, k2, t1, cA, f, k3, rfl, k4⟩ := hW.2.2 _ _ hM
  cases ha.symm.trans k1
  have hcat2 : (t0.map fun v => v.category).sum ≤ 8 := by rw [xvs_cat hst]; exact hcat
  obtain ⟨kA, comp, g1, g2, g3, g4⟩ := (hK.2 t1 _ k3).2
  have hrec : ∃ cell : Cell, H[q]? = some cell ∧ cell.vm.isStatics = false ∧ s.vm.findClass "[Ljava/lang/Object;" = some cell.cls := ⟨_, hP i _ k2, rfl, g4⟩
  refine va_getC hx hb (by rw [hml]; exact (xls_size hl).symm) hown (hts _ h1) (va_Dc.use hRO.2.2.2.2) (hts _ h2) (hts _ h3) (hts _ h4) hRO.2.2.2.1 hrec (by omega) (by omega) hd ?_
  exact kk p e R s m args below meth c A ad0 F H locs cells slots tys ad ws ls _ CC E hle X ⟨_, _, rfl, rfl, hst⟩ hl
/-- System.arraycopy of references -/
def xcp (f g : List (Option Nat)) (sp dp n : Nat) : List (Option Nat) := (List.range g.length).map fun k => if dp ≤ k ∧ k < dp + n then (f[sp + (k - dp)]?).getD none else (g[k]?).getD none
theorem xcp_len {f g : List (Option Nat)} {sp dp n : Nat} : (xcp f g sp dp n).length = g.length := by simp [xcp]
theorem xcp_at {f g : List (Option Nat)} {sp dp n k : Nat} (hk : k < g.length) : (xcp f g sp dp n)[k]? = some (if dp ≤ k ∧ k < dp + n then (f[sp + (k - dp)]?).getD none else (g[k]?).getD none) := by simp [xcp, hk]
theorem x_copy {index i0 i1 e0 a0 b0 n0 : Nat} {f g : List (Option Nat)} {sp dp n : Int32} (hd : decode y.2.1 pc = .ok (.invokestatic index, 3)) (h1 : Cond.methodLink y.1.cls index arraycopyName ∈ Gw) (h2 : Cond.native arraycopyName ∈ Gw) (h3 : Cond.static arraycopyName ∈ Gw) (h4 : Cond.initialized "java/lang/System" ∈ Gw)
    (hM0 : M[i0]? = some (cR e0 f)) (hM1 : M[i1]? = some (cR 3 g)) (es : sp = nI a0) (ed : dp = nI b0) (en : n = nI n0) (l0 : a0 + n0 ≤ f.length) (l1 : b0 + n0 ≤ g.length) (lf : f.length ≤ 100000000) (lg : g.length ≤ 100000000)
    (hel : ∀ k v, k < n0 → f[a0 + k]? = some (some v) → ∃ ci C T N ty fs, M[v]? = some (cO ci fs) ∧ xCk ci C T N ty ∧ Cond.castable C (xEl 3) ∈ Nw) (hcat : (st.map fun v => v.category).sum ≤ 8) (hd0 : 1 ≤ d)
    (kk : Xw l D ρ y (pc + 3) L st (M.set i1 (cR 3 (xcp f g a0 b0 n0))) d kc ks Q) : Xw l D ρ y pc L (.int n :: .int dp :: .ref i1 :: .int sp :: .ref i0 :: st) M d kc ks Q := by
  intro p e R s m args below meth c A ad0 F H locs cells slots tys ad ws ls st' CC E hle X hst hl
  obtain ⟨hx, hb, hr, hml, hown, hts, hNw, hRO, hlk, hA, hfr, hlo, hnm⟩ := id CC
  obtain ⟨hK, hP, hD, hS, hW, hc1, hs1⟩ := id X
  obtain ⟨w4, t4, rfl, h0, hst⟩ := hst
  obtain rfl : w4 = _ := h0
  obtain ⟨w3, t3, rfl, h0, hst⟩ := hst
  obtain rfl : w3 = _ := h0
  obtain ⟨w2, t2, rfl, ⟨q1, ha1, rfl⟩, hst⟩ := hst
  obtain ⟨w1, t1, rfl, h0, hst⟩ := hst
  obtain rfl : w1 = _ := h0
  obtain ⟨w0, t0, rfl, ⟨q0, ha0, rfl⟩, hst⟩ := hst
  obtain ⟨x0, y0, k1, k2, p0, cA0, F0f, k3, rfl, k4⟩ := hW.2.2 _ _ hM0
  obtain ⟨x1, y1, j1, j2, p1, cA1, F1f, j3, rfl, j4⟩ := hW.2.2 _ _ hM1
  cases ha0.symm.trans k1
  cases ha1.symm.trans j1
  subst es; subst ed; subst en
  have hcat2 : (t0.map fun v => v.category).sum ≤ 8 := by rw [xvs_cat hst]; exact hcat
  have c1 : (nI a0).toNatClampNeg = a0 := nI_clamp (by omega)
  have c2 : (nI b0).toNatClampNeg = b0 := nI_clamp (by omega)
  have c3 : (nI n0).toNatClampNeg = n0 := nI_clamp (by omega)
  have hwords : nativeFrameWords "java/lang/System" "arraycopy" 5 + 11 ≤ 37 := by decide +kernel
  refine va_copyM hx hb (by rw [hml]; exact (xls_size hl).symm) hown (hts _ h1) (hts _ h2) (hts _ h3) (hts _ h4) hK hP hD hS i0 i1 p0 p1 k2 j2 k3 j3 (nI_pos (by omega)) (nI_pos (by omega)) (nI_pos (by omega)) (by rw [c1, c3]; exact l0) (by rw [c2, c3]; exact l1) ?_ (by omega) (by omega) hd (fun H1 locs1 hP1 hD1 hS1 => ?_)
  · intro k hk v hv
    rw [c3] at hk
    rw [c1] at hv
    have hlt : a0 + k < f.length := by omega
    have hfk : f[a0 + k]? = some f[a0 + k] := List.getElem?_eq_getElem hlt
    have h5 := k4 _ _ hfk
    rw [hv] at h5
    cases hfv : f[a0 + k] with
    | none => rw [hfv] at h5; cases h5
    | some w =>
      rw [hfv] at h5 hfk
      obtain ⟨b, hb1, hb2⟩ := h5
      cases hb2
      obtain ⟨ci, C, T, N, ty, fs, m1, m2, m3⟩ := hel k w hk hfk
      obtain ⟨x2, y2, r1, r2, fs', rfl, r3⟩ := hW.2.2 _ _ m1
      cases hb1.symm.trans r1
      refine va_rAny hK hP r2 m2.1 (fun comp c0 z1 z2 => ?_)
      obtain ⟨c3, c4, z3, z4, z5⟩ := Cond.castable_spec (hNw _ m3)
      cases z2.symm.trans z3
      cases z1.symm.trans z4
      exact z5
  · rw [c1, c2, c3] at hP1 hD1
    have hcell : xcr ρ tys ad (cR 3 (xcp f g a0 b0 n0)) (.inl (cA1, g.length, .inr (.inr (.inr (.inr (va_cpy F0f F1f a0 b0 n0)))))) := ⟨p1, cA1, va_cpy F0f F1f a0 b0 n0, j3, by rw [xcp_len], fun b z hb => by
      have hbl : b < g.length := by
        have := (List.getElem?_eq_some_iff.mp hb).1
        rw [xcp_len] at this
        exact this
      rw [xcp_at hbl] at hb
      cases hb
      by_cases hc : b0 ≤ b ∧ b < b0 + n0
      · rw [if_pos hc, show va_cpy F0f F1f a0 b0 n0 b = F0f (a0 + (b - b0)) from if_pos hc]
        have hlt : a0 + (b - b0) < f.length := by omega
        have hfk : f[a0 + (b - b0)]? = some f[a0 + (b - b0)] := List.getElem?_eq_getElem hlt
        rw [hfk]
        exact k4 _ _ hfk
      · rw [if_neg hc, show va_cpy F0f F1f a0 b0 n0 b = F1f b from if_neg hc]
        have hfk : g[b]? = some g[b] := List.getElem?_eq_getElem hbl
        rw [hfk]
        exact j4 _ _ hfk⟩
    exact kk p e R s m args below meth c A ad0 F H1 locs1 cells slots tys ad _ ls _ CC E hle ⟨hK, hP1, hD1, hS1, xWr_set hW ha1 hcell, hc1, hs1⟩ hst hl
end XA
