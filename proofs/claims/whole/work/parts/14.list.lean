/-! THE LIST: an ArrayList at al that holds the cells es -/
def cAL (M : List xCl) (al : Nat) (es : List Nat) : Prop := es.length ≤ 400 ∧ ∃ (ed : Value) (mc : Int32), M[al]? = some (cO 2 [ed, .int (nI es.length), .int mc]) ∧ ((ed = .retAddr 1 ∧ es = []) ∨ ∃ (e : Nat) (a : List (Option Nat)), ed = .ref e ∧ M[e]? = some (cR 3 a) ∧ es.length ≤ a.length ∧ 10 ≤ a.length ∧ a.length ≤ 700 ∧ a.take es.length = es.map some)
/-- what isn't the list's own stays -/
def cALf (M N : List xCl) (al : Nat) : Prop := M.length ≤ N.length ∧ ∀ (j : Nat) (c : xCl), M[j]? = some c → j ≠ al → xkd c ≠ 203 → N[j]? = some c
theorem cAL_at {a : List (Option Nat)} {es : List Nat} {i x : Nat} (h : a.take es.length = es.map some) (hi : es[i]? = some x) : a[i]? = some (some x) := by
  have hlt := (List.getElem?_eq_some_iff.mp hi).1
  have h1 : (a.take es.length)[i]? = a[i]? := by rw [List.getElem?_take, if_pos hlt]
  rw [← h1, h, List.getElem?_map, hi]
  rfl
theorem take_set {α : Type} {a : List α} {n : Nat} {x : α} (hn : n < a.length) : (a.set n x).take (n + 1) = a.take n ++ [x] := by
  apply List.ext_getElem?
  intro i
  by_cases h1 : i < n
  · rw [List.getElem?_take, if_pos (by omega), List.getElem?_set_ne (by omega), List.getElem?_append_left (by rw [List.length_take]; omega), List.getElem?_take, if_pos h1]
  · by_cases h2 : i = n
    · subst h2
      rw [List.getElem?_take, if_pos (by omega), List.getElem?_set_self hn, List.getElem?_append_right (by rw [List.length_take]; omega), List.length_take, show i - min i a.length = 0 by omega]
      rfl
    · rw [List.getElem?_eq_none (by rw [List.length_take, List.length_set]; omega), List.getElem?_eq_none (by rw [List.length_append, List.length_take, List.length_singleton]; omega)]
section LIST
variable {l : Launch} {D : va_G} {ρ : xR} {M : List xCl} {d kc ks : Nat}
theorem c_size {al : Nat} {es : List Nat} (h : cAL M al es) : Xw l D ρ m_ArrayList_size 0 [(0, .ref al)] [] M d kc ks (fun r N => r = some (.int (nI es.length)) ∧ N = M) := by
  obtain ⟨-, ed, mc, h1, -⟩ := h
  exact b_ArrayList_size_0 h1 ⟨rfl, rfl⟩
theorem c_check {i n : Nat} (hi : i < n) (hn : n ≤ 100000) (hd : 1 ≤ d) : Xw l D ρ m_Objects_checkIndex 0 [(0, .int (nI i)), (1, .int (nI n))] [] M d kc ks (fun r N => r = some (.int (nI i)) ∧ N = M) := by
  refine b_Objects_checkIndex_0 (cd1 := 0) (ckc1 := 0) (cks1 := 0) (ckc2 := kc) (cks2 := ks) (Q1 := fun r N => r = some (.int (nI i)) ∧ N = M) (by omega) (by omega) (by omega) ?_ (fun r N h => ?_)
  · refine b_Preconditions_checkIndex_0 (fun c => absurd c (nI_pos (by omega))) (fun _ => ?_)
    exact b_Preconditions_checkIndex_4 (fun _ => b_Preconditions_checkIndex_16 ⟨rfl, rfl⟩) (fun c => absurd (nI_lt hi (by omega)) c)
  · obtain ⟨rfl, rfl⟩ := h
    exact b_Objects_checkIndex_6 ⟨rfl, rfl⟩
theorem c_get {al i x : Nat} {es : List Nat} (h : cAL M al es) (hi : es[i]? = some x) (hd : 2 ≤ d) : Xw l D ρ m_ArrayList_get 0 [(0, .ref al), (1, .int (nI i))] [] M d kc ks (fun r N => r = some (.ref x) ∧ N = M) := by
  obtain ⟨h4, ed, mc, h1, h2⟩ := h
  have hlt := (List.getElem?_eq_some_iff.mp hi).1
  rcases h2 with ⟨-, rfl⟩ | ⟨e, a, rfl, h2, h3, h5, h6, h7⟩
  · simp at hi
  refine b_ArrayList_get_0 (cd1 := 1) (ckc1 := 0) (cks1 := 0) (ckc2 := kc) (cks2 := ks) h1 (by omega) (by omega) (by omega) (c_check hlt (by omega) (by omega)) (fun r N h => ?_)
  obtain ⟨rfl, rfl⟩ := h
  refine b_ArrayList_get_8 (cd1 := 0) (ckc1 := 0) (cks1 := 0) (ckc2 := kc) (cks2 := ks) (Q1 := fun r N' => r = some (.ref x) ∧ N' = N) (by omega) (by omega) (by omega) h1 ?_ (fun r N h => ?_)
  · exact b_ArrayList_elementData_0 h1 h2 rfl (by omega) (cAL_at h7 hi) ⟨rfl, rfl⟩
  · obtain ⟨rfl, rfl⟩ := h
    exact b_ArrayList_get_14 trivial ⟨rfl, rfl⟩
theorem nI_half (n : Nat) (h : n < 2 ^ 31) : nI n >>> ((1 : Int32) &&& 31) = nI (n / 2) := by
  have := pk_shrN (n := n) h ((1 : Int32) &&& 31) 1 (by decide)
  rw [this]
theorem c_newLength {n : Nat} (h10 : 10 ≤ n) (hn : n ≤ 400) (hd : 1 ≤ d) : Xw l D ρ m_ArraysSupport_newLength 0 [(0, .int (nI n)), (1, .int (nI 1)), (2, .int (nI (n / 2)))] [] M d kc ks (fun r N => r = some (.int (nI (n + n / 2))) ∧ N = M) := by
  refine b_ArraysSupport_newLength_0 (cd1 := 0) (ckc1 := 0) (cks1 := 0) (ckc2 := kc) (cks2 := ks) (by omega) (by omega) (by omega) c_max (fun r N h => ?_)
  obtain ⟨rfl, rfl⟩ := h
  rw [if_pos (nI_lt (show 1 < n / 2 by omega) (by omega))]
  refine b_ArraysSupport_newLength_6 (fun c => ?_) (fun _ => ?_)
  · rw [nI_add] at c
    exact absurd c (nI_nle (by omega) (by omega))
  · refine b_ArraysSupport_newLength_13 (fun c => ?_) (fun _ => b_ArraysSupport_newLength_19 ⟨by rw [nI_add], rfl⟩)
    rw [nI_add, show (2147483639 : Int32) = nI 2147483639 from rfl] at c
    exact absurd c (nI_nlt (by omega) (by decide))
/-- every element is an object of the class Part -/
def cEl (M : List xCl) (es : List Nat) : Prop := ∀ v ∈ es, ∃ fs, M[v]? = some (cO 5 fs)
theorem xcp_take {a : List (Option Nat)} {n N : Nat} (hn : n ≤ a.length) (hN : n ≤ N) : (xcp a (List.replicate N none) 0 0 n).take n = a.take n := by
  apply List.ext_getElem?
  intro i
  by_cases h1 : i < n
  · rw [List.getElem?_take, if_pos h1, List.getElem?_take, if_pos h1, xcp_at (by rw [List.length_replicate]; omega), if_pos ⟨Nat.zero_le _, by omega⟩, show 0 + (i - 0) = i by omega, List.getElem?_eq_getElem (show i < a.length by omega)]
    rfl
  · rw [List.getElem?_eq_none (by rw [List.length_take]; omega), List.getElem?_eq_none (by rw [List.length_take]; omega)]
theorem c_copyOf {al n N : Nat} {a : List (Option Nat)} {es : List Nat} (h2 : M[al]? = some (cR 3 a)) (hn : a.length = n) (hlen : es.length = n) (hN : n ≤ N) (hN7 : N ≤ 700) (ht : a.take es.length = es.map some) (hE : cEl M es) (hd : 2 ≤ d) (hkc : 1 ≤ kc) (hks : 700 ≤ ks) :
    Xw l D ρ m_Arrays_copyOf 0 [(0, .ref al), (1, .int (nI N))] [] M d kc ks (fun r M' => ∃ a', r = some (.ref M.length) ∧ M' = M ++ [cR 3 a'] ∧ a'.length = N ∧ a'.take n = a.take n) := by
  have hal : al < M.length := (List.getElem?_eq_some_iff.mp h2).1
  refine b_Arrays_copyOf_0 (cd1 := 1) (ckc1 := kc) (cks1 := ks) (ckc2 := 0) (cks2 := 0) (Q1 := fun r M' => ∃ a', r = some (.ref M.length) ∧ M' = M ++ [cR 3 a'] ∧ a'.length = N ∧ a'.take n = a.take n) h2 (by omega) (by omega) (by omega) (by omega) ?_ (fun r M' h => ?_)
  · refine b_Arrays_copyOf2_0 ?_
    refine b_Arrays_copyOf2_6 (n7 := N) (kc1 := 0) (ks1 := 0) rfl (by omega) (by omega) (by omega) ?_
    refine b_Arrays_copyOf2_24 (cd1 := 0) (ckc1 := 0) (cks1 := 0) (ckc2 := 0) (cks2 := 0) trivial (xpush_at h2) (by omega) (by omega) (by omega) c_min (fun r M' h => ?_)
    obtain ⟨rfl, rfl⟩ := h
    rw [hn, if_neg (nI_nlt hN (by omega))]
    refine b_Arrays_copyOf2_35 (p35 := 0) (q35 := 0) (n35 := n) trivial (xpush_at h2) xpush_last (by omega) rfl rfl rfl (by omega) (by rw [List.length_replicate]; omega) (by omega) (by rw [List.length_replicate]; omega) ?_ ⟨xcp a (List.replicate N none) 0 0 n, rfl, ?_, by rw [xcp_len, List.length_replicate], xcp_take (by omega) hN⟩
    · intro k v hk hv
      rw [Nat.zero_add] at hv
      have hv2 : (a.take es.length)[k]? = some (some v) := by rw [List.getElem?_take, if_pos (by omega)]; exact hv
      rw [ht, List.getElem?_map] at hv2
      cases hes : es[k]? with
      | none => rw [hes] at hv2; cases hv2
      | some w =>
        rw [hes] at hv2
        obtain rfl : w = v := by simpa using hv2
        obtain ⟨fs, hfs⟩ := hE w (List.mem_of_getElem? hes)
        exact ⟨5, _, _, _, _, fs, xpush_at hfs, ck_Part, kb_Part_Object⟩
    · rw [List.set_append_right _ _ (Nat.le_refl _), Nat.sub_self]
      rfl
  · obtain ⟨a', rfl, rfl, h3, h4⟩ := h
    exact b_Arrays_copyOf_9 trivial ⟨a', rfl, rfl, h3, h4⟩
theorem c_grow {al : Nat} {es : List Nat} {ed : Value} {mc : Int32} (h1 : M[al]? = some (cO 2 [ed, .int (nI es.length), .int mc])) (h9 : es.length < 400) (hE : cEl M es)
    (hfull : (ed = .retAddr 1 ∧ es = []) ∨ ∃ (e : Nat) (a : List (Option Nat)), ed = .ref e ∧ M[e]? = some (cR 3 a) ∧ es.length = a.length ∧ 10 ≤ a.length ∧ a.take es.length = es.map some) (hd : 4 ≤ d) (hkc : 1 ≤ kc) (hks : 700 ≤ ks) :
    Xw l D ρ m_ArrayList_grow 0 [(0, .ref al)] [] M d kc ks (fun r N => ∃ a', r = some (.ref M.length) ∧ N = (M ++ [cR 3 a']).set al (cO 2 [.ref M.length, .int (nI es.length), .int mc]) ∧ es.length < a'.length ∧ 10 ≤ a'.length ∧ a'.length ≤ 700 ∧ a'.take es.length = es.map some) := by
  refine b_ArrayList_grow_0 (cd1 := 3) (ckc1 := kc) (cks1 := ks) (ckc2 := 0) (cks2 := 0) (Q1 := fun r N => ∃ a', r = some (.ref M.length) ∧ N = (M ++ [cR 3 a']).set al (cO 2 [.ref M.length, .int (nI es.length), .int mc]) ∧ es.length < a'.length ∧ 10 ≤ a'.length ∧ a'.length ≤ 700 ∧ a'.take es.length = es.map some) h1 (by omega) (by omega) (by omega) ?_ (fun r N h => ?_)
  · rcases hfull with ⟨rfl, rfl⟩ | ⟨e, a, rfl, h2, h3, h4, h5⟩
    · refine b_ArrayList_grow2_0_o h1 (fun c => absurd c (by decide)) (fun _ => ?_)
      refine b_ArrayList_grow2_10_o h1 ?_
      refine b_ArrayList_grow2_45 (cd1 := 0) (ckc1 := 0) (cks1 := 0) (ckc2 := kc) (cks2 := ks) trivial (by omega) (by omega) (by omega) c_max (fun r N h => ?_)
      obtain ⟨rfl, rfl⟩ := h
      refine b_ArrayList_grow2_52 (n52 := 10) (kc1 := 0) (ks1 := 0) (by decide) (by decide) (by omega) (by omega) (xpush_at h1) ⟨List.replicate 10 none, rfl, rfl, by decide, by decide, by decide, rfl⟩
    · refine b_ArrayList_grow2_0 h1 h2 (fun _ => ?_) (fun c => absurd (show (0 : Int32) < nI a.length from nI_lt (a := 0) (by omega) (by omega)) c)
      rw [← h3, nI_1]
      refine b_ArrayList_grow2_20 (cd1 := 1) (ckc1 := 0) (cks1 := 0) (ckc2 := kc) (cks2 := ks) (Q1 := fun r N => r = some (.int (nI (es.length + es.length / 2))) ∧ N = M) (by omega) (by omega) (by omega) ?_ (fun r N h => ?_)
      · rw [pk_sub (by omega), show es.length + 1 - es.length = 1 by omega, nI_half _ (by omega)]
        exact c_newLength (by omega) (by omega) (by omega)
      · obtain ⟨rfl, rfl⟩ := h
        refine b_ArrayList_grow2_30 (f33_0 := .ref e) (cd1 := 2) (ckc1 := kc) (cks1 := ks) (ckc2 := 0) (cks2 := 0) trivial h1 (by omega) (by omega) (by omega) (c_copyOf (N := es.length + es.length / 2) h2 rfl h3 (by omega) (by omega) h5 hE (by omega) (by omega) (by omega)) (fun r M' h => ?_)
        obtain ⟨a', rfl, rfl, g1, g2⟩ := h
        exact b_ArrayList_grow2_40 trivial (xpush_at h1) ⟨a', rfl, rfl, by omega, by omega, by omega, by rw [h3, g2, ← h3, h5]⟩
  · obtain ⟨a', rfl, rfl, h3⟩ := h
    exact b_ArrayList_grow_10 trivial ⟨a', rfl, rfl, h3⟩
end LIST
