section LIST2
variable {l : Launch} {D : va_G} {ρ : xR} {M : List xCl} {d kc ks : Nat}
theorem c_add2 {al x : Nat} {es : List Nat} {ed : Value} {mc : Int32} {fx : List Value} (h1 : M[al]? = some (cO 2 [ed, .int (nI es.length), .int mc])) (h9 : es.length < 400) (hE : cEl M es) (hx : M[x]? = some (cO 5 fx))
    (h2 : (ed = .retAddr 1 ∧ es = []) ∨ ∃ (e : Nat) (a : List (Option Nat)), ed = .ref e ∧ M[e]? = some (cR 3 a) ∧ es.length ≤ a.length ∧ 10 ≤ a.length ∧ a.length ≤ 700 ∧ a.take es.length = es.map some) (hd : 5 ≤ d) (hkc : 1 ≤ kc) (hks : 700 ≤ ks) :
    Xw l D ρ m_ArrayList_add2 0 [(0, .ref al), (1, .ref x), (2, ed), (3, .int (nI es.length))] [] M d kc ks (fun r N => r = none ∧ cAL N al (es ++ [x]) ∧ cALf M N al) := by
  have hal : al < M.length := (List.getElem?_eq_some_iff.mp h1).1
  have hxl : x < M.length := (List.getElem?_eq_some_iff.mp hx).1
  have hax : x ≠ al := fun q => by
    subst q
    rw [h1] at hx
    cases hx
  -- with room: the element is put behind the others
  have fin : ∀ (M1 : List xCl) (e : Nat) (a : List (Option Nat)) (k1 k2 : Nat), M1[al]? = some (cO 2 [.ref e, .int (nI es.length), .int mc]) → M1[e]? = some (cR 3 a) → M1[x]? = some (cO 5 fx) → es.length < a.length → 10 ≤ a.length → a.length ≤ 700 → a.take es.length = es.map some → cALf M M1 al →
      Xw l D ρ m_ArrayList_add2 11 [(0, .ref al), (1, .ref x), (2, .ref e), (3, .int (nI es.length))] [] M1 d k1 k2 (fun r N => r = none ∧ cAL N al (es ++ [x]) ∧ cALf M N al) := by
    intro M1 e a k1 k2 g1 g2 g3 g4 g5 g6 g7 g8
    have hea : e ≠ al := fun q => by
      subst q
      rw [g1] at g2
      cases g2
    refine b_ArrayList_add2_11 g2 rfl g4 (by omega) g3 ck_Part (Or.inr kb_Part_Object) (xset_at g1 hea) ⟨rfl, ⟨?_, ?_⟩, ?_⟩
    · rw [List.length_append, List.length_singleton]; omega
    · refine ⟨.ref e, mc, ?_, Or.inr ⟨e, a.set es.length (some x), rfl, xset_at (xset_eq g2) hea.symm, ?_, ?_, ?_, ?_⟩⟩
      · rw [List.length_append, List.length_singleton, ← nI_1]
        exact xset_eq (xset_at g1 hea)
      · rw [List.length_append, List.length_singleton, List.length_set]; omega
      · rw [List.length_set]; exact g5
      · rw [List.length_set]; exact g6
      · rw [List.length_append, List.length_singleton, take_set g4, g7, List.map_append]; rfl
    · refine ⟨by rw [List.length_set, List.length_set]; exact g8.1, fun j c hj hja hk => ?_⟩
      have hj1 := g8.2 j c hj hja hk
      refine xset_at (xset_at hj1 (fun q => hk ?_)) hja.symm
      subst q
      rw [hj1] at g2
      cases g2
      rfl
  have hgrow : ((ed = .retAddr 1 ∧ es = []) ∨ ∃ (e : Nat) (a : List (Option Nat)), ed = .ref e ∧ M[e]? = some (cR 3 a) ∧ es.length = a.length ∧ 10 ≤ a.length ∧ a.take es.length = es.map some) →
      Xw l D ρ m_ArrayList_add2 6 [(0, .ref al), (1, .ref x), (3, .int (nI es.length))] [] M d kc ks (fun r N => r = none ∧ cAL N al (es ++ [x]) ∧ cALf M N al) := by
    intro hf
    refine b_ArrayList_add2_6 (cd1 := 4) (ckc1 := kc) (cks1 := ks) (ckc2 := 0) (cks2 := 0) (by omega) (by omega) (by omega) h1 (c_grow h1 h9 hE hf (by omega) hkc hks) (fun r N h => ?_)
    obtain ⟨a', rfl, rfl, g1, g2, g3, g4⟩ := h
    refine b_ArrayList_add2_10 trivial trivial ?_
    refine fin _ M.length a' 0 0 (xset_eq (xpush_at h1)) (xset_at xpush_last (by omega)) (xset_at (xpush_at hx) hax.symm) g1 g2 g3 g4 ⟨?_, fun j c hj hja hk => xset_at (xpush_at hj) hja.symm⟩
    rw [List.length_set, List.length_append]; omega
  rcases h2 with ⟨rfl, rfl⟩ | ⟨e, a, rfl, g2, g3, g4, g5, g6⟩
  · refine b_ArrayList_add2_0_o (fun c => absurd rfl c) (fun _ => ?_)
    exact hgrow (Or.inl ⟨rfl, rfl⟩)
  · refine b_ArrayList_add2_0 g2 (fun c => ?_) (fun c => ?_)
    · have hlt : es.length < a.length := by
        rcases Nat.lt_or_ge es.length a.length with q | q
        · exact q
        · exact absurd (by rw [show es.length = a.length by omega]) c
      exact fin M e a kc ks h1 g2 hx hlt g4 g5 g6 ⟨Nat.le_refl _, fun j c hj _ _ => hj⟩
    · have heq : es.length = a.length := (nI_eq (by omega) (by omega)).mp c
      exact hgrow (Or.inr ⟨e, a, rfl, g2, heq, g4, g6⟩)
theorem c_listAdd {al x : Nat} {es : List Nat} {fx : List Value} (h : cAL M al es) (h9 : es.length < 400) (hE : cEl M es) (hx : M[x]? = some (cO 5 fx)) (hd : 6 ≤ d) (hkc : 1 ≤ kc) (hks : 700 ≤ ks) :
    Xw l D ρ m_ArrayList_add 0 [(0, .ref al), (1, .ref x)] [] M d kc ks (fun r N => r = some (.int 1) ∧ cAL N al (es ++ [x]) ∧ cALf M N al) := by
  obtain ⟨-, ed, mc, h1, h2⟩ := h
  have hne : ∀ {j : Nat} {c : xCl}, M[j]? = some c → xkd c ≠ 2 → j ≠ al := fun hj hk q => by
    subst q
    rw [h1] at hj
    cases hj
    exact hk rfl
  have hed : xrf ed := by
    rcases h2 with ⟨rfl, -⟩ | ⟨e, a, rfl, -⟩ <;> trivial
  refine b_ArrayList_add_0 (x1 := .ref x) (cd1 := 5) (ckc1 := kc) (cks1 := ks) (ckc2 := 0) (cks2 := 0) trivial hed h1 (by omega) (by omega) (by omega)
    (c_add2 (mc := mc + 1) (xset_eq h1) h9 (fun v hv => ?_) (xset_ne hx h1 rfl) ?_ (by omega) hkc hks) (fun r N h => ?_)
  · obtain ⟨fs, hfs⟩ := hE v hv
    exact ⟨fs, xset_ne hfs h1 rfl⟩
  · rcases h2 with h2 | ⟨e, a, rfl, g2, g3⟩
    · exact Or.inl h2
    · exact Or.inr ⟨e, a, rfl, xset_ne g2 h1 rfl, g3⟩
  · obtain ⟨rfl, g1, g2, g3⟩ := h
    refine b_ArrayList_add_23 ⟨rfl, g1, by rw [List.length_set] at g2; exact g2, fun j c hj hja hk => ?_⟩
    exact g3 j c (xset_at hj hja.symm) hja hk
theorem erase_take {a : List (Option Nat)} {es : List Nat} {i : Nat} (hi : i < es.length) (hl : es.length ≤ a.length) (ht : a.take es.length = es.map some) (a' : List (Option Nat)) (hl' : a'.length = a.length)
    (hp : ∀ k, k + 1 < es.length → a'[k]? = if k < i then a[k]? else a[k + 1]?) : a'.take (es.eraseIdx i).length = (es.eraseIdx i).map some := by
  have hlen : (es.eraseIdx i).length = es.length - 1 := List.length_eraseIdx_of_lt hi
  apply List.ext_getElem?
  intro k
  rw [hlen]
  by_cases hk : k < es.length - 1
  · rw [List.getElem?_take, if_pos hk, hp k (by omega), List.getElem?_map, List.getElem?_eraseIdx]
    have hat : ∀ t, t < es.length → a[t]? = (es[t]?).map some := fun t h => by
      rw [← List.getElem?_map, ← ht, List.getElem?_take, if_pos h]
    by_cases hki : k < i
    · rw [if_pos hki, if_pos hki, hat k (by omega)]
    · rw [if_neg hki, if_neg hki, hat (k + 1) (by omega)]
  · rw [List.getElem?_eq_none (by rw [List.length_take]; omega), List.getElem?_eq_none (by rw [List.length_map, hlen]; omega)]
theorem c_fastRemove {al e i : Nat} {es : List Nat} {a : List (Option Nat)} {mc : Int32} (h1 : M[al]? = some (cO 2 [.ref e, .int (nI es.length), .int mc])) (h2 : M[e]? = some (cR 3 a)) (h3 : es.length ≤ a.length) (h4 : 10 ≤ a.length) (h5 : a.length ≤ 700) (h6 : a.take es.length = es.map some) (h9 : es.length ≤ 400) (hE : cEl M es) (hi : i < es.length) (hd : 1 ≤ d) :
    Xw l D ρ m_ArrayList_fastRemove 0 [(0, .ref al), (1, .ref e), (2, .int (nI i))] [] M d kc ks (fun r N => r = none ∧ cAL N al (es.eraseIdx i) ∧ cALf M N al) := by
  have hea : e ≠ al := fun q => by
    subst q
    rw [h1] at h2
    cases h2
  have hlen : (es.eraseIdx i).length = es.length - 1 := List.length_eraseIdx_of_lt hi
  have fin : ∀ (M1 : List xCl) (a1 : List (Option Nat)), M1[al]? = some (cO 2 [.ref e, .int (nI es.length), .int (mc + 1)]) → M1[e]? = some (cR 3 a1) → a1.length = a.length → (∀ k, k + 1 < es.length → a1[k]? = if k < i then a[k]? else a[k + 1]?) → cALf M M1 al →
      Xw l D ρ m_ArrayList_fastRemove 34 [(0, .ref al), (1, .ref e), (3, .int (nI es.length - 1))] [] M1 d kc ks (fun r N => r = none ∧ cAL N al (es.eraseIdx i) ∧ cALf M N al) := by
    intro M1 a1 g1 g2 g3 g4 g5
    rw [show nI es.length - 1 = nI (es.length - 1) from pk_sub (a := es.length) (b := 1) (by omega)]
    refine b_ArrayList_fastRemove_34 g1 (xset_at g2 hea.symm) rfl (by omega) (by omega) ⟨rfl, ⟨by omega, .ref e, mc + 1, ?_, Or.inr ⟨e, a1.set (es.length - 1) none, rfl, xset_eq (xset_at g2 hea.symm), ?_, ?_, ?_, ?_⟩⟩, ?_⟩
    · rw [hlen]
      exact xset_at (xset_eq g1) hea
    · rw [List.length_set, hlen]; omega
    · rw [List.length_set]; omega
    · rw [List.length_set]; omega
    · refine erase_take hi h3 h6 _ (by rw [List.length_set]; exact g3) (fun k hk => ?_)
      rw [List.getElem?_set_ne (by omega)]
      exact g4 k hk
    · refine ⟨by rw [List.length_set, List.length_set]; exact g5.1, fun j c hj hja hk => ?_⟩
      have hj1 := g5.2 j c hj hja hk
      refine xset_at (xset_at hj1 hja.symm) (fun q => hk ?_)
      subst q
      rw [hj1] at g2
      cases g2
      rfl
  refine b_ArrayList_fastRemove_0 h1 (fun c => ?_) (fun c => ?_)
  · rw [show nI es.length - 1 = nI (es.length - 1) from pk_sub (a := es.length) (b := 1) (by omega)] at c
    have hge : es.length - 1 ≤ i := (nI_leI (by omega) (by omega)).mp c
    refine fin _ a (xset_eq h1) (xset_at h2 hea.symm) rfl (fun k hk => by rw [if_pos (by omega)]) ⟨by rw [List.length_set]; exact Nat.le_refl _, fun j c hj hja hk => xset_at hj hja.symm⟩
  · rw [show nI es.length - 1 = nI (es.length - 1) from pk_sub (a := es.length) (b := 1) (by omega)] at c
    have hlt : i < es.length - 1 := by
      rcases Nat.lt_or_ge i (es.length - 1) with q | q
      · exact q
      · exact absurd (nI_le q (by omega)) c
    refine b_ArrayList_fastRemove_22 (p31 := i + 1) (q31 := i) (n31 := es.length - 1 - i) (xset_at h2 hea.symm) (by omega) (nI_1 i) rfl ?_ (by omega) (by omega) (by omega) (by omega) ?_ ?_
    · rw [show nI es.length - 1 = nI (es.length - 1) from pk_sub (a := es.length) (b := 1) (by omega), pk_sub (by omega)]
    · intro k v hk hv
      have hv2 : (a.take es.length)[i + 1 + k]? = some (some v) := by rw [List.getElem?_take, if_pos (by omega)]; exact hv
      rw [h6, List.getElem?_map] at hv2
      cases hes : es[i + 1 + k]? with
      | none => rw [hes] at hv2; cases hv2
      | some w =>
        rw [hes] at hv2
        obtain rfl : w = v := by simpa using hv2
        obtain ⟨fs, hfs⟩ := hE w (List.mem_of_getElem? hes)
        exact ⟨5, _, _, _, _, fs, xset_ne hfs h1 rfl, ck_Part, kb_Part_Object⟩
    · refine fin _ (xcp a a (i + 1) i (es.length - 1 - i)) (xset_at (xset_eq h1) hea) (xset_eq (xset_at h2 hea.symm)) xcp_len (fun k hk => ?_) ⟨by rw [List.length_set, List.length_set]; exact Nat.le_refl _, fun j c hj hja hk => ?_⟩
      · rw [xcp_at (by omega)]
        by_cases hki : k < i
        · rw [if_neg (by omega), if_pos hki, List.getElem?_eq_getElem (show k < a.length by omega)]
          rfl
        · rw [if_pos (by omega), if_neg hki, show i + 1 + (k - i) = k + 1 by omega, List.getElem?_eq_getElem (show k + 1 < a.length by omega)]
          rfl
      · refine xset_at (xset_at hj hja.symm) (fun q => hk ?_)
        subst q
        rw [hj] at h2
        cases h2
        rfl
theorem c_listRemove {al i x : Nat} {es : List Nat} (h : cAL M al es) (hE : cEl M es) (hi : es[i]? = some x) (hd : 2 ≤ d) :
    Xw l D ρ m_ArrayList_remove 0 [(0, .ref al), (1, .int (nI i))] [] M d kc ks (fun r N => r = some (.ref x) ∧ cAL N al (es.eraseIdx i) ∧ cALf M N al) := by
  obtain ⟨h4, ed, mc, h1, h2⟩ := h
  have hlt := (List.getElem?_eq_some_iff.mp hi).1
  rcases h2 with ⟨-, rfl⟩ | ⟨e, a, rfl, h2, h3, h5, h6, h7⟩
  · simp at hi
  refine b_ArrayList_remove_0 (cd1 := 1) (ckc1 := 0) (cks1 := 0) (ckc2 := kc) (cks2 := ks) h1 (by omega) (by omega) (by omega) (c_check hlt (by omega) (by omega)) (fun r N h => ?_)
  obtain ⟨rfl, rfl⟩ := h
  refine b_ArrayList_remove_8 (cd1 := 1) (ckc1 := kc) (cks1 := ks) (ckc2 := 0) (cks2 := 0) h1 h2 rfl (by omega) (cAL_at h7 hi) (by omega) (by omega) (by omega) (c_fastRemove h1 h2 h3 h5 h6 h7 h4 hE hlt (by omega)) (fun r N h => ?_)
  obtain ⟨rfl, g1, g2⟩ := h
  exact b_ArrayList_remove_24 (x3 := .ref x) trivial ⟨rfl, g1, g2⟩
theorem c_listInit {al : Nat} {f0 : Value} {f1 f2 : Int32} (h1 : M[al]? = some (cO 2 [f0, .int f1, .int f2])) (hd : 3 ≤ d) : Xw l D ρ m_ArrayList_init 0 [(0, .ref al)] [] M d kc ks (fun r N => r = none ∧ N = M.set al (cO 2 [.retAddr 1, .int f1, .int 0])) := by
  refine b_ArrayList_init_0 (cd1 := 2) (ckc1 := 0) (cks1 := 0) (ckc2 := kc) (cks2 := ks) (Q1 := fun r N => r = none ∧ N = M.set al (cO 2 [f0, .int f1, .int 0])) (by omega) (by omega) (by omega) ?_ (fun r N h => ?_)
  · refine b_AbstractList_init_0 (cd1 := 1) (ckc1 := 0) (cks1 := 0) (ckc2 := 0) (cks2 := 0) (Q1 := fun r N => r = none ∧ N = M) (by omega) (by omega) (by omega) ?_ (fun r N h => ?_)
    · exact b_AbstractCollection_init_0 (by omega) ⟨rfl, rfl⟩
    · obtain ⟨rfl, rfl⟩ := h
      exact b_AbstractList_init_4 h1 ⟨rfl, rfl⟩
  · obtain ⟨rfl, rfl⟩ := h
    refine b_ArrayList_init_4 (xset_eq h1) ⟨rfl, ?_⟩
    rw [List.set_set]
end LIST2
