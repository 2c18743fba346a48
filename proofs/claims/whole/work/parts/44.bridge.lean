/-! THE BRIDGE: the model's cells inside the heap -/
theorem mC_len (m : Nat) (s : mS) : (mC m s).length = 19 := by
  obtain ⟨v_room, v_puts, v_told, v_mask, v_open, v_came, v_byts, v_stamps, v_psz, v_stp, v_pby, v_blobs, v_isT, v_len, v_slot, v_sum, v_dig, v_pkd, v_hasC, v_copy, v_act, v_packs, v_work⟩ := s
  rfl
theorem mC_kd {m : Nat} {s : mS} {c : xCl} (h : c ∈ mC m s) : xkd c = 6 ∨ xkd c = 100 ∨ xkd c = 102 ∨ xkd c = 103 := by
  obtain ⟨v_room, v_puts, v_told, v_mask, v_open, v_came, v_byts, v_stamps, v_psz, v_stp, v_pby, v_blobs, v_isT, v_len, v_slot, v_sum, v_dig, v_pkd, v_hasC, v_copy, v_act, v_packs, v_work⟩ := s
  simp only [mC, List.mem_cons, List.not_mem_nil, or_false] at h
  rcases h with rfl | rfl | rfl | rfl | rfl | rfl | rfl | rfl | rfl | rfl | rfl | rfl | rfl | rfl | rfl | rfl | rfl | rfl | rfl <;> first | exact Or.inl rfl | exact Or.inr (Or.inl rfl) | exact Or.inr (Or.inr (Or.inl rfl)) | exact Or.inr (Or.inr (Or.inr rfl))
theorem mo_split {M : List xCl} {own : Nat → Nat × Nat} {m : Nat} {s : mS} (h : cMo M own m (mC m s)) : ∃ pre post, m = pre.length ∧ M = mH pre post s := by
  have hl := mC_len m s
  have hat : ∀ i, i < 19 → M[m + i]? = (mC m s)[i]? := fun i hi => by
    have hh : (mC m s)[i]? = some ((mC m s)[i]'(by omega)) := List.getElem?_eq_getElem (by omega)
    rw [hh]
    exact (h i _ hh).1
  have hm : m < M.length := by
    have h0 := hat 0 (by decide)
    rw [List.getElem?_eq_getElem (show 0 < (mC m s).length by omega)] at h0
    exact (List.getElem?_eq_some_iff.mp h0).1
  have hlt : (M.take m).length = m := by rw [List.length_take]; omega
  refine ⟨M.take m, M.drop (m + 19), hlt.symm, ?_⟩
  unfold mH
  rw [hlt]
  apply List.ext_getElem?
  intro j
  by_cases h1 : j < m
  · rw [List.getElem?_append_left (by omega), List.getElem?_take, if_pos h1]
  · rw [List.getElem?_append_right (by omega), hlt]
    obtain ⟨i, rfl⟩ : ∃ i, j = m + i := ⟨j - m, by omega⟩
    rw [Nat.add_sub_cancel_left]
    by_cases h2 : i < 19
    · rw [List.getElem?_append_left (by omega)]
      exact hat i h2
    · rw [List.getElem?_append_right (by omega), hl, List.getElem?_drop]
      congr 1
      omega
section BRIDGE
variable {pre post : List xCl} {own : Nat → Nat × Nat} {t room : Nat} {s s' : mS} {P : List sP} {es : List Nat} {pb : Nat → List Int32} {B : List sB} {act : List Int32} {nk : Nat}
theorem mH_fr (hM : cMo (mH pre post s) own pre.length (mC pre.length s)) : fr [6, 102, 103, 1008] (mH pre post s) (mH pre post s') own own := by
  have hl := mC_len pre.length s
  have hl' := mC_len pre.length s'
  refine ⟨by unfold mH; rw [List.length_append, List.length_append, List.length_append, List.length_append, hl, hl']; exact Nat.le_refl _, fun _ _ => rfl, fun j c hj hT => ?_⟩
  unfold mH at hj ⊢
  by_cases h1 : j < pre.length
  · rw [List.getElem?_append_left h1] at hj ⊢
    exact hj
  · obtain ⟨i, rfl⟩ : ∃ i, j = pre.length + i := ⟨j - pre.length, by omega⟩
    rw [seg_at] at hj ⊢
    by_cases h2 : i < 19
    · exfalso
      rw [List.getElem?_append_left (by omega)] at hj
      obtain ⟨-, h3, h4⟩ := hM i c hj
      refine hT ?_
      rcases h4 with h4 | h4 | h4 | h4
      · rw [rgc_n (by rw [h4]; decide), h4]; decide
      · rw [rgc, if_pos h4, h3]; decide
      · rw [rgc_n (by rw [h4]; decide), h4]; decide
      · rw [rgc_n (by rw [h4]; decide), h4]; decide
    · rw [List.getElem?_append_right (by omega), hl] at hj
      rw [List.getElem?_append_right (by omega), hl']
      exact hj
theorem CI_swap (hC : CI (mH pre post s) own pre.length (mC pre.length s) t room P es pb B act nk) : CI (mH pre post s') own pre.length (mC pre.length s') t room P es pb B act nk := by
  obtain ⟨hI, sh, pa, ba, ra, PA, BA, hT, hP, hB, hR, hS, hM⟩ := hC
  have f := mH_fr (s' := s') hM
  refine ⟨hI, sh, pa, ba, ra, PA, BA, fr_atk 0 f hT rfl (by decide) (by decide), cPs_fr hP f (by decide) (by decide) (by decide), cBs_fr hB f (by decide) (by decide) (by decide) (by decide), cRs_fr hR f (by decide), cShelf_fr hS f (by decide) (by decide) (by decide) (by decide) (by decide), fun i c hi => ?_⟩
  have hl := mC_len pre.length s
  have hl' := mC_len pre.length s'
  have hi19 : i < 19 := by have := (List.getElem?_eq_some_iff.mp hi).1; omega
  refine ⟨?_, (hM i _ (List.getElem?_eq_getElem (by omega))).2.1, mC_kd (List.mem_of_getElem? hi)⟩
  unfold mH
  rw [seg_at, List.getElem?_append_left (by omega)]
  exact hi
theorem CI_start (rm : Nat) (hr : rm ≤ 2000) (s : mS) : CI (mH (cN0 rm) [] s) (fun j => if j = 5 then (7, 0) else if 6 ≤ j then (8, 0) else (0, 0)) 6 (mC 6 s) 0 rm [] [] (fun _ => []) [] (List.replicate 20 (-1)) 0 := by
  obtain ⟨hI, sh, pa, ba, ra, PA, BA, hT, hP, hB, hR, hS, hM⟩ := CI_0 rm hr 6
  have f : fr [] (cN0 rm) (mH (cN0 rm) [] s) (fun j => if j = 5 then (7, 0) else (0, 0)) (fun j => if j = 5 then (7, 0) else if 6 ≤ j then (8, 0) else (0, 0)) := by
    refine ⟨by unfold mH; rw [List.length_append]; omega, fun j hj => ?_, fun j c hj _ => ?_⟩
    · have hj6 : j < 6 := hj
      show (if j = 5 then ((7, 0) : Nat × Nat) else if 6 ≤ j then (8, 0) else (0, 0)) = (if j = 5 then (7, 0) else (0, 0))
      by_cases h5 : j = 5
      · rw [if_pos h5, if_pos h5]
      · rw [if_neg h5, if_neg h5, if_neg (by omega)]
    · unfold mH
      rw [List.getElem?_append_left (List.getElem?_eq_some_iff.mp hj).1]
      exact hj
  refine ⟨hI, sh, pa, ba, ra, PA, BA, fr_atk 0 f hT rfl (by decide) (by decide), cPs_fr hP f (by decide) (by decide) (by decide), cBs_fr hB f (by decide) (by decide) (by decide) (by decide), cRs_fr hR f (by decide), cShelf_fr hS f (by decide) (by decide) (by decide) (by decide) (by decide), fun i c hi => ?_⟩
  have hl := mC_len 6 s
  have hi19 : i < 19 := by have := (List.getElem?_eq_some_iff.mp hi).1; omega
  refine ⟨?_, ?_, mC_kd (List.mem_of_getElem? hi)⟩
  · have := seg_at (cN0 rm) (mC 6 s ++ []) i
    rw [List.append_nil] at this
    rw [← hi]
    unfold mH
    rw [List.append_nil]
    exact this
  · show (if 6 + i = 5 then ((7, 0) : Nat × Nat) else if 6 ≤ 6 + i then (8, 0) else (0, 0)).1 = 8
    rw [if_neg (by omega), if_pos (by omega)]
end BRIDGE
