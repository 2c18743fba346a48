/-! THE MODEL'S CONSTRUCTOR -/
theorem seg_set0 {α : Type} (pre L : List α) (y x : α) : (pre ++ (y :: L)).set pre.length x = pre ++ (x :: L) := seg_set pre (y :: L) 0 x
theorem seg_at0 {α : Type} (pre L : List α) (y : α) : (pre ++ (y :: L))[pre.length]? = some y := seg_at pre (y :: L) 0
abbrev sM0 (rm : Nat) : mS := (rm, 0, List.replicate 60 0, List.replicate 60 0, List.replicate 60 0, List.replicate 60 0, List.replicate 5760 0, 0, List.replicate 400 0, List.replicate 400 0, List.replicate 6400 0, 0, List.replicate 60 0, List.replicate 60 0, List.replicate 360 0, List.replicate 60 0, List.replicate 60 0, List.replicate 60 (-1), List.replicate 60 0, List.replicate 5760 0, List.replicate 20 (-1), 0, List.replicate 96 0)
abbrev sM1 (rm : Nat) (pkd act : List Int32) : mS := (rm, 0, List.replicate 60 0, List.replicate 60 0, List.replicate 60 0, List.replicate 60 0, List.replicate 5760 0, 0, List.replicate 400 0, List.replicate 400 0, List.replicate 6400 0, 0, List.replicate 60 0, List.replicate 60 0, List.replicate 360 0, List.replicate 60 0, List.replicate 60 0, pkd, List.replicate 60 0, List.replicate 5760 0, act, 0, List.replicate 96 0)
theorem rep_set (k n : Nat) : (List.replicate k (-1 : Int32) ++ List.replicate (n + 1) 0).set k (-1) = List.replicate (k + 1) (-1) ++ List.replicate n 0 := by
  have := app_set (List.replicate k (-1 : Int32)) n (-1) 0
  rw [List.length_replicate] at this
  rw [this, List.replicate_succ']
theorem rep_len (k n : Nat) : (List.replicate k (-1 : Int32) ++ List.replicate n 0).length = k + n := by rw [List.length_append, List.length_replicate, List.length_replicate]
section MINIT
variable {l : Launch} {D : va_G} {ρ : xR} {d kc ks : Nat} {pre : List xCl}
theorem c_MInit2 {rm : Nat} : Xw l D ρ m_ContentStoreModel_init 180 [(0, .ref pre.length)] [] (mH pre [] (sM1 rm (List.replicate 60 0) (List.replicate 20 0))) d kc ks (fun r' N => r' = none ∧ N = mH pre [] (sM0 rm)) := by
  refine b_ContentStoreModel_init_180 ?_
  have loop2 : ∀ (n k : Nat), k + n = 60 → Xw l D ρ m_ContentStoreModel_init 203 [(0, .ref pre.length), (2, .int (nI k))] [] (mH pre [] (sM1 rm (List.replicate k (-1) ++ List.replicate n 0) (List.replicate 20 (-1)))) d kc ks (fun r' N => r' = none ∧ N = mH pre [] (sM0 rm)) := by
    intro n
    induction n with
    | zero =>
      intro k hk
      obtain rfl : k = 60 := by omega
      refine b_ContentStoreModel_init_203 (fun _ => b_ContentStoreModel_init_222 ⟨rfl, ?_⟩) (fun c => absurd (by decide) c)
      rw [List.replicate_zero, List.append_nil]
    | succ n ih =>
      intro k hk
      have hl := rep_len k (n + 1)
      refine b_ContentStoreModel_init_203 (fun c => absurd c (nI_ge (b := 60) (by omega) (by decide))) (fun _ => ?_)
      refine b_ContentStoreModel_init_209 (a215 := List.replicate k (-1) ++ List.replicate (n + 1) 0) (j215 := k) H_obj H_pkd rfl (by omega) (by omega) ?_
      rw [W_pkd, nI_1, rep_set]
      exact ih (k + 1) (by omega)
  have loop1 : ∀ (n k : Nat), k + n = 20 → Xw l D ρ m_ContentStoreModel_init 182 [(0, .ref pre.length), (2, .int (nI k))] [] (mH pre [] (sM1 rm (List.replicate 60 0) (List.replicate k (-1) ++ List.replicate n 0))) d kc ks (fun r' N => r' = none ∧ N = mH pre [] (sM0 rm)) := by
    intro n
    induction n with
    | zero =>
      intro k hk
      obtain rfl : k = 20 := by omega
      rw [List.replicate_zero, List.append_nil]
      exact b_ContentStoreModel_init_182 (fun _ => b_ContentStoreModel_init_201 (loop2 60 0 rfl)) (fun c => absurd (by decide) c)
    | succ n ih =>
      intro k hk
      have hl := rep_len k (n + 1)
      refine b_ContentStoreModel_init_182 (fun c => absurd c (nI_ge (b := 20) (by omega) (by decide))) (fun _ => ?_)
      refine b_ContentStoreModel_init_188 (a194 := List.replicate k (-1) ++ List.replicate (n + 1) 0) (j194 := k) H_obj H_act rfl (by omega) (by omega) ?_
      rw [W_act, nI_1, rep_set]
      exact ih (k + 1) (by omega)
  exact loop1 20 0 rfl
theorem c_MInit {r : Int32} (hd : 1 ≤ d) (hkc : 18 ≤ kc) (hks : 19796 ≤ ks) :
    Xw l D ρ m_ContentStoreModel_init 0 [(0, .ref pre.length), (1, .int r)] [] (pre ++ [cO 6 [.int 0, .int 0, .int 0, .null, .null, .null, .null, .null, .int 0, .null, .null, .null, .int 0, .null, .null, .null, .null, .null, .null, .null, .null, .null, .int 0, .null]]) d kc ks (fun r' N => r' = none ∧ N = mH pre [] (sM0 (rmN r))) := by
  refine b_ContentStoreModel_init_0 (n7 := 60) (kc1 := kc - 1) (ks1 := ks - 60) (by omega) rfl (by decide) (by omega) (by omega) ?_
  rw [List.append_assoc, List.length_append]
  show Xw l D ρ m_ContentStoreModel_init 9 [(0, .ref pre.length), (1, .int r)] [.ref (pre.length + 1), .ref pre.length] (pre ++ [cO 6 [.int 0, .int 0, .int 0, .null, .null, .null, .null, .null, .int 0, .null, .null, .null, .int 0, .null, .null, .null, .null, .null, .null, .null, .null, .null, .int 0, .null], cI (List.replicate 60 0)]) d (kc - 1) (ks - 60) _
  refine b_ContentStoreModel_init_9 (s0 := .ref (pre.length + 1)) trivial (seg_at0 pre _ _) ?_
  rw [seg_set0]
  refine b_ContentStoreModel_init_12 (n15 := 60) (kc1 := kc - 2) (ks1 := ks - 120) trivial rfl (by decide) (by omega) (by omega) ?_
  rw [List.append_assoc, List.length_append]
  show Xw l D ρ m_ContentStoreModel_init 17 [(0, .ref pre.length), (1, .int r)] [.ref (pre.length + 2), .ref pre.length] (pre ++ [cO 6 [.int 0, .int 0, .int 0, .ref (pre.length + 1), .null, .null, .null, .null, .int 0, .null, .null, .null, .int 0, .null, .null, .null, .null, .null, .null, .null, .null, .null, .int 0, .null], cI (List.replicate 60 0), cL (List.replicate 60 0)]) d (kc - 2) (ks - 120) _
  refine b_ContentStoreModel_init_17 (s0 := .ref (pre.length + 2)) trivial (seg_at0 pre _ _) ?_
  rw [seg_set0]
  refine b_ContentStoreModel_init_20 (n23 := 60) (kc1 := kc - 3) (ks1 := ks - 180) trivial rfl (by decide) (by omega) (by omega) ?_
  rw [List.append_assoc, List.length_append]
  show Xw l D ρ m_ContentStoreModel_init 25 [(0, .ref pre.length), (1, .int r)] [.ref (pre.length + 3), .ref pre.length] (pre ++ [cO 6 [.int 0, .int 0, .int 0, .ref (pre.length + 1), .ref (pre.length + 2), .null, .null, .null, .int 0, .null, .null, .null, .int 0, .null, .null, .null, .null, .null, .null, .null, .null, .null, .int 0, .null], cI (List.replicate 60 0), cL (List.replicate 60 0), cZ (List.replicate 60 0)]) d (kc - 3) (ks - 180) _
  refine b_ContentStoreModel_init_25 (s0 := .ref (pre.length + 3)) trivial (seg_at0 pre _ _) ?_
  rw [seg_set0]
  refine b_ContentStoreModel_init_28 (n31 := 60) (kc1 := kc - 4) (ks1 := ks - 240) trivial rfl (by decide) (by omega) (by omega) ?_
  rw [List.append_assoc, List.length_append]
  show Xw l D ρ m_ContentStoreModel_init 33 [(0, .ref pre.length), (1, .int r)] [.ref (pre.length + 4), .ref pre.length] (pre ++ [cO 6 [.int 0, .int 0, .int 0, .ref (pre.length + 1), .ref (pre.length + 2), .ref (pre.length + 3), .null, .null, .int 0, .null, .null, .null, .int 0, .null, .null, .null, .null, .null, .null, .null, .null, .null, .int 0, .null], cI (List.replicate 60 0), cL (List.replicate 60 0), cZ (List.replicate 60 0), cI (List.replicate 60 0)]) d (kc - 4) (ks - 240) _
  refine b_ContentStoreModel_init_33 (s0 := .ref (pre.length + 4)) trivial (seg_at0 pre _ _) ?_
  rw [seg_set0]
  refine b_ContentStoreModel_init_36 (n40 := 5760) (kc1 := kc - 5) (ks1 := ks - 6000) trivial rfl (by decide) (by omega) (by omega) ?_
  rw [List.append_assoc, List.length_append]
  show Xw l D ρ m_ContentStoreModel_init 42 [(0, .ref pre.length), (1, .int r)] [.ref (pre.length + 5), .ref pre.length] (pre ++ [cO 6 [.int 0, .int 0, .int 0, .ref (pre.length + 1), .ref (pre.length + 2), .ref (pre.length + 3), .ref (pre.length + 4), .null, .int 0, .null, .null, .null, .int 0, .null, .null, .null, .null, .null, .null, .null, .null, .null, .int 0, .null], cI (List.replicate 60 0), cL (List.replicate 60 0), cZ (List.replicate 60 0), cI (List.replicate 60 0), cI (List.replicate 5760 0)]) d (kc - 5) (ks - 6000) _
  refine b_ContentStoreModel_init_42 (s0 := .ref (pre.length + 5)) trivial (seg_at0 pre _ _) ?_
  rw [seg_set0]
  refine b_ContentStoreModel_init_45 (n49 := 400) (kc1 := kc - 6) (ks1 := ks - 6400) trivial rfl (by decide) (by omega) (by omega) ?_
  rw [List.append_assoc, List.length_append]
  show Xw l D ρ m_ContentStoreModel_init 51 [(0, .ref pre.length), (1, .int r)] [.ref (pre.length + 6), .ref pre.length] (pre ++ [cO 6 [.int 0, .int 0, .int 0, .ref (pre.length + 1), .ref (pre.length + 2), .ref (pre.length + 3), .ref (pre.length + 4), .ref (pre.length + 5), .int 0, .null, .null, .null, .int 0, .null, .null, .null, .null, .null, .null, .null, .null, .null, .int 0, .null], cI (List.replicate 60 0), cL (List.replicate 60 0), cZ (List.replicate 60 0), cI (List.replicate 60 0), cI (List.replicate 5760 0), cI (List.replicate 400 0)]) d (kc - 6) (ks - 6400) _
  refine b_ContentStoreModel_init_51 (s0 := .ref (pre.length + 6)) trivial (seg_at0 pre _ _) ?_
  rw [seg_set0]
  refine b_ContentStoreModel_init_54 (n58 := 400) (kc1 := kc - 7) (ks1 := ks - 6800) trivial rfl (by decide) (by omega) (by omega) ?_
  rw [List.append_assoc, List.length_append]
  show Xw l D ρ m_ContentStoreModel_init 60 [(0, .ref pre.length), (1, .int r)] [.ref (pre.length + 7), .ref pre.length] (pre ++ [cO 6 [.int 0, .int 0, .int 0, .ref (pre.length + 1), .ref (pre.length + 2), .ref (pre.length + 3), .ref (pre.length + 4), .ref (pre.length + 5), .int 0, .ref (pre.length + 6), .null, .null, .int 0, .null, .null, .null, .null, .null, .null, .null, .null, .null, .int 0, .null], cI (List.replicate 60 0), cL (List.replicate 60 0), cZ (List.replicate 60 0), cI (List.replicate 60 0), cI (List.replicate 5760 0), cI (List.replicate 400 0), cI (List.replicate 400 0)]) d (kc - 7) (ks - 6800) _
  refine b_ContentStoreModel_init_60 (s0 := .ref (pre.length + 7)) trivial (seg_at0 pre _ _) ?_
  rw [seg_set0]
  refine b_ContentStoreModel_init_63 (n67 := 6400) (kc1 := kc - 8) (ks1 := ks - 13200) trivial rfl (by decide) (by omega) (by omega) ?_
  rw [List.append_assoc, List.length_append]
  show Xw l D ρ m_ContentStoreModel_init 69 [(0, .ref pre.length), (1, .int r)] [.ref (pre.length + 8), .ref pre.length] (pre ++ [cO 6 [.int 0, .int 0, .int 0, .ref (pre.length + 1), .ref (pre.length + 2), .ref (pre.length + 3), .ref (pre.length + 4), .ref (pre.length + 5), .int 0, .ref (pre.length + 6), .ref (pre.length + 7), .null, .int 0, .null, .null, .null, .null, .null, .null, .null, .null, .null, .int 0, .null], cI (List.replicate 60 0), cL (List.replicate 60 0), cZ (List.replicate 60 0), cI (List.replicate 60 0), cI (List.replicate 5760 0), cI (List.replicate 400 0), cI (List.replicate 400 0), cI (List.replicate 6400 0)]) d (kc - 8) (ks - 13200) _
  refine b_ContentStoreModel_init_69 (s0 := .ref (pre.length + 8)) trivial (seg_at0 pre _ _) ?_
  rw [seg_set0]
  refine b_ContentStoreModel_init_72 (n75 := 60) (kc1 := kc - 9) (ks1 := ks - 13260) trivial rfl (by decide) (by omega) (by omega) ?_
  rw [List.append_assoc, List.length_append]
  show Xw l D ρ m_ContentStoreModel_init 77 [(0, .ref pre.length), (1, .int r)] [.ref (pre.length + 9), .ref pre.length] (pre ++ [cO 6 [.int 0, .int 0, .int 0, .ref (pre.length + 1), .ref (pre.length + 2), .ref (pre.length + 3), .ref (pre.length + 4), .ref (pre.length + 5), .int 0, .ref (pre.length + 6), .ref (pre.length + 7), .ref (pre.length + 8), .int 0, .null, .null, .null, .null, .null, .null, .null, .null, .null, .int 0, .null], cI (List.replicate 60 0), cL (List.replicate 60 0), cZ (List.replicate 60 0), cI (List.replicate 60 0), cI (List.replicate 5760 0), cI (List.replicate 400 0), cI (List.replicate 400 0), cI (List.replicate 6400 0), cZ (List.replicate 60 0)]) d (kc - 9) (ks - 13260) _
  refine b_ContentStoreModel_init_77 (s0 := .ref (pre.length + 9)) trivial (seg_at0 pre _ _) ?_
  rw [seg_set0]
  refine b_ContentStoreModel_init_80 (n83 := 60) (kc1 := kc - 10) (ks1 := ks - 13320) trivial rfl (by decide) (by omega) (by omega) ?_
  rw [List.append_assoc, List.length_append]
  show Xw l D ρ m_ContentStoreModel_init 85 [(0, .ref pre.length), (1, .int r)] [.ref (pre.length + 10), .ref pre.length] (pre ++ [cO 6 [.int 0, .int 0, .int 0, .ref (pre.length + 1), .ref (pre.length + 2), .ref (pre.length + 3), .ref (pre.length + 4), .ref (pre.length + 5), .int 0, .ref (pre.length + 6), .ref (pre.length + 7), .ref (pre.length + 8), .int 0, .ref (pre.length + 9), .null, .null, .null, .null, .null, .null, .null, .null, .int 0, .null], cI (List.replicate 60 0), cL (List.replicate 60 0), cZ (List.replicate 60 0), cI (List.replicate 60 0), cI (List.replicate 5760 0), cI (List.replicate 400 0), cI (List.replicate 400 0), cI (List.replicate 6400 0), cZ (List.replicate 60 0), cI (List.replicate 60 0)]) d (kc - 10) (ks - 13320) _
  refine b_ContentStoreModel_init_85 (s0 := .ref (pre.length + 10)) trivial (seg_at0 pre _ _) ?_
  rw [seg_set0]
  refine b_ContentStoreModel_init_88 (n92 := 360) (kc1 := kc - 11) (ks1 := ks - 13680) trivial rfl (by decide) (by omega) (by omega) ?_
  rw [List.append_assoc, List.length_append]
  show Xw l D ρ m_ContentStoreModel_init 94 [(0, .ref pre.length), (1, .int r)] [.ref (pre.length + 11), .ref pre.length] (pre ++ [cO 6 [.int 0, .int 0, .int 0, .ref (pre.length + 1), .ref (pre.length + 2), .ref (pre.length + 3), .ref (pre.length + 4), .ref (pre.length + 5), .int 0, .ref (pre.length + 6), .ref (pre.length + 7), .ref (pre.length + 8), .int 0, .ref (pre.length + 9), .ref (pre.length + 10), .null, .null, .null, .null, .null, .null, .null, .int 0, .null], cI (List.replicate 60 0), cL (List.replicate 60 0), cZ (List.replicate 60 0), cI (List.replicate 60 0), cI (List.replicate 5760 0), cI (List.replicate 400 0), cI (List.replicate 400 0), cI (List.replicate 6400 0), cZ (List.replicate 60 0), cI (List.replicate 60 0), cI (List.replicate 360 0)]) d (kc - 11) (ks - 13680) _
  refine b_ContentStoreModel_init_94 (s0 := .ref (pre.length + 11)) trivial (seg_at0 pre _ _) ?_
  rw [seg_set0]
  refine b_ContentStoreModel_init_97 (n100 := 60) (kc1 := kc - 12) (ks1 := ks - 13740) trivial rfl (by decide) (by omega) (by omega) ?_
  rw [List.append_assoc, List.length_append]
  show Xw l D ρ m_ContentStoreModel_init 102 [(0, .ref pre.length), (1, .int r)] [.ref (pre.length + 12), .ref pre.length] (pre ++ [cO 6 [.int 0, .int 0, .int 0, .ref (pre.length + 1), .ref (pre.length + 2), .ref (pre.length + 3), .ref (pre.length + 4), .ref (pre.length + 5), .int 0, .ref (pre.length + 6), .ref (pre.length + 7), .ref (pre.length + 8), .int 0, .ref (pre.length + 9), .ref (pre.length + 10), .ref (pre.length + 11), .null, .null, .null, .null, .null, .null, .int 0, .null], cI (List.replicate 60 0), cL (List.replicate 60 0), cZ (List.replicate 60 0), cI (List.replicate 60 0), cI (List.replicate 5760 0), cI (List.replicate 400 0), cI (List.replicate 400 0), cI (List.replicate 6400 0), cZ (List.replicate 60 0), cI (List.replicate 60 0), cI (List.replicate 360 0), cI (List.replicate 60 0)]) d (kc - 12) (ks - 13740) _
  refine b_ContentStoreModel_init_102 (s0 := .ref (pre.length + 12)) trivial (seg_at0 pre _ _) ?_
  rw [seg_set0]
  refine b_ContentStoreModel_init_105 (n108 := 60) (kc1 := kc - 13) (ks1 := ks - 13800) trivial rfl (by decide) (by omega) (by omega) ?_
  rw [List.append_assoc, List.length_append]
  show Xw l D ρ m_ContentStoreModel_init 110 [(0, .ref pre.length), (1, .int r)] [.ref (pre.length + 13), .ref pre.length] (pre ++ [cO 6 [.int 0, .int 0, .int 0, .ref (pre.length + 1), .ref (pre.length + 2), .ref (pre.length + 3), .ref (pre.length + 4), .ref (pre.length + 5), .int 0, .ref (pre.length + 6), .ref (pre.length + 7), .ref (pre.length + 8), .int 0, .ref (pre.length + 9), .ref (pre.length + 10), .ref (pre.length + 11), .ref (pre.length + 12), .null, .null, .null, .null, .null, .int 0, .null], cI (List.replicate 60 0), cL (List.replicate 60 0), cZ (List.replicate 60 0), cI (List.replicate 60 0), cI (List.replicate 5760 0), cI (List.replicate 400 0), cI (List.replicate 400 0), cI (List.replicate 6400 0), cZ (List.replicate 60 0), cI (List.replicate 60 0), cI (List.replicate 360 0), cI (List.replicate 60 0), cL (List.replicate 60 0)]) d (kc - 13) (ks - 13800) _
  refine b_ContentStoreModel_init_110 (s0 := .ref (pre.length + 13)) trivial (seg_at0 pre _ _) ?_
  rw [seg_set0]
  refine b_ContentStoreModel_init_113 (n116 := 60) (kc1 := kc - 14) (ks1 := ks - 13860) trivial rfl (by decide) (by omega) (by omega) ?_
  rw [List.append_assoc, List.length_append]
  show Xw l D ρ m_ContentStoreModel_init 118 [(0, .ref pre.length), (1, .int r)] [.ref (pre.length + 14), .ref pre.length] (pre ++ [cO 6 [.int 0, .int 0, .int 0, .ref (pre.length + 1), .ref (pre.length + 2), .ref (pre.length + 3), .ref (pre.length + 4), .ref (pre.length + 5), .int 0, .ref (pre.length + 6), .ref (pre.length + 7), .ref (pre.length + 8), .int 0, .ref (pre.length + 9), .ref (pre.length + 10), .ref (pre.length + 11), .ref (pre.length + 12), .ref (pre.length + 13), .null, .null, .null, .null, .int 0, .null], cI (List.replicate 60 0), cL (List.replicate 60 0), cZ (List.replicate 60 0), cI (List.replicate 60 0), cI (List.replicate 5760 0), cI (List.replicate 400 0), cI (List.replicate 400 0), cI (List.replicate 6400 0), cZ (List.replicate 60 0), cI (List.replicate 60 0), cI (List.replicate 360 0), cI (List.replicate 60 0), cL (List.replicate 60 0), cI (List.replicate 60 0)]) d (kc - 14) (ks - 13860) _
  refine b_ContentStoreModel_init_118 (s0 := .ref (pre.length + 14)) trivial (seg_at0 pre _ _) ?_
  rw [seg_set0]
  refine b_ContentStoreModel_init_121 (n124 := 60) (kc1 := kc - 15) (ks1 := ks - 13920) trivial rfl (by decide) (by omega) (by omega) ?_
  rw [List.append_assoc, List.length_append]
  show Xw l D ρ m_ContentStoreModel_init 126 [(0, .ref pre.length), (1, .int r)] [.ref (pre.length + 15), .ref pre.length] (pre ++ [cO 6 [.int 0, .int 0, .int 0, .ref (pre.length + 1), .ref (pre.length + 2), .ref (pre.length + 3), .ref (pre.length + 4), .ref (pre.length + 5), .int 0, .ref (pre.length + 6), .ref (pre.length + 7), .ref (pre.length + 8), .int 0, .ref (pre.length + 9), .ref (pre.length + 10), .ref (pre.length + 11), .ref (pre.length + 12), .ref (pre.length + 13), .ref (pre.length + 14), .null, .null, .null, .int 0, .null], cI (List.replicate 60 0), cL (List.replicate 60 0), cZ (List.replicate 60 0), cI (List.replicate 60 0), cI (List.replicate 5760 0), cI (List.replicate 400 0), cI (List.replicate 400 0), cI (List.replicate 6400 0), cZ (List.replicate 60 0), cI (List.replicate 60 0), cI (List.replicate 360 0), cI (List.replicate 60 0), cL (List.replicate 60 0), cI (List.replicate 60 0), cZ (List.replicate 60 0)]) d (kc - 15) (ks - 13920) _
  refine b_ContentStoreModel_init_126 (s0 := .ref (pre.length + 15)) trivial (seg_at0 pre _ _) ?_
  rw [seg_set0]
  refine b_ContentStoreModel_init_129 (n133 := 5760) (kc1 := kc - 16) (ks1 := ks - 19680) trivial rfl (by decide) (by omega) (by omega) ?_
  rw [List.append_assoc, List.length_append]
  show Xw l D ρ m_ContentStoreModel_init 135 [(0, .ref pre.length), (1, .int r)] [.ref (pre.length + 16), .ref pre.length] (pre ++ [cO 6 [.int 0, .int 0, .int 0, .ref (pre.length + 1), .ref (pre.length + 2), .ref (pre.length + 3), .ref (pre.length + 4), .ref (pre.length + 5), .int 0, .ref (pre.length + 6), .ref (pre.length + 7), .ref (pre.length + 8), .int 0, .ref (pre.length + 9), .ref (pre.length + 10), .ref (pre.length + 11), .ref (pre.length + 12), .ref (pre.length + 13), .ref (pre.length + 14), .ref (pre.length + 15), .null, .null, .int 0, .null], cI (List.replicate 60 0), cL (List.replicate 60 0), cZ (List.replicate 60 0), cI (List.replicate 60 0), cI (List.replicate 5760 0), cI (List.replicate 400 0), cI (List.replicate 400 0), cI (List.replicate 6400 0), cZ (List.replicate 60 0), cI (List.replicate 60 0), cI (List.replicate 360 0), cI (List.replicate 60 0), cL (List.replicate 60 0), cI (List.replicate 60 0), cZ (List.replicate 60 0), cI (List.replicate 5760 0)]) d (kc - 16) (ks - 19680) _
  refine b_ContentStoreModel_init_135 (s0 := .ref (pre.length + 16)) trivial (seg_at0 pre _ _) ?_
  rw [seg_set0]
  refine b_ContentStoreModel_init_138 (n141 := 20) (kc1 := kc - 17) (ks1 := ks - 19700) trivial rfl (by decide) (by omega) (by omega) ?_
  rw [List.append_assoc, List.length_append]
  show Xw l D ρ m_ContentStoreModel_init 143 [(0, .ref pre.length), (1, .int r)] [.ref (pre.length + 17), .ref pre.length] (pre ++ [cO 6 [.int 0, .int 0, .int 0, .ref (pre.length + 1), .ref (pre.length + 2), .ref (pre.length + 3), .ref (pre.length + 4), .ref (pre.length + 5), .int 0, .ref (pre.length + 6), .ref (pre.length + 7), .ref (pre.length + 8), .int 0, .ref (pre.length + 9), .ref (pre.length + 10), .ref (pre.length + 11), .ref (pre.length + 12), .ref (pre.length + 13), .ref (pre.length + 14), .ref (pre.length + 15), .ref (pre.length + 16), .null, .int 0, .null], cI (List.replicate 60 0), cL (List.replicate 60 0), cZ (List.replicate 60 0), cI (List.replicate 60 0), cI (List.replicate 5760 0), cI (List.replicate 400 0), cI (List.replicate 400 0), cI (List.replicate 6400 0), cZ (List.replicate 60 0), cI (List.replicate 60 0), cI (List.replicate 360 0), cI (List.replicate 60 0), cL (List.replicate 60 0), cI (List.replicate 60 0), cZ (List.replicate 60 0), cI (List.replicate 5760 0), cI (List.replicate 20 0)]) d (kc - 17) (ks - 19700) _
  refine b_ContentStoreModel_init_143 (s0 := .ref (pre.length + 17)) trivial (seg_at0 pre _ _) ?_
  rw [seg_set0]
  refine b_ContentStoreModel_init_146 (n149 := 96) (kc1 := kc - 18) (ks1 := ks - 19796) trivial rfl (by decide) (by omega) (by omega) ?_
  rw [List.append_assoc, List.length_append]
  show Xw l D ρ m_ContentStoreModel_init 151 [(0, .ref pre.length), (1, .int r)] [.ref (pre.length + 18), .ref pre.length] (pre ++ [cO 6 [.int 0, .int 0, .int 0, .ref (pre.length + 1), .ref (pre.length + 2), .ref (pre.length + 3), .ref (pre.length + 4), .ref (pre.length + 5), .int 0, .ref (pre.length + 6), .ref (pre.length + 7), .ref (pre.length + 8), .int 0, .ref (pre.length + 9), .ref (pre.length + 10), .ref (pre.length + 11), .ref (pre.length + 12), .ref (pre.length + 13), .ref (pre.length + 14), .ref (pre.length + 15), .ref (pre.length + 16), .ref (pre.length + 17), .int 0, .null], cI (List.replicate 60 0), cL (List.replicate 60 0), cZ (List.replicate 60 0), cI (List.replicate 60 0), cI (List.replicate 5760 0), cI (List.replicate 400 0), cI (List.replicate 400 0), cI (List.replicate 6400 0), cZ (List.replicate 60 0), cI (List.replicate 60 0), cI (List.replicate 360 0), cI (List.replicate 60 0), cL (List.replicate 60 0), cI (List.replicate 60 0), cZ (List.replicate 60 0), cI (List.replicate 5760 0), cI (List.replicate 20 0), cI (List.replicate 96 0)]) d (kc - 18) (ks - 19796) _
  refine b_ContentStoreModel_init_151 (s0 := .ref (pre.length + 18)) trivial (seg_at0 pre _ _) ?_
  rw [seg_set0]
  have fin : ∀ x : Int32, x = nI (rmN r) → Xw l D ρ m_ContentStoreModel_init 177 [(0, .ref pre.length)] [.int x, .ref pre.length] (pre ++ [cO 6 [.int 0, .int 0, .int 0, .ref (pre.length + 1), .ref (pre.length + 2), .ref (pre.length + 3), .ref (pre.length + 4), .ref (pre.length + 5), .int 0, .ref (pre.length + 6), .ref (pre.length + 7), .ref (pre.length + 8), .int 0, .ref (pre.length + 9), .ref (pre.length + 10), .ref (pre.length + 11), .ref (pre.length + 12), .ref (pre.length + 13), .ref (pre.length + 14), .ref (pre.length + 15), .ref (pre.length + 16), .ref (pre.length + 17), .int 0, .ref (pre.length + 18)], cI (List.replicate 60 0), cL (List.replicate 60 0), cZ (List.replicate 60 0), cI (List.replicate 60 0), cI (List.replicate 5760 0), cI (List.replicate 400 0), cI (List.replicate 400 0), cI (List.replicate 6400 0), cZ (List.replicate 60 0), cI (List.replicate 60 0), cI (List.replicate 360 0), cI (List.replicate 60 0), cL (List.replicate 60 0), cI (List.replicate 60 0), cZ (List.replicate 60 0), cI (List.replicate 5760 0), cI (List.replicate 20 0), cI (List.replicate 96 0)]) d (kc - 18) (ks - 19796) (fun r' N => r' = none ∧ N = mH pre [] (sM0 (rmN r))) := by
    intro x hx
    subst hx
    refine b_ContentStoreModel_init_177 (seg_at0 pre _ _) ?_
    rw [seg_set0]
    exact c_MInit2
  refine b_ContentStoreModel_init_154 trivial (fun c => b_ContentStoreModel_init_163 (fun c2 => b_ContentStoreModel_init_176 (fin r ?_)) (fun c2 => b_ContentStoreModel_init_170 (fin 2000 ?_))) (fun c => b_ContentStoreModel_init_159 (fin 0 ?_))
  · obtain ⟨j, h3, rfl⟩ := nI_of (Int32.not_lt.mpr c)
    rw [rmN, if_neg (Int32.not_lt.mpr c), if_neg (Int32.not_lt.mpr c2), nI_clamp h3]
  · rw [rmN, if_neg (Int32.not_lt.mpr c), if_pos (Int32.not_le.mp c2)]
    rfl
  · rw [rmN, if_pos (Int32.not_le.mp c)]
    rfl
theorem rep_at {α : Type} {a : α} {n i : Nat} (h : i < n) : (List.replicate n a)[i]? = some a := by rw [List.getElem?_replicate, if_pos h]
theorem MR_0 (rm : Nat) (pb : Nat → List Int32) : MR 0 rm [] [] pb [] (List.replicate 20 (-1)) 0 (sM0 rm) := by
  refine ⟨fun _ => 0, fun _ => 0, ⟨rfl, ⟨List.length_replicate, List.length_replicate, List.length_replicate, List.length_replicate, List.length_replicate⟩, fun i p h => absurd h (by simp), fun i _ h => rep_at h⟩, ⟨Nat.le_refl _, ⟨List.length_replicate, List.length_replicate, List.length_replicate⟩, fun x hx => absurd hx (by simp), List.Pairwise.nil, fun x hx => absurd hx (by simp), fun i hi _ => rep_at hi⟩, ⟨rfl, ⟨List.length_replicate, List.length_replicate, List.length_replicate, List.length_replicate, List.length_replicate, List.length_replicate, List.length_replicate, List.length_replicate⟩, fun i b h => absurd h (by simp), fun i _ h => ⟨rep_at h, rep_at h, rep_at h⟩⟩, rfl, rfl, rfl, List.length_replicate⟩
end MINIT
