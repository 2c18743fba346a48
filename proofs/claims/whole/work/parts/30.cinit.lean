/-! THE CLASS'S CONSTRUCTOR -/
def rmN (r : Int32) : Nat := if r < 0 then 0 else if 2000 < r then 2000 else r.toNatClampNeg
theorem rmN_le (r : Int32) : rmN r ≤ 2000 := by
  unfold rmN
  split
  · decide
  · split
    · decide
    · rename_i h1 h2
      obtain ⟨j, h3, rfl⟩ := nI_of h1
      rw [nI_clamp h3]
      rcases Nat.lt_or_ge 2000 j with z | z
      · exact absurd (nI_lt z h3) h2
      · exact z
theorem rmN_class (r : Int32) : (if (0 : Int32) < (if r < 2000 then r else 2000) then (if r < 2000 then r else 2000) else 0) = nI (rmN r) := by
  unfold rmN
  by_cases h1 : r < 0
  · rw [if_pos h1, if_pos (Int32.lt_trans h1 (by decide)), if_neg (Int32.not_lt.mpr (Int32.le_of_lt h1))]
    rfl
  · rw [if_neg h1]
    obtain ⟨j, h3, rfl⟩ := nI_of h1
    rw [nI_clamp h3]
    rcases Nat.lt_trichotomy j 2000 with z | z | z
    · rw [if_pos (show nI j < 2000 from nI_lt z (by decide)), if_neg (show ¬ (2000 : Int32) < nI j from nI_nlt (Nat.le_of_lt z) (by decide)), nI_max0 j h3]
    · subst z
      decide
    · rw [if_neg (show ¬ nI j < 2000 from nI_nlt (Nat.le_of_lt z) h3), if_pos (show (2000 : Int32) < nI j from nI_lt z h3)]
      decide
def cN0 (rm : Nat) : List xCl := [cO 0 [.ref 1, .ref 3, .ref 4, .ref 5, .int 0, .int 0, .int 0, .int 0], cO 1 [.int (nI rm), .ref 2, .int 0], cO 2 [.retAddr 1, .int 0, .int 0], cR 0 (List.replicate 60 none), cR 1 (List.replicate 60 none), cI (List.replicate 20 (-1))]
section CINIT
variable {l : Launch} {D : va_G} {ρ : xR} {d kc ks : Nat}
theorem c_CInit {r : Int32} (hd : 5 ≤ d) (hkc : 5 ≤ kc) (hks : 200 ≤ ks) :
    Xw l D ρ m_ContentStore_init 0 [(0, .ref 0), (1, .int r)] [] [cO 0 [.null, .null, .null, .null, .int 0, .int 0, .int 0, .int 0]] d kc ks (fun r' N => r' = none ∧ N = cN0 (rmN r)) := by
  refine b_ContentStore_init_0 (kc1 := kc - 1) (ks1 := ks - 3) (by omega) (by omega) (by omega) ?_
  refine b_ContentStore_init_8 (cd1 := 0) (ckc1 := 0) (cks1 := 0) (ckc2 := kc - 1) (cks2 := ks - 3) trivial trivial (by omega) (by omega) (by omega) c_min (fun r' N h => ?_)
  obtain ⟨rfl, rfl⟩ := h
  refine b_ContentStore_init_17 (cd1 := 0) (ckc1 := 0) (cks1 := 0) (ckc2 := kc - 1) (cks2 := ks - 3) trivial trivial trivial (by omega) (by omega) (by omega) c_max (fun r' N h => ?_)
  obtain ⟨rfl, rfl⟩ := h
  rw [rmN_class]
  refine b_ContentStore_init_20 (cd1 := 4) (ckc1 := 1) (cks1 := 3) (ckc2 := kc - 2) (cks2 := ks - 6) (Q1 := fun r' N => r' = none ∧ N = [cO 0 [.null, .null, .null, .null, .int 0, .int 0, .int 0, .int 0], cO 1 [.int (nI (rmN r)), .ref 2, .int 0], cO 2 [.retAddr 1, .int 0, .int 0]]) trivial trivial (by omega) (by omega) (by omega) ?_ (fun r' N h => ?_)
  · refine b_Shelf_init_0 (f6_0 := 0) (f6_1 := .null) (f6_2 := 0) (kc1 := 0) (ks1 := 0) (cd1 := 3) (ckc1 := 0) (cks1 := 0) (ckc2 := 0) (cks2 := 0) (by omega) rfl (by omega) (by omega) (by omega) (by omega) (by omega) (c_listInit (f0 := .null) (f1 := 0) (f2 := 0) rfl (by omega)) (fun r' N h => ?_)
    obtain ⟨rfl, rfl⟩ := h
    exact b_Shelf_init_17 (s0 := .ref 2) (f17_0 := nI (rmN r)) (f17_1 := .null) (f17_2 := 0) trivial rfl ⟨rfl, rfl⟩
  obtain ⟨rfl, rfl⟩ := h
  refine b_ContentStore_init_23 (s0 := .ref 1) trivial rfl ?_
  refine b_ContentStore_init_26 (n29 := 60) (kc1 := kc - 3) (ks1 := ks - 66) trivial rfl (by decide) (by omega) (by omega) ?_
  refine b_ContentStore_init_32 (s0 := .ref 3) trivial rfl ?_
  refine b_ContentStore_init_35 (n38 := 60) (kc1 := kc - 4) (ks1 := ks - 126) trivial rfl (by decide) (by omega) (by omega) ?_
  refine b_ContentStore_init_41 (s0 := .ref 4) trivial rfl ?_
  refine b_ContentStore_init_44 (n47 := 20) (kc1 := kc - 5) (ks1 := ks - 146) trivial rfl (by decide) (by omega) (by omega) ?_
  refine b_ContentStore_init_49 (s0 := .ref 5) trivial rfl ?_
  refine b_ContentStore_init_52 ?_
  have loop : ∀ (n k : Nat), k + n = 20 → Xw l D ρ m_ContentStore_init 54 [(0, .ref 0), (2, .int (nI k))] [] [cO 0 [.ref 1, .ref 3, .ref 4, .ref 5, .int 0, .int 0, .int 0, .int 0], cO 1 [.int (nI (rmN r)), .ref 2, .int 0], cO 2 [.retAddr 1, .int 0, .int 0], cR 0 (List.replicate 60 none), cR 1 (List.replicate 60 none), cI (List.replicate k (-1) ++ List.replicate n 0)] d (kc - 5) (ks - 146) (fun r' N => r' = none ∧ N = cN0 (rmN r)) := by
    intro n
    induction n with
    | zero =>
      intro k hk
      obtain rfl : k = 20 := by omega
      exact b_ContentStore_init_54 rfl rfl (fun _ => b_ContentStore_init_76 ⟨rfl, rfl⟩) (fun c => absurd (by decide) c)
    | succ n ih =>
      intro k hk
      have hl : (List.replicate k (-1 : Int32) ++ List.replicate (n + 1) 0).length = 20 := by rw [List.length_append, List.length_replicate, List.length_replicate]; omega
      refine b_ContentStore_init_54 rfl rfl (fun c => absurd c (by rw [hl]; exact nI_ge (by omega) (by decide))) (fun _ => ?_)
      refine b_ContentStore_init_63 rfl rfl rfl (by rw [hl]; omega) (by rw [hl]; decide) ?_
      have hset : (List.replicate k (-1 : Int32) ++ List.replicate (n + 1) 0).set k (-1) = List.replicate (k + 1) (-1) ++ List.replicate n 0 := by
        have := app_set (List.replicate k (-1 : Int32)) n (-1) 0
        rw [List.length_replicate] at this
        rw [this, List.replicate_succ']
      rw [nI_1, hset]
      exact ih (k + 1) (by omega)
  exact loop 20 0 rfl
theorem CI_0 (rm : Nat) (hr : rm ≤ 2000) (m : Nat) : CI (cN0 rm) (fun j => if j = 5 then (7, 0) else (0, 0)) m [] 0 rm [] [] (fun _ => []) [] (List.replicate 20 (-1)) 0 := by
  refine ⟨⟨⟨hr, Nat.zero_le _, List.nodup_nil, fun x hx => absurd hx (by simp)⟩, ⟨by decide, fun p hp => absurd hp (by simp), by decide⟩, ⟨by decide, fun b hb => absurd hb (by simp)⟩, by decide, by decide⟩, 1, 3, 4, 5, [], [], rfl, ⟨rfl, by decide, rfl, fun i a p h => absurd h (by simp)⟩, ⟨rfl, by decide, rfl, fun i a p h => absurd h (by simp)⟩, ⟨rfl, rfl⟩, ⟨hr, Nat.zero_le _, List.nodup_nil, 2, rfl, ⟨by decide, .retAddr 1, 0, rfl, Or.inl ⟨rfl, rfl⟩⟩, fun x hx => absurd hx (by simp)⟩, fun i c h => absurd h (by simp)⟩
end CINIT
