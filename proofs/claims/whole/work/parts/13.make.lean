/-! WHAT IS MADE AND WRITTEN: puts take bytes, parts and puts are made, the list grows -/
theorem set_same {α : Type} {M : List α} {i : Nat} {c : α} (h : M[i]? = some c) : M.set i c = M := by
  apply List.ext_getElem?
  intro j
  by_cases hij : i = j
  · subst hij
    rw [List.getElem?_set_self (List.getElem?_eq_some_iff.mp h).1, h]
  · rw [List.getElem?_set_ne hij]
theorem set4 {α : Type} (M : List α) {b i : Nat} (hbi : b ≠ i) (u v X Y : α) : (((M.set b u).set i v).set b X).set i Y = (M.set b X).set i Y := by
  rw [List.set_comm v X hbi.symm, List.set_set, List.set_set]
theorem app_set {α : Type} (bs : List α) (z : Nat) (v x : α) : (bs ++ List.replicate (z + 1) x).set bs.length v = (bs ++ [v]) ++ List.replicate z x := by
  rw [List.set_append_right _ _ (Nat.le_refl _), Nat.sub_self, List.replicate_succ, List.set_cons_zero, List.append_assoc]
  rfl
def tbyte (w : Int64) (k : Nat) : Int32 := (((w.toUInt64 >>> ((8 * nI k).toInt64.toUInt64 &&& Int64.toUInt64 63)).toInt64).toInt32) &&& 255
/-- the lowest n bytes, the highest of these first -/
def tb (w : Int64) : Nat → List Int32
  | 0 => []
  | n + 1 => tbyte w n :: tb w n
theorem tb_len (w : Int64) : ∀ n, (tb w n).length = n
  | 0 => rfl
  | n + 1 => by rw [tb, List.length_cons, tb_len w n]
section MAKE
variable {l : Launch} {D : va_G} {ρ : xR} {d kc ks : Nat}
theorem c_takeLoop {i b : Nat} {w x : Int64} {oo : Int32} (hib : b ≠ i) : ∀ (n : Nat) (bs : List Int32) (z : Nat) (M : List xCl), M[i]? = some (cO 3 [.ref b, .long x, .int (nI bs.length), .int oo]) → M[b]? = some (cI (bs ++ List.replicate z 0)) → n ≤ z → bs.length + z ≤ 96 →
    Xw l D ρ m_Put_take 5 [(0, .ref i), (1, .long w), (4, .int (nI n - 1))] [] M d kc ks (fun r N => r = none ∧ N = (M.set b (cI ((bs ++ tb w n) ++ List.replicate (z - n) 0))).set i (cO 3 [.ref b, .long x, .int (nI (bs.length + n)), .int oo])) := by
  intro n
  induction n with
  | zero =>
    intro bs z M h1 h2 hn hz
    refine b_Put_take_5 (fun _ => b_Put_take_59 ⟨rfl, ?_⟩) (fun c => absurd (by decide) c)
    rw [tb, List.append_nil, Nat.sub_zero, set_same h2, Nat.add_zero, set_same h1]
  | succ n ih =>
    intro bs z M h1 h2 hn hz
    obtain ⟨z, rfl⟩ : ∃ z', z = z' + 1 := ⟨z - 1, by omega⟩
    rw [nI_pred]
    refine b_Put_take_5 (fun c => absurd c (nI_pos (by omega))) (fun _ => ?_)
    have hlen : (bs ++ List.replicate (z + 1) (0 : Int32)).length = bs.length + (z + 1) := by simp
    refine b_Put_take_10 h1 h2 (fun c => absurd c (nI_ge (by omega) (by omega))) (fun _ => ?_)
    refine b_Put_take_22 h1 h2 rfl (by omega) (by omega) ?_
    rw [app_set, show nI bs.length + 1 = nI (bs ++ [tbyte w n]).length by rw [nI_1, List.length_append]; rfl, show nI n + (-1) = nI n - 1 from (Int32.sub_eq_add_neg _ _).symm]
    have hM1 := ih (bs ++ [tbyte w n]) z ((M.set b (cI ((bs ++ [tbyte w n]) ++ List.replicate z 0))).set i (cO 3 [.ref b, .long x, .int (nI (bs ++ [tbyte w n]).length), .int oo])) (xset_eq (xset_ne h1 h2 rfl)) (xset_at (xset_eq h2) hib.symm) (by omega) (by rw [List.length_append, List.length_singleton]; omega)
    refine x_wk (Nat.le_refl _) (Nat.le_refl _) (Nat.le_refl _) (fun r N h => ?_) hM1
    obtain ⟨h3, h4⟩ := h
    refine ⟨h3, ?_⟩
    have e : bs ++ [tbyte w n] ++ tb w n = bs ++ tb w (n + 1) := by rw [List.append_assoc]; rfl
    rw [h4, set4 _ hib, e, List.length_append, List.length_singleton, show z + 1 - (n + 1) = z - n by omega, show bs.length + 1 + n = bs.length + (n + 1) by omega]
theorem c_take {M : List xCl} {i b n z : Nat} {w x : Int64} {oo : Int32} {bs : List Int32} (hib : b ≠ i) (h1 : M[i]? = some (cO 3 [.ref b, .long x, .int (nI bs.length), .int oo])) (h2 : M[b]? = some (cI (bs ++ List.replicate z 0))) (hn : n ≤ z) (hz : bs.length + z ≤ 96) :
    Xw l D ρ m_Put_take 0 [(0, .ref i), (1, .long w), (3, .int (nI n))] [] M d kc ks (fun r N => r = none ∧ N = (M.set b (cI ((bs ++ tb w n) ++ List.replicate (z - n) 0))).set i (cO 3 [.ref b, .long x, .int (nI (bs.length + n)), .int oo])) :=
  b_Put_take_0 (c_takeLoop hib n bs z M h1 h2 hn hz)
theorem nI_max0 (n : Nat) (h : n < 2 ^ 31) : (if (0 : Int32) < nI n then nI n else 0) = nI n := by
  by_cases hn : n = 0
  · subst hn; rfl
  · rw [if_pos (by have := nI_lt (a := 0) (b := n) (by omega) h; exact this)]
theorem c_PutInit {M : List xCl} {i n : Nat} {x : Int64} (h1 : M[i]? = some (cO 3 [.null, .long 0, .int 0, .int 0])) (hn : n ≤ 96) (hd : 1 ≤ d) (hkc : 1 ≤ kc) (hks : 96 ≤ ks) :
    Xw l D ρ m_Put_init 0 [(0, .ref i), (1, .int (nI n)), (2, .long x)] [] M d kc ks (fun r N => r = none ∧ N = (M ++ [cI (List.replicate n 0)]).set i (cO 3 [.ref M.length, .long x, .int 0, .int 1])) := by
  refine b_Put_init_0 (cd1 := 0) (ckc1 := 0) (cks1 := 0) (ckc2 := kc) (cks2 := ks) (by omega) (by omega) (by omega) (by omega) c_max (fun r N h => ?_)
  obtain ⟨rfl, rfl⟩ := h
  refine b_Put_init_10 (n10 := n) (kc1 := 0) (ks1 := 0) (nI_max0 n (by omega)) (by omega) (by omega) (by omega) (xpush_at h1) (xset_eq (xpush_at h1)) ⟨rfl, ?_⟩
  rw [List.set_set, List.set_set]
theorem c_PartLoop {i q p j n : Nat} {a : List Int32} {h0 : Int32} (hn : (chunk a j).length = n) (hl : a.length ≤ 100000) (hj : j ≤ 100000) : ∀ (m k : Nat) (M : List xCl), k + m = n → M[i]? = some (cO 5 [.ref p, .int h0]) → M[q]? = some (cI a) → M[p]? = some (cI ((chunk a j).take k ++ List.replicate m 0)) → p ≠ q →
    Xw l D ρ m_Part_init 20 [(0, .ref i), (1, .ref q), (2, .int (nI j)), (3, .int (nI n)), (4, .int (nI k))] [] M d kc ks (fun r N => r = none ∧ N = M.set p (cI (chunk a j))) := by
  have hn16 : n ≤ 16 := by rw [← hn, chunk_len]; omega
  intro m
  induction m with
  | zero =>
    intro k M hk h1 h2 h3 hpq
    refine b_Part_init_20 (fun _ => b_Part_init_45 ⟨rfl, ?_⟩) (fun c => absurd (nI_le (by omega) (by omega)) c)
    rw [List.replicate_zero, List.append_nil, List.take_of_length_le (by omega)] at h3
    exact (set_same h3).symm
  | succ m ih =>
    intro k M hk h1 h2 h3 hpq
    refine b_Part_init_20 (fun c => absurd c (nI_ge (by omega) (by omega))) (fun _ => ?_)
    have hkl : k < (chunk a j).length := by omega
    have htk : ((chunk a j).take k).length = k := by rw [List.length_take]; omega
    refine b_Part_init_26 h1 h2 (nI_add j k) (chunk_at hkl) (by omega) h3 rfl (by rw [List.length_append, htk, List.length_replicate]; omega) (by rw [List.length_append, htk, List.length_replicate]; omega) ?_
    have hset : ((chunk a j).take k ++ List.replicate (m + 1) (0 : Int32)).set k (chunk a j)[k] = (chunk a j).take (k + 1) ++ List.replicate m 0 := by
      have := app_set ((chunk a j).take k) m (chunk a j)[k] (0 : Int32)
      rw [htk] at this
      rw [this, List.take_succ_eq_append_getElem hkl]
    rw [hset, nI_1]
    have hM1 := ih (k + 1) (M.set p (cI ((chunk a j).take (k + 1) ++ List.replicate m 0))) (by omega) (xset_ne h1 h3 rfl) (xset_at h2 hpq) (xset_eq h3) hpq
    refine x_wk (Nat.le_refl _) (Nat.le_refl _) (Nat.le_refl _) (fun r N h => ?_) hM1
    exact ⟨h.1, by rw [h.2, List.set_set]⟩
theorem c_PartInit {M : List xCl} {i q j : Nat} {a : List Int32} (h1 : M[i]? = some (cO 5 [.null, .int 0])) (h2 : M[q]? = some (cI a)) (hl : a.length ≤ 100000) (hj : j ≤ 100000) (hd : 2 ≤ d) (hkc : 1 ≤ kc) (hks : 16 ≤ ks) :
    Xw l D ρ m_Part_init 0 [(0, .ref i), (1, .ref q), (2, .int (nI j))] [] M d kc ks (fun r N => r = none ∧ N = (M ++ [cI (chunk a j)]).set i (cO 5 [.ref M.length, .int 0])) := by
  have hn16 : (chunk a j).length ≤ 16 := by rw [chunk_len]; omega
  refine b_Part_init_0 (cd1 := 1) (ckc1 := 0) (cks1 := 0) (ckc2 := kc) (cks2 := ks) trivial (by omega) (by omega) (by omega) (by omega) (c_partLength h2 hl hj (by omega)) (fun r N h => ?_)
  obtain ⟨rfl, rfl⟩ := h
  refine b_Part_init_9 (n12 := (chunk a j).length) (kc1 := 0) (ks1 := 0) rfl (by omega) (by omega) (by omega) (xpush_at h1) ?_
  have hq : q < N.length := (List.getElem?_eq_some_iff.mp h2).1
  have hi : i < N.length := (List.getElem?_eq_some_iff.mp h1).1
  have hloop := c_PartLoop (l := l) (D := D) (ρ := ρ) (d := d) (kc := 0) (ks := 0) (i := i) (q := q) (p := N.length) (j := j) (n := (chunk a j).length) (a := a) (h0 := 0) rfl hl hj (chunk a j).length 0 ((N ++ [cI (List.replicate (chunk a j).length 0)]).set i (cO 5 [.ref N.length, .int 0])) (Nat.zero_add _) (xset_eq (xpush_at h1)) (xset_ne (xpush_at h2) (xpush_at h1) rfl) (by rw [List.take_zero, List.nil_append]; exact xset_at xpush_last (by omega)) (by omega)
  refine x_wk (Nat.le_refl _) (Nat.le_refl _) (Nat.le_refl _) (fun r N' h => ⟨h.1, ?_⟩) hloop
  rw [h.2, List.set_comm _ _ (show i ≠ N.length by omega), List.set_append_right _ _ (Nat.le_refl _), Nat.sub_self]
  rfl
end MAKE
