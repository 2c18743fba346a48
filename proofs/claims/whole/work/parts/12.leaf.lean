/-! LEAVES: the library's little methods, puts, parts, sums -/
def sumStep (s v : Int32) : Int32 := (((s ^^^ v) <<< (5 &&& 31)) ||| (((s ^^^ v).toUInt32 >>> ((27 : Int32).toUInt32 &&& Int32.toUInt32 31)).toInt32)) * (-2048144777)
def sumL : Int32 → List Int32 → Int32
  | s, [] => s
  | s, v :: t => sumL (sumStep s v) t
def digStep (x : Int64) (v : Int32) : Int64 := ((x ^^^ v.toInt64) * 1099511628211) ^^^ ((((x ^^^ v.toInt64) * 1099511628211).toUInt64 >>> ((29 : Int32).toInt64.toUInt64 &&& Int64.toUInt64 63)).toInt64)
def digL : Int64 → List Int32 → Int64
  | s, [] => s
  | s, v :: t => digL (digStep s v) t
/-- sixteen bytes and less, from a place on -/
def chunk (a : List Int32) (j : Nat) : List Int32 := (a.drop j).take 16
def i2b (b : Bool) : Int32 := if b then 1 else 0
theorem chunk_len (a : List Int32) (j : Nat) : (chunk a j).length = min 16 (a.length - j) := by simp [chunk]
theorem chunk_at {a : List Int32} {j k : Nat} (hk : k < (chunk a j).length) : a[j + k]? = some (chunk a j)[k] := by
  have h1 : (chunk a j)[k]? = some (chunk a j)[k] := List.getElem?_eq_getElem hk
  rw [← h1]
  have h2 : k < 16 := by rw [chunk_len] at hk; omega
  simp [chunk, List.getElem?_take, h2]
theorem i2b_nar (b : Bool) : narrow .boolean (.int (i2b b)) = .int (i2b b) := by cases b <;> decide
section LEAF
variable {l : Launch} {D : va_G} {ρ : xR} {M : List xCl} {d kc ks : Nat}
theorem c_max {a b : Int32} : Xw l D ρ m_Math_max 0 [(0, .int a), (1, .int b)] [] M d kc ks (fun r N => r = some (.int (if a < b then b else a)) ∧ N = M) := by
  refine b_Math_max_0 (fun h => ?_) (fun h => ?_)
  · exact b_Math_max_9 (b_Math_max_10 ⟨by rw [if_pos h], rfl⟩)
  · exact b_Math_max_5 (b_Math_max_10 ⟨by rw [if_neg h], rfl⟩)
theorem c_min {a b : Int32} : Xw l D ρ m_Math_min 0 [(0, .int a), (1, .int b)] [] M d kc ks (fun r N => r = some (.int (if b < a then b else a)) ∧ N = M) := by
  refine b_Math_min_0 (fun h => ?_) (fun h => ?_)
  · exact b_Math_min_9 (b_Math_min_10 ⟨by rw [if_pos h], rfl⟩)
  · exact b_Math_min_5 (b_Math_min_10 ⟨by rw [if_neg h], rfl⟩)
theorem c_lacking {i b h o : Nat} {x : Int64} {oo : Int32} {a : List Int32} (h1 : M[i]? = some (cO 3 [.ref b, .long x, .int (nI h), .int oo])) (h2 : M[b]? = some (cI a)) (hh : h ≤ a.length) : Xw l D ρ m_Put_lacking 0 [(0, .ref i)] [] M d kc ks (fun r N => r = some (.int (nI (a.length - h))) ∧ N = M) :=
  b_Put_lacking_0 h1 h2 ⟨by rw [pk_sub hh], rfl⟩
theorem lg_cmp0 (x : Int64) : lg_cmp x 0 = 0 ↔ x = 0 := by
  unfold lg_cmp
  constructor
  · intro h
    by_cases h1 : x > 0
    · rw [if_pos h1] at h; exact absurd h (by decide)
    · rw [if_neg h1] at h
      by_cases h2 : x = 0
      · exact h2
      · rw [if_neg h2] at h; exact absurd h (by decide)
  · intro h
    subst h
    decide
theorem c_differs {i b h : Nat} {x : Int64} {oo : Int32} {a : List Int32} (h1 : M[i]? = some (cO 3 [.ref b, .long x, .int (nI h), .int oo])) (h2 : M[b]? = some (cI a)) (hh : h ≤ a.length) (ha : a.length ≤ 96) : Xw l D ρ m_Put_differs 0 [(0, .ref i)] [] M d kc ks (fun r N => r = some (.int (i2b (decide (¬ (h = a.length ∧ x = 0))))) ∧ N = M) := by
  refine b_Put_differs_0 h1 h2 (fun c => ?_) (fun c => ?_)
  · refine b_Put_differs_21 (b_Put_differs_26 ⟨?_, rfl⟩ (by decide))
    have : ¬ (h = a.length ∧ x = 0) := fun q => c (by rw [q.1])
    simp [this, i2b]
  · have hq : h = a.length := (nI_eq (by omega) (by omega)).mp c
    refine b_Put_differs_12 h1 (fun c2 => ?_) (fun c2 => ?_)
    · refine b_Put_differs_25 (b_Put_differs_26 ⟨?_, rfl⟩ (by decide))
      have hx : x = 0 := (lg_cmp0 x).mp c2
      simp [hq, hx, i2b]
    · refine b_Put_differs_21 (b_Put_differs_26 ⟨?_, rfl⟩ (by decide))
      have hx : ¬ x = 0 := fun q => c2 ((lg_cmp0 x).mpr q)
      simp [hx, i2b]
theorem c_sumLoop {i : Nat} {a : List Int32} (hM : M[i]? = some (cI a)) (hl : a.length ≤ 100000000) : ∀ (n j : Nat) (s : Int32), j + n = a.length → Xw l D ρ m_ContentStore_sumBehind 4 [(1, .ref i), (2, .int s), (3, .int (nI j))] [] M d kc ks (fun r N => r = some (.int (sumL s (a.drop j))) ∧ N = M) := by
  intro n
  induction n with
  | zero =>
    intro j s h
    refine b_ContentStore_sumBehind_4 hM (fun _ => b_ContentStore_sumBehind_37 ⟨?_, rfl⟩) (fun c => absurd (nI_le (by omega) (by omega)) c)
    rw [List.drop_eq_nil_of_le (by omega)]
    rfl
  | succ n ih =>
    intro j s h
    have hj : j < a.length := by omega
    refine b_ContentStore_sumBehind_4 hM (fun c => absurd c (nI_ge hj (by omega))) (fun _ => ?_)
    refine b_ContentStore_sumBehind_10 hM rfl (List.getElem?_eq_getElem hj) hl ?_
    rw [nI_1, List.drop_eq_getElem_cons hj]
    exact ih (j + 1) _ (by omega)
theorem c_sumBehind {i : Nat} {a : List Int32} {s : Int32} (hM : M[i]? = some (cI a)) (hl : a.length ≤ 100000000) : Xw l D ρ m_ContentStore_sumBehind 0 [(0, .int s), (1, .ref i)] [] M d kc ks (fun r N => r = some (.int (sumL s a)) ∧ N = M) := by
  refine b_ContentStore_sumBehind_0 trivial ?_
  exact c_sumLoop hM hl a.length 0 s (by omega)
theorem c_digLoop {i : Nat} {a : List Int32} (hM : M[i]? = some (cI a)) (hl : a.length ≤ 100000000) : ∀ (n j : Nat) (s : Int64), j + n = a.length → Xw l D ρ m_ContentStore_digestOf 6 [(0, .ref i), (1, .long s), (3, .int (nI j))] [] M d kc ks (fun r N => r = some (.long (digL s (a.drop j))) ∧ N = M) := by
  intro n
  induction n with
  | zero =>
    intro j s h
    refine b_ContentStore_digestOf_6 hM (fun _ => b_ContentStore_digestOf_36 ⟨?_, rfl⟩) (fun c => absurd (nI_le (by omega) (by omega)) c)
    rw [List.drop_eq_nil_of_le (by omega)]
    rfl
  | succ n ih =>
    intro j s h
    have hj : j < a.length := by omega
    refine b_ContentStore_digestOf_6 hM (fun c => absurd c (nI_ge hj (by omega))) (fun _ => ?_)
    refine b_ContentStore_digestOf_12 hM rfl (List.getElem?_eq_getElem hj) hl ?_
    rw [nI_1, List.drop_eq_getElem_cons hj]
    exact ih (j + 1) _ (by omega)
theorem c_digestOf {i : Nat} {a : List Int32} (hM : M[i]? = some (cI a)) (hl : a.length ≤ 100000000) : Xw l D ρ m_ContentStore_digestOf 0 [(0, .ref i)] [] M d kc ks (fun r N => r = some (.long (digL (nI a.length).toInt64 a)) ∧ N = M) := by
  refine b_ContentStore_digestOf_0 hM ?_
  exact c_digLoop hM hl a.length 0 _ (by omega)
theorem c_partLength {i j : Nat} {a : List Int32} (hM : M[i]? = some (cI a)) (hl : a.length ≤ 100000) (hj : j ≤ 100000) (hd : 1 ≤ d) : Xw l D ρ m_ContentStore_partLength 0 [(0, .ref i), (1, .int (nI j))] [] M d kc ks (fun r N => r = some (.int (nI (chunk a j).length)) ∧ N = M) := by
  refine b_ContentStore_partLength_0 (fun c => absurd c (nI_pos (by omega))) (fun _ => ?_)
  refine b_ContentStore_partLength_4 hM (fun c => ?_) (fun c => ?_)
  · have hlt : j < a.length := (nI_ltI (by omega) (by omega)).mp c
    refine b_ContentStore_partLength_14 (cd1 := 0) (ckc1 := 0) (cks1 := 0) (ckc2 := kc) (cks2 := ks) hM (by omega) (by omega) (by omega) c_min (fun r N h => ?_)
    obtain ⟨rfl, rfl⟩ := h
    refine b_ContentStore_partLength_23 ⟨?_, rfl⟩
    rw [pk_sub (Nat.le_of_lt hlt), chunk_len, show (16 : Int32) = nI 16 from rfl]
    by_cases h16 : a.length - j < 16
    · rw [if_pos (nI_lt h16 (by decide)), Nat.min_eq_right (by omega)]
    · rw [if_neg (nI_nlt (by omega) (by omega)), Nat.min_eq_left (by omega)]
  · have hge : ¬ j < a.length := fun q => c (nI_lt q (by omega))
    refine b_ContentStore_partLength_10 (b_ContentStore_partLength_23 ⟨?_, rfl⟩)
    rw [chunk_len, show a.length - j = 0 by omega]
    rfl
theorem c_alikeLoop {i i' j j' n : Nat} {a b : List Int32} (hM : M[i]? = some (cI a)) (hM' : M[i']? = some (cI b)) (hl : a.length ≤ 100000) (hl' : b.length ≤ 100000) (hj : j ≤ 100000) (hj' : j' ≤ 100000) (hn : (chunk a j).length = n) (hn' : (chunk b j').length = n) : ∀ (m k : Nat), k + m = n → (∀ t, t < k → (chunk a j)[t]? = (chunk b j')[t]?) →
    Xw l D ρ m_ContentStore_areAlike 22 [(0, .ref i), (1, .int (nI j)), (2, .ref i'), (3, .int (nI j')), (4, .int (nI n)), (5, .int (nI k))] [] M d kc ks (fun r N => r = some (.int (i2b (decide (chunk a j = chunk b j')))) ∧ N = M) := by
  have hn16 : n ≤ 16 := by rw [← hn, chunk_len]; omega
  intro m
  induction m with
  | zero =>
    intro k hk hp
    refine b_ContentStore_areAlike_22 (fun _ => b_ContentStore_areAlike_52 ⟨?_, rfl⟩) (fun c => absurd (nI_le (by omega) (by omega)) c)
    have : chunk a j = chunk b j' := by
      apply List.ext_getElem?
      intro t
      by_cases ht : t < k
      · exact hp t ht
      · rw [List.getElem?_eq_none (by omega), List.getElem?_eq_none (by omega)]
    simp [this, i2b]
  | succ m ih =>
    intro k hk hp
    refine b_ContentStore_areAlike_22 (fun c => absurd c (nI_ge (by omega) (by omega))) (fun _ => ?_)
    have hka : k < (chunk a j).length := by omega
    have hkb : k < (chunk b j').length := by omega
    refine b_ContentStore_areAlike_29 hM (nI_add j k) (chunk_at hka) (by omega) hM' (nI_add j' k) (chunk_at hkb) (by omega) (fun c => ?_) (fun c => ?_)
    · refine b_ContentStore_areAlike_46 ?_
      rw [nI_1]
      refine ih (k + 1) (by omega) (fun t ht => ?_)
      by_cases htk : t = k
      · subst htk
        rw [List.getElem?_eq_getElem hka, List.getElem?_eq_getElem hkb, c]
      · exact hp t (by omega)
    · refine b_ContentStore_areAlike_44 ⟨?_, rfl⟩
      have : ¬ chunk a j = chunk b j' := fun q => c (by simp only [q])
      simp [this, i2b]
theorem c_areAlike {i i' j j' : Nat} {a b : List Int32} (hM : M[i]? = some (cI a)) (hM' : M[i']? = some (cI b)) (hl : a.length ≤ 100000) (hl' : b.length ≤ 100000) (hj : j ≤ 100000) (hj' : j' ≤ 100000) (hd : 2 ≤ d) :
    Xw l D ρ m_ContentStore_areAlike 0 [(0, .ref i), (1, .int (nI j)), (2, .ref i'), (3, .int (nI j'))] [] M d kc ks (fun r N => r = some (.int (i2b (decide (chunk a j = chunk b j')))) ∧ N = M) := by
  refine b_ContentStore_areAlike_0 (cd1 := 1) (ckc1 := 0) (cks1 := 0) (ckc2 := kc) (cks2 := ks) trivial (by omega) (by omega) (by omega) (c_partLength hM hl hj (by omega)) (fun r N h => ?_)
  obtain ⟨rfl, rfl⟩ := h
  refine b_ContentStore_areAlike_5 (cd1 := 1) (ckc1 := 0) (cks1 := 0) (ckc2 := kc) (cks2 := ks) trivial (by omega) (by omega) (by omega) (c_partLength hM' hl' hj' (by omega)) (fun r N h => ?_)
  obtain ⟨rfl, rfl⟩ := h
  have h16 : (chunk a j).length ≤ 16 := by rw [chunk_len]; omega
  have h16' : (chunk b j').length ≤ 16 := by rw [chunk_len]; omega
  refine b_ContentStore_areAlike_14 (fun c => ?_) (fun c => ?_)
  · have hlen : (chunk a j).length = (chunk b j').length := (nI_eq (by omega) (by omega)).mp c
    refine b_ContentStore_areAlike_19 ?_
    exact c_alikeLoop hM hM' hl hl' hj hj' rfl hlen.symm (chunk a j).length 0 (Nat.zero_add _) (fun t ht => absurd ht (Nat.not_lt_zero t))
  · refine b_ContentStore_areAlike_17 ⟨?_, rfl⟩
    have : ¬ chunk a j = chunk b j' := fun q => c (by rw [q])
    simp [this, i2b]
theorem c_byteAt {i q j : Nat} {h : Int32} {a : List Int32} {v : Int32} (h1 : M[i]? = some (cO 5 [.ref q, .int h])) (h2 : M[q]? = some (cI a)) (hl : a.length ≤ 100000) (hj : a[j]? = some v) : Xw l D ρ m_Part_byteAt 0 [(0, .ref i), (1, .int (nI j))] [] M d kc ks (fun r N => r = some (.int v) ∧ N = M) := by
  have hlt := (List.getElem?_eq_some_iff.mp hj).1
  refine b_Part_byteAt_0 (fun c => absurd c (nI_pos (by omega))) (fun _ => ?_)
  refine b_Part_byteAt_4 h1 h2 (fun _ => ?_) (fun c => absurd (nI_lt hlt (by omega)) c)
  exact b_Part_byteAt_17 h1 h2 rfl hj (by omega) (b_Part_byteAt_23 ⟨rfl, rfl⟩)
theorem c_alter {i q j : Nat} {h x : Int32} {a : List Int32} {v : Int32} (h1 : M[i]? = some (cO 5 [.ref q, .int h])) (h2 : M[q]? = some (cI a)) (hl : a.length ≤ 100000) (hj : a[j]? = some v) : Xw l D ρ m_Part_alter 0 [(0, .ref i), (1, .int (nI j)), (2, .int x)] [] M d kc ks (fun r N => r = some (.int 1) ∧ N = M.set q (cI (a.set j (v ^^^ x)))) := by
  have hlt := (List.getElem?_eq_some_iff.mp hj).1
  refine b_Part_alter_0 (fun c => absurd c (nI_pos (by omega))) (fun _ => ?_)
  refine b_Part_alter_4 h1 h2 (fun _ => ?_) (fun c => absurd (nI_lt hlt (by omega)) c)
  exact b_Part_alter_15 h1 h2 rfl hj (by omega) rfl hlt (by omega) ⟨rfl, rfl⟩
end LEAF
