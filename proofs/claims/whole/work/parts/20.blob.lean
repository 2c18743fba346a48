/-! BLOBS: rows of parts -/
def bb (pb : Nat → List Int32) (ids : List Nat) : List Int32 := (ids.map pb).flatten
def wfI (pb : Nat → List Int32) (ids : List Nat) (len : Nat) : Prop := ids.length = nParts len ∧ ∀ k x, ids[k]? = some x → (pb x).length = min 16 (len - 16 * k)
theorem bb_nil (pb : Nat → List Int32) : bb pb [] = [] := rfl
theorem bb_cons (pb : Nat → List Int32) (x : Nat) (ids : List Nat) : bb pb (x :: ids) = pb x ++ bb pb ids := by simp [bb]
theorem sumL_app : ∀ (a b : List Int32) (s : Int32), sumL s (a ++ b) = sumL (sumL s a) b
  | [], _, _ => rfl
  | _ :: a, b, s => sumL_app a b _
theorem wfI_tail {pb : Nat → List Int32} {x : Nat} {ids : List Nat} {len : Nat} (h : wfI pb (x :: ids) len) : wfI pb ids (len - 16) := by
  obtain ⟨h1, h2⟩ := h
  rw [List.length_cons] at h1
  refine ⟨by unfold nParts at *; omega, fun k y hk => ?_⟩
  rw [h2 (k + 1) y (by rw [List.getElem?_cons_succ]; exact hk)]
  congr 1
  omega
theorem bb_len {pb : Nat → List Int32} : ∀ {ids : List Nat} {len : Nat}, wfI pb ids len → (bb pb ids).length = len
  | [], len, h => by
    have h1 := h.1
    unfold nParts at h1
    simp at h1
    rw [bb_nil, List.length_nil]
    omega
  | x :: ids, len, h => by
    have h1 := h.1
    have h2 := h.2 0 x rfl
    rw [List.length_cons] at h1
    unfold nParts at h1
    rw [bb_cons, List.length_append, bb_len (wfI_tail h), h2]
    omega
theorem bb_at {pb : Nat → List Int32} : ∀ {ids : List Nat} {len i : Nat}, wfI pb ids len → i < len → ∃ x, ids[i / 16]? = some x ∧ (bb pb ids)[i]? = (pb x)[i % 16]? ∧ i % 16 < (pb x).length
  | [], len, i, h, hi => by
    have h1 := h.1
    unfold nParts at h1
    simp at h1
    omega
  | x :: ids, len, i, h, hi => by
    have h2 := h.2 0 x rfl
    rw [bb_cons]
    by_cases h16 : i < 16
    · refine ⟨x, by rw [show i / 16 = 0 by omega]; rfl, ?_, by omega⟩
      rw [List.getElem?_append_left (by omega), show i % 16 = i by omega]
    · obtain ⟨y, g1, g2, g3⟩ := bb_at (i := i - 16) (wfI_tail h) (by omega)
      refine ⟨y, ?_, ?_, ?_⟩
      · rw [show i / 16 = (i - 16) / 16 + 1 by omega, List.getElem?_cons_succ]
        exact g1
      · rw [List.getElem?_append_right (by omega), h2, show i - min 16 (len - 16 * 0) = i - 16 by omega, g2]
        congr 1
        omega
      · rw [show i % 16 = (i - 16) % 16 by omega]
        exact g3
theorem chunk_get {a : List Int32} {j k : Nat} (hk : k < 16) : (chunk a j)[k]? = a[j + k]? := by
  simp [chunk, List.getElem?_take, hk]
theorem bb_chunk {pb : Nat → List Int32} {ids : List Nat} {len k x : Nat} (h : wfI pb ids len) (hk : ids[k]? = some x) : chunk (bb pb ids) (16 * k) = pb x := by
  have hl := bb_len h
  have h2 := h.2 k x hk
  apply List.ext_getElem?
  intro i
  by_cases hi : i < (pb x).length
  · rw [chunk_get (by omega)]
    obtain ⟨y, g1, g2, g3⟩ := bb_at (i := 16 * k + i) h (by omega)
    rw [show (16 * k + i) / 16 = k by omega, hk] at g1
    cases g1
    rw [g2, show (16 * k + i) % 16 = i by omega]
  · rw [List.getElem?_eq_none (by rw [chunk_len]; omega), List.getElem?_eq_none (by omega)]
theorem bb_eq {pb : Nat → List Int32} {ids : List Nat} {len : Nat} {a : List Int32} (h : wfI pb ids len) (ha : a.length = len) (hc : ∀ k x, ids[k]? = some x → pb x = chunk a (16 * k)) : bb pb ids = a := by
  have hl := bb_len h
  apply List.ext_getElem?
  intro i
  by_cases hi : i < len
  · obtain ⟨y, g1, g2, g3⟩ := bb_at h hi
    rw [g2, hc _ _ g1, chunk_get (by omega)]
    congr 1
    omega
  · rw [List.getElem?_eq_none (by omega), List.getElem?_eq_none (by omega)]
/-- an int as a place -/
def inb (v : Int32) (n : Nat) : Option Nat := if v < 0 then none else if nI n ≤ v then none else some v.toNatClampNeg
theorem inb_nI {k n : Nat} (hk : k < n) (hn : n < 2 ^ 31) : inb (nI k) n = some k := by
  rw [inb, if_neg (nI_pos (by omega)), if_neg (nI_ge hk hn), nI_clamp (by omega)]
theorem inb_cases (v : Int32) {n : Nat} (hn : n < 2 ^ 31) : (inb v n = none ∧ (v < 0 ∨ (¬ v < 0 ∧ nI n ≤ v))) ∨ ∃ k, k < n ∧ v = nI k ∧ inb v n = some k := by
  by_cases h1 : v < 0
  · exact Or.inl ⟨by rw [inb, if_pos h1], Or.inl h1⟩
  · rcases pk_ix v hn with h | h | ⟨j, h2, h3⟩
    · exact absurd h h1
    · exact Or.inl ⟨by rw [inb, if_neg h1, if_pos h], Or.inr ⟨h1, h⟩⟩
    · exact Or.inr ⟨j, h2, h3, by rw [h3]; exact inb_nI h2 hn⟩
section BLOB
variable {l : Launch} {D : va_G} {ρ : xR} {M : List xCl} {d kc ks : Nat} {own : Nat → Nat × Nat} {es : List Nat} {pb : Nat → List Int32} {hold : Nat → Nat} {a pr len : Nat} {sum : Int32} {dig : Int64} {cp : Value} {pk th : Int32} {ids : List Nat}
theorem c_isSound (hB : M[a]? = some (cO 4 [.int (nI len), .int sum, .long dig, .ref pr, cp, .int pk, .int th])) (hR : M[pr]? = some (cR 2 (ids.map some))) (hP : cParts M own es pb hold) (hi : ∀ x ∈ ids, x ∈ es) (hl : ids.length ≤ 1000) (hd : 1 ≤ d) :
    Xw l D ρ m_Blob_isSound 0 [(0, .ref a)] [] M d kc ks (fun r N => r = some (.int (i2b (decide (sumL 0 (bb pb ids) = sum)))) ∧ N = M) := by
  refine b_Blob_isSound_0 trivial ?_
  have loop : ∀ (n k : Nat) (s : Int32), k + n = ids.length → Xw l D ρ m_Blob_isSound 4 [(0, .ref a), (1, .int s), (2, .int (nI k))] [] M d kc ks (fun r N => r = some (.int (i2b (decide (sumL s (bb pb (ids.drop k)) = sum)))) ∧ N = M) := by
    intro n
    induction n with
    | zero =>
      intro k s hk
      refine b_Blob_isSound_4 hB hR (fun _ => ?_) (fun c => absurd (nI_le (by rw [List.length_map]; omega) (by omega)) c)
      rw [List.drop_eq_nil_of_le (by omega), bb_nil]
      refine b_Blob_isSound_33 hB (fun c => ?_) (fun c => ?_)
      · refine b_Blob_isSound_45 (b_Blob_isSound_46 ⟨?_, rfl⟩ (by decide))
        rw [decide_eq_false (show ¬ sumL s [] = sum from c)]
        rfl
      · refine b_Blob_isSound_41 (b_Blob_isSound_46 ⟨?_, rfl⟩ (by decide))
        rw [decide_eq_true (show sumL s [] = sum from c)]
        rfl
    | succ n ih =>
      intro k s hk
      have hlt : k < ids.length := by omega
      obtain ⟨q, -, g1, g2, g3, g4⟩ := hP _ (hi _ (List.getElem_mem hlt))
      refine b_Blob_isSound_4 hB hR (fun c => absurd c (nI_ge (by rw [List.length_map]; omega) (by rw [List.length_map]; omega))) (fun _ => ?_)
      refine b_Blob_isSound_13 (f20_0 := .ref q) (o19 := ids[k]) (cd1 := 0) (ckc1 := 0) (cks1 := 0) (ckc2 := kc) (cks2 := ks) hB hR rfl (by rw [List.length_map]; omega) (by rw [List.getElem?_map, List.getElem?_eq_getElem hlt]; rfl) trivial g1 (by omega) (by omega) (by omega) (c_sumBehind g2 (by omega)) (fun r N h => ?_)
      obtain ⟨rfl, rfl⟩ := h
      refine b_Blob_isSound_26 trivial ?_
      rw [nI_1, List.drop_eq_getElem_cons hlt, bb_cons, sumL_app]
      exact ih (k + 1) _ (by omega)
  exact loop ids.length 0 0 (by omega)
theorem c_hasBytes {q : Nat} {bs : List Int32} (hB : M[a]? = some (cO 4 [.int (nI len), .int sum, .long dig, .ref pr, cp, .int pk, .int th])) (hR : M[pr]? = some (cR 2 (ids.map some))) (hP : cParts M own es pb hold) (hi : ∀ x ∈ ids, x ∈ es) (hw : wfI pb ids len) (hlen : len ≤ 96) (hq : M[q]? = some (cI bs)) (hbs : bs.length ≤ 96) (hd : 3 ≤ d) :
    Xw l D ρ m_Blob_hasBytes 0 [(0, .ref a), (1, .ref q)] [] M d kc ks (fun r N => r = some (.int (i2b (decide (bb pb ids = bs)))) ∧ N = M) := by
  have hl : ids.length ≤ 6 := by rw [hw.1]; unfold nParts; omega
  refine b_Blob_hasBytes_0 hq hB (fun c => ?_) (fun c => ?_)
  · have hc : bs.length = len := (nI_eq (by omega) (by omega)).mp c
    refine b_Blob_hasBytes_11 trivial ?_
    have loop : ∀ (n k : Nat), k + n = ids.length → (∀ i x, i < k → ids[i]? = some x → pb x = chunk bs (16 * i)) → Xw l D ρ m_Blob_hasBytes 13 [(0, .ref a), (1, .ref q), (2, .int (nI k))] [] M d kc ks (fun r N => r = some (.int (i2b (decide (bb pb ids = bs)))) ∧ N = M) := by
      intro n
      induction n with
      | zero =>
        intro k hk hp
        refine b_Blob_hasBytes_13 hB hR (fun _ => b_Blob_hasBytes_51 ⟨?_, rfl⟩) (fun c => absurd (nI_le (by rw [List.length_map]; omega) (by omega)) c)
        rw [decide_eq_true (bb_eq hw hc (fun i x hix => hp i x (by have := (List.getElem?_eq_some_iff.mp hix).1; omega) hix))]
        rfl
      | succ n ih =>
        intro k hk hp
        have hlt : k < ids.length := by omega
        have hk? : ids[k]? = some ids[k] := List.getElem?_eq_getElem hlt
        obtain ⟨q', -, g1, g2, g3, g4⟩ := hP _ (hi _ (List.getElem_mem hlt))
        refine b_Blob_hasBytes_13 hB hR (fun c => absurd c (nI_ge (by rw [List.length_map]; omega) (by rw [List.length_map]; omega))) (fun _ => ?_)
        refine b_Blob_hasBytes_22 (f28_0 := .ref q') (o27 := ids[k]) (cd1 := 2) (ckc1 := 0) (cks1 := 0) (ckc2 := kc) (cks2 := ks) (Q1 := fun r N => r = some (.int (i2b (decide (chunk (pb ids[k]) 0 = chunk bs (16 * k))))) ∧ N = M) trivial hB hR rfl (by rw [List.length_map]; omega) (by rw [List.getElem?_map, hk?]; rfl) trivial g1 (by omega) (by omega) (by omega) ?_ (fun r N h => ?_)
        · rw [show nI k * 16 = nI (16 * k) by rw [show (16 : Int32) = nI 16 from rfl, pk_mul, Nat.mul_comm]]
          exact c_areAlike g2 hq (j := 0) (by omega) (by omega) (by omega) (by omega) (by omega)
        obtain ⟨rfl, rfl⟩ := h
        rw [chunk_self g4]
        refine b_Blob_hasBytes_40 (fun c => ?_) (fun c => ?_)
        · have heq : pb ids[k] = chunk bs (16 * k) := by
            by_cases h0 : pb ids[k] = chunk bs (16 * k)
            · exact h0
            · exact absurd (by rw [decide_eq_false h0]; rfl) c
          refine b_Blob_hasBytes_45 trivial ?_
          rw [nI_1]
          refine ih (k + 1) (by omega) (fun i x hik hix => ?_)
          by_cases hik2 : i = k
          · subst hik2
            rw [hk?] at hix
            cases hix
            exact heq
          · exact hp i x (by omega) hix
        · have hne : ¬ pb ids[k] = chunk bs (16 * k) := by simpa using i2b_0.mp c
          refine b_Blob_hasBytes_43 ⟨?_, rfl⟩
          rw [decide_eq_false (fun z => hne (by rw [← z, bb_chunk hw hk?]))]
          rfl
    exact loop ids.length 0 (by omega) (fun i x hi0 => absurd hi0 (Nat.not_lt_zero i))
  · refine b_Blob_hasBytes_9 ⟨?_, rfl⟩
    rw [decide_eq_false (fun z => c (by rw [← z, bb_len hw]))]
    rfl
/-- the part that has byte v -/
def ptO (ids : List Nat) (len : Nat) (v : Int32) : Option Nat := (inb v len).bind fun i => ids[i / 16]?
theorem c_partOf {v : Int32} (hB : M[a]? = some (cO 4 [.int (nI len), .int sum, .long dig, .ref pr, cp, .int pk, .int th])) (hR : M[pr]? = some (cR 2 (ids.map some))) (hw : ids.length = nParts len) (hlen : len ≤ 96) :
    Xw l D ρ m_Blob_partOf 0 [(0, .ref a), (1, .int v)] [] M d kc ks (fun r N => r = some (xrv (ptO ids len v)) ∧ N = M) := by
  rcases inb_cases v (n := len) (by omega) with ⟨h1, h2⟩ | ⟨k, h1, rfl, h2⟩
  · have hnone : ptO ids len v = none := by rw [ptO, h1]; rfl
    rw [hnone]
    have fin : Xw l D ρ m_Blob_partOf 26 [] [] M d kc ks (fun r N => r = some (xrv none) ∧ N = M) := b_Blob_partOf_26 (b_Blob_partOf_36 trivial ⟨rfl, rfl⟩)
    refine b_Blob_partOf_0 (fun _ => fin) (fun c => ?_)
    rcases h2 with h2 | ⟨-, h2⟩
    · exact absurd h2 c
    · exact b_Blob_partOf_9 hB (fun _ => fin) (fun c => absurd h2 c)
  · refine b_Blob_partOf_0 (fun c => absurd c (nI_pos (by omega))) (fun _ => ?_)
    refine b_Blob_partOf_9 hB (fun c => absurd c (nI_ge h1 (by omega))) (fun _ => ?_)
    rw [show nI k / 16 = nI (k / 16) by rw [show (16 : Int32) = nI 16 from rfl, pk_div (by omega) (by omega) (by omega)]]
    have hk : k / 16 < ids.length := by rw [hw]; unfold nParts; omega
    have h6 : ids.length ≤ 6 := by rw [hw]; unfold nParts; omega
    refine b_Blob_partOf_17 hB hR (fun _ => ?_) (fun c => absurd (nI_lt (by rw [List.length_map]; exact hk) (by rw [List.length_map]; omega)) c)
    refine b_Blob_partOf_30 (o35 := some ids[k / 16]) hB hR rfl (by rw [List.length_map]; omega) (by rw [List.getElem?_map, List.getElem?_eq_getElem hk]; rfl) (b_Blob_partOf_36 trivial ⟨?_, rfl⟩)
    rw [ptO, h2]
    show some (xrv (some ids[k / 16])) = some (xrv (ids[k / 16]?))
    rw [List.getElem?_eq_getElem hk]
theorem c_hasPart {x : Nat} (hB : M[a]? = some (cO 4 [.int (nI len), .int sum, .long dig, .ref pr, cp, .int pk, .int th])) (hR : M[pr]? = some (cR 2 (ids.map some))) (hl : ids.length ≤ 1000) :
    Xw l D ρ m_Blob_hasPart 0 [(0, .ref a), (1, .ref x)] [] M d kc ks (fun r N => r = some (.int (i2b (decide (x ∈ ids)))) ∧ N = M) := by
  refine b_Blob_hasPart_0 trivial ?_
  have loop : ∀ (n k : Nat), k + n = ids.length → x ∉ ids.take k → Xw l D ρ m_Blob_hasPart 2 [(0, .ref a), (1, .ref x), (2, .int (nI k))] [] M d kc ks (fun r N => r = some (.int (i2b (decide (x ∈ ids)))) ∧ N = M) := by
    intro n
    induction n with
    | zero =>
      intro k hk hp
      refine b_Blob_hasPart_2 hB hR (fun _ => b_Blob_hasPart_29 ⟨?_, rfl⟩) (fun c => absurd (nI_le (by rw [List.length_map]; omega) (by omega)) c)
      rw [List.take_of_length_le (by omega)] at hp
      rw [decide_eq_false hp]
      rfl
    | succ n ih =>
      intro k hk hp
      have hlt : k < ids.length := by omega
      refine b_Blob_hasPart_2 hB hR (fun c => absurd c (nI_ge (by rw [List.length_map]; omega) (by rw [List.length_map]; omega))) (fun _ => ?_)
      refine b_Blob_hasPart_11 (o16 := ids[k]) hB hR rfl (by rw [List.length_map]; omega) (by rw [List.getElem?_map, List.getElem?_eq_getElem hlt]; rfl) (fun c => ?_) (fun c => ?_)
      · refine b_Blob_hasPart_23 trivial ?_
        rw [nI_1]
        refine ih (k + 1) (by omega) (fun z => ?_)
        rw [List.take_succ_eq_append_getElem hlt] at z
        rcases List.mem_append.mp z with z | z
        · exact hp z
        · exact c (List.mem_singleton.mp z).symm
      · refine b_Blob_hasPart_21 ⟨?_, rfl⟩
        rw [decide_eq_true (by rw [← c]; exact List.getElem_mem hlt)]
        rfl
  exact loop ids.length 0 (by omega) (by simp)
theorem c_hasRightCopy {cq : Option (Nat × List Int32)} (hB : M[a]? = some (cO 4 [.int (nI len), .int sum, .long dig, .ref pr, xrv (cq.map (·.1)), .int pk, .int th])) (hC : ∀ z, cq = some z → M[z.1]? = some (cI z.2) ∧ z.2.length ≤ 96) (hd : 1 ≤ d) :
    Xw l D ρ m_Blob_hasRightCopy 0 [(0, .ref a)] [] M d kc ks (fun r N => r = some (.int (i2b (match cq with | some z => decide (sumL 0 z.2 = sum) | none => false))) ∧ N = M) := by
  cases cq with
  | none =>
    exact b_Blob_hasRightCopy_0_z hB (b_Blob_hasRightCopy_26 (b_Blob_hasRightCopy_27 ⟨rfl, rfl⟩ (by decide)))
  | some z =>
    obtain ⟨h1, h2⟩ := hC z rfl
    refine b_Blob_hasRightCopy_0 hB ?_
    refine b_Blob_hasRightCopy_7 (f9_4 := .ref z.1) (cd1 := 0) (ckc1 := 0) (cks1 := 0) (ckc2 := kc) (cks2 := ks) trivial hB (by omega) (by omega) (by omega) (c_sumBehind h1 (by omega)) (fun r N h => ?_)
    obtain ⟨rfl, rfl⟩ := h
    refine b_Blob_hasRightCopy_15 hB (fun c => ?_) (fun c => ?_)
    · refine b_Blob_hasRightCopy_26 (b_Blob_hasRightCopy_27 ⟨?_, rfl⟩ (by decide))
      show _ = some (Value.int (i2b (decide (sumL 0 z.2 = sum))))
      rw [decide_eq_false c]
      rfl
    · refine b_Blob_hasRightCopy_22 (b_Blob_hasRightCopy_27 ⟨?_, rfl⟩ (by decide))
      show _ = some (Value.int (i2b (decide (sumL 0 z.2 = sum))))
      rw [decide_eq_true c]
      rfl
theorem c_BlobInit {q : Nat} {bs : List Int32} {rv : Value} (h1 : M[a]? = some (cO 4 [.int 0, .int 0, .long 0, .null, .null, .int 0, .int 0])) (hq : M[q]? = some (cI bs)) (hbs : bs.length ≤ 96) (hrv : xrf rv) (hd : 1 ≤ d) :
    Xw l D ρ m_Blob_init 0 [(0, .ref a), (1, .ref q), (2, rv)] [] M d kc ks (fun r N => r = none ∧ N = M.set a (cO 4 [.int (nI bs.length), .int (sumL 0 bs), .long (digL (nI bs.length).toInt64 bs), rv, .null, .int (-1), .int 1])) := by
  refine b_Blob_init_0 (cd1 := 0) (ckc1 := 0) (cks1 := 0) (ckc2 := kc) (cks2 := ks) (by omega) hq h1 (by omega) (by omega) (by omega) (c_sumBehind (xset_ne hq h1 rfl) (by omega)) (fun r N h => ?_)
  obtain ⟨rfl, rfl⟩ := h
  refine b_Blob_init_16 (cd1 := 0) (ckc1 := 0) (cks1 := 0) (ckc2 := kc) (cks2 := ks) trivial trivial (xset_eq h1) (by omega) (by omega) (by omega) (c_digestOf (xset_ne (xset_ne hq h1 rfl) (xset_eq h1) rfl) (by omega)) (fun r N h => ?_)
  obtain ⟨rfl, rfl⟩ := h
  refine b_Blob_init_24 hrv (xset_eq (xset_eq h1)) (xset_eq (xset_eq (xset_eq h1))) ⟨rfl, ?_⟩
  simp only [List.set_set]
theorem c_copyBytes {cq : Option (Nat × List Int32)} (hB : M[a]? = some (cO 4 [.int (nI len), .int sum, .long dig, .ref pr, xrv (cq.map (·.1)), .int pk, .int th])) (hC : ∀ z, cq = some z → M[z.1]? = some (cI z.2) ∧ z.2.length = len ∧ (∀ x, own z.1 ≠ (6, x))) (hR : M[pr]? = some (cR 2 (ids.map some))) (hP : cParts M own es pb hold) (hi : ∀ x ∈ ids, x ∈ es) (hw : wfI pb ids len) (hlen : len ≤ 96) (hd : 1 ≤ d) (hkc : 1 ≤ kc) (hks : 96 ≤ ks) :
    Xw l D ρ m_Blob_copyBytes 0 [(0, .ref a)] [] M d kc ks (fun r N => r = none ∧ N = (match cq with
      | some z => M.set z.1 (cI (bb pb ids))
      | none => (M ++ [cI (bb pb ids)]).set a (cO 4 [.int (nI len), .int sum, .long dig, .ref pr, .ref M.length, .int pk, .int th]))) := by
  have hbl := bb_len hw
  have hl : ids.length ≤ 6 := by rw [hw.1]; unfold nParts; omega
  have loop : ∀ (n k : Nat) (N : List xCl) (c k1 k2 : Nat), k + n = len → N[a]? = some (cO 4 [.int (nI len), .int sum, .long dig, .ref pr, .ref c, .int pk, .int th]) → N[pr]? = some (cR 2 (ids.map some)) → (∀ x ∈ ids, ∃ q, q ≠ c ∧ N[x]? = some (cO 5 [.ref q, .int (nI (hold x))]) ∧ N[q]? = some (cI (pb x)) ∧ (pb x).length ≤ 16) → (∀ v, N[c]? = some v → ∃ u : List Int32, v = cI u) → (∃ u : List Int32, N[c]? = some (cI ((bb pb ids).take k ++ u)) ∧ u.length = n) →
      Xw l D ρ m_Blob_copyBytes 19 [(0, .ref a), (1, .int (nI k))] [] N d k1 k2 (fun r N' => r = none ∧ N' = N.set c (cI (bb pb ids))) := by
    intro n
    induction n with
    | zero =>
      intro k N c k1 k2 hk g1 g2 g3 g4 g5
      refine b_Blob_copyBytes_19 g1 (fun _ => b_Blob_copyBytes_61 ⟨rfl, ?_⟩) (fun c => absurd (nI_le (by omega) (by omega)) c)
      obtain ⟨u, hu1, hu2⟩ := g5
      rw [List.eq_nil_of_length_eq_zero hu2, List.append_nil, List.take_of_length_le (by omega)] at hu1
      exact (set_same hu1).symm
    | succ n ih =>
      intro k N c k1 k2 hk g1 g2 g3 g4 g5
      obtain ⟨u, hu1, hu2⟩ := g5
      obtain ⟨x, e1, e2, e3⟩ := bb_at (i := k) hw (by omega)
      obtain ⟨q, f1, f2, f3, f4⟩ := g3 x (List.mem_of_getElem? e1)
      refine b_Blob_copyBytes_19 g1 (fun c => absurd c (nI_ge (by omega) (by omega))) (fun _ => ?_)
      refine b_Blob_copyBytes_27 (cd1 := 0) (ckc1 := 0) (cks1 := 0) (ckc2 := k1) (cks2 := k2) (by omega) (by omega) (by omega) g1 (c_partOf g1 g2 hw.1 hlen) (fun r N' h => ?_)
      obtain ⟨rfl, rfl⟩ := h
      rw [show ptO ids len (nI k) = some x by rw [ptO, inb_nI (by omega) (by omega)]; exact e1]
      refine b_Blob_copyBytes_32 g1 ?_
      have hbk : k < (bb pb ids).length := by omega
      have hv : (pb x)[k % 16]? = some (bb pb ids)[k] := by rw [← e2, List.getElem?_eq_getElem hbk]
      refine b_Blob_copyBytes_46 (cd1 := 0) (ckc1 := 0) (cks1 := 0) (ckc2 := k1) (cks2 := k2) (Q1 := fun r M' => r = some (.int (bb pb ids)[k]) ∧ M' = N') trivial (by omega) (by omega) (by omega) f2 ?_ (fun r N' h => ?_)
      · rw [show (16 : Int32) = nI 16 from rfl, pk_rem (by omega) (by omega) (by omega)]
        exact c_byteAt f2 f3 (by omega) hv
      obtain ⟨rfl, rfl⟩ := h
      have htl : ((bb pb ids).take k).length = k := by rw [List.length_take]; omega
      refine b_Blob_copyBytes_54 trivial hu1 rfl (by rw [List.length_append, htl]; omega) (by rw [List.length_append, htl]; omega) ?_
      rw [nI_1]
      have hset : ((bb pb ids).take k ++ u).set k (bb pb ids)[k] = (bb pb ids).take (k + 1) ++ u.drop 1 := by
        obtain ⟨w, u', rfl⟩ : ∃ w u', u = w :: u' := by
          cases u with
          | nil => simp at hu2
          | cons w u' => exact ⟨w, u', rfl⟩
        rw [List.set_append_right _ _ (by omega), htl, Nat.sub_self, List.set_cons_zero, List.take_succ_eq_append_getElem hbk, List.append_assoc]
        rfl
      rw [hset]
      refine x_wk (Nat.le_refl _) (Nat.le_refl _) (Nat.le_refl _) (fun r M' h => ⟨h.1, by rw [h.2, List.set_set]⟩) (ih (k + 1) _ c k1 k2 (by omega) (xset_ne g1 hu1 rfl) (xset_ne g2 hu1 rfl) ?_ (fun v hv => ?_) ⟨u.drop 1, xset_eq hu1, by rw [List.length_drop]; omega⟩)
      · intro y hy
        obtain ⟨q', f1, f2, f3, f4⟩ := g3 y hy
        exact ⟨q', f1, xset_ne f2 hu1 rfl, xset_at f3 f1.symm, f4⟩
      · rw [xset_eq hu1] at hv
        cases hv
        exact ⟨_, rfl⟩
  cases cq with
  | none =>
    refine b_Blob_copyBytes_0_z hB ?_
    refine b_Blob_copyBytes_7 (n12 := len) (kc1 := 0) (ks1 := 0) hB rfl (by omega) (by omega) (by omega) ?_
    refine b_Blob_copyBytes_17 trivial ?_
    have ha := xlt hB
    refine x_wk (Nat.le_refl _) (Nat.le_refl _) (Nat.le_refl _) (fun r N' h => ⟨h.1, ?_⟩) (loop len 0 _ M.length 0 0 (by omega) (xset_eq (xpush_at hB)) (xset_ne (xpush_at hR) (xpush_at hB) rfl) (fun x hx => ?_) (fun v hv => ?_) ⟨List.replicate len 0, xset_at xpush_last (by omega), List.length_replicate⟩)
    · rw [h.2, List.set_comm _ _ (show a ≠ M.length by omega), List.set_append_right _ _ (Nat.le_refl _), Nat.sub_self]
      rfl
    · obtain ⟨q, t1, t2, t3, t4, t5⟩ := hP x (hi x hx)
      exact ⟨q, by have := xlt t3; omega, xset_ne (xpush_at t2) (xpush_at hB) rfl, xset_ne (xpush_at t3) (xpush_at hB) rfl, t5⟩
    · rw [xset_at xpush_last (by omega)] at hv
      cases hv
      exact ⟨_, rfl⟩
  | some z =>
    obtain ⟨h1, h2, h3⟩ := hC z rfl
    refine b_Blob_copyBytes_0 hB ?_
    refine b_Blob_copyBytes_17 trivial ?_
    refine loop len 0 _ z.1 kc ks (by omega) hB hR (fun x hx => ?_) (fun v hv => ?_) ⟨z.2, h1, h2⟩
    · obtain ⟨q, t1, t2, t3, t4, t5⟩ := hP x (hi x hx)
      exact ⟨q, fun w => h3 x (by rw [← w]; exact t1), t2, t3, t5⟩
    · rw [h1] at hv
      cases hv
      exact ⟨_, rfl⟩
end BLOB
