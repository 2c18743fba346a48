/-! THE MODEL: its relation to the store, its questions of bytes and parts -/
def mrP (P : List sP) (puts : Nat) (told : List Int32) (mask : List Int64) (op came byts : List Int32) : Prop :=
  puts = P.length ∧ (told.length = 60 ∧ mask.length = 60 ∧ op.length = 60 ∧ came.length = 60 ∧ byts.length = 5760) ∧ (∀ i p, P[i]? = some p → told[i]? = some (nI p.1) ∧ mask[i]? = some p.2.1 ∧ op[i]? = some (i2b p.2.2.2) ∧ came[i]? = some (nI p.2.2.1.length) ∧ ∀ j w, p.2.2.1[j]? = some w → byts[96 * i + j]? = some w) ∧ ∀ i, P.length ≤ i → i < 60 → came[i]? = some 0
def mrS (es : List Nat) (pb : Nat → List Int32) (sl st : Nat → Nat) (c stamps : Nat) (psz stp pby : List Int32) : Prop :=
  stamps ≤ c ∧ (psz.length = 400 ∧ stp.length = 400 ∧ pby.length = 6400) ∧ (∀ x ∈ es, sl x < 400 ∧ psz[sl x]? = some (nI (pb x).length) ∧ st x < stamps ∧ stp[sl x]? = some (nI (st x)) ∧ ∀ j w, (pb x)[j]? = some w → pby[16 * sl x + j]? = some w) ∧ es.Pairwise (fun x y => st x < st y) ∧ (∀ x ∈ es, ∀ y ∈ es, sl x = sl y → x = y) ∧ ∀ i, i < 400 → (∀ x ∈ es, sl x ≠ i) → psz[i]? = some 0
def mrB (B : List sB) (sl : Nat → Nat) (blobs : Nat) (isT len slot sum : List Int32) (dig : List Int64) (pkd hasC copy : List Int32) : Prop :=
  blobs = B.length ∧ (isT.length = 60 ∧ len.length = 60 ∧ slot.length = 360 ∧ sum.length = 60 ∧ dig.length = 60 ∧ pkd.length = 60 ∧ hasC.length = 60 ∧ copy.length = 5760) ∧ (∀ i b, B[i]? = some b → isT[i]? = some (i2b (bThere b)) ∧ len[i]? = some (nI (bLen b)) ∧ sum[i]? = some (bSum b) ∧ dig[i]? = some (bDig b) ∧ pkd[i]? = some (if bThere b then bPack b else -1) ∧ hasC[i]? = some (i2b (bCopy b).isSome) ∧ (∀ c, bCopy b = some c → ∀ j w, c[j]? = some w → copy[96 * i + j]? = some w) ∧ (bThere b = true → ∀ k x, (bIds b)[k]? = some x → slot[6 * i + k]? = some (nI (sl x)))) ∧ ∀ i, B.length ≤ i → i < 60 → isT[i]? = some 0 ∧ pkd[i]? = some (-1) ∧ hasC[i]? = some 0
abbrev mrPs (P : List sP) (s : mS) : Prop := mrP P (g_puts s) (g_told s) (g_mask s) (g_open s) (g_came s) (g_byts s)
abbrev mrSs (es : List Nat) (pb : Nat → List Int32) (sl st : Nat → Nat) (c : Nat) (s : mS) : Prop := mrS es pb sl st c (g_stamps s) (g_psz s) (g_stp s) (g_pby s)
abbrev mrBs (B : List sB) (sl : Nat → Nat) (s : mS) : Prop := mrB B sl (g_blobs s) (g_isT s) (g_len s) (g_slot s) (g_sum s) (g_dig s) (g_pkd s) (g_hasC s) (g_copy s)
/-- the row that is worked on holds the bytes a -/
def wk (a work : List Int32) : Prop := work.length = 96 ∧ ∀ (j : Nat) (w : Int32), a[j]? = some w → work[j]? = some w
theorem e6 (k j : Nat) : (6 : Int32) * nI k + nI j = nI (6 * k + j) := by rw [show (6 : Int32) = nI 6 from rfl, pk_mul, nI_add]
theorem e16 (k j : Nat) : (16 : Int32) * nI k + nI j = nI (16 * k + j) := by rw [show (16 : Int32) = nI 16 from rfl, pk_mul, nI_add]
theorem e96 (k j : Nat) : (96 : Int32) * nI k + nI j = nI (96 * k + j) := by rw [show (96 : Int32) = nI 96 from rfl, pk_mul, nI_add]
theorem eD {j : Nat} (h : j < 2 ^ 31) : nI j / 16 = nI (j / 16) := by rw [show (16 : Int32) = nI 16 from rfl, pk_div h (by omega) (by omega)]
theorem eR {j : Nat} (h : j < 2 ^ 31) : nI j - nI j / 16 * 16 = nI (j % 16) := by rw [show (16 : Int32) = nI 16 from rfl, pk_rem h (by omega) (by omega)]
/-- what a slot holds -/
def slC (es : List Nat) (pb : Nat → List Int32) (sl : Nat → Nat) (i : Nat) : List Int32 := match es.find? (fun x => decide (sl x = i)) with
  | some x => pb x
  | none => []
section MLEAF
variable {l : Launch} {D : va_G} {ρ : xR} {M : List xCl} {d kc ks : Nat} {pre post : List xCl} {s : mS} {es : List Nat} {pb : Nat → List Int32} {sl st : Nat → Nat} {c : Nat} {B : List sB} {a : List Int32}
theorem slC_cases (es : List Nat) (pb : Nat → List Int32) (sl : Nat → Nat) (i : Nat) : (∃ x ∈ es, sl x = i ∧ slC es pb sl i = pb x) ∨ ((∀ x ∈ es, sl x ≠ i) ∧ slC es pb sl i = []) := by
  unfold slC
  cases h : es.find? (fun x => decide (sl x = i)) with
  | some x => exact Or.inl ⟨x, List.mem_of_find?_eq_some h, by simpa using List.find?_some h, rfl⟩
  | none => exact Or.inr ⟨fun x hx => by simpa using List.find?_eq_none.mp h x hx, rfl⟩
theorem slC_ok {psz stp pby : List Int32} {stamps : Nat} (h : mrS es pb sl st c stamps psz stp pby) {i : Nat} (hi : i < 400) : psz[i]? = some (nI (slC es pb sl i).length) ∧ ∀ j w, (slC es pb sl i)[j]? = some w → pby[16 * i + j]? = some w := by
  obtain ⟨-, -, h1, -, -, h2⟩ := h
  rcases slC_cases es pb sl i with ⟨x, g1, rfl, g3⟩ | ⟨g1, g2⟩
  · rw [g3]
    exact ⟨(h1 x g1).2.1, (h1 x g1).2.2.2.2⟩
  · rw [g2]
    exact ⟨h2 i hi g1, fun j w hj => by simp at hj⟩
theorem c_in {v lo hi : Int32} : Xw l D ρ m_ContentStoreModel_in 0 [(0, .int v), (1, .int lo), (2, .int hi)] [] M d kc ks (fun r N => r = some (.int (i2b (decide (¬ v < lo ∧ ¬ hi < v)))) ∧ N = M) := by
  refine b_ContentStoreModel_in_0 (fun c => ?_) (fun c => b_ContentStoreModel_in_5 (fun c2 => ?_) (fun c2 => ?_))
  · refine b_ContentStoreModel_in_14 (b_ContentStoreModel_in_15 ⟨?_, rfl⟩ (by decide))
    rw [decide_eq_false (fun z => z.1 c)]
    rfl
  · refine b_ContentStoreModel_in_14 (b_ContentStoreModel_in_15 ⟨?_, rfl⟩ (by decide))
    rw [decide_eq_false (fun z => z.2 c2)]
    rfl
  · refine b_ContentStoreModel_in_10 (b_ContentStoreModel_in_15 ⟨?_, rfl⟩ (by decide))
    rw [decide_eq_true ⟨c, c2⟩]
    rfl
/-- in (v, 0, n - 1) -/
theorem in_inb (v : Int32) {n : Nat} (hn : n ≤ 100000) : decide (¬ v < 0 ∧ ¬ (nI n - 1) < v) = (inb v n).isSome := by
  rcases inb_cases v (n := n) (by omega) with ⟨h1, h2⟩ | ⟨k, h1, rfl, h2⟩
  · rw [h1]
    refine decide_eq_false (fun z => ?_)
    rcases h2 with h2 | ⟨-, h2⟩
    · exact z.1 h2
    · cases n with
      | zero => exact z.2 (Int32.lt_of_lt_of_le (show nI 0 - 1 < nI 0 by decide) h2)
      | succ n =>
        rw [nI_pred] at z
        exact z.2 (Int32.lt_of_lt_of_le (nI_lt (Nat.lt_succ_self n) (by omega)) h2)
  · rw [h2]
    refine decide_eq_true ⟨nI_pos (by omega), ?_⟩
    obtain ⟨n, rfl⟩ : ∃ n', n = n' + 1 := ⟨n - 1, by omega⟩
    rw [nI_pred]
    exact nI_nlt (by omega) (by omega)
theorem c_mparts {n : Nat} (hn : n ≤ 100000) : Xw l D ρ m_ContentStoreModel_parts 0 [(0, .int (nI n))] [] M d kc ks (fun r N => r = some (.int (nI (nParts n))) ∧ N = M) := by
  refine b_ContentStoreModel_parts_0 ⟨?_, rfl⟩
  rw [show (16 : Int32) = nI 16 from rfl, nI_add, show (1 : Int32) = nI 1 from rfl, pk_sub (by omega), pk_div (by omega) (by omega) (by omega)]
  rfl
theorem c_mwide {n k : Nat} (hn : n ≤ 100000) (hk : 16 * k ≤ n) : Xw l D ρ m_ContentStoreModel_wide 0 [(0, .int (nI n)), (1, .int (nI k))] [] M d kc ks (fun r N => r = some (.int (nI (min 16 (n - 16 * k)))) ∧ N = M) := by
  have e : nI n - 16 * nI k = nI (n - 16 * k) := by rw [show (16 : Int32) = nI 16 from rfl, pk_mul, pk_sub hk]
  refine b_ContentStoreModel_wide_0 (fun c => ?_) (fun c => ?_)
  · rw [e] at c
    have := (nI_leI (a := 16) (by decide) (by omega)).mp c
    refine b_ContentStoreModel_wide_20 (b_ContentStoreModel_wide_22 ⟨?_, rfl⟩)
    rw [Nat.min_eq_left this]
    rfl
  · rw [e] at c
    refine b_ContentStoreModel_wide_11 (b_ContentStoreModel_wide_22 ⟨?_, rfl⟩)
    have : n - 16 * k < 16 := by
      rcases Nat.lt_or_ge (n - 16 * k) 16 with z | z
      · exact z
      · exact absurd (nI_le z (by omega)) c
    rw [e, Nat.min_eq_right (by omega)]
theorem c_turned {x v : Int32} : Xw l D ρ m_ContentStoreModel_turned 0 [(0, .int x), (1, .int v)] [] M d kc ks (fun r N => r = some (.int (sumStep x v)) ∧ N = M) := b_ContentStoreModel_turned_0 ⟨rfl, rfl⟩
theorem c_mByte {k j : Nat} {b : sB} {w : Int32} (hS : mrSs es pb sl st c s) (hB : mrBs B sl s) (hb : B[k]? = some b) (ht : bThere b = true) (hw : wfI pb (bIds b) (bLen b)) (hi : ∀ x ∈ bIds b, x ∈ es) (hl : bLen b ≤ 96) (hk : k < 60) (hj : (bb pb (bIds b))[j]? = some w) :
    Xw l D ρ m_ContentStoreModel_byteOf 0 [(0, .ref pre.length), (1, .int (nI k)), (2, .int (nI j))] [] (mH pre post s) d kc ks (fun r N => r = some (.int w) ∧ N = mH pre post s) := by
  have hjl : j < bLen b := by rw [← bb_len hw]; exact (List.getElem?_eq_some_iff.mp hj).1
  obtain ⟨x, g1, g2, g3⟩ := bb_at hw hjl
  obtain ⟨-, ⟨l1, l2, l3⟩, hS1, -⟩ := hS
  obtain ⟨-, ⟨-, -, l4, -⟩, hB1, -⟩ := hB
  have hsl := (hB1 k b hb).2.2.2.2.2.2.2 ht _ x g1
  obtain ⟨t1, -, -, -, t2⟩ := hS1 x (hi x (List.mem_of_getElem? g1))
  rw [hj] at g2
  have e1 : (6 : Int32) * nI k + nI j / 16 = nI (6 * k + j / 16) := by rw [eD (by omega), e6]
  have e2 : (16 : Int32) * nI (sl x) + (nI j - nI j / 16 * 16) = nI (16 * sl x + j % 16) := by rw [eR (by omega), e16]
  exact b_ContentStoreModel_byteOf_0 h_obj h_slot e1 hsl (by omega) h_pby e2 (t2 _ _ g2.symm) (by omega) ⟨rfl, rfl⟩
theorem c_mSound {k : Nat} {b : sB} (hS : mrSs es pb sl st c s) (hB : mrBs B sl s) (hb : B[k]? = some b) (ht : bThere b = true) (hw : wfI pb (bIds b) (bLen b)) (hi : ∀ x ∈ bIds b, x ∈ es) (hl : bLen b ≤ 96) (hk : k < 60) (hd : 1 ≤ d) :
    Xw l D ρ m_ContentStoreModel_isSound 0 [(0, .ref pre.length), (1, .int (nI k))] [] (mH pre post s) d kc ks (fun r N => r = some (.int (i2b (sndB pb b))) ∧ N = mH pre post s) := by
  have hbl := bb_len hw
  obtain ⟨-, ⟨-, l2, -, l4, -⟩, hB1, -⟩ := id hB
  obtain ⟨-, hlen, hsum, -⟩ := hB1 k b hb
  refine b_ContentStoreModel_isSound_0 ?_
  have loop : ∀ (n j : Nat) (x : Int32), j + n = bLen b → Xw l D ρ m_ContentStoreModel_isSound 4 [(0, .ref pre.length), (1, .int (nI k)), (2, .int x), (3, .int (nI j))] [] (mH pre post s) d kc ks (fun r N => r = some (.int (i2b (decide (sumL x ((bb pb (bIds b)).drop j) = bSum b)))) ∧ N = mH pre post s) := by
    intro n
    induction n with
    | zero =>
      intro j x hj
      refine b_ContentStoreModel_isSound_4 h_obj h_len rfl hlen (by omega) (fun _ => ?_) (fun c => absurd (nI_le (by omega) (by omega)) c)
      rw [List.drop_eq_nil_of_le (by omega)]
      refine b_ContentStoreModel_isSound_31 h_obj h_sum rfl hsum (by omega) (fun c => ?_) (fun c => ?_)
      · refine b_ContentStoreModel_isSound_45 (b_ContentStoreModel_isSound_46 ⟨?_, rfl⟩ (by decide))
        rw [decide_eq_false (show ¬ sumL x [] = bSum b from c)]
        rfl
      · refine b_ContentStoreModel_isSound_41 (b_ContentStoreModel_isSound_46 ⟨?_, rfl⟩ (by decide))
        rw [decide_eq_true (show sumL x [] = bSum b from c)]
        rfl
    | succ n ih =>
      intro j x hj
      have hlt : j < (bb pb (bIds b)).length := by omega
      refine b_ContentStoreModel_isSound_4 h_obj h_len rfl hlen (by omega) (fun c => absurd c (nI_ge (by omega) (by omega))) (fun _ => ?_)
      refine b_ContentStoreModel_isSound_14 (cd1 := 0) (ckc1 := 0) (cks1 := 0) (ckc2 := kc) (cks2 := ks) (by omega) (by omega) (by omega) h_obj (c_mByte hS hB hb ht hw hi hl hk (List.getElem?_eq_getElem hlt)) (fun r N h => ?_)
      obtain ⟨rfl, rfl⟩ := h
      refine b_ContentStoreModel_isSound_21 (cd1 := 0) (ckc1 := 0) (cks1 := 0) (ckc2 := kc) (cks2 := ks) (by omega) (by omega) (by omega) c_turned (fun r N h => ?_)
      obtain ⟨rfl, rfl⟩ := h
      refine b_ContentStoreModel_isSound_24 ?_
      rw [nI_1, List.drop_eq_getElem_cons hlt]
      exact ih (j + 1) _ (by omega)
  exact loop (bLen b) 0 0 (by omega)
theorem c_mWork {k : Nat} {b : sB} (hS : mrSs es pb sl st c s) (hB : mrBs B sl s) (hb : B[k]? = some b) (ht : bThere b = true) (hw : wfI pb (bIds b) (bLen b)) (hi : ∀ x ∈ bIds b, x ∈ es) (hl : bLen b ≤ 96) (hk : k < 60) (ha : a.length = bLen b) (hwk : wk a (g_work s)) (hd : 1 ≤ d) :
    Xw l D ρ m_ContentStoreModel_isWork 0 [(0, .ref pre.length), (1, .int (nI k))] [] (mH pre post s) d kc ks (fun r N => r = some (.int (i2b (decide (bb pb (bIds b) = a)))) ∧ N = mH pre post s) := by
  have hbl := bb_len hw
  obtain ⟨-, ⟨-, l2, -, l4, -⟩, hB1, -⟩ := id hB
  obtain ⟨-, hlen, hsum, -⟩ := hB1 k b hb
  refine b_ContentStoreModel_isWork_0 ?_
  have fin0 : ∀ (j : Nat), ¬ bb pb (bIds b) = a → Xw l D ρ m_ContentStoreModel_isWork 4 [(0, .ref pre.length), (1, .int (nI k)), (2, .int 0), (3, .int (nI j))] [] (mH pre post s) d kc ks (fun r N => r = some (.int (i2b (decide (bb pb (bIds b) = a)))) ∧ N = mH pre post s) := by
    intro j hne
    have e : some (Value.int 0) = some (.int (i2b (decide (bb pb (bIds b) = a)))) := by rw [decide_eq_false hne]; rfl
    exact b_ContentStoreModel_isWork_4 h_obj h_len rfl hlen (by omega) (fun _ => b_ContentStoreModel_isWork_45 ⟨e, rfl⟩ (by decide)) (fun _ => b_ContentStoreModel_isWork_14 (fun _ => b_ContentStoreModel_isWork_45 ⟨e, rfl⟩ (by decide)) (fun c => absurd rfl c))
  have loop : ∀ (n j : Nat), j + n = bLen b → (∀ i, i < j → (bb pb (bIds b))[i]? = a[i]?) → Xw l D ρ m_ContentStoreModel_isWork 4 [(0, .ref pre.length), (1, .int (nI k)), (2, .int 1), (3, .int (nI j))] [] (mH pre post s) d kc ks (fun r N => r = some (.int (i2b (decide (bb pb (bIds b) = a)))) ∧ N = mH pre post s) := by
    intro n
    induction n with
    | zero =>
      intro j hj hp
      refine b_ContentStoreModel_isWork_4 h_obj h_len rfl hlen (by omega) (fun _ => b_ContentStoreModel_isWork_45 ⟨?_, rfl⟩ (by decide)) (fun c => absurd (nI_le (by omega) (by omega)) c)
      have : bb pb (bIds b) = a := by
        apply List.ext_getElem?
        intro i
        by_cases hij : i < j
        · exact hp i hij
        · rw [List.getElem?_eq_none (by omega), List.getElem?_eq_none (by omega)]
      rw [decide_eq_true this]
      rfl
    | succ n ih =>
      intro j hj hp
      have hlt : j < (bb pb (bIds b)).length := by omega
      have hja : j < a.length := by omega
      refine b_ContentStoreModel_isWork_4 h_obj h_len rfl hlen (by omega) (fun c => absurd c (nI_ge (by omega) (by omega))) (fun _ => ?_)
      refine b_ContentStoreModel_isWork_14 (fun c => absurd c (by decide)) (fun _ => ?_)
      refine b_ContentStoreModel_isWork_18 (cd1 := 0) (ckc1 := 0) (cks1 := 0) (ckc2 := kc) (cks2 := ks) (by omega) (by omega) (by omega) h_obj (c_mByte hS hB hb ht hw hi hl hk (List.getElem?_eq_getElem hlt)) (fun r N h => ?_)
      obtain ⟨rfl, rfl⟩ := h
      have hwl := hwk.1
      refine b_ContentStoreModel_isWork_24 h_obj h_work rfl (hwk.2 j _ (List.getElem?_eq_getElem hja)) (by omega) (fun c => ?_) (fun c => ?_)
      · refine b_ContentStoreModel_isWork_37 (b_ContentStoreModel_isWork_38 ?_)
        rw [nI_1]
        exact fin0 (j + 1) (fun z => c (by simp only [z]))
      · refine b_ContentStoreModel_isWork_33 (b_ContentStoreModel_isWork_38 ?_)
        rw [nI_1]
        refine ih (j + 1) (by omega) (fun i hi => ?_)
        by_cases hij : i = j
        · subst hij
          rw [List.getElem?_eq_getElem hlt, List.getElem?_eq_getElem hja, c]
        · exact hp i (by omega)
  exact loop (bLen b) 0 (by omega) (fun i hi => absurd hi (Nat.not_lt_zero i))
end MLEAF
