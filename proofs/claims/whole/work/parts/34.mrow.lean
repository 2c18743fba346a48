def usum (f : Nat → Nat) : Nat → Nat
  | 0 => 0
  | n + 1 => usum f n + f n
def selF (es : List Nat) (sl w : Nat → Nat) (i : Nat) : Nat := match es.find? (fun x => decide (sl x = i)) with
  | some x => w x
  | none => 0
theorem usum_add (f g : Nat → Nat) : ∀ n, usum (fun i => f i + g i) n = usum f n + usum g n
  | 0 => rfl
  | n + 1 => by
    rw [usum, usum, usum, usum_add f g n]
    omega
theorem usum_congr {f g : Nat → Nat} : ∀ n, (∀ i, i < n → f i = g i) → usum f n = usum g n
  | 0, _ => rfl
  | n + 1, h => by rw [usum, usum, usum_congr n (fun i hi => h i (by omega)), h n (by omega)]
theorem usum_one (k w : Nat) : ∀ n, usum (fun i => if k = i then w else 0) n = if k < n then w else 0
  | 0 => rfl
  | n + 1 => by
    rw [usum, usum_one k w n]
    by_cases h1 : k < n
    · rw [if_pos h1, if_neg (by omega), if_pos (by omega)]
      rfl
    · by_cases h2 : k = n
      · subst h2
        rw [if_neg h1, if_pos rfl, if_pos (by omega)]
        omega
      · rw [if_neg h1, if_neg h2, if_neg (by omega)]
theorem usum_sel (sl w : Nat → Nat) : ∀ (es : List Nat), es.Nodup → (∀ x ∈ es, sl x < 400) → (∀ x ∈ es, ∀ y ∈ es, sl x = sl y → x = y) → usum (selF es sl w) 400 = (es.map w).sum
  | [], _, _, _ => by
    rw [usum_congr (g := fun i => if 400 = i then 0 else 0) 400 (fun i _ => by simp [selF]), usum_one]
    rfl
  | x :: es, hn, h4, hi => by
    have ih := usum_sel sl w es (List.nodup_cons.mp hn).2 (fun y hy => h4 y (List.mem_cons_of_mem _ hy)) (fun y hy z hz => hi y (List.mem_cons_of_mem _ hy) z (List.mem_cons_of_mem _ hz))
    have hs : ∀ i, i < 400 → selF (x :: es) sl w i = selF es sl w i + (if sl x = i then w x else 0) := fun i _ => by
      unfold selF
      rw [List.find?_cons]
      by_cases hx : sl x = i
      · rw [decide_eq_true hx, if_pos hx]
        have : es.find? (fun y => decide (sl y = i)) = none := List.find?_eq_none.mpr (fun y hy => by
          simp only [decide_eq_true_eq]
          intro z
          have := hi x List.mem_cons_self y (List.mem_cons_of_mem _ hy) (by omega)
          exact (List.nodup_cons.mp hn).1 (this ▸ hy))
        rw [this]
        simp
      · rw [decide_eq_false hx, if_neg hx]
        rfl
    rw [usum_congr 400 hs, usum_add, ih, usum_one, if_pos (h4 x List.mem_cons_self), List.map_cons, List.sum_cons]
    omega
theorem usum_le {f : Nat → Nat} {k : Nat} : ∀ n, k ≤ n → usum f k ≤ usum f n
  | 0, h => by rw [Nat.le_zero.mp h]; exact Nat.le_refl _
  | n + 1, h => by
    by_cases hk : k = n + 1
    · rw [hk]; exact Nat.le_refl _
    · have := usum_le (f := f) n (show k ≤ n by omega)
      rw [usum]
      omega
theorem slC_len (es : List Nat) (pb : Nat → List Int32) (sl : Nat → Nat) (i : Nat) : (slC es pb sl i).length = selF es sl (fun x => (pb x).length) i := by
  unfold slC selF
  cases es.find? (fun x => decide (sl x = i)) <;> rfl
section MROW
variable {l : Launch} {D : va_G} {ρ : xR} {M : List xCl} {d kc ks : Nat} {pre post : List xCl} {s : mS} {es : List Nat} {pb : Nat → List Int32} {sl st : Nat → Nat} {c : Nat} {B : List sB} {a : List Int32}
theorem c_mUsed (hS : mrSs es pb sl st c s) (hn : es.Nodup) (ht : tot pb es ≤ 100000) :
    Xw l D ρ m_ContentStoreModel_used 0 [(0, .ref pre.length)] [] (mH pre post s) d kc ks (fun r N => r = some (.int (nI (tot pb es))) ∧ N = mH pre post s) := by
  obtain ⟨m0, ⟨m1, m2, m3⟩, m4, m5, m6, m7⟩ := id hS
  have hall : usum (selF es sl (fun x => (pb x).length)) 400 = tot pb es := usum_sel sl _ es hn (fun x hx => (m4 x hx).1) m6
  refine b_ContentStoreModel_used_0 trivial ?_
  have loop : ∀ (n i : Nat), i + n = 400 → Xw l D ρ m_ContentStoreModel_used 4 [(0, .ref pre.length), (1, .int (nI (usum (selF es sl (fun x => (pb x).length)) i))), (2, .int (nI i))] [] (mH pre post s) d kc ks (fun r N => r = some (.int (nI (tot pb es))) ∧ N = mH pre post s) := by
    intro n
    induction n with
    | zero =>
      intro i hi
      obtain rfl : i = 400 := by omega
      rw [hall]
      exact b_ContentStoreModel_used_4 (fun _ => b_ContentStoreModel_used_26 ⟨rfl, rfl⟩) (fun c => absurd (by decide) c)
    | succ n ih =>
      intro i hi
      obtain ⟨z1, z2⟩ := slC_ok hS (i := i) (by omega)
      refine b_ContentStoreModel_used_4 (fun c => absurd c (nI_ge (b := 400) (by omega) (by decide))) (fun _ => ?_)
      refine b_ContentStoreModel_used_11 h_obj h_psz rfl z1 (by omega) ?_
      rw [nI_1, nI_add, slC_len]
      exact ih (i + 1) (by omega)
  exact loop 400 0 rfl
theorem c_mSumW (hwk : wk a (g_work s)) (ha : a.length ≤ 96) (hd : 1 ≤ d) :
    Xw l D ρ m_ContentStoreModel_sumOfWork 0 [(0, .ref pre.length), (1, .int (nI a.length))] [] (mH pre post s) d kc ks (fun r N => r = some (.int (sumL 0 a)) ∧ N = mH pre post s) := by
  have hwl := hwk.1
  refine b_ContentStoreModel_sumOfWork_0 ?_
  have loop : ∀ (n j : Nat) (x : Int32), j + n = a.length → Xw l D ρ m_ContentStoreModel_sumOfWork 4 [(0, .ref pre.length), (1, .int (nI a.length)), (2, .int x), (3, .int (nI j))] [] (mH pre post s) d kc ks (fun r N => r = some (.int (sumL x (a.drop j))) ∧ N = mH pre post s) := by
    intro n
    induction n with
    | zero =>
      intro j x hj
      refine b_ContentStoreModel_sumOfWork_4 (fun _ => b_ContentStoreModel_sumOfWork_26 ⟨?_, rfl⟩) (fun c => absurd (nI_le (by omega) (by omega)) c)
      rw [List.drop_eq_nil_of_le (by omega)]
      rfl
    | succ n ih =>
      intro j x hj
      have hlt : j < a.length := by omega
      refine b_ContentStoreModel_sumOfWork_4 (fun c => absurd c (nI_ge hlt (by omega))) (fun _ => ?_)
      refine b_ContentStoreModel_sumOfWork_9 (cd1 := 0) (ckc1 := 0) (cks1 := 0) (ckc2 := kc) (cks2 := ks) h_obj h_work rfl (hwk.2 j _ (List.getElem?_eq_getElem hlt)) (by omega) (by omega) (by omega) (by omega) c_turned (fun r N h => ?_)
      obtain ⟨rfl, rfl⟩ := h
      refine b_ContentStoreModel_sumOfWork_19 ?_
      rw [nI_1, List.drop_eq_getElem_cons hlt]
      exact ih (j + 1) _ (by omega)
  exact loop a.length 0 0 (by omega)
theorem c_mDigW (hwk : wk a (g_work s)) (ha : a.length ≤ 96) :
    Xw l D ρ m_ContentStoreModel_digestOfWork 0 [(0, .ref pre.length), (1, .int (nI a.length))] [] (mH pre post s) d kc ks (fun r N => r = some (.long (digL (nI a.length).toInt64 a)) ∧ N = mH pre post s) := by
  have hwl := hwk.1
  refine b_ContentStoreModel_digestOfWork_0 ?_
  have loop : ∀ (n j : Nat) (x : Int64), j + n = a.length → Xw l D ρ m_ContentStoreModel_digestOfWork 6 [(0, .ref pre.length), (1, .int (nI a.length)), (2, .long x), (4, .int (nI j))] [] (mH pre post s) d kc ks (fun r N => r = some (.long (digL x (a.drop j))) ∧ N = mH pre post s) := by
    intro n
    induction n with
    | zero =>
      intro j x hj
      refine b_ContentStoreModel_digestOfWork_6 (fun _ => b_ContentStoreModel_digestOfWork_40 ⟨?_, rfl⟩) (fun c => absurd (nI_le (by omega) (by omega)) c)
      rw [List.drop_eq_nil_of_le (by omega)]
      rfl
    | succ n ih =>
      intro j x hj
      have hlt : j < a.length := by omega
      refine b_ContentStoreModel_digestOfWork_6 (fun c => absurd c (nI_ge hlt (by omega))) (fun _ => ?_)
      refine b_ContentStoreModel_digestOfWork_12 h_obj h_work rfl (hwk.2 j _ (List.getElem?_eq_getElem hlt)) (by omega) ?_
      rw [nI_1, List.drop_eq_getElem_cons hlt]
      exact ih (j + 1) _ (by omega)
  exact loop a.length 0 _ (by omega)
theorem c_mMissing {v : Int32} {std : List Nat} (hS : mrSs es pb sl st c s) (hc : c ≤ 1000000) (h16 : ∀ x ∈ es, (pb x).length ≤ 16) (hwk : wk a (g_work s)) (ha : a.length ≤ 96) (hv : ∀ k, k < nParts a.length → stdR es sl (g_slot s) v std k) (hd : 3 ≤ d) :
    Xw l D ρ m_ContentStoreModel_missing 0 [(0, .ref pre.length), (1, .int v), (2, .int (nI a.length))] [] (mH pre post s) d kc ks (fun r N => r = some (.int (nI (needF es pb a (nParts a.length)))) ∧ N = mH pre post s) := by
  have hn6 : nParts a.length ≤ 6 := by unfold nParts; omega
  refine b_ContentStoreModel_missing_0 ?_
  have loop : ∀ (n k : Nat), k + n = nParts a.length → Xw l D ρ m_ContentStoreModel_missing 5 [(0, .ref pre.length), (1, .int v), (2, .int (nI a.length)), (3, .int (nI (needF es pb a k))), (4, .int (nI k))] [] (mH pre post s) d kc ks (fun r N => r = some (.int (nI (needF es pb a (nParts a.length)))) ∧ N = mH pre post s) := by
    intro n
    induction n with
    | zero =>
      intro k hk
      refine b_ContentStoreModel_missing_5 (cd1 := 0) (ckc1 := 0) (cks1 := 0) (ckc2 := kc) (cks2 := ks) (by omega) (by omega) (by omega) (c_mparts (by omega)) (fun r N h => ?_)
      obtain ⟨rfl, rfl⟩ := h
      obtain rfl : k = nParts a.length := by omega
      exact b_ContentStoreModel_missing_11 (fun _ => b_ContentStoreModel_missing_106 ⟨rfl, rfl⟩) (fun c => absurd (nI_le (by omega) (by omega)) c)
    | succ n ih =>
      intro k hk
      have hkn : k < nParts a.length := by omega
      have hk16 := kParts hkn
      refine b_ContentStoreModel_missing_5 (cd1 := 0) (ckc1 := 0) (cks1 := 0) (ckc2 := kc) (cks2 := ks) (by omega) (by omega) (by omega) (c_mparts (by omega)) (fun r N h => ?_)
      obtain ⟨rfl, rfl⟩ := h
      refine b_ContentStoreModel_missing_11 (fun c => absurd c (nI_ge hkn (by omega))) (fun _ => ?_)
      -- the end of a step
      have fin : ∀ (f : Bool), f = ((findP es pb (chunk a (16 * k))).isNone && !(earlier a k)) → Xw l D ρ m_ContentStoreModel_missing 82 [(0, .ref pre.length), (1, .int v), (2, .int (nI a.length)), (3, .int (nI (needF es pb a k))), (4, .int (nI k)), (5, .int (i2b f))] [] (mH pre post s) d kc ks (fun r N => r = some (.int (nI (needF es pb a (nParts a.length)))) ∧ N = mH pre post s) := by
        intro f hf
        have hnext := ih (k + 1) (by omega)
        rw [needF, ← hf] at hnext
        cases f with
        | false =>
          refine b_ContentStoreModel_missing_82 (fun _ => b_ContentStoreModel_missing_97 (b_ContentStoreModel_missing_98 ?_)) (fun c => absurd rfl c)
          rw [nI_1, show (0 : Int32) = nI 0 from rfl, nI_add]
          exact hnext
        | true =>
          refine b_ContentStoreModel_missing_82 (fun c => absurd c (by decide)) (fun _ => ?_)
          refine b_ContentStoreModel_missing_88 (cd1 := 0) (ckc1 := 0) (cks1 := 0) (ckc2 := kc) (cks2 := ks) (by omega) (by omega) (by omega) (c_mwide (by omega) (by omega)) (fun r N h => ?_)
          obtain ⟨rfl, rfl⟩ := h
          refine b_ContentStoreModel_missing_94 (b_ContentStoreModel_missing_98 ?_)
          rw [nI_1, ← chunk_wide, nI_add]
          exact hnext
      -- bytes that came before
      have inner0 : ∀ (j : Nat), ((findP es pb (chunk a (16 * k))).isNone && !(earlier a k)) = false → Xw l D ρ m_ContentStoreModel_missing 45 [(0, .ref pre.length), (1, .int v), (2, .int (nI a.length)), (3, .int (nI (needF es pb a k))), (4, .int (nI k)), (5, .int 0), (6, .int (nI j))] [] (mH pre post s) d kc ks (fun r N => r = some (.int (nI (needF es pb a (nParts a.length)))) ∧ N = mH pre post s) := fun j hf =>
        b_ContentStoreModel_missing_45 (fun _ => fin false hf.symm) (fun _ => b_ContentStoreModel_missing_52 (fun _ => fin false hf.symm) (fun c => absurd rfl c))
      have inner : ∀ (n' j : Nat), j + n' = k → (findP es pb (chunk a (16 * k))).isNone = true → (∀ t, t < j → ¬ chunk a (16 * t) = chunk a (16 * k)) → Xw l D ρ m_ContentStoreModel_missing 45 [(0, .ref pre.length), (1, .int v), (2, .int (nI a.length)), (3, .int (nI (needF es pb a k))), (4, .int (nI k)), (5, .int 1), (6, .int (nI j))] [] (mH pre post s) d kc ks (fun r N => r = some (.int (nI (needF es pb a (nParts a.length)))) ∧ N = mH pre post s) := by
        intro n'
        induction n' with
        | zero =>
          intro j hj hfn hp
          refine b_ContentStoreModel_missing_45 (fun _ => fin true ?_) (fun c => absurd (nI_le (by omega) (by omega)) c)
          have he : earlier a k = false := by
            cases hq : earlier a k with
            | false => rfl
            | true =>
              obtain ⟨t, g1, g2⟩ := earlier_iff.mp hq
              exact absurd g2 (hp t (by omega))
          rw [hfn, he]
          rfl
        | succ n' ih2 =>
          intro j hj hfn hp
          refine b_ContentStoreModel_missing_45 (fun c => absurd c (nI_ge (by omega) (by omega))) (fun _ => ?_)
          refine b_ContentStoreModel_missing_52 (fun c => absurd c (by decide)) (fun _ => ?_)
          refine b_ContentStoreModel_missing_57 (cd1 := 1) (ckc1 := 0) (cks1 := 0) (ckc2 := kc) (cks2 := ks) (by omega) (by omega) (by omega) h_obj (c_mAlike hwk ha (by omega) hkn (by omega)) (fun r N h => ?_)
          obtain ⟨rfl, rfl⟩ := h
          refine b_ContentStoreModel_missing_66 (fun c => ?_) (fun c => ?_)
          · have heq := of_decide_eq_true (i2b_t c)
            refine b_ContentStoreModel_missing_73 (b_ContentStoreModel_missing_74 ?_)
            rw [nI_1]
            refine inner0 (j + 1) ?_
            rw [earlier_iff.mpr ⟨j, by omega, heq⟩]
            simp
          · have hne := of_decide_eq_false (i2b_0.mp c)
            refine b_ContentStoreModel_missing_69 (b_ContentStoreModel_missing_74 ?_)
            rw [nI_1]
            refine ih2 (j + 1) (by omega) hfn (fun t ht => ?_)
            by_cases htj : t = j
            · subst htj; exact hne
            · exact hp t (by omega)
      refine b_ContentStoreModel_missing_14 (cd1 := 2) (ckc1 := 0) (cks1 := 0) (ckc2 := kc) (cks2 := ks) (by omega) (by omega) (by omega) h_obj (c_mStays hS h16 hwk ha hkn (hv k hkn) (by omega)) (fun r N h => ?_)
      obtain ⟨rfl, rfl⟩ := h
      refine b_ContentStoreModel_missing_22 (fun c => ?_) (fun c => ?_)
      · have hst := i2b_t c
        obtain ⟨x, hx⟩ := Option.isSome_iff_exists.mp hst
        obtain ⟨g1, g2⟩ := stayP_some hx
        have hxe : x ∈ es := by
          rcases hv k hkn with ⟨-, rfl⟩ | ⟨kb, -, -, -, -, h4⟩
          · simp at g1
          · exact (h4 x g1).1
        refine b_ContentStoreModel_missing_39 (b_ContentStoreModel_missing_40 (inner0 0 ?_))
        cases hfd : findP es pb (chunk a (16 * k)) with
        | none => exact absurd g2 (findP_none.mp hfd x hxe)
        | some y => rfl
      · refine b_ContentStoreModel_missing_25 (cd1 := 2) (ckc1 := 0) (cks1 := 0) (ckc2 := kc) (cks2 := ks) (by omega) (by omega) (by omega) h_obj (c_mFind hS hc h16 hwk ha hkn (by omega)) (fun r N h => ?_)
        obtain ⟨rfl, rfl⟩ := h
        cases hfd : findP es pb (chunk a (16 * k)) with
        | some x =>
          have hx4 := ((hS.2.2.1) x (findP_mem hfd).1).1
          refine b_ContentStoreModel_missing_32 (fun _ => ?_) (fun c => absurd (nI_pos' (by omega)) c)
          refine b_ContentStoreModel_missing_39 (b_ContentStoreModel_missing_40 (inner0 0 ?_))
          rw [hfd]
          rfl
        | none =>
          refine b_ContentStoreModel_missing_32 (fun c => absurd c (show ¬ (0 : Int32) ≤ -1 by decide)) (fun _ => ?_)
          refine b_ContentStoreModel_missing_35 (b_ContentStoreModel_missing_40 (inner k 0 (by omega) ?_ (fun t ht => absurd ht (Nat.not_lt_zero t))))
          rw [hfd]
          rfl
  exact loop (nParts a.length) 0 (by omega)
end MROW
