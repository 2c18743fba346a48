section MPART
variable {l : Launch} {D : va_G} {ρ : xR} {M : List xCl} {d kc ks : Nat} {pre post : List xCl} {s : mS} {es : List Nat} {pb : Nat → List Int32} {sl st : Nat → Nat} {c : Nat} {B : List sB} {a : List Int32}
theorem kParts {n k : Nat} (h : k < nParts n) : 16 * k < n := by unfold nParts at h; omega
theorem chunk_wide (a : List Int32) (k : Nat) : (chunk a (16 * k)).length = min 16 (a.length - 16 * k) := chunk_len a (16 * k)
theorem c_mIsPart {i k : Nat} {cc : List Int32} (hz : (g_psz s)[i]? = some (nI cc.length)) (hc16 : cc.length ≤ 16) (hlz : (g_psz s).length = 400) (hlp : (g_pby s).length = 6400) (hcb : ∀ j w, cc[j]? = some w → (g_pby s)[16 * i + j]? = some w) (hwk : wk a (g_work s)) (ha : a.length ≤ 96) (hk : k < nParts a.length) (hd : 1 ≤ d) :
    Xw l D ρ m_ContentStoreModel_isPart 0 [(0, .ref pre.length), (1, .int (nI i)), (2, .int (nI k)), (3, .int (nI a.length))] [] (mH pre post s) d kc ks (fun r N => r = some (.int (i2b (decide (cc = chunk a (16 * k))))) ∧ N = mH pre post s) := by
  have hk16 := kParts hk
  have hcw := chunk_wide a k
  have hwl := hwk.1
  refine b_ContentStoreModel_isPart_0 (cd1 := 0) (ckc1 := 0) (cks1 := 0) (ckc2 := kc) (cks2 := ks) h_obj h_psz rfl hz (by omega) (by omega) (by omega) (by omega) (c_mwide (by omega) (by omega)) (fun r N h => ?_)
  obtain ⟨rfl, rfl⟩ := h
  rw [← hcw]
  have fin0 : ∀ (j : Nat), ¬ cc = chunk a (16 * k) → Xw l D ρ m_ContentStoreModel_isPart 24 [(0, .ref pre.length), (1, .int (nI i)), (2, .int (nI k)), (3, .int (nI a.length)), (4, .int 0), (5, .int (nI j))] [] (mH pre post s) d kc ks (fun r N => r = some (.int (i2b (decide (cc = chunk a (16 * k))))) ∧ N = mH pre post s) := by
    intro j hne
    have e : some (Value.int 0) = some (.int (i2b (decide (cc = chunk a (16 * k))))) := by rw [decide_eq_false hne]; rfl
    refine b_ContentStoreModel_isPart_24 (cd1 := 0) (ckc1 := 0) (cks1 := 0) (ckc2 := kc) (cks2 := ks) (by omega) (by omega) (by omega) (c_mwide (by omega) (by omega)) (fun r N h => ?_)
    obtain ⟨rfl, rfl⟩ := h
    exact b_ContentStoreModel_isPart_31 (fun _ => b_ContentStoreModel_isPart_79 ⟨e, rfl⟩ (by decide)) (fun _ => b_ContentStoreModel_isPart_34 (fun _ => b_ContentStoreModel_isPart_79 ⟨e, rfl⟩ (by decide)) (fun c => absurd rfl c))
  refine b_ContentStoreModel_isPart_11 (fun c => ?_) (fun c => ?_)
  · refine b_ContentStoreModel_isPart_18 (b_ContentStoreModel_isPart_19 ?_)
    exact fin0 0 (fun z => c (by rw [z]))
  · have hlen : cc.length = (chunk a (16 * k)).length := (nI_eq (by omega) (by omega)).mp c
    refine b_ContentStoreModel_isPart_14 (b_ContentStoreModel_isPart_19 ?_)
    have loop : ∀ (n j : Nat), j + n = cc.length → (∀ t, t < j → cc[t]? = (chunk a (16 * k))[t]?) → Xw l D ρ m_ContentStoreModel_isPart 24 [(0, .ref pre.length), (1, .int (nI i)), (2, .int (nI k)), (3, .int (nI a.length)), (4, .int 1), (5, .int (nI j))] [] (mH pre post s) d kc ks (fun r N => r = some (.int (i2b (decide (cc = chunk a (16 * k))))) ∧ N = mH pre post s) := by
      intro n
      induction n with
      | zero =>
        intro j hj hp
        refine b_ContentStoreModel_isPart_24 (cd1 := 0) (ckc1 := 0) (cks1 := 0) (ckc2 := kc) (cks2 := ks) (by omega) (by omega) (by omega) (c_mwide (by omega) (by omega)) (fun r N h => ?_)
        obtain ⟨rfl, rfl⟩ := h
        refine b_ContentStoreModel_isPart_31 (fun _ => b_ContentStoreModel_isPart_79 ⟨?_, rfl⟩ (by decide)) (fun c => absurd (nI_le (by omega) (by omega)) c)
        have : cc = chunk a (16 * k) := by
          apply List.ext_getElem?
          intro t
          by_cases ht : t < j
          · exact hp t ht
          · rw [List.getElem?_eq_none (by omega), List.getElem?_eq_none (by omega)]
        rw [decide_eq_true this]
        rfl
      | succ n ih =>
        intro j hj hp
        have hjc : j < cc.length := by omega
        have hjk : j < (chunk a (16 * k)).length := by omega
        refine b_ContentStoreModel_isPart_24 (cd1 := 0) (ckc1 := 0) (cks1 := 0) (ckc2 := kc) (cks2 := ks) (by omega) (by omega) (by omega) (c_mwide (by omega) (by omega)) (fun r N h => ?_)
        obtain ⟨rfl, rfl⟩ := h
        refine b_ContentStoreModel_isPart_31 (fun c => absurd c (nI_ge (by omega) (by omega))) (fun _ => ?_)
        refine b_ContentStoreModel_isPart_34 (fun c => absurd c (by decide)) (fun _ => ?_)
        refine b_ContentStoreModel_isPart_39 h_obj h_pby (e16 i j) (hcb j _ (List.getElem?_eq_getElem hjc)) (by omega) h_work (e16 k j) (hwk.2 _ _ (chunk_at hjk)) (by omega) (fun c => ?_) (fun c => ?_)
        · refine b_ContentStoreModel_isPart_70 (b_ContentStoreModel_isPart_71 ?_)
          rw [nI_1]
          exact fin0 (j + 1) (fun z => c (by simp only [z]))
        · refine b_ContentStoreModel_isPart_66 (b_ContentStoreModel_isPart_71 ?_)
          rw [nI_1]
          refine ih (j + 1) (by omega) (fun t ht => ?_)
          by_cases htj : t = j
          · subst htj
            rw [List.getElem?_eq_getElem hjc, List.getElem?_eq_getElem hjk, c]
          · exact hp t (by omega)
    exact loop cc.length 0 (by omega) (fun t ht => absurd ht (Nat.not_lt_zero t))
theorem find_min {cc : List Int32} {x : Nat} (hp : es.Pairwise (fun x y => st x < st y)) (hx : x ∈ es) (hc : pb x = cc) (hm : ∀ y ∈ es, pb y = cc → st x ≤ st y) : findP es pb cc = some x := by
  induction es with
  | nil => simp at hx
  | cons y es ih =>
    rw [findP, List.find?_cons]
    by_cases hy : pb y = cc
    · rw [decide_eq_true hy]
      rcases List.mem_cons.mp hx with h | h
      · rw [h]
      · have h1 := (List.pairwise_cons.mp hp).1 x h
        have h2 := hm y List.mem_cons_self hy
        omega
    · rw [decide_eq_false hy]
      rcases List.mem_cons.mp hx with h | h
      · rw [h] at hc
        exact absurd hc hy
      · exact ih (List.pairwise_cons.mp hp).2 h (fun z hz => hm z (List.mem_cons_of_mem _ hz))
theorem c_mFind {k : Nat} (hS : mrSs es pb sl st c s) (hc : c ≤ 1000000) (h16 : ∀ x ∈ es, (pb x).length ≤ 16) (hwk : wk a (g_work s)) (ha : a.length ≤ 96) (hk : k < nParts a.length) (hd : 2 ≤ d) :
    Xw l D ρ m_ContentStoreModel_find 0 [(0, .ref pre.length), (1, .int (nI k)), (2, .int (nI a.length))] [] (mH pre post s) d kc ks (fun r N => r = some (.int (match findP es pb (chunk a (16 * k)) with | some x => nI (sl x) | none => -1)) ∧ N = mH pre post s) := by
  have hk16 := kParts hk
  have hcw := chunk_wide a k
  obtain ⟨m0, ⟨m1, m2, m3⟩, m4, m5, m6, m7⟩ := id hS
  refine b_ContentStoreModel_find_0 ?_
  have loop : ∀ (n i : Nat) (best : Int32), i + n = 400 → ((best = -1 ∧ ∀ x ∈ es, sl x < i → pb x ≠ chunk a (16 * k)) ∨ ∃ x ∈ es, best = nI (sl x) ∧ pb x = chunk a (16 * k) ∧ ∀ y ∈ es, sl y < i → pb y = chunk a (16 * k) → st x ≤ st y) → Xw l D ρ m_ContentStoreModel_find 5 [(0, .ref pre.length), (1, .int (nI k)), (2, .int (nI a.length)), (3, .int best), (4, .int (nI i))] [] (mH pre post s) d kc ks (fun r N => r = some (.int (match findP es pb (chunk a (16 * k)) with | some x => nI (sl x) | none => -1)) ∧ N = mH pre post s) := by
    intro n
    induction n with
    | zero =>
      intro i best hi hinv
      refine b_ContentStoreModel_find_5 (fun _ => b_ContentStoreModel_find_53 ⟨?_, rfl⟩) (fun c => absurd (nI_le (a := 400) (by omega) (by omega)) c)
      rcases hinv with ⟨rfl, h1⟩ | ⟨x, h1, rfl, h3, h4⟩
      · rw [findP_none.mpr (fun x hx => h1 x hx (by have := (m4 x hx).1; omega))]
      · rw [find_min m5 h1 h3 (fun y hy hyc => h4 y hy (by have := (m4 y hy).1; omega) hyc)]
    | succ n ih =>
      intro i best hi hinv
      have hi4 : i < 400 := by omega
      obtain ⟨z1, z2⟩ := slC_ok hS hi4
      have z3 : (slC es pb sl i).length ≤ 16 := by
        rcases slC_cases es pb sl i with ⟨x, g1, g2, g3⟩ | ⟨g1, g2⟩
        · rw [g3]; exact h16 x g1
        · rw [g2]; decide
      refine b_ContentStoreModel_find_5 (fun c => absurd c (nI_ge (b := 400) hi4 (by decide))) (fun _ => ?_)
      refine b_ContentStoreModel_find_13 (cd1 := 1) (ckc1 := 0) (cks1 := 0) (ckc2 := kc) (cks2 := ks) (by omega) (by omega) (by omega) h_obj (c_mIsPart z1 z3 m1 m3 z2 hwk ha hk (by omega)) (fun r N h => ?_)
      obtain ⟨rfl, rfl⟩ := h
      refine b_ContentStoreModel_find_21 (fun c => ?_) (fun c => ?_)
      · have hne := of_decide_eq_false (i2b_0.mp c)
        have hni : ∀ y ∈ es, sl y < i + 1 → pb y = chunk a (16 * k) → sl y < i := fun y hy hyi hyc => by
          rcases Nat.lt_or_ge (sl y) i with z | z
          · exact z
          · exfalso
            have hyi2 : sl y = i := by omega
            rcases slC_cases es pb sl i with ⟨x, g1, g2, g3⟩ | ⟨g1, g2⟩
            · have := m6 x g1 y hy (by omega)
              subst this
              exact hne (by rw [g3, hyc])
            · exact g1 y hy hyi2
        refine b_ContentStoreModel_find_47 ?_
        rw [nI_1]
        refine ih (i + 1) best (by omega) ?_
        rcases hinv with ⟨rfl, h1⟩ | ⟨x, h1, rfl, h3, h4⟩
        · exact Or.inl ⟨rfl, fun x hx hxi hxc => h1 x hx (hni x hx hxi hxc) hxc⟩
        · exact Or.inr ⟨x, h1, rfl, h3, fun y hy hyi hyc => h4 y hy (hni y hy hyi hyc) hyc⟩
      · have heq := of_decide_eq_true (i2b_t c)
        obtain ⟨y, hy1, hy2, hy3⟩ : ∃ y ∈ es, sl y = i ∧ pb y = chunk a (16 * k) := by
          rcases slC_cases es pb sl i with ⟨x, g1, g2, g3⟩ | ⟨g1, g2⟩
          · exact ⟨x, g1, g2, by rw [← g3, heq]⟩
          · rw [g2] at heq
            rw [← heq] at hcw
            rw [List.length_nil] at hcw
            omega
        have hysame : ∀ z ∈ es, sl z < i + 1 → sl z < i ∨ z = y := fun z hz hzi => by
          rcases Nat.lt_or_ge (sl z) i with w | w
          · exact Or.inl w
          · exact Or.inr (m6 z hz y hy1 (by omega))
        have take : (∀ z ∈ es, sl z < i → pb z = chunk a (16 * k) → st y ≤ st z) → Xw l D ρ m_ContentStoreModel_find 44 [(0, .ref pre.length), (1, .int (nI k)), (2, .int (nI a.length)), (4, .int (nI i))] [] (mH pre post s) d kc ks (fun r N => r = some (.int (match findP es pb (chunk a (16 * k)) with | some x => nI (sl x) | none => -1)) ∧ N = mH pre post s) := by
          intro hmin
          refine b_ContentStoreModel_find_44 (b_ContentStoreModel_find_47 ?_)
          rw [nI_1]
          refine ih (i + 1) _ (by omega) (Or.inr ⟨y, hy1, by rw [hy2], hy3, fun z hz hzi hzc => ?_⟩)
          rcases hysame z hz hzi with w | w
          · exact hmin z hz w hzc
          · rw [w]; exact Nat.le_refl _
        rcases hinv with ⟨rfl, h1⟩ | ⟨x, h1, rfl, h3, h4⟩
        · refine b_ContentStoreModel_find_24 (fun _ => take (fun z hz hzi hzc => absurd hzc (h1 z hz hzi))) (fun c => absurd (by decide) c)
        · obtain ⟨t1, t2, t3, t4, t5⟩ := m4 x h1
          obtain ⟨u1, u2, u3, u4, u5⟩ := m4 y hy1
          refine b_ContentStoreModel_find_24 (fun c => absurd c (nI_pos (by omega))) (fun _ => ?_)
          rw [hy2] at u4
          refine b_ContentStoreModel_find_28 h_obj h_stp rfl u4 (by omega) rfl t4 (by omega) (fun c2 => ?_) (fun c2 => ?_)
          · have hle : st x ≤ st y := (nI_leI (by omega) (by omega)).mp c2
            refine b_ContentStoreModel_find_47 ?_
            rw [nI_1]
            refine ih (i + 1) _ (by omega) (Or.inr ⟨x, h1, rfl, h3, fun z hz hzi hzc => ?_⟩)
            rcases hysame z hz hzi with w | w
            · exact h4 z hz w hzc
            · rw [w]; exact hle
          · have hgt : ¬ st x ≤ st y := fun z => c2 (nI_le z (by omega))
            exact take (fun z hz hzi hzc => by have := h4 z hz hzi hzc; omega)
  exact loop 400 0 (-1) rfl (Or.inl ⟨rfl, fun x _ h => absurd h (Nat.not_lt_zero _)⟩)
theorem c_mAlike {i k : Nat} (hwk : wk a (g_work s)) (ha : a.length ≤ 96) (hi : i < nParts a.length) (hk : k < nParts a.length) (hd : 1 ≤ d) :
    Xw l D ρ m_ContentStoreModel_areAlike 0 [(0, .ref pre.length), (1, .int (nI i)), (2, .int (nI k)), (3, .int (nI a.length))] [] (mH pre post s) d kc ks (fun r N => r = some (.int (i2b (decide (chunk a (16 * i) = chunk a (16 * k))))) ∧ N = mH pre post s) := by
  have hi16 := kParts hi
  have hk16 := kParts hk
  have hcw := chunk_wide a k
  have hci := chunk_wide a i
  have hwl := hwk.1
  refine b_ContentStoreModel_areAlike_0 (cd1 := 0) (ckc1 := 0) (cks1 := 0) (ckc2 := kc) (cks2 := ks) (by omega) (by omega) (by omega) (c_mwide (by omega) (by omega)) (fun r N h => ?_)
  obtain ⟨rfl, rfl⟩ := h
  refine b_ContentStoreModel_areAlike_5 (cd1 := 0) (ckc1 := 0) (cks1 := 0) (ckc2 := kc) (cks2 := ks) (by omega) (by omega) (by omega) (c_mwide (by omega) (by omega)) (fun r N h => ?_)
  obtain ⟨rfl, rfl⟩ := h
  rw [← hcw, ← hci]
  have fin0 : ∀ (j : Nat), ¬ chunk a (16 * i) = chunk a (16 * k) → Xw l D ρ m_ContentStoreModel_areAlike 23 [(0, .ref pre.length), (1, .int (nI i)), (2, .int (nI k)), (3, .int (nI a.length)), (4, .int 0), (5, .int (nI j))] [] (mH pre post s) d kc ks (fun r N => r = some (.int (i2b (decide (chunk a (16 * i) = chunk a (16 * k))))) ∧ N = mH pre post s) := by
    intro j hne
    have e : some (Value.int 0) = some (.int (i2b (decide (chunk a (16 * i) = chunk a (16 * k))))) := by rw [decide_eq_false hne]; rfl
    refine b_ContentStoreModel_areAlike_23 (cd1 := 0) (ckc1 := 0) (cks1 := 0) (ckc2 := kc) (cks2 := ks) (by omega) (by omega) (by omega) (c_mwide (by omega) (by omega)) (fun r N h => ?_)
    obtain ⟨rfl, rfl⟩ := h
    exact b_ContentStoreModel_areAlike_30 (fun _ => b_ContentStoreModel_areAlike_78 ⟨e, rfl⟩ (by decide)) (fun _ => b_ContentStoreModel_areAlike_33 (fun _ => b_ContentStoreModel_areAlike_78 ⟨e, rfl⟩ (by decide)) (fun c => absurd rfl c))
  refine b_ContentStoreModel_areAlike_10 (fun c => ?_) (fun c => ?_)
  · refine b_ContentStoreModel_areAlike_17 (b_ContentStoreModel_areAlike_18 ?_)
    exact fin0 0 (fun z => c (by rw [z]))
  · have hlen : (chunk a (16 * i)).length = (chunk a (16 * k)).length := (nI_eq (by omega) (by omega)).mp c
    refine b_ContentStoreModel_areAlike_13 (b_ContentStoreModel_areAlike_18 ?_)
    have loop : ∀ (n j : Nat), j + n = (chunk a (16 * i)).length → (∀ t, t < j → (chunk a (16 * i))[t]? = (chunk a (16 * k))[t]?) → Xw l D ρ m_ContentStoreModel_areAlike 23 [(0, .ref pre.length), (1, .int (nI i)), (2, .int (nI k)), (3, .int (nI a.length)), (4, .int 1), (5, .int (nI j))] [] (mH pre post s) d kc ks (fun r N => r = some (.int (i2b (decide (chunk a (16 * i) = chunk a (16 * k))))) ∧ N = mH pre post s) := by
      intro n
      induction n with
      | zero =>
        intro j hj hp
        refine b_ContentStoreModel_areAlike_23 (cd1 := 0) (ckc1 := 0) (cks1 := 0) (ckc2 := kc) (cks2 := ks) (by omega) (by omega) (by omega) (c_mwide (by omega) (by omega)) (fun r N h => ?_)
        obtain ⟨rfl, rfl⟩ := h
        refine b_ContentStoreModel_areAlike_30 (fun _ => b_ContentStoreModel_areAlike_78 ⟨?_, rfl⟩ (by decide)) (fun c => absurd (nI_le (by omega) (by omega)) c)
        have : chunk a (16 * i) = chunk a (16 * k) := by
          apply List.ext_getElem?
          intro t
          by_cases ht : t < j
          · exact hp t ht
          · rw [List.getElem?_eq_none (by omega), List.getElem?_eq_none (by omega)]
        rw [decide_eq_true this]
        rfl
      | succ n ih =>
        intro j hj hp
        have hjc : j < (chunk a (16 * i)).length := by omega
        have hjk : j < (chunk a (16 * k)).length := by omega
        refine b_ContentStoreModel_areAlike_23 (cd1 := 0) (ckc1 := 0) (cks1 := 0) (ckc2 := kc) (cks2 := ks) (by omega) (by omega) (by omega) (c_mwide (by omega) (by omega)) (fun r N h => ?_)
        obtain ⟨rfl, rfl⟩ := h
        refine b_ContentStoreModel_areAlike_30 (fun c => absurd c (nI_ge (by omega) (by omega))) (fun _ => ?_)
        refine b_ContentStoreModel_areAlike_33 (fun c => absurd c (by decide)) (fun _ => ?_)
        refine b_ContentStoreModel_areAlike_38 h_obj h_work (e16 i j) (hwk.2 _ _ (chunk_at hjc)) (by omega) (e16 k j) (hwk.2 _ _ (chunk_at hjk)) (by omega) (fun c => ?_) (fun c => ?_)
        · refine b_ContentStoreModel_areAlike_69 (b_ContentStoreModel_areAlike_70 ?_)
          rw [nI_1]
          exact fin0 (j + 1) (fun z => c (by simp only [z]))
        · refine b_ContentStoreModel_areAlike_65 (b_ContentStoreModel_areAlike_70 ?_)
          rw [nI_1]
          refine ih (j + 1) (by omega) (fun t ht => ?_)
          by_cases htj : t = j
          · subst htj
            rw [List.getElem?_eq_getElem hjc, List.getElem?_eq_getElem hjk, c]
          · exact hp t (by omega)
    exact loop (chunk a (16 * i)).length 0 (by omega) (fun t ht => absurd ht (Nat.not_lt_zero t))
/-- the parts that stand in a blob's row, for the model -/
def stdR (es : List Nat) (sl : Nat → Nat) (slot : List Int32) (v : Int32) (std : List Nat) (k : Nat) : Prop := (v = -1 ∧ std = []) ∨ ∃ kb, kb < 60 ∧ v = nI kb ∧ k < std.length ∧ slot.length = 360 ∧ ∀ (x : Nat), std[k]? = some x → x ∈ es ∧ slot[6 * kb + k]? = some (nI (sl x))
theorem c_mStays {v : Int32} {k : Nat} {std : List Nat} (hS : mrSs es pb sl st c s) (h16 : ∀ x ∈ es, (pb x).length ≤ 16) (hwk : wk a (g_work s)) (ha : a.length ≤ 96) (hk : k < nParts a.length) (hv : stdR es sl (g_slot s) v std k) (hd : 2 ≤ d) :
    Xw l D ρ m_ContentStoreModel_stays 0 [(0, .ref pre.length), (1, .int v), (2, .int (nI k)), (3, .int (nI a.length))] [] (mH pre post s) d kc ks (fun r N => r = some (.int (i2b (stayP pb std k (chunk a (16 * k))).isSome)) ∧ N = mH pre post s) := by
  obtain ⟨m0, ⟨m1, m2, m3⟩, m4, m5, m6, m7⟩ := id hS
  have hk16 := kParts hk
  rcases hv with ⟨rfl, rfl⟩ | ⟨kb, h1, rfl, h2, h3, h4⟩
  · have e : (stayP pb [] k (chunk a (16 * k))) = none := by simp [stayP]
    rw [e]
    exact b_ContentStoreModel_stays_0 (fun _ => b_ContentStoreModel_stays_28 (b_ContentStoreModel_stays_29 ⟨rfl, rfl⟩ (by decide))) (fun c => absurd (by decide) c)
  · have hks : std[k]? = some std[k] := List.getElem?_eq_getElem (by omega)
    obtain ⟨g1, g2⟩ := h4 _ hks
    obtain ⟨t1, t2, t3, t4, t5⟩ := m4 _ g1
    have e : (stayP pb std k (chunk a (16 * k))).isSome = decide (pb std[k] = chunk a (16 * k)) := by
      rw [stayP, hks]
      by_cases h : pb std[k] = chunk a (16 * k)
      · simp only [if_pos h, decide_eq_true h]; rfl
      · simp only [if_neg h, decide_eq_false h]; rfl
    rw [e]
    refine b_ContentStoreModel_stays_0 (fun c => absurd c (nI_pos (by omega))) (fun _ => ?_)
    refine b_ContentStoreModel_stays_4 (cd1 := 1) (ckc1 := 0) (cks1 := 0) (ckc2 := kc) (cks2 := ks) h_obj h_slot (e6 kb k) g2 (by omega) (by omega) (by omega) (by omega) (c_mIsPart t2 (h16 _ g1) m1 m3 t5 hwk ha hk (by omega)) (fun r N h => ?_)
    obtain ⟨rfl, rfl⟩ := h
    cases hd2 : decide (pb std[k] = chunk a (16 * k)) with
    | true => exact b_ContentStoreModel_stays_21 (fun c => absurd c (by decide)) (fun _ => b_ContentStoreModel_stays_24 (b_ContentStoreModel_stays_29 ⟨rfl, rfl⟩ (by decide)))
    | false => exact b_ContentStoreModel_stays_21 (fun _ => b_ContentStoreModel_stays_28 (b_ContentStoreModel_stays_29 ⟨rfl, rfl⟩ (by decide))) (fun c => absurd rfl c)
end MPART
