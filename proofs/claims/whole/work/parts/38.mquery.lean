/-! THE MODEL'S QUESTIONS -/
def MR (c room : Nat) (P : List sP) (es : List Nat) (pb : Nat → List Int32) (B : List sB) (act : List Int32) (nk : Nat) (s : mS) : Prop := ∃ sl st, mrPs P s ∧ mrSs es pb sl st c s ∧ mrBs B sl s ∧ g_act s = act ∧ g_packs s = nk ∧ g_room s = room ∧ (g_work s).length = 96
section MQUERY
variable {l : Launch} {D : va_G} {ρ : xR} {M : List xCl} {d kc ks : Nat} {pre post : List xCl} {s : mS} {c room : Nat} {P : List sP} {es : List Nat} {pb : Nat → List Int32} {B : List sB} {act : List Int32} {nk : Nat} {sl st : Nat → Nat}
theorem c_mIsBlob {v : Int32} (hB : mrBs B sl s) (h60 : B.length ≤ 60) (hd : 1 ≤ d) :
    Xw l D ρ m_ContentStoreModel_isBlob 0 [(0, .ref pre.length), (1, .int v)] [] (mH pre post s) d kc ks (fun r N => r = some (.int (i2b (thB B v).isSome)) ∧ N = mH pre post s) := by
  obtain ⟨b0, ⟨l1, -⟩, hB1, -⟩ := id hB
  refine b_ContentStoreModel_isBlob_0 (cd1 := 0) (ckc1 := 0) (cks1 := 0) (ckc2 := kc) (cks2 := ks) h_obj (by omega) (by omega) (by omega) c_in (fun r N h => ?_)
  obtain ⟨rfl, rfl⟩ := h
  rw [b0, in_inb v (by omega)]
  rcases thB_cases B v h60 with ⟨h, h0⟩ | ⟨k, b, rfl, h2, h3, h4⟩
  · rw [h]
    have fin : Xw l D ρ m_ContentStoreModel_isBlob 27 [] [] (mH pre post s) d kc ks (fun r N => r = some (.int (i2b (none : Option (Nat × sB)).isSome)) ∧ N = mH pre post s) := b_ContentStoreModel_isBlob_27 (b_ContentStoreModel_isBlob_28 ⟨rfl, rfl⟩ (by decide))
    rcases h0 with h0 | ⟨k, b, rfl, h2, h3⟩
    · refine b_ContentStoreModel_isBlob_11 (fun _ => fin) (fun cz => ?_)
      have hs := i2b_t cz
      rcases inb_cases v (n := B.length) (by omega) with ⟨g1, -⟩ | ⟨k, g1, rfl, g3⟩
      · rw [g1] at hs
        cases hs
      · rcases h0 with h0 | ⟨-, h0⟩
        · exact absurd h0 (nI_pos (by omega))
        · exact absurd h0 (nI_ge g1 (by omega))
    · have hk := (List.getElem?_eq_some_iff.mp h2).1
      rw [inb_nI hk (by omega)]
      have q1 := (hB1 k b h2).1
      rw [h3] at q1
      exact b_ContentStoreModel_isBlob_11 (fun _ => fin) (fun _ => b_ContentStoreModel_isBlob_14 h_obj h_isT rfl q1 (by omega) (fun _ => fin) (fun cz => absurd rfl cz))
  · have hk := (List.getElem?_eq_some_iff.mp h2).1
    rw [inb_nI hk (by omega), h4]
    have q1 := (hB1 k b h2).1
    rw [h3] at q1
    exact b_ContentStoreModel_isBlob_11 (fun cz => absurd cz (show ¬ (1 : Int32) = 0 by decide)) (fun _ => b_ContentStoreModel_isBlob_14 h_obj h_isT rfl q1 (by omega) (fun cz => absurd cz (by decide)) (fun _ => b_ContentStoreModel_isBlob_23 (b_ContentStoreModel_isBlob_28 ⟨rfl, rfl⟩ (by decide))))
theorem c_mIsOpen {v : Int32} (hP : mrPs P s) (h60 : P.length ≤ 60) (hd : 1 ≤ d) :
    Xw l D ρ m_ContentStoreModel_isOpen 0 [(0, .ref pre.length), (1, .int v)] [] (mH pre post s) d kc ks (fun r N => r = some (.int (i2b (opP P v).isSome)) ∧ N = mH pre post s) := by
  obtain ⟨b0, ⟨l1, l2, l3, -⟩, hB1, -⟩ := id hP
  refine b_ContentStoreModel_isOpen_0 (cd1 := 0) (ckc1 := 0) (cks1 := 0) (ckc2 := kc) (cks2 := ks) h_obj (by omega) (by omega) (by omega) c_in (fun r N h => ?_)
  obtain ⟨rfl, rfl⟩ := h
  rw [b0, in_inb v (by omega)]
  rcases opP_cases P v h60 with ⟨h, h0⟩ | ⟨k, b, rfl, h2, h3, h4⟩
  · rw [h]
    have fin : Xw l D ρ m_ContentStoreModel_isOpen 27 [] [] (mH pre post s) d kc ks (fun r N => r = some (.int (i2b (none : Option (Nat × sP)).isSome)) ∧ N = mH pre post s) := b_ContentStoreModel_isOpen_27 (b_ContentStoreModel_isOpen_28 ⟨rfl, rfl⟩ (by decide))
    rcases h0 with h0 | ⟨k, b, rfl, h2, h3⟩
    · refine b_ContentStoreModel_isOpen_11 (fun _ => fin) (fun cz => ?_)
      have hs := i2b_t cz
      rcases inb_cases v (n := P.length) (by omega) with ⟨g1, -⟩ | ⟨k, g1, rfl, g3⟩
      · rw [g1] at hs
        cases hs
      · rcases h0 with h0 | ⟨-, h0⟩
        · exact absurd h0 (nI_pos (by omega))
        · exact absurd h0 (nI_ge g1 (by omega))
    · have hk := (List.getElem?_eq_some_iff.mp h2).1
      rw [inb_nI hk (by omega)]
      have q1 := (hB1 k b h2).2.2.1
      rw [h3] at q1
      exact b_ContentStoreModel_isOpen_11 (fun _ => fin) (fun _ => b_ContentStoreModel_isOpen_14 h_obj h_open rfl q1 (by omega) (fun _ => fin) (fun cz => absurd rfl cz))
  · have hk := (List.getElem?_eq_some_iff.mp h2).1
    rw [inb_nI hk (by omega), h4]
    have q1 := (hB1 k b h2).2.2.1
    rw [h3] at q1
    exact b_ContentStoreModel_isOpen_11 (fun cz => absurd cz (show ¬ (1 : Int32) = 0 by decide)) (fun _ => b_ContentStoreModel_isOpen_14 h_obj h_open rfl q1 (by omega) (fun cz => absurd cz (by decide)) (fun _ => b_ContentStoreModel_isOpen_23 (b_ContentStoreModel_isOpen_28 ⟨rfl, rfl⟩ (by decide))))
/-- two roads: the blob is there, or not -/
theorem vT (B : List sB) (v : Int32) (h60 : B.length ≤ 60) : thB B v = none ∨ ∃ k b, thB B v = some (k, b) ∧ v = nI k ∧ B[k]? = some b ∧ bThere b = true ∧ k < 60 := by
  rcases thB_cases B v h60 with ⟨h, -⟩ | ⟨k, b, h1, h2, h3, h4⟩
  · exact Or.inl h
  · exact Or.inr ⟨k, b, h4, h1, h2, h3, by have := (List.getElem?_eq_some_iff.mp h2).1; omega⟩
theorem q_there {v : Int32} (hI : SI room P es pb B act nk) (hR : MR c room P es pb B act nk s) (hd : 2 ≤ d) :
    Xw l D ρ m_ContentStoreModel_there 0 [(0, .ref pre.length), (1, .int v)] [] (mH pre post s) d kc ks (fun r N => r = some (.int (dThere B v)) ∧ N = mH pre post s) := by
  obtain ⟨sl, st, hP, hS, hB, hA, hk, hr, hw⟩ := hR
  refine b_ContentStoreModel_there_0 (cd1 := 1) (ckc1 := 0) (cks1 := 0) (ckc2 := kc) (cks2 := ks) (Q1 := fun r N => r = some (.int (i2b (thB B v).isSome)) ∧ N = mH pre post s) h_obj (by omega) (by omega) (by omega) (by rw [w_obj]; exact c_mIsBlob hB hI.2.2.1.1 (by omega)) (fun r N h => ?_)
  obtain ⟨rfl, rfl⟩ := h
  exact b_ContentStoreModel_there_10 ⟨rfl, rfl⟩ (i2b_nar _)
theorem q_digest {v : Int32} (hI : SI room P es pb B act nk) (hR : MR c room P es pb B act nk s) (hd : 2 ≤ d) :
    Xw l D ρ m_ContentStoreModel_digest 0 [(0, .ref pre.length), (1, .int v)] [] (mH pre post s) d kc ks (fun r N => r = some (.long (dDigest B v)) ∧ N = mH pre post s) := by
  obtain ⟨sl, st, hP, hS, hB, hA, hk, hr, hw⟩ := hR
  refine b_ContentStoreModel_digest_0 (cd1 := 1) (ckc1 := 0) (cks1 := 0) (ckc2 := kc) (cks2 := ks) (Q1 := fun r N => r = some (.int (i2b (thB B v).isSome)) ∧ N = mH pre post s) h_obj (by omega) (by omega) (by omega) (by rw [w_obj]; exact c_mIsBlob hB hI.2.2.1.1 (by omega)) (fun r N h => ?_)
  obtain ⟨rfl, rfl⟩ := h
  rcases vT B v hI.2.2.1.1 with h | ⟨k, b, h, rfl, h2, h3, h4⟩
  · rw [dDigest, h]
    exact b_ContentStoreModel_digest_10 (fun _ => b_ContentStoreModel_digest_22 (b_ContentStoreModel_digest_23 ⟨rfl, rfl⟩)) (fun cz => absurd rfl cz)
  · rw [dDigest, h]
    obtain ⟨-, ⟨l1, l2, l3, l4, l5, l6⟩, hB1, -⟩ := hB
    obtain ⟨q1, q2, q3, q4, q5, q6⟩ := hB1 k b h2
    exact b_ContentStoreModel_digest_10 (fun cz => absurd cz (show ¬ (1 : Int32) = 0 by decide)) (fun _ => b_ContentStoreModel_digest_13 h_obj h_dig rfl q4 (by omega) (b_ContentStoreModel_digest_23 ⟨rfl, rfl⟩))
theorem q_size {v : Int32} (hI : SI room P es pb B act nk) (hR : MR c room P es pb B act nk s) (hd : 2 ≤ d) :
    Xw l D ρ m_ContentStoreModel_size 0 [(0, .ref pre.length), (1, .int v)] [] (mH pre post s) d kc ks (fun r N => r = some (.int (dSize B v)) ∧ N = mH pre post s) := by
  obtain ⟨sl, st, hP, hS, hB, hA, hk, hr, hw⟩ := hR
  refine b_ContentStoreModel_size_0 (cd1 := 1) (ckc1 := 0) (cks1 := 0) (ckc2 := kc) (cks2 := ks) (Q1 := fun r N => r = some (.int (i2b (thB B v).isSome)) ∧ N = mH pre post s) h_obj (by omega) (by omega) (by omega) (by rw [w_obj]; exact c_mIsBlob hB hI.2.2.1.1 (by omega)) (fun r N h => ?_)
  obtain ⟨rfl, rfl⟩ := h
  rcases vT B v hI.2.2.1.1 with h | ⟨k, b, h, rfl, h2, h3, h4⟩
  · rw [dSize, h]
    exact b_ContentStoreModel_size_10 (fun _ => b_ContentStoreModel_size_22 (b_ContentStoreModel_size_23 ⟨rfl, rfl⟩)) (fun cz => absurd rfl cz)
  · rw [dSize, h]
    obtain ⟨-, ⟨l1, l2, l3, l4, l5, l6⟩, hB1, -⟩ := hB
    obtain ⟨q1, q2, q3, q4, q5, q6⟩ := hB1 k b h2
    exact b_ContentStoreModel_size_10 (fun cz => absurd cz (show ¬ (1 : Int32) = 0 by decide)) (fun _ => b_ContentStoreModel_size_13 h_obj h_len rfl q2 (by omega) (b_ContentStoreModel_size_23 ⟨rfl, rfl⟩))
theorem q_packOf {v : Int32} (hI : SI room P es pb B act nk) (hR : MR c room P es pb B act nk s) (hd : 2 ≤ d) :
    Xw l D ρ m_ContentStoreModel_packOf 0 [(0, .ref pre.length), (1, .int v)] [] (mH pre post s) d kc ks (fun r N => r = some (.int (dPackOf B v)) ∧ N = mH pre post s) := by
  obtain ⟨sl, st, hP, hS, hB, hA, hk, hr, hw⟩ := hR
  refine b_ContentStoreModel_packOf_0 (cd1 := 1) (ckc1 := 0) (cks1 := 0) (ckc2 := kc) (cks2 := ks) (Q1 := fun r N => r = some (.int (i2b (thB B v).isSome)) ∧ N = mH pre post s) h_obj (by omega) (by omega) (by omega) (by rw [w_obj]; exact c_mIsBlob hB hI.2.2.1.1 (by omega)) (fun r N h => ?_)
  obtain ⟨rfl, rfl⟩ := h
  rcases vT B v hI.2.2.1.1 with h | ⟨k, b, h, rfl, h2, h3, h4⟩
  · rw [dPackOf, h]
    exact b_ContentStoreModel_packOf_10 (fun _ => b_ContentStoreModel_packOf_22 (b_ContentStoreModel_packOf_23 ⟨rfl, rfl⟩)) (fun cz => absurd rfl cz)
  · rw [dPackOf, h]
    obtain ⟨-, ⟨l1, l2, l3, l4, l5, l6, -⟩, hB1, -⟩ := hB
    obtain ⟨q1, q2, q3, q4, q5, q6⟩ := hB1 k b h2
    rw [if_pos h3] at q5
    exact b_ContentStoreModel_packOf_10 (fun cz => absurd cz (show ¬ (1 : Int32) = 0 by decide)) (fun _ => b_ContentStoreModel_packOf_13 h_obj h_pkd rfl q5 (by omega) (b_ContentStoreModel_packOf_23 ⟨rfl, rfl⟩))
theorem q_sound {v : Int32} (hI : SI room P es pb B act nk) (hR : MR c room P es pb B act nk s) (hd : 2 ≤ d) :
    Xw l D ρ m_ContentStoreModel_sound 0 [(0, .ref pre.length), (1, .int v)] [] (mH pre post s) d kc ks (fun r N => r = some (.int (dSound pb B v)) ∧ N = mH pre post s) := by
  obtain ⟨sl, st, hP, hS, hB, hA, hk, hr, hw⟩ := hR
  refine b_ContentStoreModel_sound_0 (cd1 := 1) (ckc1 := 0) (cks1 := 0) (ckc2 := kc) (cks2 := ks) (Q1 := fun r N => r = some (.int (i2b (thB B v).isSome)) ∧ N = mH pre post s) h_obj (by omega) (by omega) (by omega) (by rw [w_obj]; exact c_mIsBlob hB hI.2.2.1.1 (by omega)) (fun r N h => ?_)
  obtain ⟨rfl, rfl⟩ := h
  rcases vT B v hI.2.2.1.1 with h | ⟨k, b, h, rfl, h2, h3, h4⟩
  · rw [dSound, h]
    exact b_ContentStoreModel_sound_10 (fun _ => b_ContentStoreModel_sound_25 (b_ContentStoreModel_sound_26 ⟨rfl, rfl⟩ (by decide))) (fun cz => absurd rfl cz)
  · rw [dSound, h]
    have hO := bOK_at hI h2
    obtain ⟨w1, w2, -⟩ := hO.2.2.2 h3
    refine b_ContentStoreModel_sound_10 (fun cz => absurd cz (show ¬ (1 : Int32) = 0 by decide)) (fun _ => ?_)
    refine b_ContentStoreModel_sound_13 (cd1 := 1) (ckc1 := 0) (cks1 := 0) (ckc2 := kc) (cks2 := ks) (by omega) (by omega) (by omega) h_obj (c_mSound hS hB h2 h3 w1 w2 hO.1 h4 (by omega)) (fun r N h => ?_)
    obtain ⟨rfl, rfl⟩ := h
    show Xw _ _ _ _ _ _ _ _ _ _ _ (fun r N' => r = some (.int (i2b (sndB pb b))) ∧ N' = mH pre post s)
    cases hs : sndB pb b with
    | true => exact b_ContentStoreModel_sound_18 (fun cz => absurd cz (by decide)) (fun _ => b_ContentStoreModel_sound_21 (b_ContentStoreModel_sound_26 ⟨rfl, rfl⟩ (by decide)))
    | false => exact b_ContentStoreModel_sound_18 (fun _ => b_ContentStoreModel_sound_25 (b_ContentStoreModel_sound_26 ⟨rfl, rfl⟩ (by decide))) (fun cz => absurd rfl cz)
theorem q_get {v i : Int32} (hI : SI room P es pb B act nk) (hR : MR c room P es pb B act nk s) (hd : 2 ≤ d) :
    Xw l D ρ m_ContentStoreModel_get 0 [(0, .ref pre.length), (1, .int v), (2, .int i)] [] (mH pre post s) d kc ks (fun r N => r = some (.int (dGet pb B v i)) ∧ N = mH pre post s) := by
  obtain ⟨sl, st, hP, hS, hB, hA, hk, hr, hw⟩ := hR
  refine b_ContentStoreModel_get_0 (cd1 := 1) (ckc1 := 0) (cks1 := 0) (ckc2 := kc) (cks2 := ks) (Q1 := fun r N => r = some (.int (i2b (thB B v).isSome)) ∧ N = mH pre post s) h_obj (by omega) (by omega) (by omega) (by rw [w_obj]; exact c_mIsBlob hB hI.2.2.1.1 (by omega)) (fun r N h => ?_)
  obtain ⟨rfl, rfl⟩ := h
  rcases vT B v hI.2.2.1.1 with h | ⟨k, b, h, rfl, h2, h3, h4⟩
  · rw [dGet, h]
    exact b_ContentStoreModel_get_10 (fun _ => b_ContentStoreModel_get_29 ⟨rfl, rfl⟩) (fun cz => absurd rfl cz)
  · rw [dGet, h]
    have hO := bOK_at hI h2
    have hl96 := hO.1
    obtain ⟨w1, w2, -⟩ := hO.2.2.2 h3
    obtain ⟨-, ⟨l1, l2, -⟩, hB1, -⟩ := id hB
    obtain ⟨q1, q2, -⟩ := hB1 k b h2
    refine b_ContentStoreModel_get_10 (fun cz => absurd cz (show ¬ (1 : Int32) = 0 by decide)) (fun _ => ?_)
    refine b_ContentStoreModel_get_13 (cd1 := 0) (ckc1 := 0) (cks1 := 0) (ckc2 := kc) (cks2 := ks) h_obj h_len rfl q2 (by omega) (by omega) (by omega) (by omega) c_in (fun r N h => ?_)
    obtain ⟨rfl, rfl⟩ := h
    rw [in_inb i (by omega)]
    show Xw _ _ _ _ _ _ _ _ _ _ _ (fun r N' => r = some (.int (match inb i (bLen b) with | some j => if sndB pb b then ((bb pb (bIds b))[j]?).getD 0 else -2 | none => -1)) ∧ N' = mH pre post s)
    rcases ptO_v hO h3 i with ⟨g1, g2⟩ | ⟨j, x, w, g1, g2, rfl, g3, g4, g5, g6, g7⟩
    · rw [g1]
      exact b_ContentStoreModel_get_26 (fun cz => absurd rfl cz) (fun _ => b_ContentStoreModel_get_29 ⟨rfl, rfl⟩)
    · rw [g1]
      refine b_ContentStoreModel_get_26 (fun _ => ?_) (fun cz => absurd cz (show ¬ (1 : Int32) = 0 by decide))
      refine b_ContentStoreModel_get_31 (cd1 := 1) (ckc1 := 0) (cks1 := 0) (ckc2 := kc) (cks2 := ks) (by omega) (by omega) (by omega) h_obj (c_mSound hS hB h2 h3 w1 w2 hO.1 h4 (by omega)) (fun r N h => ?_)
      obtain ⟨rfl, rfl⟩ := h
      show Xw _ _ _ _ _ _ _ _ _ _ _ (fun r N' => r = some (.int (if sndB pb b then ((bb pb (bIds b))[j]?).getD 0 else -2)) ∧ N' = mH pre post s)
      cases hs : sndB pb b with
      | false => exact b_ContentStoreModel_get_36 (fun _ => b_ContentStoreModel_get_48 (b_ContentStoreModel_get_50 ⟨rfl, rfl⟩)) (fun cz => absurd rfl cz)
      | true =>
        refine b_ContentStoreModel_get_36 (fun cz => absurd cz (by decide)) (fun _ => ?_)
        refine b_ContentStoreModel_get_39 (cd1 := 0) (ckc1 := 0) (cks1 := 0) (ckc2 := kc) (cks2 := ks) (by omega) (by omega) (by omega) h_obj (c_mByte hS hB h2 h3 w1 w2 hO.1 h4 g7) (fun r N h => ?_)
        obtain ⟨rfl, rfl⟩ := h
        refine b_ContentStoreModel_get_45 (b_ContentStoreModel_get_50 ⟨?_, rfl⟩)
        rw [if_pos rfl, g7]
        rfl
theorem q_referred {v : Int32} (hI : SI room P es pb B act nk) (hR : MR c room P es pb B act nk s) (hd : 1 ≤ d) :
    Xw l D ρ m_ContentStoreModel_referred 0 [(0, .ref pre.length), (1, .int v)] [] (mH pre post s) d kc ks (fun r N => r = some (.int (dReferred act v)) ∧ N = mH pre post s) := by
  obtain ⟨sl, st, hP, hS, hB, rfl, hk, hr, hw⟩ := hR
  have h20 : (g_act s).length = 20 := hI.2.2.2.1
  refine b_ContentStoreModel_referred_0 (cd1 := 0) (ckc1 := 0) (cks1 := 0) (ckc2 := kc) (cks2 := ks) (Q1 := fun r N => r = some (.int (i2b (decide (¬ v < 0 ∧ ¬ (19 : Int32) < v)))) ∧ N = mH pre post s) h_obj (by omega) (by omega) (by omega) (by rw [w_obj]; exact c_in) (fun r N h => ?_)
  obtain ⟨rfl, rfl⟩ := h
  rw [show decide (¬ v < 0 ∧ ¬ (19 : Int32) < v) = (inb v 20).isSome from in_inb v (n := 20) (by decide)]
  rcases inb_cases v (n := 20) (by decide) with ⟨g1, g2⟩ | ⟨j, g1, rfl, g3⟩
  · rw [dReferred, g1]
    exact b_ContentStoreModel_referred_12 (fun _ => b_ContentStoreModel_referred_24 (b_ContentStoreModel_referred_25 ⟨rfl, rfl⟩)) (fun cz => absurd rfl cz)
  · rw [dReferred, g3]
    refine b_ContentStoreModel_referred_12 (fun cz => absurd cz (show ¬ (1 : Int32) = 0 by decide)) (fun _ => ?_)
    refine b_ContentStoreModel_referred_15 h_obj h_act rfl (List.getElem?_eq_getElem (by omega)) (by omega) (b_ContentStoreModel_referred_25 ⟨?_, rfl⟩)
    show _ = some (Value.int (((g_act s)[j]?).getD 0))
    rw [List.getElem?_eq_getElem (by omega)]
    rfl
end MQUERY
