/-! THE MODEL'S UPDATES: sweep, cut, pack -/
theorem bOK_gone {es : List Nat} {pb : Nat → List Int32} {nk : Nat} {b : sB} (h : bOK es pb nk b) : bOK es pb nk (bGone b) := ⟨h.1, h.2.1, h.2.2.1, fun z => by cases z⟩
theorem bOK_set {es : List Nat} {pb : Nat → List Int32} {nk k : Nat} {B : List sB} {b' : sB} (h : ∀ b ∈ B, bOK es pb nk b) (h' : bOK es pb nk b') : ∀ b ∈ B.set k b', bOK es pb nk b := fun b hb => by
  rcases List.mem_or_eq_of_mem_set hb with z | z
  · exact h b z
  · rw [z]; exact h'
theorem bSm_of {es : List Nat} {pb : Nat → List Int32} {nk : Nat} {B : List sB} (h60 : B.length ≤ 60) (h : ∀ b ∈ B, bOK es pb nk b) : bSm es B := ⟨h60, fun b hb => ⟨(h b hb).1, fun ht => ⟨((h b hb).2.2.2 ht).1.1, ((h b hb).2.2.2 ht).2.1⟩⟩⟩
theorem fgt_no {act : List Int32} {v : Int32} (h : ¬ v ∈ act) : fgt act v = act := by
  unfold fgt
  have : act.map (fun a => if a = v then (-1 : Int32) else a) = act.map id := List.map_congr_left (fun a ha => if_neg (fun z => h (by rw [← z]; exact ha)))
  rw [this, List.map_id]
theorem pk_neg {es : List Nat} {pb : Nat → List Int32} {nk : Nat} {b : sB} (h : bOK es pb nk b) (ht : bThere b = true) (hn : nk ≤ 12) : bPack b < 0 ↔ bPack b = -1 := by
  rcases (h.2.2.2 ht).2.2 with z | ⟨p, z1, z2⟩
  · rw [z]; decide
  · rw [z2]
    constructor
    · intro q; exact absurd q (nI_pos (by omega))
    · intro q; rw [q]; decide
theorem mrB_pk {B : List sB} {sl : Nat → Nat} {k nk blobs : Nat} {b : sB} {isT len slot sum : List Int32} {dig : List Int64} {pkd hasC copy : List Int32} (h : mrB B sl blobs isT len slot sum dig pkd hasC copy) (hb : B[k]? = some b) (hk : k < 60) (ht : bThere b = true) : mrB (B.set k (bLen b, bIds b, bSum b, bDig b, bCopy b, nI nk, bThere b)) sl blobs isT len slot sum dig (pkd.set k (nI nk)) hasC copy := by
  obtain ⟨h1, ⟨l1, l2, l3, l4, l5, l6, l7, l8⟩, h3, h4⟩ := h
  have hkl := (List.getElem?_eq_some_iff.mp hb).1
  refine ⟨by rw [List.length_set]; exact h1, ⟨l1, l2, l3, l4, l5, by rw [List.length_set]; exact l6, l7, l8⟩, fun i b' hb' => ?_, fun i hi1 hi2 => ?_⟩
  · by_cases hik : i = k
    · subst hik
      rw [List.getElem?_set_self hkl] at hb'
      cases hb'
      obtain ⟨q1, q2, q3, q4, q5, q6, q7, q8⟩ := h3 i b hb
      refine ⟨q1, q2, q3, q4, ?_, q6, q7, q8⟩
      rw [List.getElem?_set_self (by omega)]
      exact congrArg some (if_pos ht).symm
    · rw [List.getElem?_set_ne (fun z => hik z.symm)] at hb'
      rw [List.getElem?_set_ne (fun z => hik z.symm)]
      exact h3 i b' hb'
  · rw [List.length_set] at hi1
    rw [List.getElem?_set_ne (by omega)]
    exact h4 i hi1 hi2
section MSWEEP
variable {l : Launch} {D : va_G} {ρ : xR} {M : List xCl} {d kc ks : Nat} {pre post : List xCl} {s : mS} {c room : Nat} {P : List sP} {es : List Nat} {pb : Nat → List Int32} {B : List sB} {act : List Int32} {nk : Nat} {sl st : Nat → Nat}
theorem q_sweep (hI : SI room P es pb B act nk) (hR : MR c room P es pb B act nk s) (hd : 3 ≤ d) :
    Xw l D ρ m_ContentStoreModel_sweep 0 [(0, .ref pre.length)] [] (mH pre post s) d kc ks (fun r N => r = some (.int (nI (swF act B B.length).1)) ∧ ∃ s', N = mH pre post s' ∧ MR (c + 6) room P (keptE es (cnt (swF act B B.length).2)) pb (swF act B B.length).2 act nk s') := by
  have hR6 := MR_up hR (c' := c + 6) (by omega)
  obtain ⟨sl, st, hP, hS, hB, hA, hk, hr, hw⟩ := id hR6
  have h60 : B.length ≤ 60 := hI.2.2.1.1
  have h20 : act.length = 20 := hI.2.2.2.1
  have h12 : nk ≤ 12 := hI.2.2.2.2
  refine b_ContentStoreModel_sweep_0 h_obj ?_
  rw [w_obj]
  clear hR6 hR
  obtain ⟨v_room, v_puts, v_told, v_mask, v_open, v_came, v_byts, v_stamps, v_psz, v_stp, v_pby, v_blobs, v_isT, v_len, v_slot, v_sum, v_dig, v_pkd, v_hasC, v_copy, v_act, v_packs, v_work⟩ := s
  change mrP P v_puts v_told v_mask v_open v_came v_byts at hP
  change mrS es pb sl st (c + 6) v_stamps v_psz v_stp v_pby at hS
  change mrB B sl v_blobs v_isT v_len v_slot v_sum v_dig v_pkd v_hasC v_copy at hB
  change v_act = act at hA
  change v_packs = nk at hk
  change v_room = room at hr
  change v_work.length = 96 at hw
  have hA' : act = v_act := hA.symm
  subst hA'
  have hS' : mrS es pb sl st (c + 6) v_stamps v_psz v_stp v_pby := hS
  have hB0 : v_blobs = B.length := hB.1
  have loop : ∀ (n k : Nat) (isT pkd : List Int32), k + n = B.length → mrB (swF act B k).2 sl v_blobs isT v_len v_slot v_sum v_dig pkd v_hasC v_copy → (∀ b ∈ (swF act B k).2, bOK es pb nk b) → Xw l D ρ m_ContentStoreModel_sweep 9 [(0, .ref pre.length), (1, .int (nI (swF act B k).1)), (2, .int (nI k))] [] (mH pre post (v_room, v_puts, v_told, v_mask, v_open, v_came, v_byts, v_stamps, v_psz, v_stp, v_pby, v_blobs, isT, v_len, v_slot, v_sum, v_dig, pkd, v_hasC, v_copy, act, v_packs, v_work)) d kc ks (fun r N => r = some (.int (nI (swF act B B.length).1)) ∧ ∃ s', N = mH pre post s' ∧ MR (c + 6) room P (keptE es (cnt (swF act B B.length).2)) pb (swF act B B.length).2 act nk s') := by
    intro n
    induction n with
    | zero =>
      intro k isT pkd hkn hm ho
      obtain rfl : k = B.length := by omega
      refine b_ContentStoreModel_sweep_9 H_obj (fun _ => ?_) (fun c => absurd (by rw [hB0]; exact nI_le (Nat.le_refl _) (by omega)) c)
      refine b_ContentStoreModel_sweep_99 (cd1 := 2) (ckc1 := 0) (cks1 := 0) (ckc2 := kc) (cks2 := ks) (by omega) (by omega) (by omega) H_obj (c_mTidy (s := (v_room, v_puts, v_told, v_mask, v_open, v_came, v_byts, v_stamps, v_psz, v_stp, v_pby, v_blobs, isT, v_len, v_slot, v_sum, v_dig, pkd, v_hasC, v_copy, act, v_packs, v_work)) hS' (fun x hx => (hI.1.2.2.2 x hx).2) hm (bSm_of (by rw [swF_len]; exact h60) ho) (by omega)) (fun r N h => ?_)
      obtain ⟨rfl, psz, rfl, hS2⟩ := h
      exact b_ContentStoreModel_sweep_103 ⟨rfl, (v_room, v_puts, v_told, v_mask, v_open, v_came, v_byts, v_stamps, psz, v_stp, v_pby, v_blobs, isT, v_len, v_slot, v_sum, v_dig, pkd, v_hasC, v_copy, act, v_packs, v_work), rfl, sl, st, hP, hS2, hm, rfl, hk, hr, hw⟩
    | succ n ih =>
      intro k isT pkd hkn hm ho
      have hl := swF_len act B k
      have hlt : k < (swF act B k).2.length := by omega
      have hb : (swF act B k).2[k]? = some (swF act B k).2[k] := List.getElem?_eq_getElem hlt
      have hO := ho _ (List.getElem_mem hlt)
      obtain ⟨q1, -, -, -, q5, -⟩ := hm.2.2.1 k _ hb
      have lT := hm.2.1.1
      have lK := hm.2.1.2.2.2.2.2.1
      have no : swC act k (swF act B k).2[k] = false → Xw l D ρ m_ContentStoreModel_sweep 93 [(0, .ref pre.length), (1, .int (nI (swF act B k).1)), (2, .int (nI k))] [] (mH pre post (v_room, v_puts, v_told, v_mask, v_open, v_came, v_byts, v_stamps, v_psz, v_stp, v_pby, v_blobs, isT, v_len, v_slot, v_sum, v_dig, pkd, v_hasC, v_copy, act, v_packs, v_work)) d kc ks (fun r N => r = some (.int (nI (swF act B B.length).1)) ∧ ∃ s', N = mH pre post s' ∧ MR (c + 6) room P (keptE es (cnt (swF act B B.length).2)) pb (swF act B B.length).2 act nk s') := by
        intro hc
        have he : swF act B (k + 1) = swF act B k := by
          rw [swF, hb]
          simp only [hc]
          rfl
        have hn := ih (k + 1) isT pkd (by omega) (by rw [he]; exact hm) (by rw [he]; exact ho)
        rw [he] at hn
        refine b_ContentStoreModel_sweep_93 ?_
        rw [nI_1]
        exact hn
      have fin : ∀ h0 : Bool, (h0 = true → swC act k (swF act B k).2[k] = false) → (h0 = false → bThere (swF act B k).2[k] = true → bPack (swF act B k).2[k] = -1) → Xw l D ρ m_ContentStoreModel_sweep 35 [(0, .ref pre.length), (1, .int (nI (swF act B k).1)), (2, .int (nI k)), (3, .int (i2b h0)), (4, .int 0)] [] (mH pre post (v_room, v_puts, v_told, v_mask, v_open, v_came, v_byts, v_stamps, v_psz, v_stp, v_pby, v_blobs, isT, v_len, v_slot, v_sum, v_dig, pkd, v_hasC, v_copy, act, v_packs, v_work)) d kc ks (fun r N => r = some (.int (nI (swF act B B.length).1)) ∧ ∃ s', N = mH pre post s' ∧ MR (c + 6) room P (keptE es (cnt (swF act B B.length).2)) pb (swF act B B.length).2 act nk s') := by
        intro h0 ha hbk
        have inner : ∀ (n' j : Nat), j + n' = 20 → Xw l D ρ m_ContentStoreModel_sweep 35 [(0, .ref pre.length), (1, .int (nI (swF act B k).1)), (2, .int (nI k)), (3, .int (i2b (h0 || decide (nI k ∈ act.take j)))), (4, .int (nI j))] [] (mH pre post (v_room, v_puts, v_told, v_mask, v_open, v_came, v_byts, v_stamps, v_psz, v_stp, v_pby, v_blobs, isT, v_len, v_slot, v_sum, v_dig, pkd, v_hasC, v_copy, act, v_packs, v_work)) d kc ks (fun r N => r = some (.int (nI (swF act B B.length).1)) ∧ ∃ s', N = mH pre post s' ∧ MR (c + 6) room P (keptE es (cnt (swF act B B.length).2)) pb (swF act B B.length).2 act nk s') := by
          intro n'
          induction n' with
          | zero =>
            intro j hj
            obtain rfl : j = 20 := by omega
            rw [List.take_of_length_le (by omega)]
            refine b_ContentStoreModel_sweep_35 (fun _ => ?_) (fun c => absurd (by decide) c)
            refine b_ContentStoreModel_sweep_69 (fun cz => no ?_) (fun cz => ?_)
            · have hh := i2b_t cz
              cases h0 with
              | true => exact ha rfl
              | false =>
                rw [Bool.false_or] at hh
                unfold swC
                rw [hh]
                simp
            · have hh := i2b_0.mp cz
              cases h0 with
              | true => cases hh
              | false =>
                rw [Bool.false_or] at hh
                have hna := of_decide_eq_false hh
                cases ht : bThere (swF act B k).2[k] with
                | false =>
                  rw [ht] at q1
                  refine b_ContentStoreModel_sweep_73 (a78 := isT) H_obj H_isT rfl q1 (by omega) (fun cy => absurd rfl cy) (fun _ => b_ContentStoreModel_sweep_82 (no ?_))
                  unfold swC
                  rw [ht]
                  rfl
                | true =>
                  rw [ht] at q1
                  have hsw : swC act k (swF act B k).2[k] = true := by
                    unfold swC
                    rw [ht, decide_eq_true (hbk rfl ht), hh]
                    rfl
                  have he : swF act B (k + 1) = ((swF act B k).1 + 1, (swF act B k).2.set k (bGone (swF act B k).2[k])) := by
                    rw [swF, hb]
                    simp only [hsw]
                    rfl
                  refine b_ContentStoreModel_sweep_73 (a78 := isT) H_obj H_isT rfl q1 (by omega) (fun _ => ?_) (fun cy => absurd cy (by decide))
                  refine b_ContentStoreModel_sweep_85 (cd1 := 0) (ckc1 := 0) (cks1 := 0) (ckc2 := kc) (cks2 := ks) (Q1 := fun r N => r = none ∧ N = mH pre post (v_room, v_puts, v_told, v_mask, v_open, v_came, v_byts, v_stamps, v_psz, v_stp, v_pby, v_blobs, isT.set k 0, v_len, v_slot, v_sum, v_dig, pkd.set k (-1), v_hasC, v_copy, fgt act (nI k), v_packs, v_work)) (by omega) (by omega) (by omega) H_obj (c_mGoes (s := (v_room, v_puts, v_told, v_mask, v_open, v_came, v_byts, v_stamps, v_psz, v_stp, v_pby, v_blobs, isT, v_len, v_slot, v_sum, v_dig, pkd, v_hasC, v_copy, act, v_packs, v_work)) hm (by omega) h20) (fun r N h => ?_)
                  obtain ⟨rfl, rfl⟩ := h
                  rw [fgt_no hna]
                  refine b_ContentStoreModel_sweep_90 trivial (b_ContentStoreModel_sweep_93 ?_)
                  rw [nI_1, nI_1]
                  have hn := ih (k + 1) (isT.set k 0) (pkd.set k (-1)) (by omega) (by rw [he]; exact mrB_gone hm hb (by omega)) (by rw [he]; exact bOK_set ho (bOK_gone hO))
                  rw [he] at hn
                  exact hn
          | succ n' ih2 =>
            intro j hj
            have hja : j < act.length := by omega
            have hn := ih2 (j + 1) (by omega)
            rw [List.take_succ_eq_append_getElem hja] at hn
            refine b_ContentStoreModel_sweep_35 (fun c => absurd c (nI_ge (b := 20) (by omega) (by decide))) (fun _ => ?_)
            refine b_ContentStoreModel_sweep_42 (fun cz => ?_) (fun cz => ?_)
            · have hh : (h0 || decide (nI k ∈ act.take j ++ [act[j]])) = true := by
                have := i2b_t cz
                rcases Bool.or_eq_true _ _ ▸ this with z | z
                · rw [z]; rfl
                · rw [decide_eq_true (List.mem_append_left _ (of_decide_eq_true z)), Bool.or_true]
              rw [hh] at hn
              refine b_ContentStoreModel_sweep_57 (b_ContentStoreModel_sweep_62 ?_)
              rw [nI_1]
              exact hn
            · have hf := i2b_0.mp cz
              have hf1 : h0 = false := by
                cases h0 with
                | true => cases hf
                | false => rfl
              rw [hf1, Bool.false_or] at hf
              have hf2 := of_decide_eq_false hf
              refine b_ContentStoreModel_sweep_46 (a52 := act) H_obj H_act rfl (List.getElem?_eq_getElem hja) (by omega) (fun cy => ?_) (fun cy => ?_)
              · have hh : (h0 || decide (nI k ∈ act.take j ++ [act[j]])) = false := by
                  rw [hf1, Bool.false_or]
                  refine decide_eq_false (fun z => ?_)
                  rcases List.mem_append.mp z with z | z
                  · exact hf2 z
                  · exact cy (List.mem_singleton.mp z).symm
                rw [hh] at hn
                refine b_ContentStoreModel_sweep_61 (b_ContentStoreModel_sweep_62 ?_)
                rw [nI_1]
                exact hn
              · have hh : (h0 || decide (nI k ∈ act.take j ++ [act[j]])) = true := by
                  rw [decide_eq_true (List.mem_append_right _ (List.mem_singleton.mpr cy.symm)), Bool.or_true]
                rw [hh] at hn
                refine b_ContentStoreModel_sweep_57 (b_ContentStoreModel_sweep_62 ?_)
                rw [nI_1]
                exact hn
        have h00 := inner 20 0 rfl
        rw [List.take_zero, decide_eq_false (by simp), Bool.or_false] at h00
        exact h00
      refine b_ContentStoreModel_sweep_9 H_obj (fun c => absurd c (by rw [hB0]; exact nI_ge (by omega) (by omega))) (fun _ => ?_)
      refine b_ContentStoreModel_sweep_17 (a22 := pkd) H_obj H_pkd rfl q5 (by omega) (fun cz => ?_) (fun cz => ?_)
      · refine b_ContentStoreModel_sweep_30 (b_ContentStoreModel_sweep_31 (fin false (fun z => by cases z) (fun _ ht => ?_)))
        rw [if_pos ht] at cz
        exact (pk_neg hO ht h12).mp cz
      · refine b_ContentStoreModel_sweep_26 (b_ContentStoreModel_sweep_31 (fin true (fun _ => ?_) (fun z => by cases z)))
        cases ht : bThere (swF act B k).2[k] with
        | false =>
          rw [if_neg (by rw [ht]; decide)] at cz
          exact absurd (by decide) cz
        | true =>
          rw [if_pos ht] at cz
          unfold swC
          rw [decide_eq_false (fun z => cz ((pk_neg hO ht h12).mpr z))]
          simp
  exact loop B.length 0 v_isT v_pkd (by omega) hB hI.2.2.1.2
theorem q_cut {v keep : Int32} (hI : SI room P es pb B act nk) (hR : MR c room P es pb B act nk s) (hd : 3 ≤ d) :
    Xw l D ρ m_ContentStoreModel_cut 0 [(0, .ref pre.length), (1, .int v), (2, .int keep)] [] (mH pre post s) d kc ks (fun r N => r = some (.int (sCut es B act nk v keep).1) ∧ ∃ s', N = mH pre post s' ∧ MR (c + 6) room P (sCut es B act nk v keep).2.1 pb (sCut es B act nk v keep).2.2.1 (sCut es B act nk v keep).2.2.2 nk s') := by
  have hR6 := MR_up hR (c' := c + 6) (by omega)
  obtain ⟨sl, st, hP, hS, hB, hA, hk, hr, hw⟩ := id hR6
  have h60 : B.length ≤ 60 := hI.2.2.1.1
  have h20 : act.length = 20 := hI.2.2.2.1
  have h12 : nk ≤ 12 := hI.2.2.2.2
  have fin : sCut es B act nk v keep = (-1, es, B, act) → Xw l D ρ m_ContentStoreModel_cut 23 [] [] (mH pre post s) d kc ks (fun r N => r = some (.int (sCut es B act nk v keep).1) ∧ ∃ s', N = mH pre post s' ∧ MR (c + 6) room P (sCut es B act nk v keep).2.1 pb (sCut es B act nk v keep).2.2.1 (sCut es B act nk v keep).2.2.2 nk s') := fun h => by
    rw [h]
    exact b_ContentStoreModel_cut_23 ⟨rfl, s, rfl, hR6⟩
  refine b_ContentStoreModel_cut_0 (cd1 := 0) (ckc1 := 0) (cks1 := 0) (ckc2 := kc) (cks2 := ks) (Q1 := fun r N => r = some (.int (i2b (decide (¬ v < 0 ∧ ¬ (nI (g_packs s) - 1) < v)))) ∧ N = mH pre post s) h_obj (by omega) (by omega) (by omega) (by rw [w_obj]; exact c_in) (fun r N h => ?_)
  obtain ⟨rfl, rfl⟩ := h
  rw [hk, in_inb v (n := nk) (by omega)]
  rcases inb_cases v (n := nk) (by omega) with ⟨g1, g2⟩ | ⟨p, g1, rfl, g3⟩
  · rw [g1]
    exact b_ContentStoreModel_cut_16 (fun _ => fin (by rw [sCut, g1])) (fun cz => absurd rfl cz)
  · rw [g3]
    refine b_ContentStoreModel_cut_16 (fun cz => absurd cz (show ¬ (1 : Int32) = 0 by decide)) (fun _ => ?_)
    refine b_ContentStoreModel_cut_19 (fun cz => ?_) (fun cz => fin ?_)
    · obtain ⟨kp, hkp, rfl⟩ := nI_of (Int32.not_lt.mpr cz)
      have hw2 : sCut es B act nk (nI p) (nI kp) = (nI (ctF (nI p) kp B act B.length).1, keptE es (cnt (ctF (nI p) kp B act B.length).2.2.1), (ctF (nI p) kp B act B.length).2.2.1, (ctF (nI p) kp B act B.length).2.2.2) := by
        rw [sCut, g3]
        simp only [nI_clamp hkp]
        exact if_neg (nI_pos hkp)
      rw [hw2]
      clear hw2 fin hR6 hR
      refine b_ContentStoreModel_cut_25 ?_
      obtain ⟨v_room, v_puts, v_told, v_mask, v_open, v_came, v_byts, v_stamps, v_psz, v_stp, v_pby, v_blobs, v_isT, v_len, v_slot, v_sum, v_dig, v_pkd, v_hasC, v_copy, v_act, v_packs, v_work⟩ := s
      change mrP P v_puts v_told v_mask v_open v_came v_byts at hP
      change mrS es pb sl st (c + 6) v_stamps v_psz v_stp v_pby at hS
      change mrB B sl v_blobs v_isT v_len v_slot v_sum v_dig v_pkd v_hasC v_copy at hB
      change v_act = act at hA
      change v_packs = nk at hk
      change v_room = room at hr
      change v_work.length = 96 at hw
      have hS' : mrS es pb sl st (c + 6) v_stamps v_psz v_stp v_pby := hS
      have hB0 : v_blobs = B.length := hB.1
      have hA' : v_act = act := hA
      have loop : ∀ (n k : Nat) (isT pkd : List Int32), k + n = B.length → (ctF (nI p) kp B act k).2.1 ≤ 96 * k → mrB (ctF (nI p) kp B act k).2.2.1 sl v_blobs isT v_len v_slot v_sum v_dig pkd v_hasC v_copy → (∀ b ∈ (ctF (nI p) kp B act k).2.2.1, bOK es pb nk b) → (ctF (nI p) kp B act k).2.2.2.length = 20 → Xw l D ρ m_ContentStoreModel_cut 33 [(0, .ref pre.length), (1, .int (nI p)), (2, .int (nI kp)), (3, .int (nI (ctF (nI p) kp B act k).2.1)), (4, .int (nI (ctF (nI p) kp B act k).1)), (5, .int (nI k))] [] (mH pre post (v_room, v_puts, v_told, v_mask, v_open, v_came, v_byts, v_stamps, v_psz, v_stp, v_pby, v_blobs, isT, v_len, v_slot, v_sum, v_dig, pkd, v_hasC, v_copy, (ctF (nI p) kp B act k).2.2.2, v_packs, v_work)) d kc ks (fun r N => r = some (.int (nI (ctF (nI p) kp B act B.length).1)) ∧ ∃ s', N = mH pre post s' ∧ MR (c + 6) room P (keptE es (cnt (ctF (nI p) kp B act B.length).2.2.1)) pb (ctF (nI p) kp B act B.length).2.2.1 (ctF (nI p) kp B act B.length).2.2.2 nk s') := by
        intro n
        induction n with
        | zero =>
          intro k isT pkd hkn hrc hm ho hal
          obtain rfl : k = B.length := by omega
          refine b_ContentStoreModel_cut_33 H_obj (fun _ => ?_) (fun c => absurd (by rw [hB0]; exact nI_le (Nat.le_refl _) (by omega)) c)
          refine b_ContentStoreModel_cut_89 (cd1 := 2) (ckc1 := 0) (cks1 := 0) (ckc2 := kc) (cks2 := ks) (by omega) (by omega) (by omega) H_obj (c_mTidy (s := (v_room, v_puts, v_told, v_mask, v_open, v_came, v_byts, v_stamps, v_psz, v_stp, v_pby, v_blobs, isT, v_len, v_slot, v_sum, v_dig, pkd, v_hasC, v_copy, (ctF (nI p) kp B act B.length).2.2.2, v_packs, v_work)) hS' (fun x hx => (hI.1.2.2.2 x hx).2) hm (bSm_of (by rw [ctF_len]; exact h60) ho) (by omega)) (fun r N h => ?_)
          obtain ⟨rfl, psz, rfl, hS2⟩ := h
          exact b_ContentStoreModel_cut_93 ⟨rfl, (v_room, v_puts, v_told, v_mask, v_open, v_came, v_byts, v_stamps, psz, v_stp, v_pby, v_blobs, isT, v_len, v_slot, v_sum, v_dig, pkd, v_hasC, v_copy, (ctF (nI p) kp B act B.length).2.2.2, v_packs, v_work), rfl, sl, st, hP, hS2, hm, rfl, hk, hr, hw⟩
        | succ n ih =>
          intro k isT pkd hkn hrc hm ho hal
          have hl := ctF_len (nI p) kp B act k
          have hlt : k < (ctF (nI p) kp B act k).2.2.1.length := by omega
          have hb : (ctF (nI p) kp B act k).2.2.1[k]? = some (ctF (nI p) kp B act k).2.2.1[k] := List.getElem?_eq_getElem hlt
          have hO := ho _ (List.getElem_mem hlt)
          have hO1 := hO.1
          obtain ⟨q1, q2, -, -, q5, -⟩ := hm.2.2.1 k _ hb
          have lT := hm.2.1.1
          have lL := hm.2.1.2.1
          have lK := hm.2.1.2.2.2.2.2.1
          refine b_ContentStoreModel_cut_33 H_obj (fun c => absurd c (by rw [hB0]; exact nI_ge (by omega) (by omega))) (fun _ => ?_)
          by_cases hcut : (bThere (ctF (nI p) kp B act k).2.2.1[k] && decide (bPack (ctF (nI p) kp B act k).2.2.1[k] = nI p)) = true
          · obtain ⟨ht, hpk⟩ := Bool.and_eq_true_iff.mp hcut
            have hpk := of_decide_eq_true hpk
            rw [if_pos ht] at q5
            refine b_ContentStoreModel_cut_42 (a48 := pkd) H_obj H_pkd rfl q5 (by omega) (fun _ => ?_) (fun cz => absurd hpk cz)
            refine b_ContentStoreModel_cut_56 (a63 := v_len) H_obj H_len rfl q2 (by omega) (fun cy => ?_) (fun cy => ?_)
            · rw [nI_add] at cy ⊢
              have hle : ¬ (ctF (nI p) kp B act k).2.1 + bLen (ctF (nI p) kp B act k).2.2.1[k] ≤ kp := fun z => nI_nlt z hkp cy
              have he : ctF (nI p) kp B act (k + 1) = ((ctF (nI p) kp B act k).1 + 1, (ctF (nI p) kp B act k).2.1 + bLen (ctF (nI p) kp B act k).2.2.1[k], (ctF (nI p) kp B act k).2.2.1.set k (bGone (ctF (nI p) kp B act k).2.2.1[k]), fgt (ctF (nI p) kp B act k).2.2.2 (nI k)) := by
                rw [ctF, hb]
                simp only [hcut, if_true]
                exact if_neg hle
              refine b_ContentStoreModel_cut_74 (cd1 := 0) (ckc1 := 0) (cks1 := 0) (ckc2 := kc) (cks2 := ks) (Q1 := fun r N => r = none ∧ N = mH pre post (v_room, v_puts, v_told, v_mask, v_open, v_came, v_byts, v_stamps, v_psz, v_stp, v_pby, v_blobs, isT.set k 0, v_len, v_slot, v_sum, v_dig, pkd.set k (-1), v_hasC, v_copy, fgt (ctF (nI p) kp B act k).2.2.2 (nI k), v_packs, v_work)) (by omega) (by omega) (by omega) H_obj (c_mGoes (s := (v_room, v_puts, v_told, v_mask, v_open, v_came, v_byts, v_stamps, v_psz, v_stp, v_pby, v_blobs, isT, v_len, v_slot, v_sum, v_dig, pkd, v_hasC, v_copy, (ctF (nI p) kp B act k).2.2.2, v_packs, v_work)) hm (by omega) hal) (fun r N h => ?_)
              obtain ⟨rfl, rfl⟩ := h
              refine b_ContentStoreModel_cut_80 (b_ContentStoreModel_cut_83 ?_)
              rw [nI_1, nI_1]
              have hn := ih (k + 1) (isT.set k 0) (pkd.set k (-1)) (by omega) (by rw [he]; show _ + _ ≤ _; omega) (by rw [he]; exact mrB_gone hm hb (by omega)) (by rw [he]; exact bOK_set ho (bOK_gone hO)) (by rw [he]; show (fgt _ _).length = 20; unfold fgt; rw [List.length_map]; exact hal)
              rw [he] at hn
              exact hn
            · rw [nI_add] at cy ⊢
              have hle : (ctF (nI p) kp B act k).2.1 + bLen (ctF (nI p) kp B act k).2.2.1[k] ≤ kp := by
                rcases Nat.lt_or_ge kp ((ctF (nI p) kp B act k).2.1 + bLen (ctF (nI p) kp B act k).2.2.1[k]) with z | z
                · exact absurd (nI_lt z (by omega)) cy
                · exact z
              have he : ctF (nI p) kp B act (k + 1) = ((ctF (nI p) kp B act k).1, (ctF (nI p) kp B act k).2.1 + bLen (ctF (nI p) kp B act k).2.2.1[k], (ctF (nI p) kp B act k).2.2.1, (ctF (nI p) kp B act k).2.2.2) := by
                rw [ctF, hb]
                simp only [hcut, if_true]
                exact if_pos hle
              refine b_ContentStoreModel_cut_71 (b_ContentStoreModel_cut_83 ?_)
              rw [nI_1]
              have hn := ih (k + 1) isT pkd (by omega) (by rw [he]; show _ + _ ≤ _; omega) (by rw [he]; exact hm) (by rw [he]; exact ho) (by rw [he]; exact hal)
              rw [he] at hn
              exact hn
          · have he : ctF (nI p) kp B act (k + 1) = ctF (nI p) kp B act k := by
              rw [ctF, hb]
              simp only [hcut]
              rfl
            refine b_ContentStoreModel_cut_42 (a48 := pkd) H_obj H_pkd rfl q5 (by omega) (fun cz => ?_) (fun _ => ?_)
            · exfalso
              cases ht : bThere (ctF (nI p) kp B act k).2.2.1[k] with
              | true =>
                rw [if_pos ht] at cz
                exact hcut (by rw [ht, decide_eq_true cz]; rfl)
              | false =>
                rw [if_neg (by rw [ht]; decide)] at cz
                exact nI_pos (n := p) (by omega) (by rw [← cz]; decide)
            · refine b_ContentStoreModel_cut_53 (b_ContentStoreModel_cut_83 ?_)
              rw [nI_1]
              have hn := ih (k + 1) isT pkd (by omega) (by rw [he]; omega) (by rw [he]; exact hm) (by rw [he]; exact ho) (by rw [he]; exact hal)
              rw [he] at hn
              exact hn
      have h0 := loop B.length 0 v_isT v_pkd (by omega) (Nat.zero_le _) hB hI.2.2.1.2 h20
      rw [show (ctF (nI p) kp B act 0).2.2.2 = v_act from hA'.symm] at h0
      exact h0
    · rw [sCut, g3]
      exact if_pos (Int32.not_le.mp cz)
theorem q_pack (hI : SI room P es pb B act nk) (hR : MR c room P es pb B act nk s) (hd : 1 ≤ d) :
    Xw l D ρ m_ContentStoreModel_pack 0 [(0, .ref pre.length)] [] (mH pre post s) d kc ks (fun r N => r = some (.int (sPack B nk).1) ∧ ∃ s', N = mH pre post s' ∧ MR (c + 6) room P es pb (sPack B nk).2.1 act (sPack B nk).2.2 s') := by
  have hR6 := MR_up hR (c' := c + 6) (by omega)
  obtain ⟨sl, st, hP, hS, hB, hA, hk, hr, hw⟩ := id hR6
  obtain ⟨b0, ⟨l1, l2, l3, l4, l5, l6, -⟩, hB1, -⟩ := id hB
  have h60 : B.length ≤ 60 := hI.2.2.1.1
  have h12 : nk ≤ 12 := hI.2.2.2.2
  refine b_ContentStoreModel_pack_0 h_obj ?_
  rw [w_obj]
  have hpk : ∀ b ∈ B, bThere b = true → (bPack b < 0 ↔ bPack b = -1) := fun b hb ht => pk_neg (hI.2.2.1.2 b hb) ht h12
  have last : Xw l D ρ m_ContentStoreModel_pack 51 [(0, .ref pre.length), (1, .int (i2b (B.any (fun b => bThere b && decide (bPack b = -1)))))] [] (mH pre post s) d kc ks (fun r N => r = some (.int (sPack B nk).1) ∧ ∃ s', N = mH pre post s' ∧ MR (c + 6) room P es pb (sPack B nk).2.1 act (sPack B nk).2.2 s') := by
    have fin : ¬ (nk < 12 ∧ B.any (fun b => bThere b && decide (bPack b = -1)) = true) → Xw l D ρ m_ContentStoreModel_pack 64 [] [] (mH pre post s) d kc ks (fun r N => r = some (.int (sPack B nk).1) ∧ ∃ s', N = mH pre post s' ∧ MR (c + 6) room P es pb (sPack B nk).2.1 act (sPack B nk).2.2 s') := fun h => by
      rw [sPack, if_neg h]
      exact b_ContentStoreModel_pack_64 ⟨rfl, s, rfl, hR6⟩
    refine b_ContentStoreModel_pack_51 h_obj (fun cz => fin (fun z => ?_)) (fun cz => ?_)
    · rw [hk] at cz
      have := (nI_eq (a := nk) (b := 12) (by omega) (by decide)).mp cz
      omega
    rw [hk] at cz
    have c12 : nk < 12 := by
      rcases Nat.lt_or_ge nk 12 with z | z
      · exact z
      · exact absurd (show nI nk = 12 by rw [show nk = 12 by omega]; rfl) cz
    refine b_ContentStoreModel_pack_60 (fun cy => ?_) (fun cy => fin (fun z => ?_))
    · rw [sPack, if_pos ⟨c12, i2b_t cy⟩]
      refine b_ContentStoreModel_pack_66 ?_
      clear fin hR6 hR
      obtain ⟨v_room, v_puts, v_told, v_mask, v_open, v_came, v_byts, v_stamps, v_psz, v_stp, v_pby, v_blobs, v_isT, v_len, v_slot, v_sum, v_dig, v_pkd, v_hasC, v_copy, v_act, v_packs, v_work⟩ := s
      change mrP P v_puts v_told v_mask v_open v_came v_byts at hP
      change mrS es pb sl st (c + 6) v_stamps v_psz v_stp v_pby at hS
      change mrB B sl v_blobs v_isT v_len v_slot v_sum v_dig v_pkd v_hasC v_copy at hB
      change v_act = act at hA
      change v_packs = nk at hk
      change v_room = room at hr
      change v_work.length = 96 at hw
      have hk' : nk = v_packs := hk.symm
      subst hk'
      have hB0 : v_blobs = B.length := b0
      have loop : ∀ (n k : Nat) (pkd : List Int32), k + n = B.length → mrB ((B.take k).map (pkF nk) ++ B.drop k) sl v_blobs v_isT v_len v_slot v_sum v_dig pkd v_hasC v_copy → Xw l D ρ m_ContentStoreModel_pack 68 [(0, .ref pre.length), (2, .int (nI k))] [] (mH pre post (v_room, v_puts, v_told, v_mask, v_open, v_came, v_byts, v_stamps, v_psz, v_stp, v_pby, v_blobs, v_isT, v_len, v_slot, v_sum, v_dig, pkd, v_hasC, v_copy, v_act, nk, v_work)) d kc ks (fun r N => r = some (.int (nI nk)) ∧ ∃ s', N = mH pre post s' ∧ MR (c + 6) room P es pb (B.map (pkF nk)) act (nk + 1) s') := by
        intro n
        induction n with
        | zero =>
          intro k pkd hkn hm
          rw [List.take_of_length_le (by omega), List.drop_eq_nil_of_le (by omega), List.append_nil] at hm
          refine b_ContentStoreModel_pack_68 H_obj (fun _ => ?_) (fun c => absurd (by rw [hB0]; exact nI_le (by omega) (by omega)) c)
          refine b_ContentStoreModel_pack_110 H_obj ⟨?_, (v_room, v_puts, v_told, v_mask, v_open, v_came, v_byts, v_stamps, v_psz, v_stp, v_pby, v_blobs, v_isT, v_len, v_slot, v_sum, v_dig, pkd, v_hasC, v_copy, v_act, nk + 1, v_work), ?_, sl, st, hP, hS, hm, hA, rfl, hr, hw⟩
          · rw [nI_1, nI_pred]
          · rw [nI_1, W_packs]
        | succ n ih =>
          intro k pkd hkn hm
          have hlt : k < B.length := by omega
          have hb : B[k]? = some B[k] := List.getElem?_eq_getElem hlt
          obtain ⟨m1, m2⟩ := mapset (pkF nk) hb
          obtain ⟨q1, -, -, -, q5, -⟩ := hm.2.2.1 k _ m2
          have lT : v_isT.length = 60 := hm.2.1.1
          have lK := hm.2.1.2.2.2.2.2.1
          have hn := ih (k + 1)
          rw [← m1] at hn
          have no : pkF nk B[k] = B[k] → Xw l D ρ m_ContentStoreModel_pack 104 [(0, .ref pre.length), (2, .int (nI k))] [] (mH pre post (v_room, v_puts, v_told, v_mask, v_open, v_came, v_byts, v_stamps, v_psz, v_stp, v_pby, v_blobs, v_isT, v_len, v_slot, v_sum, v_dig, pkd, v_hasC, v_copy, v_act, nk, v_work)) d kc ks (fun r N => r = some (.int (nI nk)) ∧ ∃ s', N = mH pre post s' ∧ MR (c + 6) room P es pb (B.map (pkF nk)) act (nk + 1) s') := by
            intro he
            refine b_ContentStoreModel_pack_104 ?_
            rw [nI_1]
            refine hn pkd (by omega) ?_
            rw [he, set_same m2]
            exact hm
          refine b_ContentStoreModel_pack_68 H_obj (fun c => absurd c (by rw [hB0]; exact nI_ge (by omega) (by omega))) (fun _ => ?_)
          cases ht : bThere B[k] with
          | false =>
            rw [ht] at q1
            refine b_ContentStoreModel_pack_76 (a81 := v_isT) H_obj H_isT rfl q1 (by omega) (fun _ => no ?_) (fun cx => absurd rfl cx)
            rw [pkF, ht]
            rfl
          | true =>
            rw [ht] at q1
            rw [if_pos ht] at q5
            refine b_ContentStoreModel_pack_76 (a81 := v_isT) H_obj H_isT rfl q1 (by omega) (fun cx => absurd cx (by decide)) (fun _ => ?_)
            refine b_ContentStoreModel_pack_85 (a90 := pkd) H_obj H_pkd rfl q5 (by omega) (fun cx => no ?_) (fun cx => ?_)
            · rw [pkF, ht, decide_eq_false (fun z => Int32.not_lt.mpr cx ((hpk _ (List.getElem_mem hlt) ht).mpr z))]
              rfl
            · have hpk1 := (hpk _ (List.getElem_mem hlt) ht).mp (Int32.not_le.mp cx)
              refine b_ContentStoreModel_pack_94 (a103 := pkd) (j103 := k) H_obj H_pkd rfl (by omega) (by omega) ?_
              rw [W_pkd]
              refine b_ContentStoreModel_pack_104 ?_
              rw [nI_1]
              refine hn _ (by omega) ?_
              have he : pkF nk B[k] = (bLen B[k], bIds B[k], bSum B[k], bDig B[k], bCopy B[k], nI nk, bThere B[k]) := by
                rw [pkF, ht, decide_eq_true hpk1]
                rfl
              rw [he]
              exact mrB_pk hm m2 (by omega) ht
      exact loop B.length 0 v_pkd (by omega) hB
    · rw [i2b_0.mp cy] at z
      cases z.2
  have loop : ∀ (n k : Nat), k + n = B.length → Xw l D ρ m_ContentStoreModel_pack 9 [(0, .ref pre.length), (1, .int (i2b ((B.take k).any (fun b => bThere b && decide (bPack b = -1))))), (2, .int (nI k))] [] (mH pre post s) d kc ks (fun r N => r = some (.int (sPack B nk).1) ∧ ∃ s', N = mH pre post s' ∧ MR (c + 6) room P es pb (sPack B nk).2.1 act (sPack B nk).2.2 s') := by
    intro n
    induction n with
    | zero =>
      intro k hkn
      refine b_ContentStoreModel_pack_9 h_obj (fun _ => ?_) (fun c => absurd (by rw [b0]; exact nI_le (by omega) (by omega)) c)
      rw [List.take_of_length_le (by omega)]
      exact last
    | succ n ih =>
      intro k hkn
      have hlt : k < B.length := by omega
      have hb : B[k]? = some B[k] := List.getElem?_eq_getElem hlt
      obtain ⟨q1, -, -, -, q5, -⟩ := hB1 k _ hb
      have hn := ih (k + 1) (by omega)
      rw [any_take1 hb] at hn
      refine b_ContentStoreModel_pack_9 h_obj (fun c => absurd c (by rw [b0]; exact nI_ge (by omega) (by omega))) (fun _ => ?_)
      refine b_ContentStoreModel_pack_17 (fun cz => ?_) (fun cz => ?_)
      · rw [i2b_t cz, Bool.true_or] at hn
        refine b_ContentStoreModel_pack_39 (b_ContentStoreModel_pack_44 trivial ?_)
        rw [nI_1]
        exact hn
      · rw [i2b_0.mp cz, Bool.false_or] at hn
        cases ht : bThere B[k] with
        | false =>
          rw [ht] at q1
          rw [ht, Bool.false_and] at hn
          refine b_ContentStoreModel_pack_21 h_obj h_isT rfl q1 (by omega) (fun _ => b_ContentStoreModel_pack_43 (b_ContentStoreModel_pack_44 trivial ?_)) (fun cx => absurd rfl cx)
          rw [nI_1]
          exact hn
        | true =>
          rw [ht] at q1
          rw [if_pos ht] at q5
          rw [ht, Bool.true_and] at hn
          refine b_ContentStoreModel_pack_21 h_obj h_isT rfl q1 (by omega) (fun cx => absurd cx (by decide)) (fun _ => ?_)
          refine b_ContentStoreModel_pack_30 h_obj h_pkd rfl q5 (by omega) (fun cx => ?_) (fun cx => ?_)
          · rw [decide_eq_false (fun z => Int32.not_lt.mpr cx ((hpk _ (List.getElem_mem hlt) ht).mpr z))] at hn
            refine b_ContentStoreModel_pack_43 (b_ContentStoreModel_pack_44 trivial ?_)
            rw [nI_1]
            exact hn
          · rw [decide_eq_true ((hpk _ (List.getElem_mem hlt) ht).mp (Int32.not_le.mp cx))] at hn
            refine b_ContentStoreModel_pack_39 (b_ContentStoreModel_pack_44 trivial ?_)
            rw [nI_1]
            exact hn
  exact loop B.length 0 (by omega)
end MSWEEP
