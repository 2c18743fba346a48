/-! THE MODEL'S UPDATES: end, repair -/
theorem mrP_shut {P : List sP} {puts i : Nat} {p : sP} {told : List Int32} {mask : List Int64} {op came byts : List Int32} (h : mrP P puts told mask op came byts) (hp : P[i]? = some p) (h60 : P.length ≤ 60) : mrP (P.set i (pShut p)) puts told mask (op.set i 0) came byts := by
  obtain ⟨h0, ⟨l1, l2, l3, l4, l5⟩, h1, h2⟩ := h
  have hi := (List.getElem?_eq_some_iff.mp hp).1
  refine ⟨by rw [List.length_set]; exact h0, ⟨l1, l2, by rw [List.length_set]; exact l3, l4, l5⟩, fun i' p' hp' => ?_, fun i' hi1 hi2 => h2 i' (by rw [List.length_set] at hi1; exact hi1) hi2⟩
  by_cases hii : i' = i
  · subst hii
    rw [List.getElem?_set_self hi] at hp'
    cases hp'
    obtain ⟨g1, g2, g3, g4, g5⟩ := h1 i' p hp
    exact ⟨g1, g2, List.getElem?_set_self (by omega), g4, g5⟩
  · rw [List.getElem?_set_ne (fun z => hii z.symm)] at hp'
    rw [List.getElem?_set_ne (fun z => hii z.symm)]
    exact h1 i' p' hp'
theorem mrB_new {es : List Nat} {B : List sB} {sl sl' : Nat → Nat} {blobs : Nat} {bs : List Int32} {row : List Nat} {isT len slot slot' sum : List Int32} {dig : List Int64} {pkd hasC copy : List Int32} (h : mrB B sl blobs isT len slot sum dig pkd hasC copy) (hB : B.length < 60) (hids : ∀ b ∈ B, (bIds b).length ≤ 6 ∧ (bThere b = true → ∀ x ∈ bIds b, x ∈ es)) (hsl : ∀ x ∈ es, sl' x = sl x) (hl : slot'.length = 360) (hrow : ∀ (j x : Nat), row[j]? = some x → slot'[6 * B.length + j]? = some (nI (sl' x))) (hout : ∀ p : Nat, p < 6 * B.length ∨ 6 * B.length + 6 ≤ p → slot'[p]? = slot[p]?) :
    mrB (B ++ [bNew bs row]) sl' (blobs + 1) (isT.set B.length 1) (len.set B.length (nI bs.length)) slot' (sum.set B.length (sumL 0 bs)) (dig.set B.length (digL (nI bs.length).toInt64 bs)) pkd hasC copy := by
  obtain ⟨h1, ⟨l1, l2, l3, l4, l5, l6, l7, l8⟩, h3, h4⟩ := h
  refine ⟨by rw [List.length_append, h1]; rfl, ⟨by rw [List.length_set]; exact l1, by rw [List.length_set]; exact l2, hl, by rw [List.length_set]; exact l4, by rw [List.length_set]; exact l5, l6, l7, l8⟩, fun i b hb => ?_, fun i hi1 hi2 => ?_⟩
  · by_cases hi : i = B.length
    · subst hi
      rw [List.getElem?_append_right (Nat.le_refl _), Nat.sub_self] at hb
      cases hb
      obtain ⟨t1, t2, t3⟩ := h4 _ (Nat.le_refl _) hB
      exact ⟨List.getElem?_set_self (by omega), List.getElem?_set_self (by omega), List.getElem?_set_self (by omega), List.getElem?_set_self (by omega), t2, t3, fun c hc => (by cases hc), fun _ k x hk => hrow k x hk⟩
    · have hlt : i < B.length := by
        have := (List.getElem?_eq_some_iff.mp hb).1
        rw [List.length_append, List.length_singleton] at this
        omega
      rw [List.getElem?_append_left hlt] at hb
      obtain ⟨q1, q2, q3, q4, q5, q6, q7, q8⟩ := h3 i b hb
      have hmem := List.mem_of_getElem? hb
      rw [List.getElem?_set_ne (fun z => hi z.symm), List.getElem?_set_ne (fun z => hi z.symm), List.getElem?_set_ne (fun z => hi z.symm), List.getElem?_set_ne (fun z => hi z.symm)]
      refine ⟨q1, q2, q3, q4, q5, q6, q7, fun ht k x hk => ?_⟩
      have hk6 := (List.getElem?_eq_some_iff.mp hk).1
      have := (hids b hmem).1
      rw [hout _ (Or.inl (by omega)), hsl x ((hids b hmem).2 ht x (List.mem_of_getElem? hk))]
      exact q8 ht k x hk
  · rw [List.length_append, List.length_singleton] at hi1
    rw [List.getElem?_set_ne (by omega)]
    exact h4 i (by omega) hi2
theorem mrB_row {es : List Nat} {B : List sB} {sl sl' : Nat → Nat} {k blobs : Nat} {b : sB} {row : List Nat} {isT len slot slot' sum : List Int32} {dig : List Int64} {pkd hasC copy : List Int32} (h : mrB B sl blobs isT len slot sum dig pkd hasC copy) (hb : B[k]? = some b) (hids : ∀ b ∈ B, (bIds b).length ≤ 6 ∧ (bThere b = true → ∀ x ∈ bIds b, x ∈ es)) (hsl : ∀ x ∈ es, sl' x = sl x) (hl : slot'.length = 360) (hrow : ∀ (j x : Nat), row[j]? = some x → slot'[6 * k + j]? = some (nI (sl' x))) (hout : ∀ p : Nat, p < 6 * k ∨ 6 * k + 6 ≤ p → slot'[p]? = slot[p]?) :
    mrB (B.set k (bRow b row)) sl' blobs isT len slot' sum dig pkd hasC copy := by
  obtain ⟨h1, ⟨l1, l2, l3, l4, l5, l6, l7, l8⟩, h3, h4⟩ := h
  have hkl := (List.getElem?_eq_some_iff.mp hb).1
  refine ⟨by rw [List.length_set]; exact h1, ⟨l1, l2, hl, l4, l5, l6, l7, l8⟩, fun i b' hb' => ?_, fun i hi1 hi2 => h4 i (by rw [List.length_set] at hi1; exact hi1) hi2⟩
  by_cases hik : i = k
  · subst hik
    rw [List.getElem?_set_self hkl] at hb'
    cases hb'
    obtain ⟨q1, q2, q3, q4, q5, q6, q7, q8⟩ := h3 i b hb
    exact ⟨q1, q2, q3, q4, q5, q6, q7, fun _ k x hk => hrow k x hk⟩
  · rw [List.getElem?_set_ne (fun z => hik z.symm)] at hb'
    obtain ⟨q1, q2, q3, q4, q5, q6, q7, q8⟩ := h3 i b' hb'
    have hmem := List.mem_of_getElem? hb'
    refine ⟨q1, q2, q3, q4, q5, q6, q7, fun ht k' x hk' => ?_⟩
    have hk6 := (List.getElem?_eq_some_iff.mp hk').1
    have := (hids b' hmem).1
    rw [hout _ (by omega), hsl x ((hids b' hmem).2 ht x (List.mem_of_getElem? hk'))]
    exact q8 ht k' x hk'
/-- the row that is worked on, one byte more -/
theorem wk_step {a work : List Int32} {j : Nat} {w : Int32} (h : wk (a.take j) work) (hj : a[j]? = some w) (h96 : a.length ≤ 96) : wk (a.take (j + 1)) (work.set j w) := by
  obtain ⟨h1, h2⟩ := h
  have hlt := (List.getElem?_eq_some_iff.mp hj).1
  refine ⟨by rw [List.length_set]; exact h1, fun i v hi => ?_⟩
  have hil := (List.getElem?_eq_some_iff.mp hi).1
  rw [List.length_take] at hil
  have hi' : a[i]? = some v := by
    rw [← hi, List.getElem?_take, if_pos (by omega)]
  by_cases hij : i = j
  · subst hij
    rw [hj] at hi'
    cases hi'
    exact List.getElem?_set_self (by omega)
  · rw [List.getElem?_set_ne (fun z => hij z.symm)]
    refine h2 i v ?_
    rw [List.getElem?_take, if_pos (by omega)]
    exact hi'
/-- end, where all came and the check is zero -/
def sEndF (room : Nat) (P : List sP) (es : List Nat) (pb : Nat → List Int32) (B : List sB) (bs : List Int32) (k : Nat) (p : sP) (nid : Nat → Nat) : Int32 × List sP × List Nat × (Nat → List Int32) × List sB := match fnd pb B bs with
  | some k' => (nI k', P.set k (pShut p), es, pb, B)
  | none => ((sNew room es pb B bs nid).1, P.set k (pShut p), (sNew room es pb B bs nid).2)
section MEND
variable {l : Launch} {D : va_G} {ρ : xR} {M : List xCl} {d kc ks : Nat} {pre post : List xCl} {s : mS} {c room : Nat} {P : List sP} {es : List Nat} {pb : Nat → List Int32} {B : List sB} {act : List Int32} {nk : Nat} {sl st : Nat → Nat}
theorem SI_ids (hI : SI room P es pb B act nk) : ∀ b ∈ B, (bIds b).length ≤ 6 ∧ (bThere b = true → ∀ x ∈ bIds b, x ∈ es) := fun b hb => ⟨(hI.2.2.1.2 b hb).2.2.1, fun ht => ((hI.2.2.1.2 b hb).2.2.2 ht).2.1⟩
theorem q_end {v : Int32} {nid : Nat → Nat} (hI : SI room P es pb B act nk) (hR : MR c room P es pb B act nk s) (hc : c ≤ 100000) (hnid : ∀ z, opP P v = some z → nOK es pb z.2.2.2.1 [] nid) (hd : 4 ≤ d) :
    Xw l D ρ m_ContentStoreModel_end 0 [(0, .ref pre.length), (1, .int v)] [] (mH pre post s) d kc ks (fun r N => r = some (.int (sEnd room P es pb B v nid).1) ∧ ∃ s', N = mH pre post s' ∧ MR (c + 6) room (sEnd room P es pb B v nid).2.1 (sEnd room P es pb B v nid).2.2.1 (sEnd room P es pb B v nid).2.2.2.1 (sEnd room P es pb B v nid).2.2.2.2 act nk s') := by
  have hR6 := MR_up hR (c' := c + 6) (by omega)
  obtain ⟨sl, st, hP, hS, hB, hA, hk, hr, hw⟩ := id hR
  have h60 : P.length ≤ 60 := hI.2.1.1
  have hB60 : B.length ≤ 60 := hI.2.2.1.1
  refine b_ContentStoreModel_end_0 (cd1 := 1) (ckc1 := 0) (cks1 := 0) (ckc2 := kc) (cks2 := ks) (Q1 := fun r N => r = some (.int (i2b (opP P v).isSome)) ∧ N = mH pre post s) h_obj (by omega) (by omega) (by omega) (by rw [w_obj]; exact c_mIsOpen hP h60 (by omega)) (fun r N h => ?_)
  obtain ⟨rfl, rfl⟩ := h
  rcases opP_cases P v h60 with ⟨h, -⟩ | ⟨k, p, rfl, h2, h3, h4⟩
  · have hw2 : sEnd room P es pb B v nid = (-1, P, es, pb, B) := by rw [sEnd, h]
    rw [hw2]
    refine b_ContentStoreModel_end_10 (fun cz => ?_) (fun _ => b_ContentStoreModel_end_13 ⟨rfl, s, rfl, hR6⟩)
    rw [h] at cz
    exact absurd rfl cz
  · have hkl := (List.getElem?_eq_some_iff.mp h2).1
    obtain ⟨o1, o2⟩ : pOK p := hI.2.1.2.1 p (List.mem_of_getElem? h2)
    have hno := hnid _ h4
    change nOK es pb p.2.2.1 [] nid at hno
    obtain ⟨b0, ⟨l1, l2, l3, l4, l5⟩, hP1, hP2⟩ := id hP
    obtain ⟨q1, q2, q3, q4, q5⟩ := hP1 k p h2
    refine b_ContentStoreModel_end_10 (fun _ => ?_) (fun cz => ?_)
    case refine_2 =>
      rw [h4] at cz
      exact absurd cz (show ¬ (1 : Int32) = 0 by decide)
    clear hR6 hR hnid
    obtain ⟨v_room, v_puts, v_told, v_mask, v_open, v_came, v_byts, v_stamps, v_psz, v_stp, v_pby, v_blobs, v_isT, v_len, v_slot, v_sum, v_dig, v_pkd, v_hasC, v_copy, v_act, v_packs, v_work⟩ := s
    change mrP P v_puts v_told v_mask v_open v_came v_byts at hP
    change mrS es pb sl st c v_stamps v_psz v_stp v_pby at hS
    change mrB B sl v_blobs v_isT v_len v_slot v_sum v_dig v_pkd v_hasC v_copy at hB
    change v_act = act at hA
    change v_packs = nk at hk
    change v_room = room at hr
    change v_work.length = 96 at hw
    change v_open.length = 60 at l3
    change v_came.length = 60 at l4
    change v_told.length = 60 at l1
    change v_mask.length = 60 at l2
    change v_byts.length = 5760 at l5
    have hS' : mrS es pb sl st c v_stamps v_psz v_stp v_pby := hS
    have hS6 : mrS es pb sl st (c + 6) v_stamps v_psz v_stp v_pby := ⟨by have := hS'.1; omega, hS'.2⟩
    have hB' : mrB B sl v_blobs v_isT v_len v_slot v_sum v_dig v_pkd v_hasC v_copy := hB
    have hP' := mrP_shut hP h2 h60
    obtain ⟨c0, ⟨e1, e2, e3, e4, e5, e6, e7, e8⟩, hB1, -⟩ := id hB'
    have hno2 : ¬ (p.2.2.1.length = p.1 ∧ p.2.1 = 0) → Xw l D ρ m_ContentStoreModel_end 48 [] [] (mH pre post (v_room, v_puts, v_told, v_mask, v_open.set k 0, v_came, v_byts, v_stamps, v_psz, v_stp, v_pby, v_blobs, v_isT, v_len, v_slot, v_sum, v_dig, v_pkd, v_hasC, v_copy, v_act, v_packs, v_work)) d kc ks (fun r N => r = some (.int (sEnd room P es pb B (nI k) nid).1) ∧ ∃ s', N = mH pre post s' ∧ MR (c + 6) room (sEnd room P es pb B (nI k) nid).2.1 (sEnd room P es pb B (nI k) nid).2.2.1 (sEnd room P es pb B (nI k) nid).2.2.2.1 (sEnd room P es pb B (nI k) nid).2.2.2.2 act nk s') := by
      intro hz
      have hw2 : sEnd room P es pb B (nI k) nid = (-2, P.set k (pShut p), es, pb, B) := by
        rw [sEnd, h4]
        exact if_neg hz
      rw [hw2]
      exact b_ContentStoreModel_end_48 ⟨rfl, _, rfl, sl, st, hP', hS6, hB', hA, hk, hr, hw⟩
    refine b_ContentStoreModel_end_15 (a21 := v_open) (j21 := k) (a27 := v_came) (a33 := v_told) H_obj H_open rfl (by omega) (by omega) (by rw [W_open]; exact H_came) rfl q4 (by omega) (by rw [W_open]; exact H_told) rfl q1 (by omega) (fun cz => ?_) (fun cz => ?_)
    · rw [W_open]
      exact hno2 (fun z => cz (by rw [z.1]))
    rw [W_open]
    have hful : p.2.2.1.length = p.1 := (nI_eq (by omega) (by omega)).mp cz
    refine b_ContentStoreModel_end_37 (a42 := v_mask) H_obj H_mask rfl q2 (by omega) (fun cy => ?_) (fun cy => hno2 (fun z => cy ((lg_cmp0 _).mpr z.2)))
    have hmask : p.2.1 = 0 := (lg_cmp0 _).mp cy
    have hyes : sEnd room P es pb B (nI k) nid = sEndF room P es pb B p.2.2.1 k p nid := by
      rw [sEnd, h4]
      exact if_pos ⟨hful, hmask⟩
    rw [hyes]
    clear hyes hno2 hP1 hP2
    have hbs : p.2.2.1.length ≤ 96 := by omega
    have hq5 : ∀ j w, p.2.2.1[j]? = some w → v_byts[96 * k + j]? = some w := q5
    generalize p.2.2.1 = bs at hbs hq5 hno q4 ⊢
    refine b_ContentStoreModel_end_51 (a56 := v_came) H_obj H_came rfl q4 (by omega) ?_
    -- behind the copying
    have rest : ∀ work : List Int32, wk bs work → Xw l D ρ m_ContentStoreModel_end 88 [(0, .ref pre.length), (2, .int (nI bs.length))] [] (mH pre post (v_room, v_puts, v_told, v_mask, v_open.set k 0, v_came, v_byts, v_stamps, v_psz, v_stp, v_pby, v_blobs, v_isT, v_len, v_slot, v_sum, v_dig, v_pkd, v_hasC, v_copy, v_act, v_packs, work)) d kc ks (fun r N => r = some (.int (sEndF room P es pb B bs k p nid).1) ∧ ∃ s', N = mH pre post s' ∧ MR (c + 6) room (sEndF room P es pb B bs k p nid).2.1 (sEndF room P es pb B bs k p nid).2.2.1 (sEndF room P es pb B bs k p nid).2.2.2.1 (sEndF room P es pb B bs k p nid).2.2.2.2 act nk s') := by
      intro work hwk
      have hwl := hwk.1
      refine b_ContentStoreModel_end_88 ?_
      have loop : ∀ (n j : Nat), j + n = B.length → (∀ i b, i < j → B[i]? = some b → (bThere b && (decide (bb pb (bIds b) = bs) && sndB pb b)) = false) → Xw l D ρ m_ContentStoreModel_end 90 [(0, .ref pre.length), (2, .int (nI bs.length)), (3, .int (nI j))] [] (mH pre post (v_room, v_puts, v_told, v_mask, v_open.set k 0, v_came, v_byts, v_stamps, v_psz, v_stp, v_pby, v_blobs, v_isT, v_len, v_slot, v_sum, v_dig, v_pkd, v_hasC, v_copy, v_act, v_packs, work)) d kc ks (fun r N => r = some (.int (sEndF room P es pb B bs k p nid).1) ∧ ∃ s', N = mH pre post s' ∧ MR (c + 6) room (sEndF room P es pb B bs k p nid).2.1 (sEndF room P es pb B bs k p nid).2.2.1 (sEndF room P es pb B bs k p nid).2.2.2.1 (sEndF room P es pb B bs k p nid).2.2.2.2 act nk s') := by
        intro n
        induction n with
        | zero =>
          intro j hj hpre
          have hnone : fnd pb B bs = none := by
            rw [fnd, List.findIdx?_eq_none_iff]
            intro b hb
            obtain ⟨i, hi, rfl⟩ := List.getElem_of_mem hb
            exact hpre i _ (by omega) (List.getElem?_eq_getElem hi)
          have hF : sEndF room P es pb B bs k p nid = ((sNew room es pb B bs nid).1, P.set k (pShut p), (sNew room es pb B bs nid).2) := by rw [sEndF, hnone]
          rw [hF]
          refine b_ContentStoreModel_end_90 H_obj (fun _ => ?_) (fun c => absurd (by rw [c0]; exact nI_le (by omega) (by omega)) c)
          have ht40 : tot pb es ≤ 2000 := by have := hI.1.1; have := hI.1.2.1; omega
          have hneed := needF_le es pb bs (nParts bs.length)
          have hnp : nParts bs.length ≤ 6 := by unfold nParts; omega
          have hroom := hI.1.1
          have hr' : v_room = room := hr
          refine b_ContentStoreModel_end_141 (cd1 := 0) (ckc1 := 0) (cks1 := 0) (ckc2 := kc) (cks2 := ks) (by omega) (by omega) (by omega) H_obj (c_mUsed (s := (v_room, v_puts, v_told, v_mask, v_open.set k 0, v_came, v_byts, v_stamps, v_psz, v_stp, v_pby, v_blobs, v_isT, v_len, v_slot, v_sum, v_dig, v_pkd, v_hasC, v_copy, v_act, v_packs, work)) hS' hI.1.2.2.1 (by omega)) (fun r N h => ?_)
          obtain ⟨rfl, rfl⟩ := h
          refine b_ContentStoreModel_end_145 (cd1 := 3) (ckc1 := 0) (cks1 := 0) (ckc2 := kc) (cks2 := ks) (by omega) (by omega) (by omega) H_obj (c_mMissing (s := (v_room, v_puts, v_told, v_mask, v_open.set k 0, v_came, v_byts, v_stamps, v_psz, v_stp, v_pby, v_blobs, v_isT, v_len, v_slot, v_sum, v_dig, v_pkd, v_hasC, v_copy, v_act, v_packs, work)) (std := []) hS' (by omega) (fun x hx => (hI.1.2.2.2 x hx).2.2) hwk hbs (fun _ _ => Or.inl ⟨rfl, rfl⟩) (by omega)) (fun r N h => ?_)
          obtain ⟨rfl, rfl⟩ := h
          have no : ¬ (B.length < 60 ∧ tot pb es + needF es pb bs (nParts bs.length) ≤ room) → Xw l D ρ m_ContentStoreModel_end 168 [] [] (mH pre post (v_room, v_puts, v_told, v_mask, v_open.set k 0, v_came, v_byts, v_stamps, v_psz, v_stp, v_pby, v_blobs, v_isT, v_len, v_slot, v_sum, v_dig, v_pkd, v_hasC, v_copy, v_act, v_packs, work)) d kc ks (fun r N => r = some (.int (sNew room es pb B bs nid).1) ∧ ∃ s', N = mH pre post s' ∧ MR (c + 6) room (P.set k (pShut p)) (sNew room es pb B bs nid).2.1 (sNew room es pb B bs nid).2.2.1 (sNew room es pb B bs nid).2.2.2 act nk s') := by
            intro hz
            rw [sNew, if_neg hz]
            exact b_ContentStoreModel_end_168 ⟨rfl, _, rfl, sl, st, hP', hS6, hB', hA, hk, hr, hwl⟩
          refine b_ContentStoreModel_end_151 H_obj (fun cx => no (fun z => ?_)) (fun cx => ?_)
          · rw [nI_add, hr'] at cx
            have := (nI_ltI (by omega) (by omega)).mp cx
            omega
          rw [nI_add, hr'] at cx
          have hfit : tot pb es + needF es pb bs (nParts bs.length) ≤ room := by
            rcases Nat.lt_or_ge room (tot pb es + needF es pb bs (nParts bs.length)) with z | z
            · exact absurd (nI_lt z (by omega)) cx
            · exact z
          refine b_ContentStoreModel_end_159 H_obj (fun cw => ?_) (fun cw => no (fun z => ?_))
          · have hB6 : B.length < 60 := by
              rcases Nat.lt_or_ge B.length 60 with z | z
              · exact z
              · exact absurd (show nI v_blobs = 60 by rw [c0, show B.length = 60 by omega]; rfl) cw
            obtain rfl : v_blobs = B.length := c0
            have hw2 : sNew room es pb B bs nid = (nI B.length, (rowF bs [] nid es pb (nParts bs.length)).1, (rowF bs [] nid es pb (nParts bs.length)).2.1, B ++ [bNew bs (rowF bs [] nid es pb (nParts bs.length)).2.2]) := by
              rw [sNew, if_pos ⟨hB6, hfit⟩]
            rw [hw2]
            clear hw2 no
            refine b_ContentStoreModel_end_171 (f172_16 := .ref (pre.length + 12)) (a192 := v_len) (j192 := B.length) (cd1 := 1) (ckc1 := 0) (cks1 := 0) (ckc2 := kc) (cks2 := ks) (Q1 := fun r N => r = some (.int (sumL 0 bs)) ∧ N = mH pre post (v_room, v_puts, v_told, v_mask, v_open.set k 0, v_came, v_byts, v_stamps, v_psz, v_stp, v_pby, B.length + 1, v_isT, v_len.set B.length (nI bs.length), v_slot, v_sum, v_dig, v_pkd, v_hasC, v_copy, v_act, v_packs, work)) trivial H_obj (by rw [nI_1, W_blobs]; exact H_len) rfl (by omega) (by omega) (by omega) (by omega) (by omega) (by
              rw [nI_1, W_blobs, W_len]
              exact c_mSumW (s := (v_room, v_puts, v_told, v_mask, v_open.set k 0, v_came, v_byts, v_stamps, v_psz, v_stp, v_pby, B.length + 1, v_isT, v_len.set B.length (nI bs.length), v_slot, v_sum, v_dig, v_pkd, v_hasC, v_copy, v_act, v_packs, work)) hwk hbs (by omega)) (fun r N h => ?_)
            obtain ⟨rfl, rfl⟩ := h
            refine b_ContentStoreModel_end_203 (f205_17 := .ref (pre.length + 13)) (a203 := v_sum) (j203 := B.length) (cd1 := 1) (ckc1 := 0) (cks1 := 0) (ckc2 := kc) (cks2 := ks) (Q1 := fun r N => r = some (.long (digL (nI bs.length).toInt64 bs)) ∧ N = mH pre post (v_room, v_puts, v_told, v_mask, v_open.set k 0, v_came, v_byts, v_stamps, v_psz, v_stp, v_pby, B.length + 1, v_isT, v_len.set B.length (nI bs.length), v_slot, v_sum.set B.length (sumL 0 bs), v_dig, v_pkd, v_hasC, v_copy, v_act, v_packs, work)) H_sum rfl (by omega) (by omega) trivial (by rw [W_sum]; exact H_obj) (by omega) (by omega) (by omega) (by
              rw [W_sum]
              exact c_mDigW (s := (v_room, v_puts, v_told, v_mask, v_open.set k 0, v_came, v_byts, v_stamps, v_psz, v_stp, v_pby, B.length + 1, v_isT, v_len.set B.length (nI bs.length), v_slot, v_sum.set B.length (sumL 0 bs), v_dig, v_pkd, v_hasC, v_copy, v_act, v_packs, work)) hwk hbs) (fun r N h => ?_)
            obtain ⟨rfl, rfl⟩ := h
            refine b_ContentStoreModel_end_214 (a214 := v_dig) (j214 := B.length) (cd1 := 3) (ckc1 := 0) (cks1 := 0) (ckc2 := kc) (cks2 := ks) (Q1 := fun r N => r = none ∧ ∃ psz stp pby n slot sl' st', N = mH pre post (v_room, v_puts, v_told, v_mask, v_open.set k 0, v_came, v_byts, n, psz, stp, pby, B.length + 1, v_isT, v_len.set B.length (nI bs.length), slot, v_sum.set B.length (sumL 0 bs), v_dig.set B.length (digL (nI bs.length).toInt64 bs), v_pkd, v_hasC, v_copy, v_act, v_packs, work) ∧ tkI (rowF bs [] nid es pb (nParts bs.length)) es [] sl sl' st' (c + 6) (nParts bs.length) B.length v_slot psz stp pby n slot) H_dig rfl (by omega) (by omega) (by omega) (by omega) (by omega) (by rw [W_dig]; exact H_obj) (by
              rw [W_dig]
              exact c_mTake (had := false) (s := (v_room, v_puts, v_told, v_mask, v_open.set k 0, v_came, v_byts, v_stamps, v_psz, v_stp, v_pby, B.length + 1, v_isT, v_len.set B.length (nI bs.length), v_slot, v_sum.set B.length (sumL 0 bs), v_dig.set B.length (digL (nI bs.length).toInt64 bs), v_pkd, v_hasC, v_copy, v_act, v_packs, work)) hS' hc hI.1.2.2.1 (fun x hx => (hI.1.2.2.2 x hx).2) (SI_es hI) hwk hbs hB6 (by show (v_len.set _ _).length = 60; rw [List.length_set]; exact e2) (List.getElem?_set_self (by omega)) e3 (Or.inl ⟨rfl, rfl⟩) hno (by omega)) (fun r N h => ?_)
            obtain ⟨rfl, psz, stp, pby, n, slot, sl', st', rfl, t1, t2, t3, t4, t5, t6⟩ := h
            refine b_ContentStoreModel_end_221 (a227 := v_isT) (j227 := B.length) H_obj H_isT rfl (by omega) (by omega) ⟨rfl, (v_room, v_puts, v_told, v_mask, v_open.set k 0, v_came, v_byts, n, psz, stp, pby, B.length + 1, v_isT.set B.length 1, v_len.set B.length (nI bs.length), slot, v_sum.set B.length (sumL 0 bs), v_dig.set B.length (digL (nI bs.length).toInt64 bs), v_pkd, v_hasC, v_copy, v_act, v_packs, work), ?_, sl', st', hP', t1, mrB_new hB' hB6 (SI_ids hI) t2 t3 t4 t6, hA, hk, hr, hwl⟩
            rw [W_isT]
          · rw [c0] at cw
            have := (nI_eq (a := B.length) (b := 60) (by omega) (by decide)).mp cw
            omega
        | succ n ih =>
          intro j hj hpre
          have hlt : j < B.length := by omega
          have hb : B[j]? = some B[j] := List.getElem?_eq_getElem hlt
          have hO := bOK_at hI hb
          have hO1 := hO.1
          obtain ⟨u1, u2, -⟩ := hB1 j _ hb
          have hn : (bThere B[j] && (decide (bb pb (bIds B[j]) = bs) && sndB pb B[j])) = false → _ := fun hcc => ih (j + 1) (by omega) (fun i b hi hib => by
            by_cases hij : i = j
            · subst hij
              rw [hb] at hib
              cases hib
              exact hcc
            · exact hpre i b (by omega) hib)
          refine b_ContentStoreModel_end_90 H_obj (fun c => absurd c (by rw [c0]; exact nI_ge (by omega) (by omega))) (fun _ => ?_)
          cases ht : bThere B[j] with
          | false =>
            rw [ht] at u1
            refine b_ContentStoreModel_end_98 (a103 := v_isT) H_obj H_isT rfl u1 (by omega) (fun _ => b_ContentStoreModel_end_135 ?_) (fun cx => absurd rfl cx)
            rw [nI_1]
            exact hn (by rw [ht]; rfl)
          | true =>
            obtain ⟨w1, w2, -⟩ := hO.2.2.2 ht
            rw [ht] at u1
            refine b_ContentStoreModel_end_98 (a103 := v_isT) H_obj H_isT rfl u1 (by omega) (fun cx => absurd cx (by decide)) (fun _ => ?_)
            refine b_ContentStoreModel_end_107 (a112 := v_len) H_obj H_len rfl u2 (by omega) (fun cx => b_ContentStoreModel_end_135 ?_) (fun cx => ?_)
            · rw [nI_1]
              refine hn ?_
              rw [decide_eq_false (fun z => cx (by rw [← z, bb_len w1]))]
              simp
            have hll : bLen B[j] = bs.length := (nI_eq (by omega) (by omega)).mp cx
            refine b_ContentStoreModel_end_117 (cd1 := 1) (ckc1 := 0) (cks1 := 0) (ckc2 := kc) (cks2 := ks) (by omega) (by omega) (by omega) H_obj (c_mSound (s := (v_room, v_puts, v_told, v_mask, v_open.set k 0, v_came, v_byts, v_stamps, v_psz, v_stp, v_pby, v_blobs, v_isT, v_len, v_slot, v_sum, v_dig, v_pkd, v_hasC, v_copy, v_act, v_packs, work)) hS' hB' hb ht w1 w2 hO1 (by omega) (by omega)) (fun r N h => ?_)
            obtain ⟨rfl, rfl⟩ := h
            refine b_ContentStoreModel_end_122 (fun cw => b_ContentStoreModel_end_135 ?_) (fun cw => ?_)
            · rw [nI_1]
              refine hn ?_
              rw [i2b_0.mp cw]
              simp
            refine b_ContentStoreModel_end_125 (cd1 := 1) (ckc1 := 0) (cks1 := 0) (ckc2 := kc) (cks2 := ks) (by omega) (by omega) (by omega) H_obj (c_mWork (s := (v_room, v_puts, v_told, v_mask, v_open.set k 0, v_came, v_byts, v_stamps, v_psz, v_stp, v_pby, v_blobs, v_isT, v_len, v_slot, v_sum, v_dig, v_pkd, v_hasC, v_copy, v_act, v_packs, work)) (a := bs) hS' hB' hb ht w1 w2 hO1 (by omega) hll.symm hwk (by omega)) (fun r N h => ?_)
            obtain ⟨rfl, rfl⟩ := h
            refine b_ContentStoreModel_end_130 (fun cv => b_ContentStoreModel_end_135 ?_) (fun cv => ?_)
            · rw [nI_1]
              refine hn ?_
              rw [i2b_0.mp cv]
              simp
            · have hsome : fnd pb B bs = some j := by
                rw [fnd, List.findIdx?_eq_some_iff_getElem]
                refine ⟨hlt, by rw [ht, i2b_t cv, i2b_t cw]; rfl, fun i hi => ?_⟩
                rw [hpre i _ hi (List.getElem?_eq_getElem (by omega))]
                decide
              have hF : sEndF room P es pb B bs k p nid = (nI j, P.set k (pShut p), es, pb, B) := by rw [sEndF, hsome]
              rw [hF]
              exact b_ContentStoreModel_end_133 ⟨rfl, _, rfl, sl, st, hP', hS6, hB', hA, hk, hr, hwl⟩
      exact loop B.length 0 (by omega) (fun i b hi => absurd hi (Nat.not_lt_zero i))
    have cp : ∀ (n j : Nat) (work : List Int32), j + n = bs.length → wk (bs.take j) work → Xw l D ρ m_ContentStoreModel_end 60 [(0, .ref pre.length), (1, .int (nI k)), (2, .int (nI bs.length)), (3, .int (nI j))] [] (mH pre post (v_room, v_puts, v_told, v_mask, v_open.set k 0, v_came, v_byts, v_stamps, v_psz, v_stp, v_pby, v_blobs, v_isT, v_len, v_slot, v_sum, v_dig, v_pkd, v_hasC, v_copy, v_act, v_packs, work)) d kc ks (fun r N => r = some (.int (sEndF room P es pb B bs k p nid).1) ∧ ∃ s', N = mH pre post s' ∧ MR (c + 6) room (sEndF room P es pb B bs k p nid).2.1 (sEndF room P es pb B bs k p nid).2.2.1 (sEndF room P es pb B bs k p nid).2.2.2.1 (sEndF room P es pb B bs k p nid).2.2.2.2 act nk s') := by
      intro n
      induction n with
      | zero =>
        intro j work hj hwk
        rw [List.take_of_length_le (by omega)] at hwk
        exact b_ContentStoreModel_end_60 (fun _ => rest work hwk) (fun c => absurd (nI_le (by omega) (by omega)) c)
      | succ n ih =>
        intro j work hj hwk
        have hlt : j < bs.length := by omega
        have hj? : bs[j]? = some bs[j] := List.getElem?_eq_getElem hlt
        have hwl := hwk.1
        refine b_ContentStoreModel_end_60 (fun c => absurd c (nI_ge hlt (by omega))) (fun _ => ?_)
        refine b_ContentStoreModel_end_65 (a80 := v_byts) (j80 := 96 * k + j) (a81 := work) (j81 := j) H_obj H_byts (e96 k j) (hq5 j _ hj?) (by omega) H_work rfl (by omega) (by omega) ?_
        rw [W_work, nI_1]
        exact ih (j + 1) _ (by omega) (wk_step hwk hj? hbs)
    exact cp bs.length 0 v_work (by omega) ⟨hw, fun i v hi => by simp at hi⟩
theorem q_repair {v : Int32} {nid : Nat → Nat} (hI : SI room P es pb B act nk) (hR : MR c room P es pb B act nk s) (hc : c ≤ 100000) (hnid : ∀ z cc, thB B v = some z → bCopy z.2 = some cc → nOK es pb cc (bIds z.2) nid) (hd : 4 ≤ d) :
    Xw l D ρ m_ContentStoreModel_repair 0 [(0, .ref pre.length), (1, .int v)] [] (mH pre post s) d kc ks (fun r N => r = some (.int (sRepair room es pb B v nid).1) ∧ ∃ s', N = mH pre post s' ∧ MR (c + 6) room P (sRepair room es pb B v nid).2.1 (sRepair room es pb B v nid).2.2.1 (sRepair room es pb B v nid).2.2.2 act nk s') := by
  have hR6 := MR_up hR (c' := c + 6) (by omega)
  obtain ⟨sl, st, hP, hS, hB, hA, hk, hr, hw⟩ := id hR
  refine b_ContentStoreModel_repair_0 (cd1 := 1) (ckc1 := 0) (cks1 := 0) (ckc2 := kc) (cks2 := ks) (Q1 := fun r N => r = some (.int (i2b (thB B v).isSome)) ∧ N = mH pre post s) h_obj (by omega) (by omega) (by omega) (by rw [w_obj]; exact c_mIsBlob hB hI.2.2.1.1 (by omega)) (fun r N h => ?_)
  obtain ⟨rfl, rfl⟩ := h
  rcases vT B v hI.2.2.1.1 with h | ⟨k, b, h, rfl, h2, h3, h4⟩
  · have hw2 : sRepair room es pb B v nid = (-1, es, pb, B) := by rw [sRepair, h]
    rw [hw2]
    refine b_ContentStoreModel_repair_10 (fun cz => ?_) (fun _ => b_ContentStoreModel_repair_13 ⟨rfl, s, rfl, hR6⟩)
    rw [h] at cz
    exact absurd rfl cz
  · have hO := bOK_at hI h2
    have hl96 := hO.1
    obtain ⟨w1, w2, w3⟩ := hO.2.2.2 h3
    have hkl := (List.getElem?_eq_some_iff.mp h2).1
    refine b_ContentStoreModel_repair_10 (fun _ => ?_) (fun cz => ?_)
    case refine_2 =>
      rw [h] at cz
      exact absurd cz (show ¬ (1 : Int32) = 0 by decide)
    refine b_ContentStoreModel_repair_15 (cd1 := 1) (ckc1 := 0) (cks1 := 0) (ckc2 := kc) (cks2 := ks) (by omega) (by omega) (by omega) h_obj (c_mSound hS hB h2 h3 w1 w2 hl96 h4 (by omega)) (fun r N hh => ?_)
    obtain ⟨rfl, rfl⟩ := hh
    refine b_ContentStoreModel_repair_20 (fun cz => ?_) (fun cz => ?_)
    case refine_2 =>
      have hw2 : sRepair room es pb B (nI k) nid = (0, es, pb, B) := by
        rw [sRepair, h]
        exact if_pos (i2b_t cz)
      rw [hw2]
      exact b_ContentStoreModel_repair_23 ⟨rfl, s, rfl, hR6⟩
    have hns := i2b_0.mp cz
    clear hR6 hR cz
    obtain ⟨v_room, v_puts, v_told, v_mask, v_open, v_came, v_byts, v_stamps, v_psz, v_stp, v_pby, v_blobs, v_isT, v_len, v_slot, v_sum, v_dig, v_pkd, v_hasC, v_copy, v_act, v_packs, v_work⟩ := s
    change mrP P v_puts v_told v_mask v_open v_came v_byts at hP
    change mrS es pb sl st c v_stamps v_psz v_stp v_pby at hS
    change mrB B sl v_blobs v_isT v_len v_slot v_sum v_dig v_pkd v_hasC v_copy at hB
    change v_act = act at hA
    change v_packs = nk at hk
    change v_room = room at hr
    change v_work.length = 96 at hw
    have hS' : mrS es pb sl st c v_stamps v_psz v_stp v_pby := hS
    have hS6 : mrS es pb sl st (c + 6) v_stamps v_psz v_stp v_pby := ⟨by have := hS'.1; omega, hS'.2⟩
    have hB' : mrB B sl v_blobs v_isT v_len v_slot v_sum v_dig v_pkd v_hasC v_copy := hB
    obtain ⟨c0, ⟨e1, e2, e3, e4, e5, e6, e7, e8⟩, hB1, -⟩ := id hB'
    obtain ⟨u1, u2, u3, u4, u5, u6, u7, u8⟩ := hB1 k b h2
    refine b_ContentStoreModel_repair_25 (a30 := v_len) H_obj H_len rfl u2 (by omega) ?_
    have hex : ∀ (w : Int32) (work : List Int32), work.length = 96 → sRepair room es pb B (nI k) nid = (w, es, pb, B) → some (Value.int w) = some (.int (sRepair room es pb B (nI k) nid).1) ∧ ∃ s', mH pre post (v_room, v_puts, v_told, v_mask, v_open, v_came, v_byts, v_stamps, v_psz, v_stp, v_pby, v_blobs, v_isT, v_len, v_slot, v_sum, v_dig, v_pkd, v_hasC, v_copy, v_act, v_packs, work) = mH pre post s' ∧ MR (c + 6) room P (sRepair room es pb B (nI k) nid).2.1 (sRepair room es pb B (nI k) nid).2.2.1 (sRepair room es pb B (nI k) nid).2.2.2 act nk s' := fun w work hwl hz => by
      rw [hz]
      exact ⟨rfl, _, rfl, sl, st, hP, hS6, hB', hA, hk, hr, hwl⟩
    have rest : ∀ work : List Int32, work.length = 96 → (∀ i, i < bLen b → work[i]? = v_copy[96 * k + i]?) → Xw l D ρ m_ContentStoreModel_repair 62 [(0, .ref pre.length), (1, .int (nI k)), (2, .int (nI (bLen b)))] [] (mH pre post (v_room, v_puts, v_told, v_mask, v_open, v_came, v_byts, v_stamps, v_psz, v_stp, v_pby, v_blobs, v_isT, v_len, v_slot, v_sum, v_dig, v_pkd, v_hasC, v_copy, v_act, v_packs, work)) d kc ks (fun r N => r = some (.int (sRepair room es pb B (nI k) nid).1) ∧ ∃ s', N = mH pre post s' ∧ MR (c + 6) room P (sRepair room es pb B (nI k) nid).2.1 (sRepair room es pb B (nI k) nid).2.2.1 (sRepair room es pb B (nI k) nid).2.2.2 act nk s') := by
      intro work hwl hcp
      cases hcc : bCopy b with
      | none =>
        rw [hcc] at u6
        refine b_ContentStoreModel_repair_62 (a67 := v_hasC) H_obj H_hasC rfl u6 (by omega) (fun _ => b_ContentStoreModel_repair_85 (hex (-2) work hwl ?_)) (fun cx => absurd rfl cx)
        rw [sRepair, h]
        simp only [hns, hcc]
        rfl
      | some cc =>
        rw [hcc] at u6
        have hcl := hO.2.1 cc hcc
        have hwk : wk cc work := ⟨hwl, fun i w hi => by
          have := (List.getElem?_eq_some_iff.mp hi).1
          rw [hcp i (by omega)]
          exact u7 cc hcc i w hi⟩
        have hno : nOK es pb cc (bIds b) nid := hnid _ _ h hcc
        refine b_ContentStoreModel_repair_62 (a67 := v_hasC) H_obj H_hasC rfl u6 (by omega) (fun cx => absurd cx (show ¬ (1 : Int32) = 0 by decide)) (fun _ => ?_)
        rw [← hcl]
        refine b_ContentStoreModel_repair_71 (cd1 := 1) (ckc1 := 0) (cks1 := 0) (ckc2 := kc) (cks2 := ks) (by omega) (by omega) (by omega) H_obj (c_mSumW (s := (v_room, v_puts, v_told, v_mask, v_open, v_came, v_byts, v_stamps, v_psz, v_stp, v_pby, v_blobs, v_isT, v_len, v_slot, v_sum, v_dig, v_pkd, v_hasC, v_copy, v_act, v_packs, work)) hwk (by omega) (by omega)) (fun r N hh => ?_)
        obtain ⟨rfl, rfl⟩ := hh
        refine b_ContentStoreModel_repair_76 (a81 := v_sum) H_obj H_sum rfl u3 (by omega) (fun cx => ?_) (fun cx => b_ContentStoreModel_repair_85 (hex (-2) work hwl ?_))
        · have ht40 : tot pb es ≤ 2000 := by have := hI.1.1; have := hI.1.2.1; omega
          have hneed := needF_le es pb cc (nParts cc.length)
          have hnp : nParts cc.length ≤ 6 := by unfold nParts; omega
          have hroom := hI.1.1
          have hr' : v_room = room := hr
          refine b_ContentStoreModel_repair_88 (cd1 := 0) (ckc1 := 0) (cks1 := 0) (ckc2 := kc) (cks2 := ks) (by omega) (by omega) (by omega) H_obj (c_mUsed (s := (v_room, v_puts, v_told, v_mask, v_open, v_came, v_byts, v_stamps, v_psz, v_stp, v_pby, v_blobs, v_isT, v_len, v_slot, v_sum, v_dig, v_pkd, v_hasC, v_copy, v_act, v_packs, work)) hS' hI.1.2.2.1 (by omega)) (fun r N hh => ?_)
          obtain ⟨rfl, rfl⟩ := hh
          have hstd : ∀ (j x : Nat), (bIds b)[j]? = some x → x ∈ es ∧ v_slot[6 * k + j]? = some (nI (sl x)) := fun j x hx => ⟨w2 x (List.mem_of_getElem? hx), u8 h3 j x hx⟩
          refine b_ContentStoreModel_repair_92 (cd1 := 3) (ckc1 := 0) (cks1 := 0) (ckc2 := kc) (cks2 := ks) (by omega) (by omega) (by omega) H_obj (c_mMissing (s := (v_room, v_puts, v_told, v_mask, v_open, v_came, v_byts, v_stamps, v_psz, v_stp, v_pby, v_blobs, v_isT, v_len, v_slot, v_sum, v_dig, v_pkd, v_hasC, v_copy, v_act, v_packs, work)) (std := bIds b) hS' (by omega) (fun x hx => (hI.1.2.2.2 x hx).2.2) hwk (by omega) (fun k' hk' => Or.inr ⟨k, h4, rfl, by rw [w1.1, ← hcl]; exact hk', e3, fun x hx => hstd k' x hx⟩) (by omega)) (fun r N hh => ?_)
          obtain ⟨rfl, rfl⟩ := hh
          refine b_ContentStoreModel_repair_98 H_obj (fun cy => ?_) (fun cy => b_ContentStoreModel_repair_106 (hex (-3) work hwl ?_))
          · rw [nI_add, hr'] at cy
            have hfit := (nI_leI (by omega) (by omega)).mp cy
            have hRo := row_ok (a := cc) (std := bIds b) (nid := nid) (pb := pb) hI.1.2.2.1 w2 (nParts cc.length) hno
            obtain ⟨f1, f2, f3, f4⟩ := row_facts (nk := nk) (fun x hx => (hI.1.2.2.2 x hx).2) hRo
            have hw2 : sRepair room es pb B (nI k) nid = (1, keptE (rowF cc (bIds b) nid es pb (nParts cc.length)).1 (cnt (B.set k (bRow b (rowF cc (bIds b) nid es pb (nParts cc.length)).2.2))), (rowF cc (bIds b) nid es pb (nParts cc.length)).2.1, B.set k (bRow b (rowF cc (bIds b) nid es pb (nParts cc.length)).2.2)) := by
              rw [sRepair, h]
              simp only [hns, hcc]
              rw [if_neg (by decide), if_pos cx, if_pos hfit]
            rw [hw2]
            clear hw2 hex
            refine b_ContentStoreModel_repair_109 (cd1 := 3) (ckc1 := 0) (cks1 := 0) (ckc2 := kc) (cks2 := ks) (Q1 := fun r N => r = none ∧ ∃ psz stp pby n slot sl' st', N = mH pre post (v_room, v_puts, v_told, v_mask, v_open, v_came, v_byts, n, psz, stp, pby, v_blobs, v_isT, v_len, slot, v_sum, v_dig, v_pkd, v_hasC, v_copy, v_act, v_packs, work) ∧ tkI (rowF cc (bIds b) nid es pb (nParts cc.length)) es (bIds b) sl sl' st' (c + 6) (nParts cc.length) k v_slot psz stp pby n slot) (by omega) (by omega) (by omega) H_obj (c_mTake (had := true) (s := (v_room, v_puts, v_told, v_mask, v_open, v_came, v_byts, v_stamps, v_psz, v_stp, v_pby, v_blobs, v_isT, v_len, v_slot, v_sum, v_dig, v_pkd, v_hasC, v_copy, v_act, v_packs, work)) hS' hc hI.1.2.2.1 (fun x hx => (hI.1.2.2.2 x hx).2) (SI_es hI) hwk (by omega) h4 e2 (by rw [hcl]; exact u2) e3 (Or.inr ⟨rfl, by rw [w1.1, hcl], hstd⟩) hno (by omega)) (fun r N hh => ?_)
            obtain ⟨rfl, psz, stp, pby, n, slot, sl', st', rfl, t1, t2, t3, t4, t5, t6⟩ := hh
            have hB2 : mrB (B.set k (bRow b (rowF cc (bIds b) nid es pb (nParts cc.length)).2.2)) sl' v_blobs v_isT v_len slot v_sum v_dig v_pkd v_hasC v_copy := mrB_row hB' h2 (SI_ids hI) t2 t3 t4 t6
            have hok : ∀ b' ∈ B.set k (bRow b (rowF cc (bIds b) nid es pb (nParts cc.length)).2.2), bOK (rowF cc (bIds b) nid es pb (nParts cc.length)).1 (rowF cc (bIds b) nid es pb (nParts cc.length)).2.1 nk b' := bOK_set (fun b' hb' => f1 b' (hI.2.2.1.2 b' hb')) ⟨hl96, hO.2.1, by
              show (rowF cc (bIds b) nid es pb (nParts cc.length)).2.2.length ≤ 6
              rw [hRo.2.2.2.2.2]
              exact hnp, fun _ => ⟨by
                show wfI (rowF cc (bIds b) nid es pb (nParts cc.length)).2.1 (rowF cc (bIds b) nid es pb (nParts cc.length)).2.2 (bLen b)
                rw [← hcl]
                exact f2, f3, w3⟩⟩
            refine b_ContentStoreModel_repair_115 (cd1 := 2) (ckc1 := 0) (cks1 := 0) (ckc2 := kc) (cks2 := ks) (by omega) (by omega) (by omega) H_obj (c_mTidy (s := (v_room, v_puts, v_told, v_mask, v_open, v_came, v_byts, n, psz, stp, pby, v_blobs, v_isT, v_len, slot, v_sum, v_dig, v_pkd, v_hasC, v_copy, v_act, v_packs, work)) t1 f4 hB2 (bSm_of (by rw [List.length_set]; exact hI.2.2.1.1) hok) (by omega)) (fun r N hh => ?_)
            obtain ⟨rfl, psz', rfl, hS2⟩ := hh
            exact b_ContentStoreModel_repair_119 ⟨rfl, (v_room, v_puts, v_told, v_mask, v_open, v_came, v_byts, n, psz', stp, pby, v_blobs, v_isT, v_len, slot, v_sum, v_dig, v_pkd, v_hasC, v_copy, v_act, v_packs, work), rfl, sl', st', hP, hS2, hB2, hA, hk, hr, hwl⟩
          · rw [sRepair, h]
            simp only [hns, hcc]
            rw [if_neg (by decide), if_pos cx, if_neg (fun z => cy (by rw [nI_add, hr']; exact nI_le z (by omega)))]
        · rw [sRepair, h]
          simp only [hns, hcc]
          rw [if_neg (by decide), if_neg cx]
    have cp : ∀ (n j : Nat) (work : List Int32), j + n = bLen b → work.length = 96 → (∀ i, i < j → work[i]? = v_copy[96 * k + i]?) → Xw l D ρ m_ContentStoreModel_repair 34 [(0, .ref pre.length), (1, .int (nI k)), (2, .int (nI (bLen b))), (3, .int (nI j))] [] (mH pre post (v_room, v_puts, v_told, v_mask, v_open, v_came, v_byts, v_stamps, v_psz, v_stp, v_pby, v_blobs, v_isT, v_len, v_slot, v_sum, v_dig, v_pkd, v_hasC, v_copy, v_act, v_packs, work)) d kc ks (fun r N => r = some (.int (sRepair room es pb B (nI k) nid).1) ∧ ∃ s', N = mH pre post s' ∧ MR (c + 6) room P (sRepair room es pb B (nI k) nid).2.1 (sRepair room es pb B (nI k) nid).2.2.1 (sRepair room es pb B (nI k) nid).2.2.2 act nk s') := by
      intro n
      induction n with
      | zero =>
        intro j work hj hwl hcp
        exact b_ContentStoreModel_repair_34 (fun _ => rest work hwl (fun i hi => hcp i (by omega))) (fun c => absurd (nI_le (by omega) (by omega)) c)
      | succ n ih =>
        intro j work hj hwl hcp
        have hlt : 96 * k + j < v_copy.length := by omega
        refine b_ContentStoreModel_repair_34 (fun c => absurd c (nI_ge (show j < bLen b by omega) (by omega))) (fun _ => ?_)
        refine b_ContentStoreModel_repair_39 (a54 := v_copy) (j54 := 96 * k + j) (a55 := work) (j55 := j) H_obj H_copy (e96 k j) (List.getElem?_eq_getElem hlt) (by omega) H_work rfl (by omega) (by omega) ?_
        rw [W_work, nI_1]
        refine ih (j + 1) _ (by omega) (by rw [List.length_set]; exact hwl) (fun i hi => ?_)
        by_cases hij : i = j
        · subst hij
          rw [List.getElem?_set_self (by omega), List.getElem?_eq_getElem hlt]
        · rw [List.getElem?_set_ne (fun z => hij z.symm)]
          exact hcp i (by omega)
    exact cp (bLen b) 0 v_work (by omega) hw (fun i hi => absurd hi (Nat.not_lt_zero i))
end MEND
