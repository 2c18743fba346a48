section MTIDY
variable {l : Launch} {D : va_G} {ρ : xR} {M : List xCl} {d kc ks : Nat} {pre post : List xCl} {s : mS} {es : List Nat} {pb : Nat → List Int32} {sl st : Nat → Nat} {c : Nat} {B : List sB} {a : List Int32} {act : List Int32}
/-- what having and tidy want of the blobs -/
def bSm (es : List Nat) (B : List sB) : Prop := B.length ≤ 60 ∧ ∀ b ∈ B, bLen b ≤ 96 ∧ (bThere b = true → (bIds b).length = nParts (bLen b) ∧ ∀ x ∈ bIds b, x ∈ es)
theorem c_mHaving {x : Nat} (hB : mrBs B sl s) (hO : bSm es B) (hx : x ∈ es) (hinj : ∀ x ∈ es, ∀ y ∈ es, sl x = sl y → x = y) (h4 : ∀ y ∈ es, sl y < 400) (hd : 1 ≤ d) :
    Xw l D ρ m_ContentStoreModel_having 0 [(0, .ref pre.length), (1, .int (nI (sl x)))] [] (mH pre post s) d kc ks (fun r N => r = some (.int (nI (B.countP fun b => bThere b && decide (x ∈ bIds b)))) ∧ N = mH pre post s) := by
  obtain ⟨b0, ⟨l1, l2, l3, l4⟩, hB1, -⟩ := id hB
  have h60 := hO.1
  refine b_ContentStoreModel_having_0 ?_
  have loop : ∀ (n k : Nat), k + n = B.length → Xw l D ρ m_ContentStoreModel_having 4 [(0, .ref pre.length), (1, .int (nI (sl x))), (2, .int (nI ((B.take k).countP fun b => bThere b && decide (x ∈ bIds b)))), (3, .int (nI k))] [] (mH pre post s) d kc ks (fun r N => r = some (.int (nI (B.countP fun b => bThere b && decide (x ∈ bIds b)))) ∧ N = mH pre post s) := by
    intro n
    induction n with
    | zero =>
      intro k hk
      refine b_ContentStoreModel_having_4 h_obj (fun _ => b_ContentStoreModel_having_94 ⟨?_, rfl⟩) (fun c => absurd (nI_le (by omega) (by omega)) c)
      rw [List.take_of_length_le (by omega)]
    | succ n ih =>
      intro k hk
      have hlt : k < B.length := by omega
      have hb : B[k]? = some B[k] := List.getElem?_eq_getElem hlt
      have hc := countP_take1 (f := fun b => bThere b && decide (x ∈ bIds b)) hb
      obtain ⟨q1, q2, -, -, -, -, -, q8⟩ := hB1 k _ hb
      obtain ⟨o1, o2⟩ := hO.2 _ (List.getElem_mem hlt)
      have hnp : nParts (bLen B[k]) ≤ 6 := by unfold nParts; omega
      refine b_ContentStoreModel_having_4 h_obj (fun c => absurd c (nI_ge (by omega) (by omega))) (fun _ => b_ContentStoreModel_having_12 ?_)
      -- the end of a blob
      have fin : ∀ (f : Bool), f = (bThere B[k] && decide (x ∈ bIds B[k])) → Xw l D ρ m_ContentStoreModel_having 75 [(0, .ref pre.length), (1, .int (nI (sl x))), (2, .int (nI ((B.take k).countP fun b => bThere b && decide (x ∈ bIds b)))), (3, .int (nI k)), (4, .int (i2b f))] [] (mH pre post s) d kc ks (fun r N => r = some (.int (nI (B.countP fun b => bThere b && decide (x ∈ bIds b)))) ∧ N = mH pre post s) := by
        intro f hf
        have hn := ih (k + 1) (by omega)
        rw [hc, ← hf] at hn
        cases f with
        | true =>
          refine b_ContentStoreModel_having_75 (fun c => absurd c (by decide)) (fun _ => b_ContentStoreModel_having_81 (b_ContentStoreModel_having_86 ?_))
          rw [nI_1, nI_1]
          exact hn
        | false =>
          refine b_ContentStoreModel_having_75 (fun _ => b_ContentStoreModel_having_85 (b_ContentStoreModel_having_86 ?_)) (fun c => absurd rfl c)
          rw [nI_1, show (0 : Int32) = nI 0 from rfl, nI_add]
          exact hn
      cases ht : bThere B[k] with
      | false =>
        rw [ht] at q1
        refine b_ContentStoreModel_having_18 (cd1 := 0) (ckc1 := 0) (cks1 := 0) (ckc2 := kc) (cks2 := ks) h_obj h_len rfl q2 (by omega) (by omega) (by omega) (by omega) (c_mparts (by omega)) (fun r N h => ?_)
        obtain ⟨rfl, rfl⟩ := h
        have hfin := fin false (by rw [ht]; rfl)
        exact b_ContentStoreModel_having_29 (fun _ => hfin) (fun _ => b_ContentStoreModel_having_32 h_obj h_isT rfl q1 (by omega) (fun _ => hfin) (fun c => absurd rfl c))
      | true =>
        obtain ⟨o3, o4⟩ := o2 ht
        rw [ht] at q1
        have inner : ∀ (n' j : Nat), j + n' = nParts (bLen B[k]) → Xw l D ρ m_ContentStoreModel_having 18 [(0, .ref pre.length), (1, .int (nI (sl x))), (2, .int (nI ((B.take k).countP fun b => bThere b && decide (x ∈ bIds b)))), (3, .int (nI k)), (4, .int (i2b (decide (x ∈ (bIds B[k]).take j)))), (5, .int (nI j))] [] (mH pre post s) d kc ks (fun r N => r = some (.int (nI (B.countP fun b => bThere b && decide (x ∈ bIds b)))) ∧ N = mH pre post s) := by
          intro n'
          induction n' with
          | zero =>
            intro j hj
            refine b_ContentStoreModel_having_18 (cd1 := 0) (ckc1 := 0) (cks1 := 0) (ckc2 := kc) (cks2 := ks) h_obj h_len rfl q2 (by omega) (by omega) (by omega) (by omega) (c_mparts (by omega)) (fun r N h => ?_)
            obtain ⟨rfl, rfl⟩ := h
            refine b_ContentStoreModel_having_29 (fun _ => fin _ ?_) (fun c => absurd (nI_le (by omega) (by omega)) c)
            rw [List.take_of_length_le (by omega), ht]
            rfl
          | succ n' ih2 =>
            intro j hj
            have hjl : j < (bIds B[k]).length := by omega
            have hj? : (bIds B[k])[j]? = some (bIds B[k])[j] := List.getElem?_eq_getElem hjl
            have hsl := q8 ht j _ hj?
            have hmem := o4 _ (List.getElem_mem hjl)
            have htake : ∀ P : Prop, (x ∈ (bIds B[k]).take (j + 1) ↔ P) ↔ ((x ∈ (bIds B[k]).take j ∨ x = (bIds B[k])[j]) ↔ P) := fun P => by
              rw [List.take_succ_eq_append_getElem hjl, List.mem_append, List.mem_singleton]
            refine b_ContentStoreModel_having_18 (cd1 := 0) (ckc1 := 0) (cks1 := 0) (ckc2 := kc) (cks2 := ks) h_obj h_len rfl q2 (by omega) (by omega) (by omega) (by omega) (c_mparts (by omega)) (fun r N h => ?_)
            obtain ⟨rfl, rfl⟩ := h
            refine b_ContentStoreModel_having_29 (fun c => absurd c (nI_ge (by omega) (by omega))) (fun _ => ?_)
            refine b_ContentStoreModel_having_32 h_obj h_isT rfl q1 (by omega) (fun c => absurd c (by decide)) (fun _ => ?_)
            have hn2 := ih2 (j + 1) (by omega)
            refine b_ContentStoreModel_having_41 (fun c => ?_) (fun c => ?_)
            · have h1 := of_decide_eq_true (i2b_t c)
              refine b_ContentStoreModel_having_62 (b_ContentStoreModel_having_67 ?_)
              rw [nI_1]
              rw [decide_eq_true (show x ∈ (bIds B[k]).take (j + 1) by rw [List.take_succ_eq_append_getElem hjl]; exact List.mem_append_left _ h1)] at hn2
              exact hn2
            · have h1 := of_decide_eq_false (i2b_0.mp c)
              refine b_ContentStoreModel_having_46 h_obj h_slot (e6 k j) hsl (by omega) (fun c2 => ?_) (fun c2 => ?_)
              · refine b_ContentStoreModel_having_66 (b_ContentStoreModel_having_67 ?_)
                rw [nI_1]
                rw [decide_eq_false (show ¬ x ∈ (bIds B[k]).take (j + 1) by
                  rw [List.take_succ_eq_append_getElem hjl, List.mem_append, List.mem_singleton]
                  rintro (z | z)
                  · exact h1 z
                  · exact c2 (by rw [z]))] at hn2
                exact hn2
              · refine b_ContentStoreModel_having_62 (b_ContentStoreModel_having_67 ?_)
                rw [nI_1]
                have hs1 := h4 x hx
                have hs2 := h4 _ hmem
                have heq : (bIds B[k])[j] = x := hinj _ hmem x hx ((nI_eq (by omega) (by omega)).mp c2)
                rw [decide_eq_true (show x ∈ (bIds B[k]).take (j + 1) by
                  rw [List.take_succ_eq_append_getElem hjl, heq]
                  exact List.mem_append_right _ (List.mem_singleton.mpr rfl))] at hn2
                exact hn2
        have h0 := inner (nParts (bLen B[k])) 0 (by omega)
        rw [decide_eq_false (by simp)] at h0
        exact h0
  exact loop B.length 0 (by omega)
theorem cnt_count {B : List sB} {x : Nat} : (B.countP fun b => bThere b && decide (x ∈ bIds b)) = 0 ↔ cnt B x = 0 := by
  rw [List.countP_eq_zero]
  constructor
  · intro h
    refine cnt_zero (fun b hb ht hx => ?_)
    have := h b hb
    rw [ht, decide_eq_true hx] at this
    exact this rfl
  · intro h b hb hf
    have h1 : bThere b = true := by
      cases hq : bThere b with
      | true => rfl
      | false => rw [hq] at hf; cases hf
    rw [h1, Bool.true_and] at hf
    have h2 := of_decide_eq_true hf
    have h3 := cnt_mem (x := x) hb h1
    have h4 : 1 ≤ (bIds b).count x := List.count_pos_iff.mpr h2
    omega
theorem mrS_drop {x : Nat} {n : Nat} {psz stp pby : List Int32} (h : mrS es pb sl st c n psz stp pby) (hx : x ∈ es) : mrS (es.filter (fun y => decide (y ≠ x))) pb sl st c n (psz.set (sl x) 0) stp pby := by
  obtain ⟨m0, ⟨m1, m2, m3⟩, m4, m5, m6, m7⟩ := h
  have hm : ∀ y, y ∈ es.filter (fun y => decide (y ≠ x)) → y ∈ es ∧ y ≠ x := fun y hy => by
    obtain ⟨h1, h2⟩ := List.mem_filter.mp hy
    exact ⟨h1, of_decide_eq_true h2⟩
  refine ⟨m0, ⟨by rw [List.length_set]; exact m1, m2, m3⟩, fun y hy => ?_, List.Pairwise.sublist List.filter_sublist m5, fun y hy z hz => m6 y (hm y hy).1 z (hm z hz).1, fun j hj hall => ?_⟩
  · obtain ⟨h1, h2⟩ := hm y hy
    obtain ⟨t1, t2, t3⟩ := m4 y h1
    exact ⟨t1, by rw [List.getElem?_set_ne (fun z => h2 (m6 y h1 x hx z.symm))]; exact t2, t3⟩
  · by_cases hjx : sl x = j
    · subst hjx
      exact List.getElem?_set_self (by omega)
    · rw [List.getElem?_set_ne hjx]
      refine m7 j hj (fun y hy => ?_)
      by_cases hyx : y = x
      · rw [hyx]; exact hjx
      · exact hall y (List.mem_filter.mpr ⟨hy, decide_eq_true hyx⟩)
def tdB (sl : Nat → Nat) (B : List sB) (i y : Nat) : Bool := !(decide (sl y < i) && decide (cnt B y = 0))
theorem tdB_f {i y : Nat} (h1 : sl y < i) (h2 : cnt B y = 0) : tdB sl B i y = false := by rw [tdB, decide_eq_true h1, decide_eq_true h2]; rfl
theorem tdB_c {i y : Nat} (h2 : cnt B y ≠ 0) : tdB sl B i y = true := by rw [tdB, decide_eq_false h2, Bool.and_false]; rfl
theorem tdB_l {i y : Nat} (h1 : ¬ sl y < i) : tdB sl B i y = true := by rw [tdB, decide_eq_false h1]; rfl
theorem c_mTidy (hS : mrSs es pb sl st c s) (h1 : ∀ x ∈ es, 1 ≤ (pb x).length ∧ (pb x).length ≤ 16) (hB : mrBs B sl s) (hO : bSm es B) (hd : 2 ≤ d) :
    Xw l D ρ m_ContentStoreModel_tidy 0 [(0, .ref pre.length)] [] (mH pre post s) d kc ks (fun r N => r = none ∧ ∃ psz, N = mH pre post (p_psz s psz) ∧ mrS (keptE es (cnt B)) pb sl st c (g_stamps s) psz (g_stp s) (g_pby s)) := by
  obtain ⟨m0, ⟨m1, m2, m3⟩, m4, m5, m6, m7⟩ := id hS
  refine b_ContentStoreModel_tidy_0 trivial ?_
  have loop : ∀ (n i : Nat) (psz : List Int32), i + n = 400 → mrS (es.filter (fun y => tdB sl B i y)) pb sl st c (g_stamps s) psz (g_stp s) (g_pby s) → Xw l D ρ m_ContentStoreModel_tidy 2 [(0, .ref pre.length), (1, .int (nI i))] [] (mH pre post (p_psz s psz)) d kc ks (fun r N => r = none ∧ ∃ psz, N = mH pre post (p_psz s psz) ∧ mrS (keptE es (cnt B)) pb sl st c (g_stamps s) psz (g_stp s) (g_pby s)) := by
    intro n
    induction n with
    | zero =>
      intro i psz hi hI
      obtain rfl : i = 400 := by omega
      refine b_ContentStoreModel_tidy_2 (fun _ => b_ContentStoreModel_tidy_39 ⟨rfl, psz, rfl, ?_⟩) (fun c => absurd (by decide) c)
      have he : keptE es (cnt B) = es.filter (fun y => tdB sl B 400 y) := by
        unfold keptE
        refine List.filter_congr (fun y hy => ?_)
        have := (m4 y hy).1
        by_cases hz : cnt B y = 0
        · rw [decide_eq_false (fun z => z hz), tdB_f this hz]
        · rw [decide_eq_true hz, tdB_c hz]
      rw [he]
      exact hI
    | succ n ih =>
      intro i psz hi hI
      have hi4 : i < 400 := by omega
      obtain ⟨z1, z2⟩ := slC_ok hI hi4
      have hpl := hI.2.1.1
      have hmem : ∀ y, y ∈ es.filter (fun y => tdB sl B i y) → y ∈ es := fun y hy => (List.mem_filter.mp hy).1
      refine b_ContentStoreModel_tidy_2 (fun c => absurd c (nI_ge (b := 400) hi4 (by decide))) (fun _ => ?_)
      have next : ∀ psz', mrS (es.filter (fun y => tdB sl B (i + 1) y)) pb sl st c (g_stamps s) psz' (g_stp s) (g_pby s) → Xw l D ρ m_ContentStoreModel_tidy 33 [(0, .ref pre.length), (1, .int (nI i))] [] (mH pre post (p_psz s psz')) d kc ks (fun r N => r = none ∧ ∃ psz, N = mH pre post (p_psz s psz) ∧ mrS (keptE es (cnt B)) pb sl st c (g_stamps s) psz (g_stp s) (g_pby s)) := by
        intro psz' hI'
        refine b_ContentStoreModel_tidy_33 trivial ?_
        rw [nI_1]
        exact ih (i + 1) psz' (by omega) hI'
      have same : (∀ y ∈ es, sl y = i → cnt B y ≠ 0) → es.filter (fun y => tdB sl B (i + 1) y) = es.filter (fun y => tdB sl B i y) := fun h => List.filter_congr (fun y hy => by
        by_cases hz : cnt B y = 0
        · have hne : sl y ≠ i := fun w => h y hy w hz
          by_cases hlt : sl y < i
          · rw [tdB_f (show sl y < i + 1 by omega) hz, tdB_f hlt hz]
          · rw [tdB_l (show ¬ sl y < i + 1 by omega), tdB_l hlt]
        · rw [tdB_c hz, tdB_c hz])
      rcases slC_cases (es.filter (fun y => tdB sl B i y)) pb sl i with ⟨x, g1, g2, g3⟩ | ⟨g1, g2⟩
      · rw [g3] at z1
        have hxe := hmem x g1
        have hx16 := h1 x hxe
        refine b_ContentStoreModel_tidy_9 (a14 := psz) h_obj h_psz rfl z1 (by omega) (fun c => absurd c (nI_nle (by omega) (by omega))) (fun _ => ?_)
        refine b_ContentStoreModel_tidy_18 (cd1 := 1) (ckc1 := 0) (cks1 := 0) (ckc2 := kc) (cks2 := ks) (Q1 := fun r N => r = some (.int (nI (B.countP fun b => bThere b && decide (x ∈ bIds b)))) ∧ N = mH pre post (p_psz s psz)) (by omega) (by omega) (by omega) h_obj (by rw [← g2]; exact c_mHaving (s := p_psz s psz) hB hO hxe m6 (fun y hy => (m4 y hy).1) (by omega)) (fun r N h => ?_)
        obtain ⟨rfl, rfl⟩ := h
        have hcl : (B.countP fun b => bThere b && decide (x ∈ bIds b)) ≤ B.length := List.countP_le_length
        have h60 := hO.1
        refine b_ContentStoreModel_tidy_23 (fun c => ?_) (fun c => ?_)
        · have hne : cnt B x ≠ 0 := fun z => c (by rw [cnt_count.mpr z]; rfl)
          refine next psz ?_
          rw [same (fun y hy hyi => by rw [m6 y hy x hxe (by omega)]; exact hne)]
          exact hI
        · have hz : cnt B x = 0 := cnt_count.mp ((nI_eq (by omega) (by decide)).mp (c.trans (show (0 : Int32) = nI 0 from rfl)))
          refine b_ContentStoreModel_tidy_26 (a32 := psz) h_obj h_psz rfl (by omega) (by omega) ?_
          rw [w_psz]
          refine next (psz.set i 0) ?_
          have := mrS_drop hI g1
          rw [g2] at this
          have he : es.filter (fun y => tdB sl B (i + 1) y) = (es.filter (fun y => tdB sl B i y)).filter (fun y => decide (y ≠ x)) := by
            rw [List.filter_filter]
            refine List.filter_congr (fun y hy => ?_)
            by_cases hyx : y = x
            · rw [hyx, tdB_f (show sl x < i + 1 by omega) hz, decide_eq_false (fun z => z rfl)]
              rfl
            · rw [decide_eq_true hyx, Bool.true_and]
              have hne : sl y ≠ i := fun w => hyx (m6 y hy x hxe (by omega))
              by_cases hzy : cnt B y = 0
              · by_cases hlt : sl y < i
                · rw [tdB_f (show sl y < i + 1 by omega) hzy, tdB_f hlt hzy]
                · rw [tdB_l (show ¬ sl y < i + 1 by omega), tdB_l hlt]
              · rw [tdB_c hzy, tdB_c hzy]
          rw [he]
          exact this
      · rw [g2] at z1
        refine b_ContentStoreModel_tidy_9 (a14 := psz) h_obj h_psz rfl z1 (by omega) (fun _ => next psz ?_) (fun c => absurd (by decide) c)
        rw [same (fun y hy hyi hz => g1 y (List.mem_filter.mpr ⟨hy, tdB_l (by omega)⟩) hyi)]
        exact hI
  refine loop 400 0 (g_psz s) rfl ?_
  have he : es.filter (fun y => tdB sl B 0 y) = es := List.filter_eq_self.mpr (fun y _ => tdB_l (Nat.not_lt_zero _))
  rw [he]
  exact hS
theorem c_mGoes {k : Nat} (hB : mrBs B sl s) (hk : k < 60) (hact : (g_act s).length = 20) :
    Xw l D ρ m_ContentStoreModel_goes 0 [(0, .ref pre.length), (1, .int (nI k))] [] (mH pre post s) d kc ks (fun r N => r = none ∧ N = mH pre post (p_act (p_pkd (p_isT s ((g_isT s).set k 0)) ((g_pkd s).set k (-1))) (fgt (g_act s) (nI k)))) := by
  obtain ⟨b0, ⟨l1, l2, l3, l4, l5, l6, l7⟩, hB1, -⟩ := id hB
  clear hB hB1 b0
  obtain ⟨v_room, v_puts, v_told, v_mask, v_open, v_came, v_byts, v_stamps, v_psz, v_stp, v_pby, v_blobs, v_isT, v_len, v_slot, v_sum, v_dig, v_pkd, v_hasC, v_copy, v_act, v_packs, v_work⟩ := s
  change v_act.length = 20 at hact
  change v_isT.length = 60 at l1
  change v_pkd.length = 60 at l6
  show Xw l D ρ m_ContentStoreModel_goes 0 [(0, .ref pre.length), (1, .int (nI k))] [] (mH pre post (v_room, v_puts, v_told, v_mask, v_open, v_came, v_byts, v_stamps, v_psz, v_stp, v_pby, v_blobs, v_isT, v_len, v_slot, v_sum, v_dig, v_pkd, v_hasC, v_copy, v_act, v_packs, v_work)) d kc ks (fun r N => r = none ∧ N = mH pre post (v_room, v_puts, v_told, v_mask, v_open, v_came, v_byts, v_stamps, v_psz, v_stp, v_pby, v_blobs, v_isT.set k 0, v_len, v_slot, v_sum, v_dig, v_pkd.set k (-1), v_hasC, v_copy, fgt v_act (nI k), v_packs, v_work))
  refine b_ContentStoreModel_goes_0 (a6 := v_isT) (a13 := v_pkd) H_obj H_isT rfl (by omega) (by omega) (by rw [W_isT]; exact H_pkd) rfl (by omega) (by omega) ?_
  rw [W_isT, W_pkd]
  have hdrop : ∀ j, ((v_act.take j).map (fun a => if a = nI k then (-1 : Int32) else a) ++ v_act.drop j).length = 20 := fun j => by
    rw [List.length_append, List.length_map, List.length_take, List.length_drop]
    omega
  have loop : ∀ (n j : Nat), j + n = 20 → Xw l D ρ m_ContentStoreModel_goes 16 [(0, .ref pre.length), (1, .int (nI k)), (2, .int (nI j))] [] (mH pre post (v_room, v_puts, v_told, v_mask, v_open, v_came, v_byts, v_stamps, v_psz, v_stp, v_pby, v_blobs, v_isT.set k 0, v_len, v_slot, v_sum, v_dig, v_pkd.set k (-1), v_hasC, v_copy, (v_act.take j).map (fun a => if a = nI k then (-1 : Int32) else a) ++ v_act.drop j, v_packs, v_work)) d kc ks (fun r N => r = none ∧ N = mH pre post (v_room, v_puts, v_told, v_mask, v_open, v_came, v_byts, v_stamps, v_psz, v_stp, v_pby, v_blobs, v_isT.set k 0, v_len, v_slot, v_sum, v_dig, v_pkd.set k (-1), v_hasC, v_copy, fgt v_act (nI k), v_packs, v_work)) := by
    intro n
    induction n with
    | zero =>
      intro j hj
      refine b_ContentStoreModel_goes_16 (fun _ => b_ContentStoreModel_goes_54 ⟨rfl, ?_⟩) (fun c => absurd (nI_le (a := 20) (by omega) (by omega)) c)
      rw [List.take_of_length_le (by omega), List.drop_eq_nil_of_le (by omega), List.append_nil]
      rfl
    | succ n ih =>
      intro j hj
      have hlt : j < v_act.length := by omega
      have hk? : v_act[j]? = some v_act[j] := List.getElem?_eq_getElem hlt
      obtain ⟨m1, m2⟩ := mapset (fun a => if a = nI k then (-1 : Int32) else a) hk?
      have hnext := ih (j + 1) (by omega)
      rw [← m1] at hnext
      refine b_ContentStoreModel_goes_16 (fun c => absurd c (nI_ge (b := 20) (by omega) (by decide))) (fun _ => ?_)
      refine b_ContentStoreModel_goes_22 H_obj H_act rfl m2 (by rw [hdrop]; decide) (fun c => ?_) (fun c => ?_)
      · refine b_ContentStoreModel_goes_41 H_obj H_act rfl m2 (by rw [hdrop]; decide) ?_
        refine b_ContentStoreModel_goes_47 H_act rfl (by rw [hdrop]; omega) (by rw [hdrop]; decide) ?_
        rw [W_act, nI_1]
        rw [if_neg c] at hnext
        exact hnext
      · refine b_ContentStoreModel_goes_37 ?_
        refine b_ContentStoreModel_goes_47 H_act rfl (by rw [hdrop]; omega) (by rw [hdrop]; decide) ?_
        rw [W_act, nI_1]
        rw [if_pos c] at hnext
        exact hnext
  have h0 := loop 20 0 rfl
  rw [List.take_zero, List.map_nil, List.nil_append, List.drop_zero] at h0
  exact h0
theorem mrB_gone {k blobs : Nat} {b : sB} {isT len slot sum : List Int32} {dig : List Int64} {pkd hasC copy : List Int32} (h : mrB B sl blobs isT len slot sum dig pkd hasC copy) (hb : B[k]? = some b) (hk : k < 60) : mrB (B.set k (bGone b)) sl blobs (isT.set k 0) len slot sum dig (pkd.set k (-1)) hasC copy := by
  obtain ⟨h1, ⟨l1, l2, l3, l4, l5, l6, l7, l8⟩, h3, h4⟩ := h
  refine ⟨by rw [List.length_set]; exact h1, ⟨by rw [List.length_set]; exact l1, l2, l3, l4, l5, by rw [List.length_set]; exact l6, l7, l8⟩, fun i b' hb' => ?_, fun i hi1 hi2 => ?_⟩
  · by_cases hik : i = k
    · subst hik
      rw [List.getElem?_set_self (List.getElem?_eq_some_iff.mp hb).1] at hb'
      cases hb'
      obtain ⟨q1, q2, q3, q4, q5, q6, q7, q8⟩ := h3 i b hb
      exact ⟨List.getElem?_set_self (by omega), q2, q3, q4, List.getElem?_set_self (by omega), q6, q7, fun z => by cases z⟩
    · rw [List.getElem?_set_ne (fun z => hik z.symm)] at hb'
      rw [List.getElem?_set_ne (fun z => hik z.symm), List.getElem?_set_ne (fun z => hik z.symm)]
      exact h3 i b' hb'
  · have hkl := (List.getElem?_eq_some_iff.mp hb).1
    rw [List.length_set] at hi1
    rw [List.getElem?_set_ne (by omega), List.getElem?_set_ne (by omega)]
    exact h4 i hi1 hi2
end MTIDY
