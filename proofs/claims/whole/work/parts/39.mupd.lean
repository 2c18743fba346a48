theorem sum_ones : ∀ es : List Nat, (es.map fun _ => 1).sum = es.length
  | [] => rfl
  | _ :: es => by
    rw [List.map_cons, List.sum_cons, sum_ones es, List.length_cons]
    omega
section MUPD
variable {l : Launch} {D : va_G} {ρ : xR} {M : List xCl} {d kc ks : Nat} {pre post : List xCl} {s : mS} {c room : Nat} {P : List sP} {es : List Nat} {pb : Nat → List Int32} {B : List sB} {act : List Int32} {nk : Nat} {sl st : Nat → Nat}
theorem q_count {v : Int32} (hI : SI room P es pb B act nk) (hR : MR c room P es pb B act nk s) (hd : 2 ≤ d) :
    Xw l D ρ m_ContentStoreModel_count 0 [(0, .ref pre.length), (1, .int v)] [] (mH pre post s) d kc ks (fun r N => r = some (.int (dCount es pb B v)) ∧ N = mH pre post s) := by
  obtain ⟨sl, st, hP, hS, hB, hA, hk, hr, hw⟩ := hR
  obtain ⟨m0, ⟨m1, m2, m3⟩, m4, m5, m6, m7⟩ := id hS
  obtain ⟨b0, ⟨l1, l2, l3, -⟩, hB1, -⟩ := id hB
  have h60 : B.length ≤ 60 := hI.2.2.1.1
  refine b_ContentStoreModel_count_0 h_obj (fun c0 => ?_) (fun c0 => ?_)
  · rw [w_obj]
    refine b_ContentStoreModel_count_45 (fun c1 => ?_) (fun c1 => ?_)
    · refine b_ContentStoreModel_count_55 (fun c2 => ?_) (fun c2 => ?_)
      · have fin : dCount es pb B v = -1 → Xw l D ρ m_ContentStoreModel_count 139 [] [] (mH pre post s) d kc ks (fun r N => r = some (.int (dCount es pb B v)) ∧ N = mH pre post s) := fun h => by
          rw [h]
          exact b_ContentStoreModel_count_139 (b_ContentStoreModel_count_140 ⟨rfl, rfl⟩)
        refine b_ContentStoreModel_count_95 (fun c3 => fin ?_) (fun c3 => ?_)
        · by_cases hneg : v < 0
          · rw [dCount, if_pos hneg]
          · exfalso
            obtain ⟨j, hj, rfl⟩ := nI_of hneg
            have hj2 : j ≤ 2 := (nI_leI (b := 2) hj (by decide)).mp c3
            rcases (show j = 0 ∨ j = 1 ∨ j = 2 by omega) with h | h | h
            · subst h; exact c0 rfl
            · subst h; exact c1 rfl
            · subst h; exact c2 rfl
        · have hneg : ¬ v < 0 := fun z => c3 (Int32.le_of_lt (Int32.lt_trans z (by decide)))
          have he : dCount es pb B v = dSharers B (v - 3) := by
            rw [dCount, if_neg hneg, if_neg c0, if_neg c1, if_neg c2]
            rfl
          rw [he] at fin ⊢
          refine b_ContentStoreModel_count_100 (cd1 := 1) (ckc1 := 0) (cks1 := 0) (ckc2 := kc) (cks2 := ks) (by omega) (by omega) (by omega) h_obj (c_mIsBlob hB h60 (by omega)) (fun r N h => ?_)
          obtain ⟨rfl, rfl⟩ := h
          rcases vT B (v - 3) h60 with h | ⟨k, b, h, hvk, h2, h3, h4⟩
          · refine b_ContentStoreModel_count_107 (fun _ => fin (by rw [dSharers, h])) (fun cz => ?_)
            rw [h] at cz
            exact absurd rfl cz
          · refine b_ContentStoreModel_count_107 (fun cz => ?_) (fun _ => ?_)
            · rw [h] at cz
              exact absurd cz (show ¬ (1 : Int32) = 0 by decide)
            · have hO := bOK_at hI h2
              have hl96 := hO.1
              obtain ⟨w1, w2, -⟩ := hO.2.2.2 h3
              obtain ⟨q1, q2, -, -, -, -, -, q8⟩ := hB1 k b h2
              refine b_ContentStoreModel_count_110 (j117 := k) h_obj h_len hvk q2 (by omega) (fun cz => fin ?_) (fun cz => ?_)
              · have hz : bLen b = 0 := by
                  rcases Nat.eq_zero_or_pos (bLen b) with z | z
                  · exact z
                  · exact absurd cz (nI_nle z (by omega))
                have h0 : (bIds b)[0]? = none := List.getElem?_eq_none (by rw [w1.1, hz]; decide)
                rw [dSharers, h]
                simp only [h0]
              · have hpos : 0 < bLen b := by
                  rcases Nat.eq_zero_or_pos (bLen b) with z | z
                  · rw [z] at cz
                    exact absurd (by decide) cz
                  · exact z
                have hlen0 : 0 < (bIds b).length := by rw [w1.1]; unfold nParts; omega
                have h0 : (bIds b)[0]? = some (bIds b)[0] := List.getElem?_eq_getElem hlen0
                have hx : (bIds b)[0] ∈ es := w2 _ (List.getElem_mem hlen0)
                refine b_ContentStoreModel_count_121 (j132 := 6 * k + 0) (cd1 := 1) (ckc1 := 0) (cks1 := 0) (ckc2 := kc) (cks2 := ks) h_obj h_slot (by rw [hvk, show (6 : Int32) = nI 6 from rfl, pk_mul]; rfl) (q8 h3 0 _ h0) (by omega) (by omega) (by omega) (by omega) (c_mHaving hB ⟨h60, fun b' hb' => ⟨(hI.2.2.1.2 b' hb').1, fun ht => ⟨((hI.2.2.1.2 b' hb').2.2.2 ht).1.1, ((hI.2.2.1.2 b' hb').2.2.2 ht).2.1⟩⟩⟩ hx m6 (fun y hy => (m4 y hy).1) (by omega)) (fun r N hh => ?_)
                obtain ⟨rfl, rfl⟩ := hh
                refine b_ContentStoreModel_count_136 (b_ContentStoreModel_count_140 ⟨?_, rfl⟩)
                rw [dSharers, h]
                simp only [h0]
      · subst c2
        rw [show dCount es pb B 2 = nI (B.countP fun b => bThere b) from rfl]
        refine b_ContentStoreModel_count_60 ?_
        have loop : ∀ (n k : Nat), k + n = B.length → Xw l D ρ m_ContentStoreModel_count 62 [(0, .ref pre.length), (2, .int (nI ((B.take k).countP fun b => bThere b))), (3, .int (nI k))] [] (mH pre post s) d kc ks (fun r N => r = some (.int (nI (B.countP fun b => bThere b))) ∧ N = mH pre post s) := by
          intro n
          induction n with
          | zero =>
            intro k hk
            refine b_ContentStoreModel_count_62 h_obj (fun _ => b_ContentStoreModel_count_93 ⟨?_, rfl⟩) (fun c => absurd (nI_le (by omega) (by omega)) c)
            rw [List.take_of_length_le (by omega)]
          | succ n ih =>
            intro k hk
            have hlt : k < B.length := by omega
            have hb : B[k]? = some B[k] := List.getElem?_eq_getElem hlt
            have hc := countP_take1 (f := fun b => bThere b) hb
            have q1 := (hB1 k _ hb).1
            have hn := ih (k + 1) (by omega)
            rw [hc] at hn
            refine b_ContentStoreModel_count_62 h_obj (fun c => absurd c (nI_ge (by omega) (by omega))) (fun _ => ?_)
            cases ht : bThere B[k] with
            | true =>
              rw [ht] at q1
              rw [if_pos ht] at hn
              refine b_ContentStoreModel_count_70 h_obj h_isT rfl q1 (by omega) (fun cz => absurd cz (by decide)) (fun _ => b_ContentStoreModel_count_80 (b_ContentStoreModel_count_85 ?_))
              rw [nI_1, nI_1]
              exact hn
            | false =>
              rw [ht] at q1
              rw [if_neg (by rw [ht]; decide)] at hn
              refine b_ContentStoreModel_count_70 h_obj h_isT rfl q1 (by omega) (fun _ => b_ContentStoreModel_count_84 (b_ContentStoreModel_count_85 ?_)) (fun cz => absurd rfl cz)
              rw [nI_1, show (0 : Int32) = nI 0 from rfl, nI_add]
              exact hn
        exact loop B.length 0 (by omega)
    · subst c1
      rw [show dCount es pb B 1 = nI (tot pb es) from rfl]
      refine b_ContentStoreModel_count_50 (cd1 := 0) (ckc1 := 0) (cks1 := 0) (ckc2 := kc) (cks2 := ks) (by omega) (by omega) (by omega) h_obj (c_mUsed hS hI.1.2.2.1 (by have := hI.1.1; have := hI.1.2.1; omega)) (fun r N h => ?_)
      obtain ⟨rfl, rfl⟩ := h
      exact b_ContentStoreModel_count_54 ⟨rfl, rfl⟩
  · subst c0
    rw [w_obj, show dCount es pb B 0 = nI es.length from rfl]
    have hall : usum (selF es sl (fun _ => 1)) 400 = es.length := by
      rw [usum_sel sl _ es hI.1.2.2.1 (fun x hx => (m4 x hx).1) m6]
      exact sum_ones es
    refine b_ContentStoreModel_count_11 ?_
    have loop : ∀ (n i : Nat), i + n = 400 → Xw l D ρ m_ContentStoreModel_count 13 [(0, .ref pre.length), (2, .int (nI (usum (selF es sl (fun _ => 1)) i))), (3, .int (nI i))] [] (mH pre post s) d kc ks (fun r N => r = some (.int (nI es.length)) ∧ N = mH pre post s) := by
      intro n
      induction n with
      | zero =>
        intro i hi
        obtain rfl : i = 400 := by omega
        rw [hall]
        exact b_ContentStoreModel_count_13 (fun _ => b_ContentStoreModel_count_43 ⟨rfl, rfl⟩) (fun c => absurd (by decide) c)
      | succ n ih =>
        intro i hi
        obtain ⟨z1, z2⟩ := slC_ok hS (i := i) (by omega)
        have hn := ih (i + 1) (by omega)
        rw [usum] at hn
        refine b_ContentStoreModel_count_13 (fun c => absurd c (nI_ge (b := 400) (by omega) (by decide))) (fun _ => ?_)
        cases hf : es.find? (fun x => decide (sl x = i)) with
        | some x =>
          have e1 : slC es pb sl i = pb x := by rw [slC, hf]
          have e2 : selF es sl (fun _ => 1) i = 1 := by rw [selF, hf]
          have hx := hI.1.2.2.2 x (List.mem_of_find?_eq_some hf)
          rw [e1] at z1
          rw [e2] at hn
          refine b_ContentStoreModel_count_20 h_obj h_psz rfl z1 (by omega) (fun cz => absurd cz (nI_nle (by omega) (by omega))) (fun _ => b_ContentStoreModel_count_30 (b_ContentStoreModel_count_35 ?_))
          rw [nI_1, nI_1]
          exact hn
        | none =>
          have e1 : slC es pb sl i = [] := by rw [slC, hf]
          have e2 : selF es sl (fun _ => 1) i = 0 := by rw [selF, hf]
          rw [e1] at z1
          rw [e2] at hn
          refine b_ContentStoreModel_count_20 h_obj h_psz rfl z1 (by omega) (fun _ => b_ContentStoreModel_count_34 (b_ContentStoreModel_count_35 ?_)) (fun cz => absurd (by decide) cz)
          rw [nI_1, show (0 : Int32) = nI 0 from rfl, nI_add]
          exact hn
    exact loop 400 0 rfl
theorem MR_up {c' : Nat} (h : MR c room P es pb B act nk s) (hc : c ≤ c') : MR c' room P es pb B act nk s := by
  obtain ⟨sl, st, hP, ⟨h0, h1⟩, h2⟩ := h
  exact ⟨sl, st, hP, ⟨by omega, h1⟩, h2⟩
theorem q_refer {v b : Int32} (hI : SI room P es pb B act nk) (hR : MR c room P es pb B act nk s) (hd : 2 ≤ d) :
    Xw l D ρ m_ContentStoreModel_refer 0 [(0, .ref pre.length), (1, .int v), (2, .int b)] [] (mH pre post s) d kc ks (fun r N => r = some (.int (sRefer B act v b).1) ∧ ∃ s', N = mH pre post s' ∧ MR (c + 6) room P es pb B (sRefer B act v b).2 nk s') := by
  have hR6 := MR_up hR (c' := c + 6) (by omega)
  obtain ⟨sl, st, hP, hS, hB, hA, hk, hr, hw⟩ := id hR6
  have h20 : act.length = 20 := hI.2.2.2.1
  refine b_ContentStoreModel_refer_0 (cd1 := 0) (ckc1 := 0) (cks1 := 0) (ckc2 := kc) (cks2 := ks) (Q1 := fun r N => r = some (.int (i2b (decide (¬ v < 0 ∧ ¬ (19 : Int32) < v)))) ∧ N = mH pre post s) h_obj (by omega) (by omega) (by omega) (by rw [w_obj]; exact c_in) (fun r N h => ?_)
  obtain ⟨rfl, rfl⟩ := h
  rw [show decide (¬ v < 0 ∧ ¬ (19 : Int32) < v) = (inb v 20).isSome from in_inb v (n := 20) (by decide)]
  rcases inb_cases v (n := 20) (by decide) with ⟨g1, g2⟩ | ⟨j, g1, rfl, g3⟩
  · rw [sRefer, g1]
    exact b_ContentStoreModel_refer_12 (fun _ => b_ContentStoreModel_refer_28 ⟨rfl, s, rfl, hR6⟩) (fun cz => absurd rfl cz)
  · have hyes : (b = -1 ∨ (thB B b).isSome = true) → Xw l D ρ m_ContentStoreModel_refer 30 [(0, .ref pre.length), (1, .int (nI j)), (2, .int b)] [] (mH pre post s) d kc ks (fun r N => r = some (.int (sRefer B act (nI j) b).1) ∧ ∃ s', N = mH pre post s' ∧ MR (c + 6) room P es pb B (sRefer B act (nI j) b).2 nk s') := by
      intro hy
      have hw2 : sRefer B act (nI j) b = (1, act.set j b) := by
        rw [sRefer, g3]
        exact if_pos hy
      rw [hw2]
      refine b_ContentStoreModel_refer_30 (a36 := g_act s) h_obj h_act rfl (by rw [hA]; omega) (by rw [hA]; omega) ⟨rfl, p_act s ((g_act s).set j b), w_act, sl, st, hP, hS, hB, ?_, hk, hr, hw⟩
      show (g_act s).set j b = act.set j b
      rw [hA]
    refine b_ContentStoreModel_refer_12 (fun cz => ?_) (fun _ => ?_)
    · rw [g3] at cz
      exact absurd cz (show ¬ (1 : Int32) = 0 by decide)
    · refine b_ContentStoreModel_refer_15 (fun e => hyes (Or.inl e)) (fun e => ?_)
      refine b_ContentStoreModel_refer_20 (cd1 := 1) (ckc1 := 0) (cks1 := 0) (ckc2 := kc) (cks2 := ks) (by omega) (by omega) (by omega) h_obj (c_mIsBlob hB hI.2.2.1.1 (by omega)) (fun r N h => ?_)
      obtain ⟨rfl, rfl⟩ := h
      refine b_ContentStoreModel_refer_25 (fun cz => hyes (Or.inr (i2b_t cz))) (fun cz => ?_)
      have hw2 : sRefer B act (nI j) b = (0, act) := by
        rw [sRefer, g3]
        refine if_neg (fun z => ?_)
        rcases z with z | z
        · exact e z
        · rw [i2b_0.mp cz] at z
          cases z
      rw [hw2]
      exact b_ContentStoreModel_refer_28 ⟨rfl, s, rfl, hR6⟩
theorem q_poison {v i mk : Int32} (hI : SI room P es pb B act nk) (hR : MR c room P es pb B act nk s) (hd : 2 ≤ d) :
    Xw l D ρ m_ContentStoreModel_poison 0 [(0, .ref pre.length), (1, .int v), (2, .int i), (3, .int mk)] [] (mH pre post s) d kc ks (fun r N => r = some (.int (sPoison pb B v i mk).1) ∧ ∃ s', N = mH pre post s' ∧ MR (c + 6) room P es (sPoison pb B v i mk).2 B act nk s') := by
  have hR6 := MR_up hR (c' := c + 6) (by omega)
  obtain ⟨sl, st, hP, hS, hB, hA, hk, hr, hw⟩ := id hR6
  have fin : sPoison pb B v i mk = (0, pb) → Xw l D ρ m_ContentStoreModel_poison 37 [] [] (mH pre post s) d kc ks (fun r N => r = some (.int (sPoison pb B v i mk).1) ∧ ∃ s', N = mH pre post s' ∧ MR (c + 6) room P es (sPoison pb B v i mk).2 B act nk s') := fun h => by
    rw [h]
    exact b_ContentStoreModel_poison_37 ⟨rfl, s, rfl, hR6⟩
  refine b_ContentStoreModel_poison_0 (cd1 := 1) (ckc1 := 0) (cks1 := 0) (ckc2 := kc) (cks2 := ks) (Q1 := fun r N => r = some (.int (i2b (thB B v).isSome)) ∧ N = mH pre post s) h_obj (by omega) (by omega) (by omega) (by rw [w_obj]; exact c_mIsBlob hB hI.2.2.1.1 (by omega)) (fun r N h => ?_)
  obtain ⟨rfl, rfl⟩ := h
  rcases vT B v hI.2.2.1.1 with h | ⟨k, b, h, rfl, h2, h3, h4⟩
  · refine b_ContentStoreModel_poison_10 (fun _ => fin (by rw [sPoison, h])) (fun cz => ?_)
    rw [h] at cz
    exact absurd rfl cz
  · have hO := bOK_at hI h2
    have hl96 := hO.1
    obtain ⟨w1, w2, -⟩ := hO.2.2.2 h3
    obtain ⟨-, ⟨l1, l2, l3, -⟩, hB1, -⟩ := id hB
    obtain ⟨q1, q2, -, -, -, -, -, q8⟩ := hB1 k b h2
    refine b_ContentStoreModel_poison_10 (fun cz => ?_) (fun _ => ?_)
    · rw [h] at cz
      exact absurd cz (show ¬ (1 : Int32) = 0 by decide)
    refine b_ContentStoreModel_poison_13 (cd1 := 0) (ckc1 := 0) (cks1 := 0) (ckc2 := kc) (cks2 := ks) h_obj h_len rfl q2 (by omega) (by omega) (by omega) (by omega) c_in (fun r N h => ?_)
    obtain ⟨rfl, rfl⟩ := h
    rw [in_inb i (by omega)]
    rcases ptO_v hO h3 i with ⟨g1, g2⟩ | ⟨j, x, w, g1, g2, rfl, g3, g4, g5, g6, g7⟩
    · rw [g1]
      refine b_ContentStoreModel_poison_26 (fun _ => fin ?_) (fun cz => absurd rfl cz)
      rw [sPoison, h]
      simp only [g1]
    · rw [g1]
      refine b_ContentStoreModel_poison_26 (fun cz => absurd cz (show ¬ (1 : Int32) = 0 by decide)) (fun _ => ?_)
      refine b_ContentStoreModel_poison_29 (fun cz => ?_) (fun cz => fin ?_)
      · have hw2 : sPoison pb B (nI k) (nI j) mk = (1, pAlt pb x (j % 16) (mk &&& 255)) := by
          rw [sPoison, h]
          simp only [g1, g4]
          exact if_neg cz
        rw [hw2]
        obtain ⟨m0, ⟨m1, m2, m3⟩, m4, m5, m6, m7⟩ := id hS
        obtain ⟨t1, t2, t3, t4, t5⟩ := m4 x g5
        have hsl := q8 h3 _ x g4
        have e1 : (6 : Int32) * nI k + nI j / 16 = nI (6 * k + j / 16) := by rw [eD (by omega), e6]
        have e2 : (16 : Int32) * nI (sl x) + (nI j - nI j / 16 * 16) = nI (16 * sl x + j % 16) := by rw [eR (by omega), e16]
        have hx16 := hI.1.2.2.2 x g5
        refine b_ContentStoreModel_poison_39 (j54 := 6 * k + j / 16) (j75 := 16 * sl x + j % 16) (j82 := 16 * sl x + j % 16) h_obj h_slot e1 hsl (by omega) h_pby e2 (t5 _ _ g6) (by omega) e2 (by omega) (by omega) ⟨rfl, p_pby s ((g_pby s).set (16 * sl x + j % 16) (w ^^^ (mk &&& 255))), w_pby, sl, st, hP, ?_, hB, hA, hk, hr, hw⟩
        refine ⟨m0, ⟨m1, m2, by show ((g_pby s).set _ _).length = 6400; rw [List.length_set]; exact m3⟩, fun y hy => ?_, m5, m6, m7⟩
        obtain ⟨u1, u2, u3, u4, u5⟩ := m4 y hy
        refine ⟨u1, by rw [pAlt_len]; exact u2, u3, u4, fun jj ww hjj => ?_⟩
        have hy16 := hI.1.2.2.2 y hy
        have hjl := (List.getElem?_eq_some_iff.mp hjj).1
        rw [pAlt_len] at hjl
        by_cases hyx : y = x
        · subst hyx
          have hjj2 : ((pb y).set (j % 16) ((((pb y)[j % 16]?).getD 0) ^^^ (mk &&& 255)))[jj]? = some ww := by
            have h9 : (va_up pb y ((pb y).set (j % 16) ((((pb y)[j % 16]?).getD 0) ^^^ (mk &&& 255))) y)[jj]? = some ww := hjj
            rw [va_up_self] at h9
            exact h9
          by_cases hjj3 : jj = j % 16
          · subst hjj3
            rw [List.getElem?_set_self (by omega), g6] at hjj2
            have : ww = w ^^^ (mk &&& 255) := (Option.some.inj hjj2).symm
            rw [this]
            exact List.getElem?_set_self (by omega)
          · rw [List.getElem?_set_ne (fun z => hjj3 z.symm)] at hjj2
            show ((g_pby s).set _ _)[_]? = _
            rw [List.getElem?_set_ne (by omega)]
            exact u5 jj ww hjj2
        · have hjj2 : (pb y)[jj]? = some ww := by
            have h9 : (va_up pb x ((pb x).set (j % 16) ((((pb x)[j % 16]?).getD 0) ^^^ (mk &&& 255))) y)[jj]? = some ww := hjj
            rw [va_up_ne _ _ hyx] at h9
            exact h9
          have hsne : sl y ≠ sl x := fun z => hyx (m6 y hy x g5 z)
          show ((g_pby s).set _ _)[_]? = _
          rw [List.getElem?_set_ne (by omega)]
          exact u5 jj ww hjj2
      · rw [sPoison, h]
        simp only [g1]
        exact if_pos cz
end MUPD
