/-! THE MODEL'S UPDATES: begin, add, mirror -/
theorem mrP_add {P : List sP} {puts k : Nat} {x : Int64} {told : List Int32} {mask : List Int64} {op came byts : List Int32} (h : mrP P puts told mask op came byts) (hl : P.length < 60) : mrP (P ++ [(k, x, [], true)]) (puts + 1) (told.set P.length (nI k)) (mask.set P.length x) (op.set P.length 1) came byts := by
  obtain ⟨h0, ⟨l1, l2, l3, l4, l5⟩, h1, h2⟩ := h
  refine ⟨by rw [List.length_append, h0]; rfl, ⟨by rw [List.length_set]; exact l1, by rw [List.length_set]; exact l2, by rw [List.length_set]; exact l3, l4, l5⟩, fun i p hp => ?_, fun i hi1 hi2 => ?_⟩
  · by_cases hi : i = P.length
    · subst hi
      rw [List.getElem?_append_right (Nat.le_refl _), Nat.sub_self] at hp
      cases hp
      exact ⟨List.getElem?_set_self (by omega), List.getElem?_set_self (by omega), List.getElem?_set_self (by omega), h2 _ (Nat.le_refl _) hl, fun j w hj => by simp at hj⟩
    · have hlt : i < P.length := by
        have := (List.getElem?_eq_some_iff.mp hp).1
        rw [List.length_append, List.length_singleton] at this
        omega
      rw [List.getElem?_append_left hlt] at hp
      rw [List.getElem?_set_ne (fun z => hi z.symm), List.getElem?_set_ne (fun z => hi z.symm), List.getElem?_set_ne (fun z => hi z.symm)]
      exact h1 i p hp
  · rw [List.length_append, List.length_singleton] at hi1
    exact h2 i (by omega) hi2
theorem mrP_byte {P : List sP} {puts i : Nat} {p : sP} {w : Int32} {told : List Int32} {mask : List Int64} {op came byts : List Int32} (h : mrP P puts told mask op came byts) (hp : P[i]? = some p) (h60 : P.length ≤ 60) (hl : p.2.2.1.length < 96) (hall : ∀ (i' : Nat) (p' : sP), P[i']? = some p' → p'.2.2.1.length ≤ 96) : mrP (P.set i (p.1, p.2.1, p.2.2.1 ++ [w], p.2.2.2)) puts told mask op (came.set i (nI (p.2.2.1.length + 1))) (byts.set (96 * i + p.2.2.1.length) w) := by
  obtain ⟨h0, ⟨l1, l2, l3, l4, l5⟩, h1, h2⟩ := h
  have hi := (List.getElem?_eq_some_iff.mp hp).1
  refine ⟨by rw [List.length_set]; exact h0, ⟨l1, l2, l3, by rw [List.length_set]; exact l4, by rw [List.length_set]; exact l5⟩, fun i' p' hp' => ?_, fun i' hi1 hi2 => ?_⟩
  · by_cases hii : i' = i
    · subst hii
      rw [List.getElem?_set_self hi] at hp'
      cases hp'
      obtain ⟨g1, g2, g3, g4, g5⟩ := h1 i' p hp
      refine ⟨g1, g2, g3, ?_, fun j v hj => ?_⟩
      · show (came.set i' _)[i']? = some (nI (p.2.2.1 ++ [w]).length)
        rw [List.getElem?_set_self (by omega), List.length_append, List.length_singleton]
      · have hj' : (p.2.2.1 ++ [w])[j]? = some v := hj
        by_cases hjl : j = p.2.2.1.length
        · subst hjl
          rw [List.getElem?_append_right (Nat.le_refl _), Nat.sub_self] at hj'
          cases hj'
          exact List.getElem?_set_self (by omega)
        · have hjlt : j < p.2.2.1.length := by
            have := (List.getElem?_eq_some_iff.mp hj').1
            rw [List.length_append, List.length_singleton] at this
            omega
          rw [List.getElem?_append_left hjlt] at hj'
          rw [List.getElem?_set_ne (by omega)]
          exact g5 j v hj'
    · rw [List.getElem?_set_ne (fun z => hii z.symm)] at hp'
      obtain ⟨g1, g2, g3, g4, g5⟩ := h1 i' p' hp'
      refine ⟨g1, g2, g3, by rw [List.getElem?_set_ne (fun z => hii z.symm)]; exact g4, fun j v hj => ?_⟩
      have := (List.getElem?_eq_some_iff.mp hj).1
      have := hall i' p' hp'
      rw [List.getElem?_set_ne (by omega)]
      exact g5 j v hj
  · rw [List.length_set] at hi1
    rw [List.getElem?_set_ne (by omega)]
    exact h2 i' hi1 hi2
def bCp (b : sB) (c : List Int32) : sB := (bLen b, bIds b, bSum b, bDig b, some c, bPack b, bThere b)
theorem mrB_cp0 {B : List sB} {sl : Nat → Nat} {k blobs : Nat} {b : sB} {isT len slot sum : List Int32} {dig : List Int64} {pkd hasC copy : List Int32} (h : mrB B sl blobs isT len slot sum dig pkd hasC copy) (hb : B[k]? = some b) (hk : k < 60) : mrB (B.set k (bCp b [])) sl blobs isT len slot sum dig pkd (hasC.set k 1) copy := by
  obtain ⟨h1, ⟨l1, l2, l3, l4, l5, l6, l7, l8⟩, h3, h4⟩ := h
  have hkl := (List.getElem?_eq_some_iff.mp hb).1
  refine ⟨by rw [List.length_set]; exact h1, ⟨l1, l2, l3, l4, l5, l6, by rw [List.length_set]; exact l7, l8⟩, fun i b' hb' => ?_, fun i hi1 hi2 => ?_⟩
  · by_cases hik : i = k
    · subst hik
      rw [List.getElem?_set_self hkl] at hb'
      cases hb'
      obtain ⟨q1, q2, q3, q4, q5, q6, q7, q8⟩ := h3 i b hb
      exact ⟨q1, q2, q3, q4, q5, List.getElem?_set_self (by omega), fun c hc j w hj => by cases hc; simp at hj, q8⟩
    · rw [List.getElem?_set_ne (fun z => hik z.symm)] at hb'
      rw [List.getElem?_set_ne (fun z => hik z.symm)]
      exact h3 i b' hb'
  · rw [List.length_set] at hi1
    rw [List.getElem?_set_ne (by omega)]
    exact h4 i hi1 hi2
theorem mrB_cp1 {B : List sB} {sl : Nat → Nat} {k blobs : Nat} {b : sB} {c : List Int32} {w : Int32} {isT len slot sum : List Int32} {dig : List Int64} {pkd hasC copy : List Int32} (h : mrB B sl blobs isT len slot sum dig pkd hasC copy) (hb : B[k]? = some b) (hc : bCopy b = some c) (hk : k < 60) (hl : c.length < 96) (hall : ∀ (i' : Nat) (b' : sB) (c' : List Int32), B[i']? = some b' → bCopy b' = some c' → c'.length ≤ 96) : mrB (B.set k (bCp b (c ++ [w]))) sl blobs isT len slot sum dig pkd hasC (copy.set (96 * k + c.length) w) := by
  obtain ⟨h1, ⟨l1, l2, l3, l4, l5, l6, l7, l8⟩, h3, h4⟩ := h
  have hkl := (List.getElem?_eq_some_iff.mp hb).1
  refine ⟨by rw [List.length_set]; exact h1, ⟨l1, l2, l3, l4, l5, l6, l7, by rw [List.length_set]; exact l8⟩, fun i b' hb' => ?_, fun i hi1 hi2 => ?_⟩
  · by_cases hik : i = k
    · subst hik
      rw [List.getElem?_set_self hkl] at hb'
      cases hb'
      obtain ⟨q1, q2, q3, q4, q5, q6, q7, q8⟩ := h3 i b hb
      rw [hc] at q6
      refine ⟨q1, q2, q3, q4, q5, q6, fun c' hc' j v hj => ?_, q8⟩
      cases hc'
      by_cases hjl : j = c.length
      · subst hjl
        rw [List.getElem?_append_right (Nat.le_refl _), Nat.sub_self] at hj
        cases hj
        exact List.getElem?_set_self (by omega)
      · have hjlt : j < c.length := by
          have := (List.getElem?_eq_some_iff.mp hj).1
          rw [List.length_append, List.length_singleton] at this
          omega
        rw [List.getElem?_append_left hjlt] at hj
        rw [List.getElem?_set_ne (by omega)]
        exact q7 c hc j v hj
    · rw [List.getElem?_set_ne (fun z => hik z.symm)] at hb'
      obtain ⟨q1, q2, q3, q4, q5, q6, q7, q8⟩ := h3 i b' hb'
      refine ⟨q1, q2, q3, q4, q5, q6, fun c' hc' j v hj => ?_, q8⟩
      have := (List.getElem?_eq_some_iff.mp hj).1
      have := hall i b' c' hb' hc'
      rw [List.getElem?_set_ne (by omega)]
      exact q7 c' hc' j v hj
  · rw [List.length_set] at hi1
    exact h4 i hi1 hi2
section MBEG
variable {l : Launch} {D : va_G} {ρ : xR} {M : List xCl} {d kc ks : Nat} {pre post : List xCl} {s : mS} {c room : Nat} {P : List sP} {es : List Nat} {pb : Nat → List Int32} {B : List sB} {act : List Int32} {nk : Nat} {sl st : Nat → Nat}
theorem q_begin {n : Int32} {x : Int64} (hI : SI room P es pb B act nk) (hR : MR c room P es pb B act nk s) (hd : 2 ≤ d) :
    Xw l D ρ m_ContentStoreModel_begin 0 [(0, .ref pre.length), (1, .int n), (2, .long x)] [] (mH pre post s) d kc ks (fun r N => r = some (.int (sBegin P n x).1) ∧ ∃ s', N = mH pre post s' ∧ MR (c + 6) room (sBegin P n x).2 es pb B act nk s') := by
  have hR6 := MR_up hR (c' := c + 6) (by omega)
  obtain ⟨sl, st, hP, hS, hB, hA, hk, hr, hw⟩ := id hR6
  obtain ⟨b0, ⟨l1, l2, l3, l4, l5⟩, hP1, hP2⟩ := id hP
  have h60 : P.length ≤ 60 := hI.2.1.1
  have h4 : openN P ≤ 4 := hI.2.1.2.2
  have fin : sBegin P n x = (-1, P) → Xw l D ρ m_ContentStoreModel_begin 71 [] [] (mH pre post s) d kc ks (fun r N => r = some (.int (sBegin P n x).1) ∧ ∃ s', N = mH pre post s' ∧ MR (c + 6) room (sBegin P n x).2 es pb B act nk s') := fun h => by
    rw [h]
    exact b_ContentStoreModel_begin_71 ⟨rfl, s, rfl, hR6⟩
  have no : ¬ (openN P < 4 ∧ P.length < 60) → sBegin P n x = (-1, P) := fun h => by
    rw [sBegin]
    split
    · exact if_neg h
    · rfl
  refine b_ContentStoreModel_begin_0 h_obj ?_
  rw [w_obj]
  have last : Xw l D ρ m_ContentStoreModel_begin 46 [(0, .ref pre.length), (1, .int n), (2, .long x), (4, .int (nI (openN P)))] [] (mH pre post s) d kc ks (fun r N => r = some (.int (sBegin P n x).1) ∧ ∃ s', N = mH pre post s' ∧ MR (c + 6) room (sBegin P n x).2 es pb B act nk s') := by
    refine b_ContentStoreModel_begin_46 h_obj (fun cz => fin (no (fun z => ?_))) (fun cz => ?_)
    · rw [b0] at cz
      have := (nI_eq (a := P.length) (b := 60) (by omega) (by decide)).mp cz
      omega
    rw [b0] at cz
    have c60 : P.length < 60 := by
      rcases Nat.lt_or_ge P.length 60 with z | z
      · exact z
      · exact absurd (show nI P.length = 60 by rw [show P.length = 60 by omega]; rfl) cz
    refine b_ContentStoreModel_begin_55 (fun cy => fin (no (fun z => ?_))) (fun cy => ?_)
    · have := (nI_eq (a := openN P) (b := 4) (by omega) (by decide)).mp cy
      omega
    have c4 : openN P < 4 := by
      rcases Nat.lt_or_ge (openN P) 4 with z | z
      · exact z
      · exact absurd (show nI (openN P) = 4 by rw [show openN P = 4 by omega]; rfl) cy
    refine b_ContentStoreModel_begin_61 (cd1 := 0) (ckc1 := 0) (cks1 := 0) (ckc2 := kc) (cks2 := ks) (by omega) (by omega) (by omega) c_in (fun r N h => ?_)
    obtain ⟨rfl, rfl⟩ := h
    rw [show decide (¬ n < 0 ∧ ¬ (96 : Int32) < n) = (inb n 97).isSome from in_inb n (n := 97) (by decide)]
    rcases inb_cases n (n := 97) (by decide) with ⟨g1, g2⟩ | ⟨j, g1, rfl, g3⟩
    · rw [g1]
      exact b_ContentStoreModel_begin_68 (fun cz => absurd rfl cz) (fun _ => fin (by rw [sBegin, g1]))
    · rw [g3]
      refine b_ContentStoreModel_begin_68 (fun _ => ?_) (fun cz => absurd cz (show ¬ (1 : Int32) = 0 by decide))
      have hw2 : sBegin P (nI j) x = (nI P.length, P ++ [(j, x, [], true)]) := by
        rw [sBegin, g3]
        exact if_pos ⟨c4, c60⟩
      rw [hw2]
      clear hw2 fin no hR6 hR
      obtain ⟨v_room, v_puts, v_told, v_mask, v_open, v_came, v_byts, v_stamps, v_psz, v_stp, v_pby, v_blobs, v_isT, v_len, v_slot, v_sum, v_dig, v_pkd, v_hasC, v_copy, v_act, v_packs, v_work⟩ := s
      change mrP P v_puts v_told v_mask v_open v_came v_byts at hP
      change mrS es pb sl st (c + 6) v_stamps v_psz v_stp v_pby at hS
      change mrB B sl v_blobs v_isT v_len v_slot v_sum v_dig v_pkd v_hasC v_copy at hB
      change v_act = act at hA
      change v_packs = nk at hk
      change v_room = room at hr
      change v_work.length = 96 at hw
      change v_told.length = 60 at l1
      change v_mask.length = 60 at l2
      change v_open.length = 60 at l3
      obtain rfl : v_puts = P.length := b0
      refine b_ContentStoreModel_begin_73 (a82 := v_told) (j82 := P.length) (a92 := v_mask) (j92 := P.length) (a102 := v_open) (j102 := P.length) H_obj H_told rfl (by omega) (by omega) (by rw [W_told]; exact H_mask) rfl (by omega) (by omega) (by rw [W_told, W_mask]; exact H_open) rfl (by omega) (by omega) ⟨?_, (v_room, P.length + 1, v_told.set P.length (nI j), v_mask.set P.length x, v_open.set P.length 1, v_came, v_byts, v_stamps, v_psz, v_stp, v_pby, v_blobs, v_isT, v_len, v_slot, v_sum, v_dig, v_pkd, v_hasC, v_copy, v_act, v_packs, v_work), ?_, sl, st, mrP_add hP c60, hS, hB, hA, hk, hr, hw⟩
      · rw [nI_1, nI_pred]
      · rw [nI_1, W_told, W_mask, W_open, W_puts]
  have loop : ∀ (n' k : Nat), k + n' = P.length → Xw l D ρ m_ContentStoreModel_begin 11 [(0, .ref pre.length), (1, .int n), (2, .long x), (4, .int (nI (openN (P.take k)))), (5, .int (nI k))] [] (mH pre post s) d kc ks (fun r N => r = some (.int (sBegin P n x).1) ∧ ∃ s', N = mH pre post s' ∧ MR (c + 6) room (sBegin P n x).2 es pb B act nk s') := by
    intro n'
    induction n' with
    | zero =>
      intro k hk
      refine b_ContentStoreModel_begin_11 h_obj (fun _ => ?_) (fun c => absurd (by rw [b0]; exact nI_le (by omega) (by omega)) c)
      rw [List.take_of_length_le (by omega)]
      exact last
    | succ n' ih =>
      intro k hk
      have hlt : k < P.length := by omega
      have hb : P[k]? = some P[k] := List.getElem?_eq_getElem hlt
      have hc := countP_take1 (f := fun p : sP => p.2.2.2) hb
      have q3 := (hP1 k _ hb).2.2.1
      have hn := ih (k + 1) (by omega)
      rw [openN, hc] at hn
      refine b_ContentStoreModel_begin_11 h_obj (fun c => absurd c (by rw [b0]; exact nI_ge (by omega) (by omega))) (fun _ => ?_)
      cases ht : P[k].2.2.2 with
      | true =>
        rw [ht] at q3
        rw [if_pos ht] at hn
        refine b_ContentStoreModel_begin_20 h_obj h_open rfl q3 (by omega) (fun cz => absurd cz (by decide)) (fun _ => b_ContentStoreModel_begin_32 (b_ContentStoreModel_begin_37 ?_))
        rw [nI_1, nI_1]
        exact hn
      | false =>
        rw [ht] at q3
        rw [if_neg (by rw [ht]; decide)] at hn
        refine b_ContentStoreModel_begin_20 h_obj h_open rfl q3 (by omega) (fun _ => b_ContentStoreModel_begin_36 (b_ContentStoreModel_begin_37 ?_)) (fun cz => absurd rfl cz)
        rw [nI_1, show (0 : Int32) = nI 0 from rfl, nI_add]
        exact hn
  exact loop P.length 0 (by omega)
theorem q_add {v n : Int32} {w : Int64} (hI : SI room P es pb B act nk) (hR : MR c room P es pb B act nk s) (hd : 2 ≤ d) :
    Xw l D ρ m_ContentStoreModel_add 0 [(0, .ref pre.length), (1, .int v), (2, .long w), (4, .int n)] [] (mH pre post s) d kc ks (fun r N => r = some (.int (sAdd P v w n).1) ∧ ∃ s', N = mH pre post s' ∧ MR (c + 6) room (sAdd P v w n).2 es pb B act nk s') := by
  have hR6 := MR_up hR (c' := c + 6) (by omega)
  obtain ⟨sl, st, hP, hS, hB, hA, hk, hr, hw⟩ := id hR6
  have h60 : P.length ≤ 60 := hI.2.1.1
  have fin : sAdd P v w n = (-1, P) → Xw l D ρ m_ContentStoreModel_add 42 [] [] (mH pre post s) d kc ks (fun r N => r = some (.int (sAdd P v w n).1) ∧ ∃ s', N = mH pre post s' ∧ MR (c + 6) room (sAdd P v w n).2 es pb B act nk s') := fun h => by
    rw [h]
    exact b_ContentStoreModel_add_42 ⟨rfl, s, rfl, hR6⟩
  refine b_ContentStoreModel_add_0 (cd1 := 1) (ckc1 := 0) (cks1 := 0) (ckc2 := kc) (cks2 := ks) (Q1 := fun r N => r = some (.int (i2b (opP P v).isSome)) ∧ N = mH pre post s) h_obj (by omega) (by omega) (by omega) (by rw [w_obj]; exact c_mIsOpen hP h60 (by omega)) (fun r N h => ?_)
  obtain ⟨rfl, rfl⟩ := h
  rcases opP_cases P v h60 with ⟨h, -⟩ | ⟨k, p, rfl, h2, h3, h4⟩
  · refine b_ContentStoreModel_add_10 (fun _ => fin (by rw [sAdd, h])) (fun cz => ?_)
    rw [h] at cz
    exact absurd rfl cz
  · have hkl := (List.getElem?_eq_some_iff.mp h2).1
    obtain ⟨o1, o2⟩ : pOK p := hI.2.1.2.1 p (List.mem_of_getElem? h2)
    obtain ⟨b0, ⟨l1, l2, l3, l4, l5⟩, hP1, hP2⟩ := id hP
    obtain ⟨q1, q2, q3, q4, q5⟩ := hP1 k p h2
    refine b_ContentStoreModel_add_10 (fun cz => ?_) (fun _ => ?_)
    · rw [h4] at cz
      exact absurd cz (show ¬ (1 : Int32) = 0 by decide)
    refine b_ContentStoreModel_add_13 (cd1 := 0) (ckc1 := 0) (cks1 := 0) (ckc2 := kc) (cks2 := ks) (by omega) (by omega) (by omega) c_in (fun r N h => ?_)
    obtain ⟨rfl, rfl⟩ := h
    rcases inb_cases n (n := 9) (by decide) with ⟨g1, g2⟩ | ⟨t, g1, rfl, g3⟩
    · refine b_ContentStoreModel_add_21 (fun _ => fin ?_) (fun cz => ?_)
      · rw [sAdd, h4]
        simp only [g1]
      · exfalso
        obtain ⟨z1, z2⟩ := of_decide_eq_true (i2b_t cz)
        rcases g2 with g2 | ⟨-, g2⟩
        · exact z1 (Int32.lt_trans g2 (by decide))
        · exact z2 (Int32.lt_of_lt_of_le (show (8 : Int32) < nI 9 by decide) g2)
    · by_cases ht : 1 ≤ t
      · rw [decide_eq_true (show ¬ nI t < 1 ∧ ¬ (8 : Int32) < nI t from ⟨nI_nlt (b := 1) ht (by omega), nI_nlt (a := 8) (b := t) (by omega) (by decide)⟩)]
        refine b_ContentStoreModel_add_21 (fun cz => absurd cz (show ¬ (1 : Int32) = 0 by decide)) (fun _ => ?_)
        refine b_ContentStoreModel_add_24 h_obj h_came rfl q4 (by omega) h_told rfl q1 (by omega) (fun cz => ?_) (fun cz => fin ?_)
        · rw [nI_add] at cz
          have hle := (nI_leI (by omega) (by omega)).mp cz
          have hw2 : sAdd P (nI k) w (nI t) = (nI (p.2.2.1.length + t), P.set k (p.1, p.2.1, p.2.2.1 ++ tb w t, true)) := by
            rw [sAdd, h4]
            simp only [g3]
            exact if_pos ⟨ht, hle⟩
          rw [hw2]
          clear hw2 fin hR6 hR cz
          refine b_ContentStoreModel_add_44 ?_
          obtain ⟨v_room, v_puts, v_told, v_mask, v_open, v_came, v_byts, v_stamps, v_psz, v_stp, v_pby, v_blobs, v_isT, v_len, v_slot, v_sum, v_dig, v_pkd, v_hasC, v_copy, v_act, v_packs, v_work⟩ := s
          change mrP P v_puts v_told v_mask v_open v_came v_byts at hP
          change mrS es pb sl st (c + 6) v_stamps v_psz v_stp v_pby at hS
          change mrB B sl v_blobs v_isT v_len v_slot v_sum v_dig v_pkd v_hasC v_copy at hB
          change v_act = act at hA
          change v_packs = nk at hk
          change v_room = room at hr
          change v_work.length = 96 at hw
          change v_came.length = 60 at l4
          change v_byts.length = 5760 at l5
          have hall : ∀ bs : List Int32, bs.length ≤ 96 → ∀ (i' : Nat) (p' : sP), (P.set k (p.1, p.2.1, bs, true))[i']? = some p' → p'.2.2.1.length ≤ 96 := by
            intro bs hbs i' p' hp'
            by_cases hik : i' = k
            · subst hik
              rw [List.getElem?_set_self hkl] at hp'
              cases hp'
              exact hbs
            · rw [List.getElem?_set_ne (fun z => hik z.symm)] at hp'
              have := hI.2.1.2.1 p' (List.mem_of_getElem? hp')
              exact Nat.le_trans this.1 this.2
          have loop : ∀ (t : Nat) (bs came byts : List Int32), bs.length + t ≤ 96 → mrP (P.set k (p.1, p.2.1, bs, true)) v_puts v_told v_mask v_open came byts → Xw l D ρ m_ContentStoreModel_add 50 [(0, .ref pre.length), (1, .int (nI k)), (2, .long w), (5, .int (nI t - 1))] [] (mH pre post (v_room, v_puts, v_told, v_mask, v_open, came, byts, v_stamps, v_psz, v_stp, v_pby, v_blobs, v_isT, v_len, v_slot, v_sum, v_dig, v_pkd, v_hasC, v_copy, v_act, v_packs, v_work)) d kc ks (fun r N => r = some (.int (nI (bs.length + t))) ∧ ∃ s', N = mH pre post s' ∧ MR (c + 6) room (P.set k (p.1, p.2.1, bs ++ tb w t, true)) es pb B act nk s') := by
            intro t
            induction t with
            | zero =>
              intro bs came byts hbs hm
              have hg := (hm.2.2.1 k (p.1, p.2.1, bs, true) (List.getElem?_set_self hkl)).2.2.2.1
              have hl4 := hm.2.1.2.2.2.1
              rw [tb, List.append_nil, Nat.add_zero]
              exact b_ContentStoreModel_add_50 (fun _ => b_ContentStoreModel_add_99 (a104 := came) (j104 := k) H_obj H_came rfl hg (by omega) ⟨rfl, _, rfl, sl, st, hm, hS, hB, hA, hk, hr, hw⟩) (fun c => absurd (by decide) c)
            | succ t ih =>
              intro bs came byts hbs hm
              have hat := List.getElem?_set_self (a := (p.1, p.2.1, bs, true)) hkl
              have hg := (hm.2.2.1 k (p.1, p.2.1, bs, true) hat).2.2.2.1
              have hl4 := hm.2.1.2.2.2.1
              have hl5 := hm.2.1.2.2.2.2
              have hm1 := mrP_byte (w := tbyte w t) hm hat (by rw [List.length_set]; exact h60) (show bs.length < 96 by omega) (hall bs (by omega))
              rw [List.set_set] at hm1
              have hn := ih (bs ++ [tbyte w t]) _ _ (by rw [List.length_append, List.length_singleton]; omega) hm1
              rw [show bs ++ [tbyte w t] ++ tb w t = bs ++ tb w (t + 1) by rw [List.append_assoc]; rfl, show (bs ++ [tbyte w t]).length + t = bs.length + (t + 1) by rw [List.length_append, List.length_singleton]; omega] at hn
              rw [nI_pred]
              refine b_ContentStoreModel_add_50 (fun c => absurd c (nI_pos (by omega))) (fun _ => ?_)
              refine b_ContentStoreModel_add_55 (a68 := came) (j68 := k) (a82 := byts) (j82 := 96 * k + bs.length) (a89 := came) (j89 := k) (j92 := k) H_obj H_came rfl hg (by omega) H_byts (e96 k bs.length) (by omega) (by omega) (by rw [W_byts]; exact H_came) rfl hg (by omega) rfl (by omega) (by omega) ?_
              rw [W_byts, W_came, nI_1, show nI t + (-1) = nI t - 1 from (Int32.sub_eq_add_neg _ _).symm]
              exact hn
          refine loop t p.2.2.1 v_came v_byts (by omega) ?_
          have : P.set k (p.1, p.2.1, p.2.2.1, true) = P := by
            rw [← h3]
            exact set_same h2
          rw [this]
          exact hP
        · rw [sAdd, h4]
          simp only [g3]
          refine if_neg (fun z => cz ?_)
          rw [nI_add]
          exact nI_le z.2 (by omega)
      · refine b_ContentStoreModel_add_21 (fun _ => fin ?_) (fun cz => ?_)
        · rw [sAdd, h4]
          simp only [g3]
          exact if_neg (fun z => ht z.1)
        · exfalso
          obtain ⟨z1, z2⟩ := of_decide_eq_true (i2b_t cz)
          obtain rfl : t = 0 := by omega
          exact z1 (by decide)
theorem q_mirror {v : Int32} (hI : SI room P es pb B act nk) (hR : MR c room P es pb B act nk s) (hd : 2 ≤ d) :
    Xw l D ρ m_ContentStoreModel_mirror 0 [(0, .ref pre.length), (1, .int v)] [] (mH pre post s) d kc ks (fun r N => r = some (.int (sMirror pb B v).1) ∧ ∃ s', N = mH pre post s' ∧ MR (c + 6) room P es pb (sMirror pb B v).2 act nk s') := by
  have hR6 := MR_up hR (c' := c + 6) (by omega)
  obtain ⟨sl, st, hP, hS, hB, hA, hk, hr, hw⟩ := id hR6
  refine b_ContentStoreModel_mirror_0 (cd1 := 1) (ckc1 := 0) (cks1 := 0) (ckc2 := kc) (cks2 := ks) (Q1 := fun r N => r = some (.int (i2b (thB B v).isSome)) ∧ N = mH pre post s) h_obj (by omega) (by omega) (by omega) (by rw [w_obj]; exact c_mIsBlob hB hI.2.2.1.1 (by omega)) (fun r N h => ?_)
  obtain ⟨rfl, rfl⟩ := h
  rcases vT B v hI.2.2.1.1 with h | ⟨k, b, h, rfl, h2, h3, h4⟩
  · refine b_ContentStoreModel_mirror_10 (fun cz => ?_) (fun _ => ?_)
    · rw [h] at cz
      exact absurd rfl cz
    · have hw2 : sMirror pb B v = (0, B) := by rw [sMirror, h]
      rw [hw2]
      exact b_ContentStoreModel_mirror_13 ⟨rfl, s, rfl, hR6⟩
  · have hO := bOK_at hI h2
    have hl96 := hO.1
    obtain ⟨w1, w2, -⟩ := hO.2.2.2 h3
    have hkl := (List.getElem?_eq_some_iff.mp h2).1
    have hbl := bb_len w1
    have hw2 : sMirror pb B (nI k) = (1, B.set k (bMir pb b)) := by rw [sMirror, h]
    rw [hw2]
    refine b_ContentStoreModel_mirror_10 (fun _ => ?_) (fun cz => ?_)
    · clear hw2 hR6 hR
      obtain ⟨-, ⟨-, -, -, -, -, -, l7, l8⟩, -, -⟩ := id hB
      obtain ⟨v_room, v_puts, v_told, v_mask, v_open, v_came, v_byts, v_stamps, v_psz, v_stp, v_pby, v_blobs, v_isT, v_len, v_slot, v_sum, v_dig, v_pkd, v_hasC, v_copy, v_act, v_packs, v_work⟩ := s
      change mrP P v_puts v_told v_mask v_open v_came v_byts at hP
      change mrS es pb sl st (c + 6) v_stamps v_psz v_stp v_pby at hS
      change mrB B sl v_blobs v_isT v_len v_slot v_sum v_dig v_pkd v_hasC v_copy at hB
      change v_act = act at hA
      change v_packs = nk at hk
      change v_room = room at hr
      change v_work.length = 96 at hw
      change v_hasC.length = 60 at l7
      have hS' : mrS es pb sl st (c + 6) v_stamps v_psz v_stp v_pby := hS
      refine b_ContentStoreModel_mirror_15 (a21 := v_hasC) (j21 := k) H_obj H_hasC rfl (by omega) (by omega) ?_
      rw [W_hasC]
      have hall : ∀ cc : List Int32, cc.length ≤ 96 → ∀ (i' : Nat) (b' : sB) (c' : List Int32), (B.set k (bCp b cc))[i']? = some b' → bCopy b' = some c' → c'.length ≤ 96 := by
        intro cc hcc i' b' c' hb' hc'
        by_cases hik : i' = k
        · subst hik
          rw [List.getElem?_set_self hkl] at hb'
          cases hb'
          cases hc'
          exact hcc
        · rw [List.getElem?_set_ne (fun z => hik z.symm)] at hb'
          have := bOK_at hI hb'
          rw [this.2.1 c' hc']
          exact this.1
      have loop : ∀ (n j : Nat) (copy : List Int32), j + n = bLen b → mrB (B.set k (bCp b ((bb pb (bIds b)).take j))) sl v_blobs v_isT v_len v_slot v_sum v_dig v_pkd (v_hasC.set k 1) copy → Xw l D ρ m_ContentStoreModel_mirror 24 [(0, .ref pre.length), (1, .int (nI k)), (2, .int (nI j))] [] (mH pre post (v_room, v_puts, v_told, v_mask, v_open, v_came, v_byts, v_stamps, v_psz, v_stp, v_pby, v_blobs, v_isT, v_len, v_slot, v_sum, v_dig, v_pkd, v_hasC.set k 1, copy, v_act, v_packs, v_work)) d kc ks (fun r N => r = some (.int 1) ∧ ∃ s', N = mH pre post s' ∧ MR (c + 6) room P es pb (B.set k (bMir pb b)) act nk s') := by
        intro n
        induction n with
        | zero =>
          intro j copy hj hm
          have hlen : v_len[k]? = some (nI (bLen b)) := (hm.2.2.1 k _ (List.getElem?_set_self hkl)).2.1
          have hll := hm.2.1.2.1
          refine b_ContentStoreModel_mirror_24 (a30 := v_len) H_obj H_len rfl hlen (by omega) (fun _ => b_ContentStoreModel_mirror_57 ⟨rfl, _, rfl, sl, st, hP, hS, ?_, hA, hk, hr, hw⟩) (fun c => absurd (nI_le (show bLen b ≤ j by omega) (by omega)) c)
          rw [List.take_of_length_le (by omega)] at hm
          exact hm
        | succ n ih =>
          intro j copy hj hm
          have hat := List.getElem?_set_self (a := bCp b ((bb pb (bIds b)).take j)) hkl
          have hlen : v_len[k]? = some (nI (bLen b)) := (hm.2.2.1 k _ hat).2.1
          have hll := hm.2.1.2.1
          have hlc := hm.2.1.2.2.2.2.2.2.2
          have hlt : j < (bb pb (bIds b)).length := by omega
          have htl : ((bb pb (bIds b)).take j).length = j := by rw [List.length_take]; omega
          refine b_ContentStoreModel_mirror_24 (a30 := v_len) H_obj H_len rfl hlen (by omega) (fun c => absurd c (nI_ge (show j < bLen b by omega) (by omega))) (fun _ => ?_)
          refine b_ContentStoreModel_mirror_34 (f35_20 := .ref (pre.length + 16)) (cd1 := 0) (ckc1 := 0) (cks1 := 0) (ckc2 := kc) (cks2 := ks) trivial H_obj (by omega) (by omega) (by omega) (c_mByte (s := (v_room, v_puts, v_told, v_mask, v_open, v_came, v_byts, v_stamps, v_psz, v_stp, v_pby, v_blobs, v_isT, v_len, v_slot, v_sum, v_dig, v_pkd, v_hasC.set k 1, copy, v_act, v_packs, v_work)) hS' hm hat h3 w1 w2 hl96 h4 (List.getElem?_eq_getElem hlt)) (fun r N h => ?_)
          obtain ⟨rfl, rfl⟩ := h
          refine b_ContentStoreModel_mirror_50 (a50 := copy) (j50 := 96 * k + j) H_copy (e96 k j) (by omega) (by omega) ?_
          have hm1 := mrB_cp1 (w := (bb pb (bIds b))[j]) hm hat rfl h4 (by omega) (hall _ (by omega))
          rw [List.set_set, htl] at hm1
          rw [W_copy, nI_1]
          refine ih (j + 1) _ (by omega) ?_
          rw [List.take_succ_eq_append_getElem hlt]
          exact hm1
      refine loop (bLen b) 0 v_copy (by omega) ?_
      exact mrB_cp0 hB h2 h4
    · rw [h] at cz
      exact absurd cz (show ¬ (1 : Int32) = 0 by decide)
end MBEG
