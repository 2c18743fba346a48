section ENDS2
variable {l : Launch} {D : va_G} {ρ : xR} {M : List xCl} {d kc ks : Nat} {own : Nat → Nat × Nat} {m t sh pa ba ra : Nat} {A : List xCl} {PA BA : List Nat} {room : Nat} {P : List sP} {es : List Nat} {pb : Nat → List Int32} {B : List sB} {act : List Int32} {nk : Nat}
theorem c_soundWith {q : Nat} {bs : List Int32} (hC : CI M own m A t room P es pb B act nk) (hq : M[q]? = some (cI bs)) (hbs : bs.length ≤ 96) (hd : 4 ≤ d) :
    Xw l D ρ m_ContentStore_soundBlobWith 0 [(0, .ref t), (1, .ref q)] [] M d kc ks (fun r N => r = some (.int (match fnd pb B bs with | some k => nI k | none => -1)) ∧ N = M) := by
  obtain ⟨hI, sh, pa, ba, ra, PA, BA, hT, hP, hB, hR, hS, hM⟩ := id hC
  have h60 := hB.2.1
  obtain ⟨-, -, -, al, -, -, hp⟩ := id hS
  refine b_ContentStore_soundBlobWith_0 trivial ?_
  have loop : ∀ (n k : Nat), k + n = B.length → (∀ j b, j < k → B[j]? = some b → (bThere b && (decide (bb pb (bIds b) = bs) && sndB pb b)) = false) → Xw l D ρ m_ContentStore_soundBlobWith 2 [(0, .ref t), (1, .ref q), (2, .int (nI k))] [] M d kc ks (fun r N => r = some (.int (match fnd pb B bs with | some k => nI k | none => -1)) ∧ N = M) := by
    intro n
    induction n with
    | zero =>
      intro k hk hpre
      have hnone : fnd pb B bs = none := by
        rw [fnd, List.findIdx?_eq_none_iff]
        intro b hb
        obtain ⟨j, hj, rfl⟩ := List.getElem_of_mem hb
        exact hpre j _ (by omega) (List.getElem?_eq_getElem hj)
      rw [hnone]
      exact b_ContentStore_soundBlobWith_2 hT (fun _ => b_ContentStore_soundBlobWith_43 ⟨rfl, rfl⟩) (fun c => absurd (nI_le (by omega) (by omega)) c)
    | succ n ih =>
      intro k hk hpre
      have hlt : k < B.length := by omega
      have hb : B[k]? = some B[k] := List.getElem?_eq_getElem hlt
      have hO := bOK_at hI hb
      obtain ⟨a, ha, ⟨s1, pr, cq, s2, s3, s4⟩, h2⟩ := adB_at hB hb
      have hno : (bThere B[k] && (decide (bb pb (bIds B[k]) = bs) && sndB pb B[k])) = false → Xw l D ρ m_ContentStore_soundBlobWith 37 [(0, .ref t), (1, .ref q), (2, .int (nI k))] [] M d kc ks (fun r N => r = some (.int (match fnd pb B bs with | some k => nI k | none => -1)) ∧ N = M) := by
        intro hc
        refine b_ContentStore_soundBlobWith_37 trivial ?_
        rw [nI_1]
        refine ih (k + 1) (by omega) (fun j b hj hjb => ?_)
        by_cases hjk : j = k
        · subst hjk
          rw [hb] at hjb
          cases hjb
          exact hc
        · exact hpre j b (by omega) hjb
      refine b_ContentStore_soundBlobWith_2 hT (fun c => absurd c (nI_ge (by omega) (by omega))) (fun _ => ?_)
      refine b_ContentStore_soundBlobWith_10 (cd1 := 0) (ckc1 := 0) (cks1 := 0) (ckc2 := kc) (cks2 := ks) (by omega) (by omega) (by omega) hT (c_blobAt hT hB) (fun r N h => ?_)
      obtain ⟨rfl, rfl⟩ := h
      rw [h2]
      cases ht : bThere B[k] with
      | false => exact b_ContentStore_soundBlobWith_15_z (hno (by rw [ht]; rfl))
      | true =>
        obtain ⟨w1, w2, -⟩ := hO.2.2.2 ht
        refine b_ContentStore_soundBlobWith_15 ?_
        refine b_ContentStore_soundBlobWith_20 (cd1 := 3) (ckc1 := 0) (cks1 := 0) (ckc2 := kc) (cks2 := ks) trivial (by omega) (by omega) (by omega) s2 (c_hasBytes s2 s3 hp w2 w1 hO.1 hq hbs (by omega)) (fun r N' h => ?_)
        obtain ⟨rfl, rfl⟩ := h
        refine b_ContentStore_soundBlobWith_25 (fun c => ?_) (fun c => ?_)
        · exact hno (by rw [i2b_0.mp c]; simp)
        · refine b_ContentStore_soundBlobWith_28 (cd1 := 1) (ckc1 := 0) (cks1 := 0) (ckc2 := kc) (cks2 := ks) (by omega) (by omega) (by omega) s2 (c_snd hI hS hb ht s2 s3 (by omega)) (fun r N h => ?_)
          obtain ⟨rfl, rfl⟩ := h
          refine b_ContentStore_soundBlobWith_32 (fun c2 => ?_) (fun c2 => ?_)
          · exact hno (by rw [i2b_0.mp c2]; simp)
          · refine b_ContentStore_soundBlobWith_35 ⟨?_, rfl⟩
            have hsome : fnd pb B bs = some k := by
              rw [fnd, List.findIdx?_eq_some_iff_getElem]
              refine ⟨hlt, by rw [ht, i2b_t c, i2b_t c2]; rfl, fun j hj => ?_⟩
              rw [hpre j _ hj (List.getElem?_eq_getElem (by omega))]
              decide
            rw [hsome]
  exact loop B.length 0 (by omega) (fun j b hj => absurd hj (Nat.not_lt_zero j))
theorem k_end {v : Int32} (hC : CI M own m A t room P es pb B act nk) (hd : 10 ≤ d) (hkc : 21 ≤ kc) (hks : 4321 ≤ ks) :
    Xw l D ρ m_ContentStore_end 0 [(0, .ref t), (1, .int v)] [] M d kc ks (fun r N => ∃ own' nid, (∀ z, opP P v = some z → nOK es pb z.2.2.2.1 [] nid) ∧ r = some (.int (sEnd room P es pb B v nid).1) ∧ CI N own' m A t room (sEnd room P es pb B v nid).2.1 (sEnd room P es pb B v nid).2.2.1 (sEnd room P es pb B v nid).2.2.2.1 (sEnd room P es pb B v nid).2.2.2.2 act nk) := by
  obtain ⟨hI, sh, pa, ba, ra, PA, BA, hT, hP, hB, hR, hS, hM⟩ := id hC
  have hlt0 : ∀ y ∈ es, y < M.length := fun y hy => cShelf_lt hS hy
  refine b_ContentStore_end_0 (cd1 := 0) (ckc1 := 0) (cks1 := 0) (ckc2 := kc) (cks2 := ks) (by omega) (by omega) (by omega) hT (c_openPut hT hP) (fun r N h => ?_)
  obtain ⟨rfl, rfl⟩ := h
  rcases vP hP v with ⟨h1, h2⟩ | ⟨i, p, a, h1, h2, -, h3, h4, h5, s1, b, s2, s3, s4⟩
  · rw [h2]
    refine b_ContentStore_end_5_z (b_ContentStore_end_10 ⟨own, fun k => k, fun z hz => (by rw [h1] at hz; cases hz), ?_⟩)
    have hw : sEnd room P es pb B v (fun k => k) = (-1, P, es, pb, B) := by rw [sEnd, h1]
    rw [hw]
    exact ⟨rfl, hC⟩
  · rw [h2]
    have hpo := hI.2.1.2.1 p (List.mem_of_getElem? h3)
    obtain ⟨told, x, bs, o⟩ := p
    have hp1 : bs.length ≤ told := hpo.1
    have hp2 : told ≤ 96 := hpo.2
    have ho : o = true := h5
    subst ho
    change N[a]? = some (cO 3 [.ref b, .long x, .int (nI bs.length), .int (i2b true)]) at s3
    change N[b]? = some (cI (bs ++ List.replicate (told - bs.length) 0)) at s4
    have hab : b ≠ a := fun z => by
      subst z
      rw [s1] at s2
      cases s2
    have hta : a ≠ t := fun z => by
      subst z
      rw [s3] at hT
      cases hT
    -- the put is shut
    have hop : openN (P.set i (told, x, bs, false)) + 1 = openN P := by
      have := openN_set (p' := (told, x, bs, false)) h3
      rw [if_pos h5, if_neg (show ¬ false = true by decide)] at this
      exact this
    have g := fr_tr (fr_setk (T := [0, 3]) (own := own) 3 (c' := cO 3 [.ref b, .long x, .int (nI bs.length), .int 0]) s3 rfl (by decide) (by decide)) (fr_setk (T := [0, 3]) 0 (c' := tpC sh pa ba ra (P.set i (told, x, bs, false)) B nk) (xset_at hT hta) rfl (by decide) (by decide))
    have g0 := fr_setk (T := [0]) (own := own) 0 (c' := tpC sh pa ba ra (P.set i (told, x, bs, false)) B nk) (xset_at (c' := cO 3 [.ref b, .long x, .int (nI bs.length), .int 0]) hT hta) rfl (by decide) (by decide)
    have hP1 := cPs_put (p' := (told, x, bs, false)) hP h4 h3 s3 s4 s1 s2
    have hcell : N.set b (cI (bs ++ List.replicate (told - bs.length) 0)) = N := set_same s4
    change cPs ((N.set b (cI (bs ++ List.replicate (told - bs.length) 0))).set a (cO 3 [.ref b, .long x, .int (nI bs.length), .int 0])) own pa PA (P.set i (told, x, bs, false)) at hP1
    rw [hcell] at hP1
    have hC2 : CI ((N.set a (cO 3 [.ref b, .long x, .int (nI bs.length), .int 0])).set t (tpC sh pa ba ra (P.set i (told, x, bs, false)) B nk)) own m A t room (P.set i (told, x, bs, false)) es pb B act nk := by
      refine ⟨⟨hI.1, ⟨by rw [List.length_set]; exact hI.2.1.1, fun q hq => ?_, by have := hI.2.1.2.2; omega⟩, hI.2.2⟩, sh, pa, ba, ra, PA, BA, xset_eq (xset_at hT hta), cPs_fr hP1 g0 (by decide) (by decide) (by decide), cBs_fr hB g (by decide) (by decide) (by decide) (by decide), cRs_fr hR g (by decide), cShelf_fr hS g (by decide) (by decide) (by decide) (by decide) (by decide), cMo_fr hM g (by decide) (by decide) (by decide) (by decide)⟩
      rcases mem_set_or hq with hq | hq
      · exact hI.2.1.2.1 q hq
      · rw [hq]
        exact ⟨hp1, hp2⟩
    have e : (cO 0 [.ref sh, .ref pa, .ref ba, .ref ra, .int (nI P.length), .int (nI (openN P) - 1), .int (nI B.length), .int (nI nk)] : xCl) = tpC sh pa ba ra (P.set i (told, x, bs, false)) B nk := by
      show _ = cO 0 _
      rw [← hop, nI_pred, List.length_set]
    have k3 : ((N.set a (cO 3 [.ref b, .long x, .int (nI bs.length), .int 0])).set t (tpC sh pa ba ra (P.set i (told, x, bs, false)) B nk))[a]? = some (cO 3 [.ref b, .long x, .int (nI bs.length), .int 0]) := xset_at (xset_eq s3) hta.symm
    have k4 : ((N.set a (cO 3 [.ref b, .long x, .int (nI bs.length), .int 0])).set t (tpC sh pa ba ra (P.set i (told, x, bs, false)) B nk))[b]? = some (cI (bs ++ List.replicate (told - bs.length) 0)) := fr_atI (t := 2) g s4 (by rw [s2]) (by decide)
    have hal : (bs ++ List.replicate (told - bs.length) (0 : Int32)).length = told := by rw [List.length_append, List.length_replicate]; omega
    refine b_ContentStore_end_5 (b_ContentStore_end_12 (cd1 := 0) (ckc1 := 0) (cks1 := 0) (ckc2 := kc) (cks2 := ks) (Q1 := fun r N' => r = some (.int (i2b (decide (¬ (bs.length = told ∧ x = 0))))) ∧ N' = (N.set a (cO 3 [.ref b, .long x, .int (nI bs.length), .int 0])).set t (tpC sh pa ba ra (P.set i (told, x, bs, false)) B nk)) s3 (xset_at hT hta) (by omega) (by omega) (by omega) ?_ (fun r N' h => ?_))
    · rw [e]
      have := c_differs (l := l) (D := D) (ρ := ρ) (d := 0) (kc := 0) (ks := 0) k3 k4 (by rw [hal]; exact hp1) (by rw [hal]; exact hp2)
      rw [hal] at this
      exact this
    obtain ⟨rfl, rfl⟩ := h
    have hlt1 : N.length = ((N.set a (cO 3 [.ref b, .long x, .int (nI bs.length), .int 0])).set t (tpC sh pa ba ra (P.set i (told, x, bs, false)) B nk)).length := by rw [List.length_set, List.length_set]
    generalize (N.set a (cO 3 [.ref b, .long x, .int (nI bs.length), .int 0])).set t (tpC sh pa ba ra (P.set i (told, x, bs, false)) B nk) = N2 at hC2 k3 k4 hlt1 ⊢
    have hex : ∀ (w : Int32 × List sP × List Nat × (Nat → List Int32) × List sB) (N3 : List xCl), sEnd room P es pb B v (fun k => N.length + k) = w → CI N3 own m A t room w.2.1 w.2.2.1 w.2.2.2.1 w.2.2.2.2 act nk → ∃ own' nid, (∀ z, opP P v = some z → nOK es pb z.2.2.2.1 [] nid) ∧ some (Value.int w.1) = some (.int (sEnd room P es pb B v nid).1) ∧ CI N3 own' m A t room (sEnd room P es pb B v nid).2.1 (sEnd room P es pb B v nid).2.2.1 (sEnd room P es pb B v nid).2.2.2.1 (sEnd room P es pb B v nid).2.2.2.2 act nk := fun w N3 hw hC3 => ⟨own, fun k => N.length + k, fun z _ => nOK_ex hlt0 _ _, by rw [hw], by rw [hw]; exact hC3⟩
    refine b_ContentStore_end_31 (fun c => ?_) (fun c => ?_)
    · have hfull : bs.length = told ∧ x = 0 := Classical.byContradiction fun z => by
        rw [decide_eq_true z] at c
        exact absurd c (by decide)
      have hbs0 : bs ++ List.replicate (told - bs.length) (0 : Int32) = bs := by rw [hfull.1, Nat.sub_self, List.replicate_zero, List.append_nil]
      rw [hbs0] at k4
      obtain ⟨hI2, sh2, pa2, ba2, ra2, PA2, BA2, hT2, -⟩ := id hC2
      refine b_ContentStore_end_37 (f39_0 := .ref b) (cd1 := 4) (ckc1 := 0) (cks1 := 0) (ckc2 := kc) (cks2 := ks) trivial k3 (by omega) (by omega) (by omega) hT2 (c_soundWith hC2 k4 (by omega) (by omega)) (fun r N3 h => ?_)
      obtain ⟨rfl, rfl⟩ := h
      cases hf : fnd pb B bs with
      | some k =>
        have hkl : k < B.length := (List.findIdx?_eq_some_iff_getElem.mp hf).1
        have h60 := hI.2.2.1.1
        refine b_ContentStore_end_45 trivial (fun c2 => ?_) (fun c2 => ?_)
        · have hpos := nI_pos (n := k) (by omega)
          have c3 : nI k = -1 := c2
          rw [c3] at hpos
          exact absurd (by decide) hpos
        · refine b_ContentStore_end_51 (b_ContentStore_end_63 (hex (nI k, P.set i (told, x, bs, false), es, pb, B) N3 ?_ hC2))
          rw [sEnd, h1]
          simp only [hf]
          exact if_pos hfull
      | none =>
        refine b_ContentStore_end_45 trivial (fun c2 => ?_) (fun c2 => absurd rfl c2)
        refine b_ContentStore_end_55 (f57_0 := .ref b) (cd1 := 9) (ckc1 := 21) (cks1 := 4321) (ckc2 := 0) (cks2 := 0) trivial k3 (by omega) (by omega) (by omega) hT2 (c_new hC2 k4 (by omega) (by omega) (by omega) (by omega)) (fun r N4 h => ?_)
        obtain ⟨own', nid, hn, rfl, hC4⟩ := h
        have hw : sEnd room P es pb B v nid = ((sNew room es pb B bs nid).1, P.set i (told, x, bs, false), (sNew room es pb B bs nid).2) := by
          rw [sEnd, h1]
          simp only [hf]
          exact if_pos hfull
        refine b_ContentStore_end_63 ⟨own', nid, fun z hz => ?_, ?_⟩
        · rw [h1] at hz
          cases hz
          exact hn
        · rw [hw]
          exact ⟨rfl, hC4⟩
    · have hnf : ¬ (bs.length = told ∧ x = 0) := of_decide_eq_true (i2b_t c)
      refine b_ContentStore_end_34 (hex (-2, P.set i (told, x, bs, false), es, pb, B) N2 ?_ hC2)
      rw [sEnd, h1]
      exact if_neg hnf
theorem k_repair {v : Int32} (hC : CI M own m A t room P es pb B act nk) (hd : 9 ≤ d) (hkc : 19 ≤ kc) (hks : 4314 ≤ ks) :
    Xw l D ρ m_ContentStore_repair 0 [(0, .ref t), (1, .int v)] [] M d kc ks (fun r N => ∃ own' nid, (∀ z c, thB B v = some z → bCopy z.2 = some c → nOK es pb c (bIds z.2) nid) ∧ r = some (.int (sRepair room es pb B v nid).1) ∧ CI N own' m A t room P (sRepair room es pb B v nid).2.1 (sRepair room es pb B v nid).2.2.1 (sRepair room es pb B v nid).2.2.2 act nk) := by
  obtain ⟨hI, sh, pa, ba, ra, PA, BA, hT, hP, hB, hR, hS, hM⟩ := id hC
  have hlt0 : ∀ y ∈ es, y < M.length := fun y hy => cShelf_lt hS hy
  have hex : ∀ (w : Int32), (∀ nid, sRepair room es pb B v nid = (w, es, pb, B)) → ∃ own' nid, (∀ z c, thB B v = some z → bCopy z.2 = some c → nOK es pb c (bIds z.2) nid) ∧ some (Value.int w) = some (.int (sRepair room es pb B v nid).1) ∧ CI M own' m A t room P (sRepair room es pb B v nid).2.1 (sRepair room es pb B v nid).2.2.1 (sRepair room es pb B v nid).2.2.2 act nk := fun w hw => ⟨own, fun k => M.length + k, fun z c _ _ => nOK_ex hlt0 _ _, by rw [hw], by rw [hw]; exact hC⟩
  obtain ⟨-, -, -, al, k1, -, hp⟩ := id hS
  refine b_ContentStore_repair_0 (cd1 := 0) (ckc1 := 0) (cks1 := 0) (ckc2 := kc) (cks2 := ks) (by omega) (by omega) (by omega) hT (c_blobAt hT hB) (fun r N h => ?_)
  obtain ⟨rfl, rfl⟩ := h
  rcases vB hB v with ⟨h1, h2⟩ | ⟨k, b, a, h1, h2, -, h3, h9, h4, s1, pr, cq, s2, s3, s4⟩
  · rw [h2]
    exact b_ContentStore_repair_5_z (b_ContentStore_repair_10 (hex (-1) (fun nid => by rw [sRepair, h1])))
  · rw [h2]
    have hO := bOK_at hI h3
    obtain ⟨w1, w2, w3⟩ := hO.2.2.2 h4
    refine b_ContentStore_repair_5 ?_
    refine b_ContentStore_repair_12 (cd1 := 1) (ckc1 := 0) (cks1 := 0) (ckc2 := kc) (cks2 := ks) (by omega) (by omega) (by omega) s2 (c_snd hI hS h3 h4 s2 s3 (by omega)) (fun r N' h => ?_)
    obtain ⟨rfl, rfl⟩ := h
    refine b_ContentStore_repair_16 (fun c => ?_) (fun c => ?_)
    · have hns := i2b_0.mp c
      -- no copy, or a wrong one
      rcases s4 with ⟨s4, s5⟩ | ⟨q, cc, t1, t2, t3, t4⟩
      · subst s4
        refine b_ContentStore_repair_21 (cd1 := 1) (ckc1 := 0) (cks1 := 0) (ckc2 := kc) (cks2 := ks) (by omega) (by omega) (by omega) s2 (c_hasRightCopy (cq := none) s2 (fun z hz => by cases hz) (by omega)) (fun r N h => ?_)
        obtain ⟨rfl, rfl⟩ := h
        refine b_ContentStore_repair_25 (fun c2 => absurd rfl c2) (fun _ => b_ContentStore_repair_28 (hex (-2) (fun nid => ?_)))
        rw [sRepair, h1]
        simp only [hns, s5]
        rfl
      · subst t1
        have hcl := hO.2.1 cc t2
        have h96 := hO.1
        refine b_ContentStore_repair_21 (cd1 := 1) (ckc1 := 0) (cks1 := 0) (ckc2 := kc) (cks2 := ks) (by omega) (by omega) (by omega) s2 (c_hasRightCopy (cq := some (q, cc)) s2 (fun z hz => by cases hz; exact ⟨t4, by show cc.length ≤ 96; omega⟩) (by omega)) (fun r N h => ?_)
        obtain ⟨rfl, rfl⟩ := h
        refine b_ContentStore_repair_25 (fun c2 => ?_) (fun c2 => b_ContentStore_repair_28 (hex (-2) (fun nid => ?_)))
        · have hright := of_decide_eq_true (i2b_t c2)
          refine b_ContentStore_repair_31 (f36_4 := .ref q) (cd1 := 4) (ckc1 := 0) (cks1 := 0) (ckc2 := kc) (cks2 := ks) hT trivial s2 (by omega) (by omega) (by omega) k1 (c_hasRoomFor hS hI.1.2.1 t4 (by omega) (by omega)) (fun r N' h => ?_)
          obtain ⟨rfl, rfl⟩ := h
          refine b_ContentStore_repair_42 (fun c3 => ?_) (fun c3 => b_ContentStore_repair_45 (hex (-3) (fun nid => ?_)))
          · have hroom := of_decide_eq_true (i2b_t c3)
            have ht40 : tot pb es ≤ 40000 := by have := hI.1.1; have := hI.1.2.1; omega
            have he := SI_es hI
            have hl6 := hO.2.2.1
            refine b_ContentStore_repair_48 (f49_3 := .ref pr) (f49_4 := .ref q) (cd1 := 8) (ckc1 := 19) (cks1 := 4314) (ckc2 := 0) (cks2 := 0) trivial trivial s2 hT (by omega) (by omega) (by omega) k1 (c_rowOf hS ht40 (by omega) t4 s3 w2 (by omega) (fun y hy => cnt_hi hI hS hy) (by omega) (by omega)) (fun r N2 h => ?_)
            obtain ⟨rfl, own', nid, r1, r2, r3, r4, r5, r6⟩ := h
            have hnid : nOK es pb cc (bIds b) nid := fun k hk => (r6 k hk).2
            have hRo := row_ok (a := cc) (std := bIds b) (nid := nid) (pb := pb) hI.1.2.2.1 w2 (nParts cc.length) hnid
            obtain ⟨f1, f2, f3, f4⟩ := row_facts (nk := nk) (fun x hx => (hI.1.2.2.2 x hx).2) hRo
            have hw : sRepair room es pb B v nid = (1, keptE (rowF cc (bIds b) nid es pb (nParts cc.length)).1 (cnt (B.set k (bRow b (rowF cc (bIds b) nid es pb (nParts cc.length)).2.2))), (rowF cc (bIds b) nid es pb (nParts cc.length)).2.1, B.set k (bRow b (rowF cc (bIds b) nid es pb (nParts cc.length)).2.2)) := by
              rw [sRepair, h1]
              simp only [hns, t2]
              rw [if_neg (by decide), if_pos hright, if_pos hroom]
            have g3 := fr_sh r3 r4
            have s2' := fr_atk 4 g3 s2 rfl (by decide) (by decide)
            have s3' := fr_atk 202 g3 s3 rfl (by decide) (by decide)
            have hT3 := fr_atk 0 g3 hT rfl (by decide) (by decide)
            have hP3 := cPs_fr hP g3 (by decide) (by decide) (by decide)
            have hB3 := cBs_fr hB g3 (by decide) (by decide) (by decide) (by decide)
            have hR3 := cRs_fr hR g3 (by decide)
            have hM3 := cMo_fr hM g3 (by decide) (by decide) (by decide) (by decide)
            have s1' : own' a = (3, k) := by rw [fr_o g3 s2]; exact s1
            have hc3 : cCp N2 own' k (some q) (bCopy b) := cCp_fr (Or.inr ⟨q, cc, rfl, t2, t3, t4⟩) g3 (by decide)
            generalize hRR : rowF cc (bIds b) nid es pb (nParts cc.length) = RR at *
            obtain ⟨es1, pb1, row⟩ := RR
            have g4 : fr [4] N2 (N2.set a (cO 4 [.int (nI (bLen b)), .int (bSum b), .long (bDig b), .ref N'.length, .ref q, .int (bPack b), .int (i2b (bThere b))])) own' own' := fr_setk 4 s2' rfl (by decide) (by decide)
            have hB4 : cBs (N2.set a (cO 4 [.int (nI (bLen b)), .int (bSum b), .long (bDig b), .ref N'.length, .ref q, .int (bPack b), .int (i2b (bThere b))])) own' ba BA (B.set k (bRow b row)) := cBs_obj (b' := bRow b row) (pr := N'.length) (cq := some q) hB3 h9 h3 s2' rfl s1' r1 hc3
            have hS4 := cShelf_fr r2 g4 (by decide) (by decide) (by decide) (by decide) (by decide)
            have hT4 := fr_atk 0 g4 hT3 rfl (by decide) (by decide)
            obtain ⟨-, -, -, al4, k4, -⟩ := id hS4
            have hcb : ∀ y, (bIds b).count y ≤ cnt B y := fun y => cnt_mem (List.mem_of_getElem? h3) h4
            have hcn : ∀ y, cnt (B.set k (bRow b row)) y = leftH (fun y => cnt B y + row.count y) (bIds b) y := fun y => by
              have e1 := cnt_set y B k b (bRow b row) h3
              have e2 : trm b y = (bIds b).count y := by rw [trm, if_pos h4]
              have e3 : trm (bRow b row) y = row.count y := by
                show (if bThere b then row.count y else 0) = _
                rw [if_pos h4]
              have e4 := hcb y
              show _ = (cnt B y + row.count y) - (bIds b).count y
              omega
            have hfun : leftH (fun y => cnt B y + row.count y) (bIds b) = cnt (B.set k (bRow b row)) := funext fun y => (hcn y).symm
            obtain ⟨p1, p2, p3, p4, p5, p6⟩ := hRo
            refine b_ContentStore_repair_66 (cd1 := 4) (ckc1 := 0) (cks1 := 0) (ckc2 := 0) (cks2 := 0) trivial trivial s2' hT4 (by omega) (by omega) (by omega) k4 (c_leave hS4 (fr_atk 202 g4 s3' rfl (by decide) (by decide)) (by omega) (fun y hy => ?_) (fun y hy => (p1 y (w2 y hy)).1) (fun y => by have := hcb y; show _ ≤ _ + _; omega) (by omega)) (fun r N5 h => ?_)
            · have c1 := SI_cnt hI y
              have c5 : row.count y ≤ row.length := List.count_le_length
              have c6 : row.length ≤ 6 := by
                have : row.length = nParts cc.length := p6
                rw [this]
                unfold nParts
                omega
              have c7 : 1 ≤ cnt B y + row.count y := by
                rcases p2 y hy with z | ⟨z, -⟩
                · have := (hI.1.2.2.2 y z).1
                  omega
                · have : 1 ≤ row.count y := List.count_pos_iff.mpr z
                  omega
              exact ⟨c7, by show cnt B y + row.count y ≤ 100000; omega⟩
            obtain ⟨rfl, q1, q2⟩ := h
            rw [hfun] at q1
            have g5 := fr_sh (own := own') (own' := own') q2 (fun j _ => rfl)
            refine b_ContentStore_repair_77 ⟨own', nid, fun z c hz hc => ?_, ?_⟩
            · rw [h1] at hz
              cases hz
              rw [t2] at hc
              cases hc
              exact hnid
            · rw [hw]
              refine ⟨rfl, ?_, sh, pa, ba, ra, PA, BA, ?_⟩
              · refine SI_kept hI.1.1 ?_ p5 f4 hI.2.1 (by rw [List.length_set]; exact hI.2.2.1.1) (fun c hc => ?_) hI.2.2.2
                · show tot pb1 es1 ≤ room
                  have : tot pb1 es1 = tot pb es + needF es pb cc (nParts cc.length) := p4
                  rw [this]
                  exact hroom
                · rcases mem_set_or hc with hc | hc
                  · exact f1 c (hI.2.2.1.2 c hc)
                  · rw [hc]
                    refine ⟨hO.1, hO.2.1, by show row.length ≤ 6; have : row.length = nParts cc.length := p6; rw [this]; unfold nParts; omega, fun _ => ⟨?_, f3, w3⟩⟩
                    show wfI pb1 row (bLen b)
                    rw [← hcl]
                    exact f2
              · rw [List.length_set]
                exact ⟨fr_atk 0 g5 hT4 rfl (by decide) (by decide), cPs_fr (cPs_fr hP3 g4 (by decide) (by decide) (by decide)) g5 (by decide) (by decide) (by decide), cBs_fr hB4 g5 (by decide) (by decide) (by decide) (by decide), cRs_fr (cRs_fr hR3 g4 (by decide)) g5 (by decide), q1, cMo_fr (cMo_fr hM3 g4 (by decide) (by decide) (by decide) (by decide)) g5 (by decide) (by decide) (by decide) (by decide)⟩
          · rw [sRepair, h1]
            simp only [hns, t2]
            rw [if_neg (by decide), if_pos hright, if_neg (of_decide_eq_false (i2b_0.mp c3))]
        · rw [sRepair, h1]
          simp only [hns, t2]
          rw [if_neg (by decide), if_neg (of_decide_eq_false (i2b_0.mp c2))]
    · refine b_ContentStore_repair_19 (hex 0 (fun nid => ?_))
      rw [sRepair, h1]
      simp only [i2b_t c]
      rfl
end ENDS2
