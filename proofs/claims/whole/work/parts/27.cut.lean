/-! CUT AND PACK -/
/-- cut's first k blobs: how many are lost, where the row has come, the blobs, the actions -/
def ctF (p : Int32) (kp : Nat) (B : List sB) (act : List Int32) : Nat → Nat × Nat × List sB × List Int32
  | 0 => (0, 0, B, act)
  | k + 1 => match (ctF p kp B act k).2.2.1[k]? with
    | some b => if bThere b && decide (bPack b = p) then (if (ctF p kp B act k).2.1 + bLen b ≤ kp then ((ctF p kp B act k).1, (ctF p kp B act k).2.1 + bLen b, (ctF p kp B act k).2.2.1, (ctF p kp B act k).2.2.2) else ((ctF p kp B act k).1 + 1, (ctF p kp B act k).2.1 + bLen b, (ctF p kp B act k).2.2.1.set k (bGone b), fgt (ctF p kp B act k).2.2.2 (nI k))) else ctF p kp B act k
    | none => ctF p kp B act k
theorem ctF_len (p : Int32) (kp : Nat) (B : List sB) (act : List Int32) : ∀ k, (ctF p kp B act k).2.2.1.length = B.length
  | 0 => rfl
  | k + 1 => by
    have ih := ctF_len p kp B act k
    rw [ctF]
    split
    · split
      · split
        · exact ih
        · rw [List.length_set]; exact ih
      · exact ih
    · exact ih
def sCut (es : List Nat) (B : List sB) (act : List Int32) (nk : Nat) (v keep : Int32) : Int32 × List Nat × List sB × List Int32 := match inb v nk with
  | some _ => if keep < 0 then (-1, es, B, act) else (nI (ctF v keep.toNatClampNeg B act B.length).1, keptE es (cnt (ctF v keep.toNatClampNeg B act B.length).2.2.1), (ctF v keep.toNatClampNeg B act B.length).2.2.1, (ctF v keep.toNatClampNeg B act B.length).2.2.2)
  | none => (-1, es, B, act)
def pkF (nk : Nat) (b : sB) : sB := if bThere b && decide (bPack b = -1) then (bLen b, bIds b, bSum b, bDig b, bCopy b, nI nk, bThere b) else b
def sPack (B : List sB) (nk : Nat) : Int32 × List sB × Nat := if nk < 12 ∧ B.any (fun b => bThere b && decide (bPack b = -1)) = true then (nI nk, B.map (pkF nk), nk + 1) else (-1, B, nk)
section CUT
variable {l : Launch} {D : va_G} {ρ : xR} {M : List xCl} {d kc ks : Nat} {own : Nat → Nat × Nat} {m t sh pa ba ra : Nat} {A : List xCl} {PA BA : List Nat} {room : Nat} {P : List sP} {es : List Nat} {pb : Nat → List Int32} {B : List sB} {act : List Int32} {nk : Nat}
theorem CI_act {act' : List Int32} {M : List xCl} (hC : CI M own m A t room P es pb B act nk) (hl : act'.length = 20) {ra' : Nat} {v1 v2 v3 : Value} {i1 i2 i3 i4 : Int32} (hT' : M[t]? = some (cO 0 [v1, v2, v3, .ref ra', .int i1, .int i2, .int i3, .int i4])) : CI (M.set ra' (cI act')) own m A t room P es pb B act' nk := by
  obtain ⟨hI, sh, pa, ba, ra, PA, BA, hT, hP, hB, hR, hS, hM⟩ := hC
  rw [hT] at hT'
  cases hT'
  have f : fr [1007] M (M.set ra' (cI act')) own own := fr_setI 7 hR.2 (by rw [hR.1]) (by decide)
  exact ⟨⟨hI.1, hI.2.1, hI.2.2.1, hl, hI.2.2.2.2⟩, sh, pa, ba, ra', PA, BA, fr_atk 0 f hT rfl (by decide) (by decide), cPs_fr hP f (by decide) (by decide) (by decide), cBs_fr hB f (by decide) (by decide) (by decide) (by decide), ⟨hR.1, xset_eq hR.2⟩, cShelf_fr hS f (by decide) (by decide) (by decide) (by decide) (by decide), cMo_fr hM f (by decide) (by decide) (by decide) (by decide)⟩
theorem k_cut {v keep : Int32} (hC : CI M own m A t room P es pb B act nk) (hd : 6 ≤ d) :
    Xw l D ρ m_ContentStore_cut 0 [(0, .ref t), (1, .int v), (2, .int keep)] [] M d kc ks (fun r N => r = some (.int (sCut es B act nk v keep).1) ∧ ∃ own', CI N own' m A t room P (sCut es B act nk v keep).2.1 pb (sCut es B act nk v keep).2.2.1 (sCut es B act nk v keep).2.2.2 nk) := by
  obtain ⟨hI0, sh0, pa0, ba0, ra0, PA0, BA0, hT0, -⟩ := id hC
  have h60 : B.length ≤ 60 := hC.1.2.2.1.1
  have h12 : nk ≤ 12 := hI0.2.2.2.2
  have fin : ∀ w', w' = (((-1 : Int32)), es, B, act) → Xw l D ρ m_ContentStore_cut 16 [] [] M d kc ks (fun r N => r = some (.int w'.1) ∧ ∃ own', CI N own' m A t room P w'.2.1 pb w'.2.2.1 w'.2.2.2 nk) := fun w' hw => by
    subst hw
    exact b_ContentStore_cut_16 ⟨rfl, own, hC⟩
  rcases inb_cases v (n := nk) (by omega) with ⟨g1, g2⟩ | ⟨p, g1, rfl, g3⟩
  · have hw : sCut es B act nk v keep = (-1, es, B, act) := by rw [sCut, g1]
    refine b_ContentStore_cut_0 (fun _ => fin _ hw) (fun c => b_ContentStore_cut_4 hT0 (fun _ => fin _ hw) (fun c2 => ?_))
    rcases g2 with g2 | ⟨-, g2⟩
    · exact absurd g2 c
    · exact absurd g2 c2
  · refine b_ContentStore_cut_0 (fun c => absurd c (nI_pos (by omega))) (fun _ => b_ContentStore_cut_4 hT0 (fun c => absurd c (nI_ge g1 (by omega))) (fun _ => b_ContentStore_cut_12 (fun c => ?_) (fun c => ?_)))
    · obtain ⟨kp, hkp, rfl⟩ := nI_of (Int32.not_lt.mpr c)
      have hw : sCut es B act nk (nI p) (nI kp) = (nI (ctF (nI p) kp B act B.length).1, keptE es (cnt (ctF (nI p) kp B act B.length).2.2.1), (ctF (nI p) kp B act B.length).2.2.1, (ctF (nI p) kp B act B.length).2.2.2) := by
        rw [sCut, g3]
        simp only [nI_clamp hkp]
        exact if_neg (nI_pos hkp)
      rw [hw]
      refine b_ContentStore_cut_18 ?_
      have hall : keptE es (cnt B) = es := keptE_all (fun x hx => (hC.1.1.2.2.2 x hx).1)
      have loop : ∀ (n k : Nat) (N : List xCl), k + n = B.length → (ctF (nI p) kp B act k).2.1 ≤ 96 * k → CI N own m A t room P (keptE es (cnt (ctF (nI p) kp B act k).2.2.1)) pb (ctF (nI p) kp B act k).2.2.1 (ctF (nI p) kp B act k).2.2.2 nk → Xw l D ρ m_ContentStore_cut 26 [(0, .ref t), (1, .int (nI p)), (2, .int (nI kp)), (3, .int (nI (ctF (nI p) kp B act k).1)), (4, .int (nI (ctF (nI p) kp B act k).2.1)), (5, .int (nI k))] [] N d kc ks (fun r N => r = some (.int (nI (ctF (nI p) kp B act B.length).1)) ∧ ∃ own', CI N own' m A t room P (keptE es (cnt (ctF (nI p) kp B act B.length).2.2.1)) pb (ctF (nI p) kp B act B.length).2.2.1 (ctF (nI p) kp B act B.length).2.2.2 nk) := by
        intro n
        induction n with
        | zero =>
          intro k N hk hrc hC
          obtain ⟨hI, sh, pa, ba, ra, PA, BA, hT, hP, hB, hR, hS, hM⟩ := id hC
          have hl := ctF_len (nI p) kp B act k
          obtain rfl : k = B.length := by omega
          exact b_ContentStore_cut_26 hT (fun _ => b_ContentStore_cut_94 ⟨rfl, own, hC⟩) (fun c => absurd (nI_le (by omega) (by omega)) c)
        | succ n ih =>
          intro k N hk hrc hC
          obtain ⟨hI, sh, pa, ba, ra, PA, BA, hT, hP, hB, hR, hS, hM⟩ := id hC
          have hl := ctF_len (nI p) kp B act k
          have hlt : k < (ctF (nI p) kp B act k).2.2.1.length := by omega
          have hb : (ctF (nI p) kp B act k).2.2.1[k]? = some (ctF (nI p) kp B act k).2.2.1[k] := List.getElem?_eq_getElem hlt
          have hO := bOK_at hI hb
          obtain ⟨a, ha, ⟨s1, pr, cq, s2, s3, s4⟩, h2⟩ := adB_at hB hb
          refine b_ContentStore_cut_26 hT (fun c => absurd c (nI_ge (by omega) (by omega))) (fun _ => ?_)
          refine b_ContentStore_cut_35 (cd1 := 0) (ckc1 := 0) (cks1 := 0) (ckc2 := kc) (cks2 := ks) (by omega) (by omega) (by omega) hT (c_blobAt hT hB) (fun r N' h => ?_)
          obtain ⟨rfl, rfl⟩ := h
          rw [h2]
          have hno : (bThere (ctF (nI p) kp B act k).2.2.1[k] && decide (bPack (ctF (nI p) kp B act k).2.2.1[k] = nI p)) = false → Xw l D ρ m_ContentStore_cut 88 [(0, .ref t), (1, .int (nI p)), (2, .int (nI kp)), (3, .int (nI (ctF (nI p) kp B act k).1)), (4, .int (nI (ctF (nI p) kp B act k).2.1)), (5, .int (nI k))] [] N' d kc ks (fun r N => r = some (.int (nI (ctF (nI p) kp B act B.length).1)) ∧ ∃ own', CI N own' m A t room P (keptE es (cnt (ctF (nI p) kp B act B.length).2.2.1)) pb (ctF (nI p) kp B act B.length).2.2.1 (ctF (nI p) kp B act B.length).2.2.2 nk) := by
            intro hc
            refine b_ContentStore_cut_88 ?_
            rw [nI_1]
            have he : ctF (nI p) kp B act (k + 1) = ctF (nI p) kp B act k := by
              rw [ctF, hb]
              simp only [hc]
              rfl
            have := ih (k + 1) N' (by omega) (by rw [he]; omega) (by rw [he]; exact hC)
            rw [he] at this
            exact this
          cases ht : bThere (ctF (nI p) kp B act k).2.2.1[k] with
          | false => exact b_ContentStore_cut_41_z (hno (by rw [ht]; rfl))
          | true =>
            refine b_ContentStore_cut_41 (b_ContentStore_cut_48 s2 (fun c => ?_) (fun c => ?_))
            · exact hno (by rw [decide_eq_false c]; simp)
            · have hcut : (bThere (ctF (nI p) kp B act k).2.2.1[k] && decide (bPack (ctF (nI p) kp B act k).2.2.1[k] = nI p)) = true := by rw [ht, decide_eq_true c]; rfl
              have hO1 := hO.1
              refine b_ContentStore_cut_57 s2 (fun c2 => ?_) (fun c2 => ?_)
              · rw [nI_add] at c2 ⊢
                have hle : (ctF (nI p) kp B act k).2.1 + bLen (ctF (nI p) kp B act k).2.2.1[k] ≤ kp := (nI_leI (by omega) hkp).mp c2
                have he : ctF (nI p) kp B act (k + 1) = ((ctF (nI p) kp B act k).1, (ctF (nI p) kp B act k).2.1 + bLen (ctF (nI p) kp B act k).2.2.1[k], (ctF (nI p) kp B act k).2.2.1, (ctF (nI p) kp B act k).2.2.2) := by
                  rw [ctF, hb]
                  simp only [hcut, if_true]
                  exact if_pos hle
                refine b_ContentStore_cut_88 ?_
                rw [nI_1]
                have := ih (k + 1) N' (by omega) (by rw [he]; show _ + _ ≤ _; omega) (by rw [he]; exact hC)
                rw [he] at this
                exact this
              · rw [nI_add] at c2 ⊢
                have hle : ¬ (ctF (nI p) kp B act k).2.1 + bLen (ctF (nI p) kp B act k).2.2.1[k] ≤ kp := fun z => c2 (nI_le z hkp)
                have he : ctF (nI p) kp B act (k + 1) = ((ctF (nI p) kp B act k).1 + 1, (ctF (nI p) kp B act k).2.1 + bLen (ctF (nI p) kp B act k).2.2.1[k], (ctF (nI p) kp B act k).2.2.1.set k (bGone (ctF (nI p) kp B act k).2.2.1[k]), fgt (ctF (nI p) kp B act k).2.2.2 (nI k)) := by
                  rw [ctF, hb]
                  simp only [hcut, if_true]
                  exact if_neg hle
                refine b_ContentStore_cut_73 (cd1 := 5) (ckc1 := 0) (cks1 := 0) (ckc2 := kc) (cks2 := ks) trivial (by omega) (by omega) (by omega) hT (c_letGo hI hT hP hB hR hS hM hb ha ht (by omega)) (fun r N3 h => ?_)
                obtain ⟨rfl, r1⟩ := h
                obtain ⟨hI3, sh3, pa3, ba3, ra3, PA3, BA3, hT3, hP3, hB3, hR3, hS3, hM3⟩ := id r1
                refine b_ContentStore_cut_79 (cd1 := 0) (ckc1 := 0) (cks1 := 0) (ckc2 := kc) (cks2 := ks) (by omega) (by omega) (by omega) hT3 (c_forget hT3 hR3.2 (by have := hI3.2.2.2.1; omega)) (fun r N4 h => ?_)
                obtain ⟨rfl, rfl⟩ := h
                have r2 := CI_act (act' := fgt (ctF (nI p) kp B act k).2.2.2 (nI k)) r1 (by unfold fgt; rw [List.length_map]; exact hI3.2.2.2.1) hT3
                refine b_ContentStore_cut_85 (b_ContentStore_cut_88 ?_)
                rw [nI_1, nI_1]
                have := ih (k + 1) _ (by omega) (by rw [he]; show _ + _ ≤ _; omega) (by
                  rw [he]
                  rw [keptE_keptE (fun x => cnt_gone_le hb x)] at r2
                  exact r2)
                rw [he] at this
                exact this
      refine loop B.length 0 M (by omega) (Nat.zero_le _) ?_
      show CI M own m A t room P (keptE es (cnt B)) pb B act nk
      rw [hall]
      exact hC
    · refine fin _ ?_
      rw [sCut, g3]
      exact if_pos (Int32.not_le.mp c)
theorem trm_pk (nk : Nat) (b : sB) (x : Nat) : trm (pkF nk b) x = trm b x := by
  unfold pkF
  split
  · rfl
  · rfl
theorem cnt_pk (nk : Nat) (B : List sB) (x : Nat) : cnt (B.map (pkF nk)) x = cnt B x := by
  unfold cnt
  rw [List.map_map]
  congr 1
  exact List.map_congr_left fun b _ => trm_pk nk b x
theorem SI_pack (hI : SI room P es pb B act nk) (hn : nk < 12) : SI room P es pb (B.map (pkF nk)) act (nk + 1) := by
  obtain ⟨⟨h1, h2, h3, h4⟩, h5, ⟨h6, h7⟩, h8, h9⟩ := hI
  refine ⟨⟨h1, h2, h3, fun x hx => by rw [cnt_pk]; exact h4 x hx⟩, h5, ⟨by rw [List.length_map]; exact h6, fun c hc => ?_⟩, h8, by omega⟩
  obtain ⟨b, hb, rfl⟩ := List.mem_map.mp hc
  obtain ⟨g1, g2, g3, g4⟩ := h7 b hb
  unfold pkF
  split
  · exact ⟨g1, g2, g3, fun ht => ⟨(g4 ht).1, (g4 ht).2.1, Or.inr ⟨nk, by omega, rfl⟩⟩⟩
  · refine ⟨g1, g2, g3, fun ht => ⟨(g4 ht).1, (g4 ht).2.1, ?_⟩⟩
    rcases (g4 ht).2.2 with z | ⟨p, z1, z2⟩
    · exact Or.inl z
    · exact Or.inr ⟨p, by omega, z2⟩
theorem any_take1 {α : Type} {f : α → Bool} {L : List α} {k : Nat} {b : α} (h : L[k]? = some b) : (L.take (k + 1)).any f = ((L.take k).any f || f b) := by
  obtain ⟨h1, h2⟩ := List.getElem?_eq_some_iff.mp h
  rw [List.take_succ_eq_append_getElem h1, List.any_append, h2]
  simp
theorem k_pack (hC : CI M own m A t room P es pb B act nk) (hd : 1 ≤ d) :
    Xw l D ρ m_ContentStore_pack 0 [(0, .ref t)] [] M d kc ks (fun r N => r = some (.int (sPack B nk).1) ∧ ∃ own', CI N own' m A t room P es pb (sPack B nk).2.1 act (sPack B nk).2.2) := by
  obtain ⟨hI0, sh, pa, ba, ra, PA, BA, hT0, hP0, hB0, hR0, hS0, hM0⟩ := id hC
  have h60 : B.length ≤ 60 := hC.1.2.2.1.1
  have h12 : nk ≤ 12 := hI0.2.2.2.2
  refine b_ContentStore_pack_0 hT0 (fun c => ?_) (fun c => ?_)
  · have hn : nk < 12 := (nI_ltI (by omega) (by decide)).mp c
    refine b_ContentStore_pack_11 trivial ?_
    have hbk : ∀ k, ((B.take k).map (pkF nk) ++ B.drop k).length = B.length := fun k => by
      rw [List.length_append, List.length_map, List.length_take, List.length_drop]
      omega
    have loop : ∀ (n k : Nat) (N : List xCl), k + n = B.length → N[t]? = some (tpC sh pa ba ra P B nk) → cPs N own pa PA P → cBs N own ba BA ((B.take k).map (pkF nk) ++ B.drop k) → cRs N own ra act → cShelf N own sh room es pb (cnt B) → cMo N own m A → Xw l D ρ m_ContentStore_pack 15 [(0, .ref t), (1, .int (i2b ((B.take k).any (fun b => bThere b && decide (bPack b = -1))))), (2, .int (nI k))] [] N d kc ks (fun r N => r = some (.int (sPack B nk).1) ∧ ∃ own', CI N own' m A t room P es pb (sPack B nk).2.1 act (sPack B nk).2.2) := by
      intro n
      induction n with
      | zero =>
        intro k N hk hT hP hB hR hS hM
        refine b_ContentStore_pack_15 hT (fun _ => ?_) (fun c => absurd (nI_le (by omega) (by omega)) c)
        rw [List.take_of_length_le (by omega), List.drop_eq_nil_of_le (by omega), List.append_nil] at hB
        rw [List.take_of_length_le (by omega)]
        refine b_ContentStore_pack_57 (fun c => ?_) (fun c => ?_)
        · have hany := i2b_t c
          have hw : sPack B nk = (nI nk, B.map (pkF nk), nk + 1) := if_pos ⟨hn, hany⟩
          rw [hw]
          refine b_ContentStore_pack_63 hT ⟨?_, own, SI_pack hI0 hn, sh, pa, ba, ra, PA, BA, ?_⟩
          · rw [nI_1, nI_pred]
          · have g : fr [0] N (N.set t (tpC sh pa ba ra P (B.map (pkF nk)) (nk + 1))) own own := fr_setk 0 hT rfl (by decide) (by decide)
            have e : (cO 0 [.ref sh, .ref pa, .ref ba, .ref ra, .int (nI P.length), .int (nI (openN P)), .int (nI B.length), .int (nI nk + 1)] : xCl) = tpC sh pa ba ra P (B.map (pkF nk)) (nk + 1) := by
              show _ = cO 0 _
              rw [nI_1, List.length_map]
            rw [e]
            exact ⟨xset_eq hT, cPs_fr hP g (by decide) (by decide) (by decide), cBs_fr hB g (by decide) (by decide) (by decide) (by decide), cRs_fr hR g (by decide), cShelf_hold (cShelf_fr hS g (by decide) (by decide) (by decide) (by decide) (by decide)) (fun x _ => cnt_pk nk B x), cMo_fr hM g (by decide) (by decide) (by decide) (by decide)⟩
        · have hany := i2b_0.mp c
          have hw : sPack B nk = (-1, B, nk) := if_neg (fun z => by rw [hany] at z; exact absurd z.2 (by decide))
          have hsame : B.map (pkF nk) = B := by
            have : B.map (pkF nk) = B.map id := List.map_congr_left fun b hb => by
              have h9 := List.any_eq_false.mp hany b hb
              unfold pkF
              rw [if_neg h9]
              rfl
            rw [this, List.map_id]
          rw [hw]
          rw [hsame] at hB
          exact b_ContentStore_pack_61 ⟨rfl, own, hI0, sh, pa, ba, ra, PA, BA, hT, hP, hB, hR, hS, hM⟩
      | succ n ih =>
        intro k N hk hT hP hB hR hS hM
        have hlt : k < B.length := by omega
        have hb0 : B[k]? = some B[k] := List.getElem?_eq_getElem hlt
        obtain ⟨m1, hb⟩ := mapset (pkF nk) hb0
        obtain ⟨a, ha, ⟨s1, pr, cq, s2, s3, s4⟩, h2⟩ := adB_at hB hb
        have hT2 : N[t]? = some (tpC sh pa ba ra P ((B.take k).map (pkF nk) ++ B.drop k) nk) := by
          show N[t]? = some (cO 0 _)
          rw [hbk]
          exact hT
        refine b_ContentStore_pack_15 hT (fun c => absurd c (nI_ge (by omega) (by omega))) (fun _ => ?_)
        refine b_ContentStore_pack_23 (cd1 := 0) (ckc1 := 0) (cks1 := 0) (ckc2 := kc) (cks2 := ks) (by omega) (by omega) (by omega) hT (c_blobAt hT2 hB) (fun r N' h => ?_)
        obtain ⟨rfl, rfl⟩ := h
        rw [h2]
        have hany := any_take1 (f := fun b => bThere b && decide (bPack b = -1)) hb0
        have hno : (bThere B[k] && decide (bPack B[k] = -1)) = false → Xw l D ρ m_ContentStore_pack 51 [(0, .ref t), (1, .int (i2b ((B.take k).any (fun b => bThere b && decide (bPack b = -1))))), (2, .int (nI k))] [] N' d kc ks (fun r N => r = some (.int (sPack B nk).1) ∧ ∃ own', CI N own' m A t room P es pb (sPack B nk).2.1 act (sPack B nk).2.2) := by
          intro hc
          refine b_ContentStore_pack_51 ?_
          have hsame : pkF nk B[k] = B[k] := by
            unfold pkF
            rw [hc]
            rfl
          have hB2 : cBs N' own ba BA ((B.take (k + 1)).map (pkF nk) ++ B.drop (k + 1)) := by
            rw [← m1, hsame, set_same hb]
            exact hB
          have := ih (k + 1) N' (by omega) hT hP hB2 hR hS hM
          rw [hany, hc, Bool.or_false] at this
          rw [nI_1]
          exact this
        cases ht : bThere B[k] with
        | false => exact b_ContentStore_pack_28_z (hno (by rw [ht]; rfl))
        | true =>
          refine b_ContentStore_pack_28 (b_ContentStore_pack_33 s2 (fun c => ?_) (fun c => ?_))
          · exact hno (by rw [decide_eq_false c]; simp)
          · have hyes : (bThere B[k] && decide (bPack B[k] = -1)) = true := by rw [ht, decide_eq_true c]; rfl
            have hpk : pkF nk B[k] = (bLen B[k], bIds B[k], bSum B[k], bDig B[k], bCopy B[k], nI nk, bThere B[k]) := by
              unfold pkF
              rw [if_pos hyes]
            refine b_ContentStore_pack_41 hT s2 (b_ContentStore_pack_51 ?_)
            have g : fr [4] N' (N'.set a (cO 4 [.int (nI (bLen B[k])), .int (bSum B[k]), .long (bDig B[k]), .ref pr, xrv cq, .int (nI nk), .int (i2b (bThere B[k]))])) own own := fr_setk 4 s2 rfl (by decide) (by decide)
            have hB2 : cBs (N'.set a (cO 4 [.int (nI (bLen B[k])), .int (bSum B[k]), .long (bDig B[k]), .ref pr, xrv cq, .int (nI nk), .int (i2b (bThere B[k]))])) own ba BA ((B.take (k + 1)).map (pkF nk) ++ B.drop (k + 1)) := by
              rw [← m1, hpk]
              exact cBs_obj (b' := (bLen B[k], bIds B[k], bSum B[k], bDig B[k], bCopy B[k], nI nk, bThere B[k])) hB ha hb s2 rfl s1 s3 s4
            have := ih (k + 1) _ (by omega) (fr_atk 0 g hT rfl (by decide) (by decide)) (cPs_fr hP g (by decide) (by decide) (by decide)) hB2 (cRs_fr hR g (by decide)) (cShelf_fr hS g (by decide) (by decide) (by decide) (by decide) (by decide)) (cMo_fr hM g (by decide) (by decide) (by decide) (by decide))
            rw [hany, hyes, Bool.or_true] at this
            rw [nI_1]
            exact this
    refine loop B.length 0 M (by omega) hT0 hP0 ?_ hR0 hS0 hM0
    simpa using hB0
  · have hw : sPack B nk = (-1, B, nk) := if_neg (fun z => c (nI_lt z.1 (by decide)))
    rw [hw]
    exact b_ContentStore_pack_9 ⟨rfl, own, hC⟩
end CUT
