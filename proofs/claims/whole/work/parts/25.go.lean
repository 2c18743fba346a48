/-! ADD, POISON, MIRROR; BLOBS GO: letGo, forget, sweep, cut; PACKS -/
def sAdd (P : List sP) (v : Int32) (w : Int64) (n : Int32) : Int32 × List sP := match opP P v with
  | some z => match inb n 9 with
    | some k => if 1 ≤ k ∧ z.2.2.2.1.length + k ≤ z.2.1 then (nI (z.2.2.2.1.length + k), P.set z.1 (z.2.1, z.2.2.1, z.2.2.2.1 ++ tb w k, true)) else (-1, P)
    | none => (-1, P)
  | none => (-1, P)
def pAlt (pb : Nat → List Int32) (x j : Nat) (y : Int32) : Nat → List Int32 := va_up pb x ((pb x).set j ((((pb x)[j]?).getD 0) ^^^ y))
def sPoison (pb : Nat → List Int32) (B : List sB) (v i mk : Int32) : Int32 × (Nat → List Int32) := match thB B v with
  | some z => match inb i (bLen z.2) with
    | some j => if mk &&& 255 = 0 then (0, pb) else match (bIds z.2)[j / 16]? with
      | some x => (1, pAlt pb x (j % 16) (mk &&& 255))
      | none => (0, pb)
    | none => (0, pb)
  | none => (0, pb)
def bMir (pb : Nat → List Int32) (b : sB) : sB := (bLen b, bIds b, bSum b, bDig b, some (bb pb (bIds b)), bPack b, bThere b)
def sMirror (pb : Nat → List Int32) (B : List sB) (v : Int32) : Int32 × List sB := match thB B v with
  | some z => (1, B.set z.1 (bMir pb z.2))
  | none => (0, B)
def bGone (b : sB) : sB := (bLen b, bIds b, bSum b, bDig b, bCopy b, bPack b, false)
section GO
variable {l : Launch} {D : va_G} {ρ : xR} {M : List xCl} {d kc ks : Nat} {own : Nat → Nat × Nat} {m t sh pa ba ra : Nat} {A : List xCl} {PA BA : List Nat} {room : Nat} {P : List sP} {es : List Nat} {pb : Nat → List Int32} {B : List sB} {act : List Int32} {nk : Nat}
theorem k_add {v n : Int32} {w : Int64} (hC : CI M own m A t room P es pb B act nk) (hd : 1 ≤ d) :
    Xw l D ρ m_ContentStore_add 0 [(0, .ref t), (1, .int v), (2, .long w), (4, .int n)] [] M d kc ks (fun r N => r = some (.int (sAdd P v w n).1) ∧ ∃ own', CI N own' m A t room (sAdd P v w n).2 es pb B act nk) := by
  obtain ⟨hI, sh, pa, ba, ra, PA, BA, hT, hP, hB, hR, hS, hM⟩ := id hC
  have fin : ∀ w', w' = (((-1 : Int32)), P) → Xw l D ρ m_ContentStore_add 35 [] [] M d kc ks (fun r N => r = some (.int w'.1) ∧ ∃ own', CI N own' m A t room w'.2 es pb B act nk) := fun w' hw => by
    subst hw
    exact b_ContentStore_add_35 ⟨rfl, own, hC⟩
  refine b_ContentStore_add_0 (cd1 := 0) (ckc1 := 0) (cks1 := 0) (ckc2 := kc) (cks2 := ks) (by omega) (by omega) (by omega) hT (c_openPut hT hP) (fun r N h => ?_)
  obtain ⟨rfl, rfl⟩ := h
  rcases vP hP v with ⟨h1, h2⟩ | ⟨i, p, a, h1, h2, -, h3, h4, h5, s1, b, s2, s3, s4⟩
  · rw [h2]
    exact b_ContentStore_add_5_z (fin _ (by rw [sAdd, h1]))
  · rw [h2]
    have hpo := hI.2.1.2.1 p (List.mem_of_getElem? h3)
    obtain ⟨told, x, bs, o⟩ := p
    have hp1 : bs.length ≤ told := hpo.1
    have hp2 : told ≤ 96 := hpo.2
    change N[a]? = some (cO 3 [.ref b, .long x, .int (nI bs.length), .int (i2b o)]) at s3
    change N[b]? = some (cI (bs ++ List.replicate (told - bs.length) 0)) at s4
    have hab : b ≠ a := fun z => by
      subst z
      rw [s1] at s2
      cases s2
    refine b_ContentStore_add_5 (b_ContentStore_add_12 (fun c => ?_) (fun c => b_ContentStore_add_18 (fun c2 => ?_) (fun c2 => ?_)))
    · refine fin _ ?_
      rw [sAdd, h1]
      rcases inb_cases n (n := 9) (by decide) with ⟨g1, -⟩ | ⟨k, g1, rfl, g3⟩
      · simp only [g1]
      · simp only [g3]
        have : k < 1 := (nI_ltI (by omega) (by decide)).mp c
        rw [if_neg (by omega)]
    · refine fin _ ?_
      rw [sAdd, h1]
      rcases inb_cases n (n := 9) (by decide) with ⟨g1, -⟩ | ⟨k, g1, rfl, g3⟩
      · simp only [g1]
      · have := (nI_ltI (a := 8) (by decide) (by omega)).mp c2
        omega
    · rcases inb_cases n (n := 9) (by decide) with ⟨g1, g2⟩ | ⟨k, g1, rfl, g3⟩
      · rcases g2 with g2 | ⟨-, g2⟩
        · exact absurd (Int32.lt_trans g2 (by decide)) c
        · exact absurd (Int32.lt_of_lt_of_le (show (8 : Int32) < nI 9 by decide) g2) c2
      · have hk1 : 1 ≤ k := by
          rcases Nat.lt_or_ge k 1 with z | z
          · exact absurd (nI_lt z (by decide)) c
          · exact z
        have hal : (bs ++ List.replicate (told - bs.length) (0 : Int32)).length = told := by rw [List.length_append, List.length_replicate]; omega
        refine b_ContentStore_add_25 (cd1 := 0) (ckc1 := 0) (cks1 := 0) (ckc2 := kc) (cks2 := ks) (by omega) (by omega) (by omega) s3 (c_lacking (o := 0) s3 s4 (by rw [hal]; exact hp1)) (fun r N h => ?_)
        obtain ⟨rfl, rfl⟩ := h
        rw [hal]
        refine b_ContentStore_add_32 (fun c3 => ?_) (fun c3 => ?_)
        · have hk2 : k ≤ told - bs.length := (nI_leI (by omega) (by omega)).mp c3
          have hw : sAdd P v w (nI k) = (nI (bs.length + k), P.set i (told, x, bs ++ tb w k, true)) := by
            rw [sAdd, h1]
            simp only [g3]
            exact if_pos ⟨hk1, by show bs.length + k ≤ told; omega⟩
          rw [hw]
          refine b_ContentStore_add_37 (cd1 := 0) (ckc1 := 0) (cks1 := 0) (ckc2 := kc) (cks2 := ks) (by omega) (by omega) (by omega) s3 (c_take hab s3 s4 hk2 (by omega)) (fun r N h => ?_)
          obtain ⟨rfl, rfl⟩ := h
          have hbl : (bs ++ tb w k).length = bs.length + k := by rw [List.length_append, tb_len]
          have hP2 := cPs_put (p' := (told, x, bs ++ tb w k, true)) hP h4 h3 s3 s4 s1 s2
          have hcell : (N.set b (cI ((bs ++ tb w k) ++ List.replicate (told - bs.length - k) 0))).set a (cO 3 [.ref b, .long x, .int (nI (bs.length + k)), .int (i2b o)]) = (N.set b (cI ((told, x, bs ++ tb w k, true).2.2.1 ++ List.replicate ((told, x, bs ++ tb w k, true).1 - (told, x, bs ++ tb w k, true).2.2.1.length) 0))).set a (cO 3 [.ref b, .long (told, x, bs ++ tb w k, true).2.1, .int (nI (told, x, bs ++ tb w k, true).2.2.1.length), .int (i2b (told, x, bs ++ tb w k, true).2.2.2)]) := by
            have ho : o = true := h5
            simp only [hbl, ho]
            rw [show told - (bs.length + k) = told - bs.length - k by omega]
          have g := fr_tr (fr_setI (T := [3, 1002]) (own := own) 2 (c' := cI ((bs ++ tb w k) ++ List.replicate (told - bs.length - k) 0)) s4 (by rw [s2]) (by decide)) (fr_setk (T := [3, 1002]) 3 (c' := cO 3 [.ref b, .long x, .int (nI (bs.length + k)), .int (i2b o)]) (xset_ne s3 s4 rfl) rfl (by decide) (by decide))
          have hop : openN (P.set i (told, x, bs ++ tb w k, true)) = openN P := by
            have := openN_set (p' := (told, x, bs ++ tb w k, true)) h3
            rw [if_pos h5, if_pos rfl] at this
            omega
          refine b_ContentStore_add_45 (xset_eq (xset_ne s3 s4 rfl)) ⟨rfl, own, ⟨hI.1, ⟨by rw [List.length_set]; exact hI.2.1.1, fun q hq => ?_, by rw [hop]; exact hI.2.1.2.2⟩, hI.2.2⟩, sh, pa, ba, ra, PA, BA, ?_⟩
          · rcases mem_set_or hq with hq | hq
            · exact hI.2.1.2.1 q hq
            · rw [hq]
              exact ⟨by show (bs ++ tb w k).length ≤ told; omega, hp2⟩
          · refine ⟨?_, by rw [hcell]; exact hP2, cBs_fr hB g (by decide) (by decide) (by decide) (by decide), cRs_fr hR g (by decide), cShelf_fr hS g (by decide) (by decide) (by decide) (by decide) (by decide), cMo_fr hM g (by decide) (by decide) (by decide) (by decide)⟩
            rw [hop, List.length_set]
            exact fr_atk 0 g hT rfl (by decide) (by decide)
        · refine fin _ ?_
          rw [sAdd, h1]
          simp only [g3]
          refine if_neg (fun z => c3 (nI_le ?_ (by omega)))
          have z2 : bs.length + k ≤ told := z.2
          omega
theorem cShelf_byte {hold : Nat → Nat} {x q : Nat} {u : List Int32} {z0 : Int32} (h : cShelf M own sh room es pb hold) (hX : M[x]? = some (cO 5 [.ref q, .int z0])) (hq : M[q]? = some (cI (pb x))) (ho : own q = (6, x)) (hu : u.length = (pb x).length) : cShelf (M.set q (cI u)) own sh room es (va_up pb x u) hold := by
  obtain ⟨g1, g2, g3, al, g4, g5, g6⟩ := h
  have hlen : ∀ y, (va_up pb x u y).length = (pb y).length := fun y => by
    by_cases hyx : y = x
    · subst hyx
      rw [va_up_self, hu]
    · rw [va_up_ne _ _ hyx]
  have htot : tot (va_up pb x u) es = tot pb es := by
    unfold tot
    congr 1
    exact List.map_congr_left fun y _ => hlen y
  refine ⟨g1, by rw [htot]; exact g2, g3, al, by rw [htot]; exact xset_ne g4 hq rfl, ?_, fun y hy => ?_⟩
  · have f : fr [1006] M (M.set q (cI u)) own own := fr_setI 6 hq (by rw [ho]) (by decide)
    exact cAL_fr g5 f (by decide) (by decide)
  · obtain ⟨qy, t1, t2, t3, t4⟩ := g6 y hy
    rw [hlen y]
    refine ⟨qy, t1, xset_ne t2 hq rfl, ?_, t4⟩
    by_cases hyx : y = x
    · subst hyx
      rw [va_up_self]
      rw [hX] at t2
      cases t2
      exact xset_eq hq
    · rw [va_up_ne _ _ hyx]
      exact xset_at t3 (fun z => hyx (by
        subst z
        rw [ho] at t1
        cases t1
        rfl))
theorem SI_len {pb' : Nat → List Int32} (hI : SI room P es pb B act nk) (h : ∀ y, (pb' y).length = (pb y).length) : SI room P es pb' B act nk := by
  obtain ⟨⟨h1, h2, h3, h4⟩, h5, ⟨h6, h7⟩, h8⟩ := hI
  have htot : tot pb' es = tot pb es := by
    unfold tot
    congr 1
    exact List.map_congr_left fun y _ => h y
  refine ⟨⟨h1, by rw [htot]; exact h2, h3, fun x hx => by rw [h x]; exact h4 x hx⟩, h5, ⟨h6, fun b hb => ?_⟩, h8⟩
  obtain ⟨g1, g2, g3, g4⟩ := h7 b hb
  exact ⟨g1, g2, g3, fun ht => ⟨⟨(g4 ht).1.1, fun k x hk => by rw [h x]; exact (g4 ht).1.2 k x hk⟩, (g4 ht).2⟩⟩
theorem pAlt_len (pb : Nat → List Int32) (x j : Nat) (y : Int32) (z : Nat) : (pAlt pb x j y z).length = (pb z).length := by
  unfold pAlt
  by_cases hz : z = x
  · subst hz
    rw [va_up_self, List.length_set]
  · rw [va_up_ne _ _ hz]
theorem k_poison {v i mk : Int32} (hC : CI M own m A t room P es pb B act nk) (hd : 1 ≤ d) :
    Xw l D ρ m_ContentStore_poison 0 [(0, .ref t), (1, .int v), (2, .int i), (3, .int mk)] [] M d kc ks (fun r N => r = some (.int (sPoison pb B v i mk).1) ∧ ∃ own', CI N own' m A t room P es (sPoison pb B v i mk).2 B act nk) := by
  obtain ⟨hI, sh, pa, ba, ra, PA, BA, hT, hP, hB, hR, hS, hM⟩ := id hC
  have fin : ∀ w', w' = ((0 : Int32), pb) → Xw l D ρ m_ContentStore_poison 41 [] [] M d kc ks (fun r N => r = some (.int w'.1) ∧ ∃ own', CI N own' m A t room P es w'.2 B act nk) := fun w' hw => by
    subst hw
    exact b_ContentStore_poison_41 ⟨rfl, own, hC⟩
  refine b_ContentStore_poison_0 (cd1 := 0) (ckc1 := 0) (cks1 := 0) (ckc2 := kc) (cks2 := ks) (by omega) (by omega) (by omega) hT (c_blobAt hT hB) (fun r N h => ?_)
  obtain ⟨rfl, rfl⟩ := h
  rcases vB hB v with ⟨h1, h2⟩ | ⟨k, b, a, h1, h2, -, h3, -, h4, s1, pr, cq, s2, s3, -⟩
  · rw [h2]
    exact b_ContentStore_poison_5_z (b_ContentStore_poison_12 (b_ContentStore_poison_22_z (fin _ (by rw [sPoison, h1]))))
  · rw [h2]
    have hO := bOK_at hI h3
    refine b_ContentStore_poison_5 ?_
    refine b_ContentStore_poison_16 (cd1 := 0) (ckc1 := 0) (cks1 := 0) (ckc2 := kc) (cks2 := ks) (by omega) (by omega) (by omega) s2 (c_partOf s2 s3 (hO.2.2.2 h4).1.1 hO.1) (fun r N h => ?_)
    obtain ⟨rfl, rfl⟩ := h
    rcases ptO_v hO h4 i with ⟨g1, g2⟩ | ⟨j, x, w, g1, g2, rfl, g3, g4, g5, g6, g7⟩
    · rw [g2]
      refine b_ContentStore_poison_22_z (fin _ ?_)
      rw [sPoison, h1]
      simp only [g1]
    · rw [g2]
      refine b_ContentStore_poison_22 (b_ContentStore_poison_36 (fun c => ?_) (fun c => ?_))
      · have hw : sPoison pb B v (nI j) mk = (1, pAlt pb x (j % 16) (mk &&& 255)) := by
          rw [sPoison, h1]
          simp only [g1, g4]
          exact if_neg c
        rw [hw]
        obtain ⟨-, -, -, al, -, -, hp⟩ := id hS
        obtain ⟨q, t1, t2, t3, t4, t5⟩ := hp x g5
        have hl96 := hO.1
        refine b_ContentStore_poison_43 (cd1 := 0) (ckc1 := 0) (cks1 := 0) (ckc2 := kc) (cks2 := ks) (Q1 := fun r N' => r = some (.int 1) ∧ N' = N.set q (cI ((pb x).set (j % 16) (w ^^^ (mk &&& 255))))) (by omega) (by omega) (by omega) t2 ?_ (fun r N' h => ?_)
        · rw [show (16 : Int32) = nI 16 from rfl, pk_rem (by omega) (by omega) (by omega)]
          exact c_alter t2 t3 (by omega) g6
        · obtain ⟨rfl, rfl⟩ := h
          refine b_ContentStore_poison_54 ⟨rfl, own, SI_len hI (pAlt_len pb x (j % 16) _), sh, pa, ba, ra, PA, BA, ?_⟩ (by decide)
          have g : fr [1006] N (N.set q (cI ((pb x).set (j % 16) (w ^^^ (mk &&& 255))))) own own := fr_setI 6 t3 (by rw [t1]) (by decide)
          refine ⟨fr_atk 0 g hT rfl (by decide) (by decide), cPs_fr hP g (by decide) (by decide) (by decide), cBs_fr hB g (by decide) (by decide) (by decide) (by decide), cRs_fr hR g (by decide), ?_, cMo_fr hM g (by decide) (by decide) (by decide) (by decide)⟩
          have hsh := cShelf_byte (u := (pb x).set (j % 16) (w ^^^ (mk &&& 255))) hS t2 t3 t1 (by rw [List.length_set])
          have he : pAlt pb x (j % 16) (mk &&& 255) = va_up pb x ((pb x).set (j % 16) (w ^^^ (mk &&& 255))) := by
            unfold pAlt
            rw [g6]
            rfl
          rw [he]
          exact hsh
      · refine fin _ ?_
        rw [sPoison, h1]
        simp only [g1]
        exact if_pos c
/-- a blob changes, but not which parts it has -/
theorem SI_setB {k : Nat} {b b' : sB} (hI : SI room P es pb B act nk) (hb : B[k]? = some b) (ht : ∀ x, trm b' x = trm b x) (hO : bOK es pb nk b') : SI room P es pb (B.set k b') act nk := by
  obtain ⟨⟨h1, h2, h3, h4⟩, h5, ⟨h6, h7⟩, h8⟩ := hI
  refine ⟨⟨h1, h2, h3, fun x hx => ?_⟩, h5, ⟨by rw [List.length_set]; exact h6, fun c hc => ?_⟩, h8⟩
  · have := cnt_set x B k b b' hb
    rw [ht x] at this
    have h9 := h4 x hx
    exact ⟨by omega, h9.2⟩
  · rcases mem_set_or hc with hc | hc
    · exact h7 c hc
    · rw [hc]; exact hO
theorem cnt_same {k : Nat} {b b' : sB} (hb : B[k]? = some b) (ht : ∀ x, trm b' x = trm b x) : ∀ x, cnt (B.set k b') x = cnt B x := fun x => by
  have := cnt_set x B k b b' hb
  rw [ht x] at this
  omega
theorem k_mirror {v : Int32} (hC : CI M own m A t room P es pb B act nk) (hd : 2 ≤ d) (hkc : 1 ≤ kc) (hks : 96 ≤ ks) :
    Xw l D ρ m_ContentStore_mirror 0 [(0, .ref t), (1, .int v)] [] M d kc ks (fun r N => r = some (.int (sMirror pb B v).1) ∧ ∃ own', CI N own' m A t room P es pb (sMirror pb B v).2 act nk) := by
  obtain ⟨hI, sh, pa, ba, ra, PA, BA, hT, hP, hB, hR, hS, hM⟩ := id hC
  refine b_ContentStore_mirror_0 (cd1 := 0) (ckc1 := 0) (cks1 := 0) (ckc2 := kc) (cks2 := ks) (by omega) (by omega) (by omega) hT (c_blobAt hT hB) (fun r N h => ?_)
  obtain ⟨rfl, rfl⟩ := h
  rcases vB hB v with ⟨h1, h2⟩ | ⟨k, b, a, h1, h2, -, h3, h9, h4, s1, pr, cq, s2, s3, s4⟩
  · rw [h2, sMirror, h1]
    exact b_ContentStore_mirror_5_z (b_ContentStore_mirror_10 ⟨rfl, own, hC⟩)
  · rw [h2, sMirror, h1]
    have hO := bOK_at hI h3
    obtain ⟨-, -, -, al, -, -, hp⟩ := id hS
    have hSI : SI room P es pb (B.set k (bMir pb b)) act nk := SI_setB hI h3 (fun x => rfl) ⟨hO.1, fun c hc => by cases hc; exact bb_len (hO.2.2.2 h4).1, hO.2.2.1, hO.2.2.2⟩
    have hcn := cnt_same (b' := bMir pb b) h3 (fun x => rfl)
    refine b_ContentStore_mirror_5 ?_
    rcases s4 with ⟨s4, s5⟩ | ⟨q, c, t1, t2, t3, t4⟩
    · subst s4
      refine b_ContentStore_mirror_12 (cd1 := 1) (ckc1 := 1) (cks1 := 96) (ckc2 := 0) (cks2 := 0) (by omega) (by omega) (by omega) s2 (c_copyBytes (cq := none) s2 (fun z hz => by cases hz) s3 hp (hO.2.2.2 h4).2.1 (hO.2.2.2 h4).1 hO.1 (by omega) (by omega) (by omega)) (fun r N' h => ?_)
      obtain ⟨rfl, rfl⟩ := h
      refine b_ContentStore_mirror_16 ⟨rfl, va_up own N.length (5, k), hSI, sh, pa, ba, ra, PA, BA, ?_⟩
      have f : fr [4] N (N ++ [cI (bb pb (bIds b))]) own (va_up own N.length (5, k)) := fr_push _ _
      have g := fr_tr f (fr_setk (T := [4]) 4 (c' := cO 4 [.int (nI (bLen b)), .int (bSum b), .long (bDig b), .ref pr, .ref N.length, .int (bPack b), .int (i2b (bThere b))]) (xpush_at s2) rfl (by decide) (by decide))
      have hB1 := cBs_fr hB (fr_push (T := []) (cI (bb pb (bIds b))) (5, k)) (by decide) (by decide) (by decide) (by decide)
      have hB2 := cBs_obj (b' := bMir pb b) (pr := pr) (cq := some N.length) hB1 h9 h3 (xpush_at s2) rfl (by rw [va_up_ne _ _ (by have := xlt s2; omega)]; exact s1) (xpush_at s3) (Or.inr ⟨N.length, bb pb (bIds b), rfl, rfl, va_up_self _ _ _, xpush_last⟩)
      exact ⟨by rw [List.length_set]; exact fr_atk 0 g hT rfl (by decide) (by decide), cPs_fr hP g (by decide) (by decide) (by decide), hB2, cRs_fr hR g (by decide), cShelf_hold (cShelf_fr hS g (by decide) (by decide) (by decide) (by decide) (by decide)) (fun x _ => hcn x), cMo_fr hM g (by decide) (by decide) (by decide) (by decide)⟩
    · subst t1
      refine b_ContentStore_mirror_12 (cd1 := 1) (ckc1 := 1) (cks1 := 96) (ckc2 := 0) (cks2 := 0) (by omega) (by omega) (by omega) s2 (c_copyBytes (cq := some (q, c)) s2 (fun z hz => by cases hz; exact ⟨t4, hO.2.1 c t2, fun x hx => by rw [t3] at hx; cases hx⟩) s3 hp (hO.2.2.2 h4).2.1 (hO.2.2.2 h4).1 hO.1 (by omega) (by omega) (by omega)) (fun r N' h => ?_)
      obtain ⟨rfl, rfl⟩ := h
      refine b_ContentStore_mirror_16 ⟨rfl, own, hSI, sh, pa, ba, ra, PA, BA, ?_⟩
      have g : fr [1005] N (N.set q (cI (bb pb (bIds b)))) own own := fr_setI 5 t4 (by rw [t3]) (by decide)
      exact ⟨by rw [List.length_set]; exact fr_atk 0 g hT rfl (by decide) (by decide), cPs_fr hP g (by decide) (by decide) (by decide), cBs_copy hB h9 s2 t4 t3 h3, cRs_fr hR g (by decide), cShelf_hold (cShelf_fr hS g (by decide) (by decide) (by decide) (by decide) (by decide)) (fun x _ => hcn x), cMo_fr hM g (by decide) (by decide) (by decide) (by decide)⟩
end GO
