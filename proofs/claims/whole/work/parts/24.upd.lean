/-! THE CLASS'S CALLS THAT CHANGE LITTLE: count, begin, add, refer, poison, mirror -/
def dCount (es : List Nat) (pb : Nat → List Int32) (B : List sB) (v : Int32) : Int32 := if v < 0 then -1 else if v = 0 then nI es.length else if v = 1 then nI (tot pb es) else if v = 2 then nI (B.countP fun b => bThere b) else match thB B (v - 3) with
  | some z => match (bIds z.2)[0]? with
    | some x => nI (B.countP fun b => bThere b && decide (x ∈ bIds b))
    | none => -1
  | none => -1
theorem countP_take1 {α : Type} {f : α → Bool} {L : List α} {k : Nat} {b : α} (h : L[k]? = some b) : (L.take (k + 1)).countP f = (L.take k).countP f + (if f b then 1 else 0) := by
  obtain ⟨h1, h2⟩ := List.getElem?_eq_some_iff.mp h
  rw [List.take_succ_eq_append_getElem h1, List.countP_append, h2, List.countP_singleton]
theorem fr_atk (k : Nat) {T : List Nat} {M N : List xCl} {own own' : Nat → Nat × Nat} (h : fr T M N own own') {j : Nat} {c : xCl} (hj : M[j]? = some c) (hk : xkd c = k) (hne : k ≠ 100) (hT : k ∉ T) : N[j]? = some c := fr_at h hj (by rw [hk]; exact hne) (by rw [hk]; exact hT)
section UPD
variable {l : Launch} {D : va_G} {ρ : xR} {M : List xCl} {d kc ks : Nat} {own : Nat → Nat × Nat} {m t sh pa ba ra : Nat} {A : List xCl} {PA BA : List Nat} {room : Nat} {P : List sP} {es : List Nat} {pb : Nat → List Int32} {B : List sB} {act : List Int32} {nk : Nat}
/-- what blobAt tells of a blob that B has -/
theorem adB_at (hB : cBs M own ba BA B) {k : Nat} {b : sB} (hb : B[k]? = some b) : ∃ a, BA[k]? = some a ∧ cBlobA M own k a b ∧ adB BA B (nI k) = if bThere b then some a else none := by
  have hk : k < BA.length := by rw [hB.1]; exact (List.getElem?_eq_some_iff.mp hb).1
  have ha : BA[k]? = some BA[k] := List.getElem?_eq_getElem hk
  refine ⟨BA[k], ha, hB.2.2.2 k _ b ha hb, ?_⟩
  rw [adB, thB_nI hB.2.1 hb]
  cases bThere b with
  | true => exact ha
  | false => rfl
theorem c_blobsThere (hT : M[t]? = some (tpC sh pa ba ra P B nk)) (hB : cBs M own ba BA B) (hd : 1 ≤ d) :
    Xw l D ρ m_ContentStore_blobsThere 0 [(0, .ref t)] [] M d kc ks (fun r N => r = some (.int (nI (B.countP fun b => bThere b))) ∧ N = M) := by
  have h60 := hB.2.1
  refine b_ContentStore_blobsThere_0 trivial ?_
  have loop : ∀ (n k : Nat), k + n = B.length → Xw l D ρ m_ContentStore_blobsThere 4 [(0, .ref t), (1, .int (nI ((B.take k).countP fun b => bThere b))), (2, .int (nI k))] [] M d kc ks (fun r N => r = some (.int (nI (B.countP fun b => bThere b))) ∧ N = M) := by
    intro n
    induction n with
    | zero =>
      intro k hk
      refine b_ContentStore_blobsThere_4 hT (fun _ => b_ContentStore_blobsThere_29 ⟨?_, rfl⟩) (fun c => absurd (nI_le (by omega) (by omega)) c)
      rw [List.take_of_length_le (by omega)]
    | succ n ih =>
      intro k hk
      have hlt : k < B.length := by omega
      have hb : B[k]? = some B[k] := List.getElem?_eq_getElem hlt
      have hc := countP_take1 (f := fun b => bThere b) hb
      obtain ⟨a, -, -, h2⟩ := adB_at hB hb
      refine b_ContentStore_blobsThere_4 hT (fun c => absurd c (nI_ge (by omega) (by omega))) (fun _ => ?_)
      refine b_ContentStore_blobsThere_12 (cd1 := 0) (ckc1 := 0) (cks1 := 0) (ckc2 := kc) (cks2 := ks) (by omega) (by omega) (by omega) hT (c_blobAt hT hB) (fun r N h => ?_)
      obtain ⟨rfl, rfl⟩ := h
      rw [h2]
      have hn := ih (k + 1) (by omega)
      rw [hc] at hn
      cases ht : bThere B[k] with
      | true =>
        rw [if_pos ht] at hn
        refine b_ContentStore_blobsThere_17 (b_ContentStore_blobsThere_20 trivial (b_ContentStore_blobsThere_23 ?_))
        rw [nI_1, nI_1]
        exact hn
      | false =>
        rw [if_neg (by rw [ht]; decide)] at hn
        refine b_ContentStore_blobsThere_17_z (b_ContentStore_blobsThere_23 ?_)
        rw [nI_1]
        exact hn
  exact loop B.length 0 (by omega)
def dSharers (B : List sB) (v : Int32) : Int32 := match thB B v with
  | some z => match (bIds z.2)[0]? with
    | some x => nI (B.countP fun b => bThere b && decide (x ∈ bIds b))
    | none => -1
  | none => -1
theorem c_sharers {v : Int32} (hI : SI room P es pb B act nk) (hT : M[t]? = some (tpC sh pa ba ra P B nk)) (hB : cBs M own ba BA B) (hd : 1 ≤ d) :
    Xw l D ρ m_ContentStore_sharersOfFirst 0 [(0, .ref t), (1, .int v)] [] M d kc ks (fun r N => r = some (.int (dSharers B v)) ∧ N = M) := by
  have h60 := hB.2.1
  refine b_ContentStore_sharersOfFirst_0 (cd1 := 0) (ckc1 := 0) (cks1 := 0) (ckc2 := kc) (cks2 := ks) (by omega) (by omega) (by omega) hT (c_blobAt hT hB) (fun r N h => ?_)
  obtain ⟨rfl, rfl⟩ := h
  rcases vB hB v with ⟨h1, h2⟩ | ⟨k, b, a, h1, h2, -, h3, -, h4, s1, pr, cq, s2, s3, -⟩
  · rw [h2, dSharers, h1]
    exact b_ContentStore_sharersOfFirst_5_z (b_ContentStore_sharersOfFirst_10 (b_ContentStore_sharersOfFirst_19_z (b_ContentStore_sharersOfFirst_24 ⟨rfl, rfl⟩)))
  · rw [h2, dSharers, h1]
    have hO := bOK_at hI h3
    refine b_ContentStore_sharersOfFirst_5 ?_
    refine b_ContentStore_sharersOfFirst_14 (cd1 := 0) (ckc1 := 0) (cks1 := 0) (ckc2 := kc) (cks2 := ks) (by omega) (by omega) (by omega) s2 (c_partOf s2 s3 (hO.2.2.2 h4).1.1 hO.1) (fun r N h => ?_)
    obtain ⟨rfl, rfl⟩ := h
    show Xw _ _ _ _ _ _ _ _ _ _ _ (fun r N' => r = some (.int (match (bIds b)[0]? with | some x => nI (B.countP fun b => bThere b && decide (x ∈ bIds b)) | none => -1)) ∧ N' = N)
    rcases ptO_v hO h4 0 with ⟨g1, g2⟩ | ⟨j, x, w, g1, g2, g8, g3, g4, g5, g6, g7⟩
    · rw [g2]
      have h0 : (bIds b)[0]? = none := by
        apply List.getElem?_eq_none
        rw [(hO.2.2.2 h4).1.1]
        have hl := hO.1
        by_cases hz : bLen b = 0
        · rw [hz]; decide
        · have := inb_nI (k := 0) (n := bLen b) (by omega) (by omega)
          rw [show nI 0 = 0 from rfl, g1] at this
          cases this
      rw [h0]
      exact b_ContentStore_sharersOfFirst_19_z (b_ContentStore_sharersOfFirst_24 ⟨rfl, rfl⟩)
    · have hl := hO.1
      obtain rfl : j = 0 := ((nI_eq (by omega) (by decide)).mp (g8.symm.trans (show (0 : Int32) = nI 0 from rfl)))
      rw [g2, g4]
      refine b_ContentStore_sharersOfFirst_19 (b_ContentStore_sharersOfFirst_26 trivial ?_)
      have loop : ∀ (n k : Nat), k + n = B.length → Xw l D ρ m_ContentStore_sharersOfFirst 32 [(0, .ref t), (3, .ref x), (4, .int (nI ((B.take k).countP fun b => bThere b && decide (x ∈ bIds b)))), (5, .int (nI k))] [] N d kc ks (fun r N' => r = some (.int (nI (B.countP fun b => bThere b && decide (x ∈ bIds b)))) ∧ N' = N) := by
        intro n
        induction n with
        | zero =>
          intro k hk
          refine b_ContentStore_sharersOfFirst_32 hT (fun _ => b_ContentStore_sharersOfFirst_72 ⟨?_, rfl⟩) (fun c => absurd (nI_le (by omega) (by omega)) c)
          rw [List.take_of_length_le (by omega)]
        | succ n ih =>
          intro k hk
          have hlt : k < B.length := by omega
          have hb : B[k]? = some B[k] := List.getElem?_eq_getElem hlt
          have hc := countP_take1 (f := fun b => bThere b && decide (x ∈ bIds b)) hb
          obtain ⟨a', -, ⟨-, pr', cq', w2, w3, -⟩, h2⟩ := adB_at hB hb
          refine b_ContentStore_sharersOfFirst_32 hT (fun c => absurd c (nI_ge (by omega) (by omega))) (fun _ => ?_)
          refine b_ContentStore_sharersOfFirst_41 (cd1 := 0) (ckc1 := 0) (cks1 := 0) (ckc2 := kc) (cks2 := ks) (by omega) (by omega) (by omega) hT (c_blobAt hT hB) (fun r N' h => ?_)
          obtain ⟨rfl, rfl⟩ := h
          rw [h2]
          have hn := ih (k + 1) (by omega)
          rw [hc] at hn
          cases ht : bThere B[k] with
          | true =>
            rw [ht] at hn
            refine b_ContentStore_sharersOfFirst_47 ?_
            refine b_ContentStore_sharersOfFirst_54 (cd1 := 0) (ckc1 := 0) (cks1 := 0) (ckc2 := kc) (cks2 := ks) trivial (by omega) (by omega) (by omega) w2 (c_hasPart w2 w3 (by have := (bOK_at hI hb).2.2.1; omega)) (fun r N' h => ?_)
            obtain ⟨rfl, rfl⟩ := h
            cases hx : decide (x ∈ bIds B[k]) with
            | true =>
              rw [hx, if_pos (show (true && true) = true from rfl)] at hn
              refine b_ContentStore_sharersOfFirst_60 (fun c => absurd c (by decide)) (fun _ => b_ContentStore_sharersOfFirst_63 trivial (b_ContentStore_sharersOfFirst_66 ?_))
              rw [nI_1, nI_1]
              exact hn
            | false =>
              rw [hx, if_neg (by decide)] at hn
              refine b_ContentStore_sharersOfFirst_60 (fun _ => b_ContentStore_sharersOfFirst_66 ?_) (fun c => absurd rfl c)
              rw [nI_1]
              exact hn
          | false =>
            rw [ht, if_neg (by simp)] at hn
            refine b_ContentStore_sharersOfFirst_47_z (b_ContentStore_sharersOfFirst_66 ?_)
            rw [nI_1]
            exact hn
      exact loop B.length 0 (by omega)
theorem k_count {v : Int32} (hC : CI M own m A t room P es pb B act nk) (hd : 2 ≤ d) :
    Xw l D ρ m_ContentStore_count 0 [(0, .ref t), (1, .int v)] [] M d kc ks (fun r N => r = some (.int (dCount es pb B v)) ∧ N = M) := by
  obtain ⟨hI, sh, pa, ba, ra, PA, BA, hT, hP, hB, hR, hS, hM⟩ := hC
  obtain ⟨-, -, -, al, k1, k2, -⟩ := id hS
  obtain ⟨k4, ed, mc, k5, k6⟩ := id k2
  refine b_ContentStore_count_0 (fun c => ?_) (fun c => ?_)
  · have hneg : ¬ v < 0 := Int32.not_lt.mpr c
    rw [dCount, if_neg hneg]
    refine b_ContentStore_count_6 (fun e => ?_) (fun e => ?_) (fun e => ?_) (fun e => ?_)
    · rw [if_pos e]
      refine b_ContentStore_count_32 (cd1 := 0) (ckc1 := 0) (cks1 := 0) (ckc2 := kc) (cks2 := ks) hT k1 (by omega) (by omega) (by omega) k5 (c_size k2) (fun r N h => ?_)
      obtain ⟨rfl, rfl⟩ := h
      exact b_ContentStore_count_42 ⟨rfl, rfl⟩
    · rw [if_neg (by rw [e]; decide), if_pos e]
      exact b_ContentStore_count_43 hT k1 ⟨rfl, rfl⟩
    · rw [if_neg (by rw [e]; decide), if_neg (by rw [e]; decide), if_pos e]
      refine b_ContentStore_count_51 (cd1 := 1) (ckc1 := 0) (cks1 := 0) (ckc2 := kc) (cks2 := ks) (by omega) (by omega) (by omega) hT (c_blobsThere hT hB (by omega)) (fun r N h => ?_)
      obtain ⟨rfl, rfl⟩ := h
      exact b_ContentStore_count_55 ⟨rfl, rfl⟩
    · rw [if_neg (fun z => by rw [z] at e; exact absurd e (by decide)), if_neg (fun z => by rw [z] at e; exact absurd e (by decide)), if_neg (fun z => by rw [z] at e; exact absurd e (by decide))]
      refine b_ContentStore_count_56 (cd1 := 1) (ckc1 := 0) (cks1 := 0) (ckc2 := kc) (cks2 := ks) (by omega) (by omega) (by omega) hT (c_sharers hI hT hB (by omega)) (fun r N h => ?_)
      obtain ⟨rfl, rfl⟩ := h
      exact b_ContentStore_count_63 ⟨rfl, rfl⟩
  · have hneg : v < 0 := Int32.not_le.mp c
    rw [dCount, if_pos hneg]
    exact b_ContentStore_count_4 ⟨rfl, rfl⟩
def sRefer (B : List sB) (act : List Int32) (v b : Int32) : Int32 × List Int32 := match inb v 20 with
  | some i => if b = -1 ∨ (thB B b).isSome = true then (1, act.set i b) else (0, act)
  | none => (0, act)
theorem k_refer {v b : Int32} (hC : CI M own m A t room P es pb B act nk) (hd : 1 ≤ d) :
    Xw l D ρ m_ContentStore_refer 0 [(0, .ref t), (1, .int v), (2, .int b)] [] M d kc ks (fun r N => r = some (.int (sRefer B act v b).1) ∧ ∃ own', CI N own' m A t room P es pb B (sRefer B act v b).2 nk) := by
  obtain ⟨hI, sh, pa, ba, ra, PA, BA, hT, hP, hB, hR, hS, hM⟩ := id hC
  have h20 : act.length = 20 := hI.2.2.2.1
  rcases inb_cases v (n := 20) (by decide) with ⟨g1, g2⟩ | ⟨j, g1, rfl, g3⟩
  · rw [sRefer, g1]
    have fin : Xw l D ρ m_ContentStore_refer 26 [] [] M d kc ks (fun r N => r = some (.int 0) ∧ ∃ own', CI N own' m A t room P es pb B act nk) := b_ContentStore_refer_26 ⟨rfl, own, hC⟩
    refine b_ContentStore_refer_0 (fun _ => fin) (fun c => b_ContentStore_refer_4 hT hR.2 (fun _ => fin) (fun c2 => ?_))
    rcases g2 with g2 | ⟨-, g2⟩
    · exact absurd g2 c
    · rw [h20] at c2
      exact absurd g2 c2
  · rw [sRefer, g3]
    have fin : (b = -1 ∨ (thB B b).isSome = true) → Xw l D ρ m_ContentStore_refer 28 [(0, .ref t), (1, .int (nI j)), (2, .int b)] [] M d kc ks (fun r N => r = some (.int (if b = -1 ∨ (thB B b).isSome = true then ((1 : Int32), act.set j b) else (0, act)).1) ∧ ∃ own', CI N own' m A t room P es pb B (if b = -1 ∨ (thB B b).isSome = true then ((1 : Int32), act.set j b) else (0, act)).2 nk) := by
      intro hyes
      rw [if_pos hyes]
      refine b_ContentStore_refer_28 hT hR.2 rfl (by omega) (by omega) ⟨rfl, own, ⟨hI.1, hI.2.1, hI.2.2.1, by rw [List.length_set]; exact h20, hI.2.2.2.2⟩, sh, pa, ba, ra, PA, BA, ?_⟩
      have f : fr [1007] M (M.set ra (cI (act.set j b))) own own := fr_setI 7 hR.2 (by rw [hR.1]) (by decide)
      exact ⟨fr_atk 0 f hT rfl (by decide) (by decide), cPs_fr hP f (by decide) (by decide) (by decide), cBs_fr hB f (by decide) (by decide) (by decide) (by decide), ⟨hR.1, xset_eq hR.2⟩, cShelf_fr hS f (by decide) (by decide) (by decide) (by decide) (by decide), cMo_fr hM f (by decide) (by decide) (by decide) (by decide)⟩
    refine b_ContentStore_refer_0 (fun c => absurd c (nI_pos (by omega))) (fun c => b_ContentStore_refer_4 hT hR.2 (fun c2 => absurd c2 (by rw [h20]; exact nI_ge g1 (by decide))) (fun _ => ?_))
    refine b_ContentStore_refer_13 (fun e => fin (Or.inl e)) (fun e => ?_)
    refine b_ContentStore_refer_18 (cd1 := 0) (ckc1 := 0) (cks1 := 0) (ckc2 := kc) (cks2 := ks) (by omega) (by omega) (by omega) hT (c_blobAt hT hB) (fun r N h => ?_)
    obtain ⟨rfl, rfl⟩ := h
    rcases vB hB b with ⟨h1, h2⟩ | ⟨k, b', a, h1, h2, -⟩
    · rw [h2]
      refine b_ContentStore_refer_23_z (b_ContentStore_refer_26 ?_)
      show _ = some (Value.int (if b = -1 ∨ (thB B b).isSome = true then ((1 : Int32), act.set j b) else (0, act)).1) ∧ _
      rw [if_neg (fun z => by rcases z with z | z; exact e z; rw [h1] at z; cases z)]
      refine ⟨rfl, own, ?_⟩
      show CI _ _ _ _ _ _ _ _ _ _ (if b = -1 ∨ (thB B b).isSome = true then ((1 : Int32), act.set j b) else (0, act)).2 _
      rw [if_neg (fun z => by rcases z with z | z; exact e z; rw [h1] at z; cases z)]
      exact hC
    · rw [h2]
      exact b_ContentStore_refer_23 (fin (Or.inr (by rw [h1]; rfl)))
def sBegin (P : List sP) (n : Int32) (x : Int64) : Int32 × List sP := match inb n 97 with
  | some k => if openN P < 4 ∧ P.length < 60 then (nI P.length, P ++ [(k, x, [], true)]) else (-1, P)
  | none => (-1, P)
theorem k_begin {n : Int32} {x : Int64} (hC : CI M own m A t room P es pb B act nk) (hd : 2 ≤ d) (hkc : 2 ≤ kc) (hks : 100 ≤ ks) :
    Xw l D ρ m_ContentStore_begin 0 [(0, .ref t), (1, .int n), (2, .long x)] [] M d kc ks (fun r N => r = some (.int (sBegin P n x).1) ∧ ∃ own', CI N own' m A t room (sBegin P n x).2 es pb B act nk) := by
  obtain ⟨hI, sh, pa, ba, ra, PA, BA, hT, hP, hB, hR, hS, hM⟩ := id hC
  have fin : ∀ w, w = (((-1 : Int32)), P) → Xw l D ρ m_ContentStore_begin 30 [] [] M d kc ks (fun r N => r = some (.int w.1) ∧ ∃ own', CI N own' m A t room w.2 es pb B act nk) := fun w hw => by
    subst hw
    exact b_ContentStore_begin_30 ⟨rfl, own, hC⟩
  rcases inb_cases n (n := 97) (by decide) with ⟨g1, g2⟩ | ⟨k, g1, rfl, g3⟩
  · have hw : sBegin P n x = (-1, P) := by rw [sBegin, g1]
    refine b_ContentStore_begin_0 (fun _ => fin _ hw) (fun c => b_ContentStore_begin_4 (fun _ => fin _ hw) (fun c2 => ?_))
    rcases g2 with g2 | ⟨-, g2⟩
    · exact absurd g2 c
    · exact absurd (Int32.lt_of_lt_of_le (show (96 : Int32) < nI 97 by decide) g2) c2
  · refine b_ContentStore_begin_0 (fun c => absurd c (nI_pos (by omega))) (fun c => b_ContentStore_begin_4 (fun c2 => ?_) (fun c2 => ?_))
    · rw [show (96 : Int32) = nI 96 from rfl] at c2
      have := (nI_ltI (by decide) (by omega)).mp c2
      omega
    have hop : openN P ≤ 4 := hI.2.1.2.2
    have hpl : P.length ≤ 60 := hI.2.1.1
    have hal := arr_len hP.1 hP.2.1
    refine b_ContentStore_begin_10 hT (fun c => ?_) (fun c => ?_)
    · refine fin _ ?_
      rw [show (4 : Int32) = nI 4 from rfl] at c
      have := (nI_leI (by decide) (by omega)).mp c
      rw [sBegin, g3]
      exact if_neg (by omega)
    have hop4 : openN P < 4 := by
      rw [show (4 : Int32) = nI 4 from rfl] at c
      rcases Nat.lt_or_ge (openN P) 4 with z | z
      · exact z
      · exact absurd (nI_le z (by omega)) c
    refine b_ContentStore_begin_18 hT hP.2.2.1 (fun c => ?_) (fun c => ?_)
    · rw [hal] at c
      have hlt : P.length < 60 := (nI_ltI (by omega) (by decide)).mp c
      have hw : sBegin P (nI k) x = (nI P.length, P ++ [(k, x, [], true)]) := by
        rw [sBegin, g3]
        exact if_pos ⟨hop4, hlt⟩
      rw [hw]
      refine b_ContentStore_begin_32 (f33_1 := .ref pa) (kc1 := 1) (ks1 := 96) (cd1 := 1) (ckc1 := 1) (cks1 := 96) (ckc2 := 0) (cks2 := 0) trivial hT (by omega) (by omega) (by omega) (by omega) (by omega) (c_PutInit xpush_last (by omega) (by omega) (by omega) (by omega)) (fun r N h => ?_)
      obtain ⟨rfl, rfl⟩ := h
      have hlen1 : (M ++ [cO 3 [.null, .long 0, .int 0, .int 0]]).length = M.length + 1 := by simp
      rw [hlen1]
      have keep : ∀ {jj : Nat} {c : xCl}, M[jj]? = some c → ((M ++ [cO 3 [.null, .long 0, .int 0, .int 0]] ++ [cI (List.replicate k 0)]).set M.length (cO 3 [.ref (M.length + 1), .long x, .int 0, .int 1]))[jj]? = some c := fun hjj => xset_at (xpush_at (xpush_at hjj)) (by have := xlt hjj; omega)
      have hx : ((M ++ [cO 3 [.null, .long 0, .int 0, .int 0]] ++ [cI (List.replicate k 0)]).set M.length (cO 3 [.ref (M.length + 1), .long x, .int 0, .int 1]))[M.length]? = some (cO 3 [.ref (M.length + 1), .long x, .int 0, .int 1]) := xset_eq (xpush_at xpush_last)
      have hb : ((M ++ [cO 3 [.null, .long 0, .int 0, .int 0]] ++ [cI (List.replicate k 0)]).set M.length (cO 3 [.ref (M.length + 1), .long x, .int 0, .int 1]))[M.length + 1]? = some (cI (List.replicate k 0)) := by
        refine xset_at ?_ (by omega)
        rw [← hlen1]
        exact xpush_last
      have hNl : ((M ++ [cO 3 [.null, .long 0, .int 0, .int 0]] ++ [cI (List.replicate k 0)]).set M.length (cO 3 [.ref (M.length + 1), .long x, .int 0, .int 1])).length = M.length + 2 := by simp
      generalize ((M ++ [cO 3 [.null, .long 0, .int 0, .int 0]] ++ [cI (List.replicate k 0)]).set M.length (cO 3 [.ref (M.length + 1), .long x, .int 0, .int 1])) = N at keep hx hb hNl ⊢
      have f : fr [] M N own (va_up (va_up own M.length (1, P.length)) (M.length + 1) (2, P.length)) := ⟨by omega, fun j hj => by rw [va_up_ne _ _ (by omega), va_up_ne _ _ (by omega)], fun j c hj _ => keep hj⟩
      have hP1 := cPs_fr hP f (by decide) (by decide) (by decide)
      have hPA : cPutA N (va_up (va_up own M.length (1, P.length)) (M.length + 1) (2, P.length)) P.length M.length (k, x, [], true) := ⟨by rw [va_up_ne _ _ (by omega), va_up_self], M.length + 1, va_up_self _ _ _, hx, by rw [List.nil_append]; exact hb⟩
      have hP2 := cPs_add (b := 0) hP1 hlt hPA
      have hT1 := keep hT
      refine b_ContentStore_begin_53 hP1.2.2.1 rfl (by rw [hal]; exact hlt) (by omega) hx ck_Put (Or.inl rfl) (xset_ne hT1 hP1.2.2.1 rfl) ⟨rfl, va_up (va_up own M.length (1, P.length)) (M.length + 1) (2, P.length), ⟨hI.1, ⟨by rw [List.length_append, List.length_singleton]; omega, fun p hp => ?_, ?_⟩, hI.2.2⟩, sh, pa, ba, ra, PA ++ [M.length], BA, ?_⟩
      · rcases List.mem_append.mp hp with hp | hp
        · exact hI.2.1.2.1 p hp
        · rw [List.mem_singleton.mp hp]
          exact ⟨Nat.zero_le _, by show k ≤ 96; omega⟩
      · rw [openN, List.countP_append]
        show openN P + 1 ≤ 4
        omega
      · rw [List.set_set]
        have g := fr_tr (fr_wk (T' := [0, 200]) f (by simp)) (fr_tr (fr_setk (T := [0, 200]) 200 (c' := cR 0 ((PA.map some ++ List.replicate (60 - P.length) none).set P.length (some M.length))) hP1.2.2.1 rfl (by decide) (by decide)) (fr_setk (T := [0, 200]) 0 (c' := tpC sh pa ba ra (P ++ [(k, x, [], true)]) B nk) (xset_ne hT1 hP1.2.2.1 rfl) rfl (by decide) (by decide)))
        have ht2 := xset_eq (c' := tpC sh pa ba ra (P ++ [(k, x, [], true)]) B nk) (xset_ne (c' := cR 0 ((PA.map some ++ List.replicate (60 - P.length) none).set P.length (some M.length))) hT1 hP1.2.2.1 rfl)
        have g0 := fr_setk (T := [0]) (own := va_up (va_up own M.length (1, P.length)) (M.length + 1) (2, P.length)) 0 (c' := tpC sh pa ba ra (P ++ [(k, x, [], true)]) B nk) (xset_ne (c' := cR 0 ((PA.map some ++ List.replicate (60 - P.length) none).set P.length (some M.length))) hT1 hP1.2.2.1 rfl) rfl (by decide) (by decide)
        have e1 : nI P.length + 1 = nI (P ++ [(k, x, [], true)]).length := by rw [nI_1, List.length_append]; rfl
        have e2 : nI (openN P) + 1 = nI (openN (P ++ [(k, x, [], true)])) := by rw [nI_1, openN, openN, List.countP_append]; rfl
        rw [e1, e2]
        exact ⟨ht2, cPs_fr hP2 g0 (by decide) (by decide) (by decide), cBs_fr hB g (by decide) (by decide) (by decide) (by decide), cRs_fr hR g (by decide), cShelf_fr hS g (by decide) (by decide) (by decide) (by decide) (by decide), cMo_fr hM g (by decide) (by decide) (by decide) (by decide)⟩
    · refine fin _ ?_
      rw [hal] at c
      rw [sBegin, g3]
      exact if_neg (fun z => c (nI_lt z.2 (by decide)))
end UPD
