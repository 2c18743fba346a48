/-! THE CLASS'S QUESTIONS -/
abbrev tpC (sh pa ba ra : Nat) (P : List sP) (B : List sB) (nk : Nat) : xCl := cO 0 [.ref sh, .ref pa, .ref ba, .ref ra, .int (nI P.length), .int (nI (openN P)), .int (nI B.length), .int (nI nk)]
def adB (BA : List Nat) (B : List sB) (v : Int32) : Option Nat := (thB B v).bind fun z => BA[z.1]?
def adP (PA : List Nat) (P : List sP) (v : Int32) : Option Nat := (opP P v).bind fun z => PA[z.1]?
def sndB (pb : Nat → List Int32) (b : sB) : Bool := decide (sumL 0 (bb pb (bIds b)) = bSum b)
theorem arr_at {BA : List Nat} {R : List (Option Nat)} {k a : Nat} (h : BA[k]? = some a) : (BA.map some ++ R)[k]? = some (some a) := by
  have := (List.getElem?_eq_some_iff.mp h).1
  rw [List.getElem?_append_left (by rw [List.length_map]; exact this), List.getElem?_map, h]
  rfl
theorem arr_len {BA : List Nat} {n : Nat} (h : BA.length = n) (hn : n ≤ 60) : (BA.map some ++ List.replicate (60 - n) none).length = 60 := by
  rw [List.length_append, List.length_map, List.length_replicate]
  omega
theorem i2b_t {b : Bool} (h : ¬ i2b b = 0) : b = true := by
  cases b with
  | true => rfl
  | false => exact absurd rfl h
section QUERY
variable {l : Launch} {D : va_G} {ρ : xR} {M : List xCl} {d kc ks : Nat} {own : Nat → Nat × Nat} {m t sh pa ba ra : Nat} {A : List xCl} {PA BA : List Nat} {room : Nat} {P : List sP} {es : List Nat} {pb : Nat → List Int32} {B : List sB} {act : List Int32} {nk : Nat}
theorem vB (hB : cBs M own ba BA B) (v : Int32) : (thB B v = none ∧ adB BA B v = none) ∨ ∃ k b a, thB B v = some (k, b) ∧ adB BA B v = some a ∧ v = nI k ∧ B[k]? = some b ∧ BA[k]? = some a ∧ bThere b = true ∧ cBlobA M own k a b := by
  rcases thB_cases B v hB.2.1 with ⟨h, -⟩ | ⟨k, b, h1, h2, h3, h4⟩
  · exact Or.inl ⟨h, by rw [adB, h]; rfl⟩
  · have hk : k < BA.length := by rw [hB.1]; exact (List.getElem?_eq_some_iff.mp h2).1
    have ha : BA[k]? = some BA[k] := List.getElem?_eq_getElem hk
    exact Or.inr ⟨k, b, BA[k], h4, by rw [adB, h4]; exact ha, h1, h2, ha, h3, hB.2.2.2 k _ b ha h2⟩
theorem vP (hP : cPs M own pa PA P) (v : Int32) : (opP P v = none ∧ adP PA P v = none) ∨ ∃ k p a, opP P v = some (k, p) ∧ adP PA P v = some a ∧ v = nI k ∧ P[k]? = some p ∧ PA[k]? = some a ∧ p.2.2.2 = true ∧ cPutA M own k a p := by
  rcases opP_cases P v hP.2.1 with ⟨h, -⟩ | ⟨k, b, h1, h2, h3, h4⟩
  · exact Or.inl ⟨h, by rw [adP, h]; rfl⟩
  · have hk : k < PA.length := by rw [hP.1]; exact (List.getElem?_eq_some_iff.mp h2).1
    have ha : PA[k]? = some PA[k] := List.getElem?_eq_getElem hk
    exact Or.inr ⟨k, b, PA[k], h4, by rw [adP, h4]; exact ha, h1, h2, ha, h3, hP.2.2.2 k _ b ha h2⟩
theorem c_blobAt {v : Int32} (hT : M[t]? = some (tpC sh pa ba ra P B nk)) (hB : cBs M own ba BA B) :
    Xw l D ρ m_ContentStore_blobAt 0 [(0, .ref t), (1, .int v)] [] M d kc ks (fun r N => r = some (xrv (adB BA B v)) ∧ N = M) := by
  obtain ⟨g1, g2, g3, g4⟩ := id hB
  have hal := arr_len g1 g2
  rcases thB_cases B v g2 with ⟨h, h0⟩ | ⟨k, b, rfl, h2, h3, h4⟩
  · rw [show adB BA B v = none by rw [adB, h]; rfl]
    rcases h0 with (h0 | ⟨h0, h1⟩) | ⟨k, b, rfl, h2, h3⟩
    · exact b_ContentStore_blobAt_0 (fun _ => b_ContentStore_blobAt_21 ⟨rfl, rfl⟩) (fun c => absurd h0 c)
    · exact b_ContentStore_blobAt_0 (fun c => absurd c h0) (fun _ => b_ContentStore_blobAt_4 hT (fun _ => b_ContentStore_blobAt_21 ⟨rfl, rfl⟩) (fun c => absurd h1 c))
    · have hk := (List.getElem?_eq_some_iff.mp h2).1
      have ha : BA[k]? = some BA[k] := List.getElem?_eq_getElem (by omega)
      obtain ⟨s1, pr, cq, s2, -⟩ := g4 k _ b ha h2
      refine b_ContentStore_blobAt_0 (fun c => absurd c (nI_pos (by omega))) (fun _ => b_ContentStore_blobAt_4 hT (fun c => absurd c (nI_ge hk (by omega))) (fun _ => b_ContentStore_blobAt_12 hT g3 (fun _ => ?_) (fun c => absurd (by rw [hal]; exact nI_lt (by omega) (by omega)) c)))
      refine b_ContentStore_blobAt_23 hT g3 rfl (by omega) (arr_at ha) ?_
      rw [h3] at s2
      exact b_ContentStore_blobAt_34 s2 (fun _ => b_ContentStore_blobAt_45 (b_ContentStore_blobAt_46 trivial ⟨rfl, rfl⟩)) (fun c => absurd rfl c)
  · have hk := (List.getElem?_eq_some_iff.mp h2).1
    have ha : BA[k]? = some BA[k] := List.getElem?_eq_getElem (by omega)
    obtain ⟨s1, pr, cq, s2, -⟩ := g4 k _ b ha h2
    refine b_ContentStore_blobAt_0 (fun c => absurd c (nI_pos (by omega))) (fun _ => b_ContentStore_blobAt_4 hT (fun c => absurd c (nI_ge hk (by omega))) (fun _ => b_ContentStore_blobAt_12 hT g3 (fun _ => ?_) (fun c => absurd (by rw [hal]; exact nI_lt (by omega) (by omega)) c)))
    refine b_ContentStore_blobAt_23 hT g3 rfl (by omega) (arr_at ha) ?_
    rw [h3] at s2
    refine b_ContentStore_blobAt_34 s2 (fun c => absurd c (by decide)) (fun _ => b_ContentStore_blobAt_41 trivial (b_ContentStore_blobAt_46 trivial ⟨?_, rfl⟩))
    rw [adB, h4, Option.bind_some, ha]
    rfl
theorem c_openPut {v : Int32} (hT : M[t]? = some (tpC sh pa ba ra P B nk)) (hP : cPs M own pa PA P) :
    Xw l D ρ m_ContentStore_openPut 0 [(0, .ref t), (1, .int v)] [] M d kc ks (fun r N => r = some (xrv (adP PA P v)) ∧ N = M) := by
  obtain ⟨g1, g2, g3, g4⟩ := id hP
  have hal := arr_len g1 g2
  rcases opP_cases P v g2 with ⟨h, h0⟩ | ⟨k, b, rfl, h2, h3, h4⟩
  · rw [show adP PA P v = none by rw [adP, h]; rfl]
    rcases h0 with (h0 | ⟨h0, h1⟩) | ⟨k, b, rfl, h2, h3⟩
    · exact b_ContentStore_openPut_0 (fun _ => b_ContentStore_openPut_21 ⟨rfl, rfl⟩) (fun c => absurd h0 c)
    · exact b_ContentStore_openPut_0 (fun c => absurd c h0) (fun _ => b_ContentStore_openPut_4 hT (fun _ => b_ContentStore_openPut_21 ⟨rfl, rfl⟩) (fun c => absurd h1 c))
    · have hk := (List.getElem?_eq_some_iff.mp h2).1
      have ha : PA[k]? = some PA[k] := List.getElem?_eq_getElem (by omega)
      obtain ⟨s1, pr, cq, s2, -⟩ := g4 k _ b ha h2
      refine b_ContentStore_openPut_0 (fun c => absurd c (nI_pos (by omega))) (fun _ => b_ContentStore_openPut_4 hT (fun c => absurd c (nI_ge hk (by omega))) (fun _ => b_ContentStore_openPut_12 hT g3 (fun _ => ?_) (fun c => absurd (by rw [hal]; exact nI_lt (by omega) (by omega)) c)))
      refine b_ContentStore_openPut_23 hT g3 rfl (by omega) (arr_at ha) ?_
      rw [h3] at s2
      exact b_ContentStore_openPut_34 s2 (fun _ => b_ContentStore_openPut_45 (b_ContentStore_openPut_46 trivial ⟨rfl, rfl⟩)) (fun c => absurd rfl c)
  · have hk := (List.getElem?_eq_some_iff.mp h2).1
    have ha : PA[k]? = some PA[k] := List.getElem?_eq_getElem (by omega)
    obtain ⟨s1, pr, cq, s2, -⟩ := g4 k _ b ha h2
    refine b_ContentStore_openPut_0 (fun c => absurd c (nI_pos (by omega))) (fun _ => b_ContentStore_openPut_4 hT (fun c => absurd c (nI_ge hk (by omega))) (fun _ => b_ContentStore_openPut_12 hT g3 (fun _ => ?_) (fun c => absurd (by rw [hal]; exact nI_lt (by omega) (by omega)) c)))
    refine b_ContentStore_openPut_23 hT g3 rfl (by omega) (arr_at ha) ?_
    rw [h3] at s2
    refine b_ContentStore_openPut_34 s2 (fun c => absurd c (by decide)) (fun _ => b_ContentStore_openPut_41 trivial (b_ContentStore_openPut_46 trivial ⟨?_, rfl⟩))
    rw [adP, h4, Option.bind_some, ha]
    rfl
def CI (M : List xCl) (own : Nat → Nat × Nat) (m : Nat) (A : List xCl) (t room : Nat) (P : List sP) (es : List Nat) (pb : Nat → List Int32) (B : List sB) (act : List Int32) (nk : Nat) : Prop := SI room P es pb B act nk ∧ CH M own m A t room P es pb B act nk
theorem bOK_at (hI : SI room P es pb B act nk) {k : Nat} {b : sB} (hb : B[k]? = some b) : bOK es pb nk b := hI.2.2.1.2 b (List.mem_of_getElem? hb)
def dThere (B : List sB) (v : Int32) : Int32 := i2b (thB B v).isSome
theorem k_there {v : Int32} (hC : CI M own m A t room P es pb B act nk) (hd : 1 ≤ d) :
    Xw l D ρ m_ContentStore_there 0 [(0, .ref t), (1, .int v)] [] M d kc ks (fun r N => r = some (.int (dThere B v)) ∧ N = M) := by
  obtain ⟨hI, sh, pa, ba, ra, PA, BA, hT, hP, hB, hR, hS, hM⟩ := hC
  refine b_ContentStore_there_0 (cd1 := 0) (ckc1 := 0) (cks1 := 0) (ckc2 := kc) (cks2 := ks) (by omega) (by omega) (by omega) hT (c_blobAt hT hB) (fun r N h => ?_)
  obtain ⟨rfl, rfl⟩ := h
  rcases vB hB v with ⟨h1, h2⟩ | ⟨k, b, a, h1, h2, -⟩
  · rw [h2, dThere, h1]
    exact b_ContentStore_there_5_z (b_ContentStore_there_12 (b_ContentStore_there_13 ⟨rfl, rfl⟩ (by decide)))
  · rw [h2, dThere, h1]
    exact b_ContentStore_there_5 (b_ContentStore_there_8 (b_ContentStore_there_13 ⟨rfl, rfl⟩ (by decide)))
def dDigest (B : List sB) (v : Int32) : Int64 := match thB B v with
  | some z => bDig z.2
  | none => 0
theorem k_digest {v : Int32} (hC : CI M own m A t room P es pb B act nk) (hd : 1 ≤ d) :
    Xw l D ρ m_ContentStore_digest 0 [(0, .ref t), (1, .int v)] [] M d kc ks (fun r N => r = some (.long (dDigest B v)) ∧ N = M) := by
  obtain ⟨hI, sh, pa, ba, ra, PA, BA, hT, hP, hB, hR, hS, hM⟩ := hC
  refine b_ContentStore_digest_0 (cd1 := 0) (ckc1 := 0) (cks1 := 0) (ckc2 := kc) (cks2 := ks) (by omega) (by omega) (by omega) hT (c_blobAt hT hB) (fun r N h => ?_)
  obtain ⟨rfl, rfl⟩ := h
  rcases vB hB v with ⟨h1, h2⟩ | ⟨k, b, a, h1, h2, -, -, -, -, s1, pr, cq, s2, -⟩
  · rw [h2, dDigest, h1]
    exact b_ContentStore_digest_5_z (b_ContentStore_digest_10 (b_ContentStore_digest_18 ⟨rfl, rfl⟩))
  · rw [h2, dDigest, h1]
    exact b_ContentStore_digest_5 (b_ContentStore_digest_14 s2 (b_ContentStore_digest_18 ⟨rfl, rfl⟩))
def dSize (B : List sB) (v : Int32) : Int32 := match thB B v with
  | some z => nI (bLen z.2)
  | none => -1
theorem k_size {v : Int32} (hC : CI M own m A t room P es pb B act nk) (hd : 1 ≤ d) :
    Xw l D ρ m_ContentStore_size 0 [(0, .ref t), (1, .int v)] [] M d kc ks (fun r N => r = some (.int (dSize B v)) ∧ N = M) := by
  obtain ⟨hI, sh, pa, ba, ra, PA, BA, hT, hP, hB, hR, hS, hM⟩ := hC
  refine b_ContentStore_size_0 (cd1 := 0) (ckc1 := 0) (cks1 := 0) (ckc2 := kc) (cks2 := ks) (by omega) (by omega) (by omega) hT (c_blobAt hT hB) (fun r N h => ?_)
  obtain ⟨rfl, rfl⟩ := h
  rcases vB hB v with ⟨h1, h2⟩ | ⟨k, b, a, h1, h2, -, -, -, -, s1, pr, cq, s2, -⟩
  · rw [h2, dSize, h1]
    exact b_ContentStore_size_5_z (b_ContentStore_size_10 (b_ContentStore_size_18 ⟨rfl, rfl⟩))
  · rw [h2, dSize, h1]
    exact b_ContentStore_size_5 (b_ContentStore_size_14 s2 (b_ContentStore_size_18 ⟨rfl, rfl⟩))
def dPackOf (B : List sB) (v : Int32) : Int32 := match thB B v with
  | some z => bPack z.2
  | none => -1
theorem k_packOf {v : Int32} (hC : CI M own m A t room P es pb B act nk) (hd : 1 ≤ d) :
    Xw l D ρ m_ContentStore_packOf 0 [(0, .ref t), (1, .int v)] [] M d kc ks (fun r N => r = some (.int (dPackOf B v)) ∧ N = M) := by
  obtain ⟨hI, sh, pa, ba, ra, PA, BA, hT, hP, hB, hR, hS, hM⟩ := hC
  refine b_ContentStore_packOf_0 (cd1 := 0) (ckc1 := 0) (cks1 := 0) (ckc2 := kc) (cks2 := ks) (by omega) (by omega) (by omega) hT (c_blobAt hT hB) (fun r N h => ?_)
  obtain ⟨rfl, rfl⟩ := h
  rcases vB hB v with ⟨h1, h2⟩ | ⟨k, b, a, h1, h2, -, -, -, -, s1, pr, cq, s2, -⟩
  · rw [h2, dPackOf, h1]
    exact b_ContentStore_packOf_5_z (b_ContentStore_packOf_10 (b_ContentStore_packOf_18 ⟨rfl, rfl⟩))
  · rw [h2, dPackOf, h1]
    exact b_ContentStore_packOf_5 (b_ContentStore_packOf_14 s2 (b_ContentStore_packOf_18 ⟨rfl, rfl⟩))
/-- isSound of a blob that is there -/
theorem c_snd {k a pr : Nat} {cp : Value} {b : sB} {th : Int32} (hI : SI room P es pb B act nk) (hS : cShelf M own sh room es pb (cnt B)) (hb : B[k]? = some b) (ht : bThere b = true) (s2 : M[a]? = some (cO 4 [.int (nI (bLen b)), .int (bSum b), .long (bDig b), .ref pr, cp, .int (bPack b), .int th])) (s3 : M[pr]? = some (cR 2 ((bIds b).map some))) (hd : 1 ≤ d) :
    Xw l D ρ m_Blob_isSound 0 [(0, .ref a)] [] M d kc ks (fun r N => r = some (.int (i2b (sndB pb b))) ∧ N = M) := by
  obtain ⟨-, -, -, al, -, -, h3⟩ := hS
  obtain ⟨-, -, w1, w2⟩ := bOK_at hI hb
  exact c_isSound s2 s3 h3 (w2 ht).2.1 (by omega) hd
def dSound (pb : Nat → List Int32) (B : List sB) (v : Int32) : Int32 := match thB B v with
  | some z => i2b (sndB pb z.2)
  | none => 0
theorem k_sound {v : Int32} (hC : CI M own m A t room P es pb B act nk) (hd : 2 ≤ d) :
    Xw l D ρ m_ContentStore_sound 0 [(0, .ref t), (1, .int v)] [] M d kc ks (fun r N => r = some (.int (dSound pb B v)) ∧ N = M) := by
  obtain ⟨hI, sh, pa, ba, ra, PA, BA, hT, hP, hB, hR, hS, hM⟩ := hC
  refine b_ContentStore_sound_0 (cd1 := 0) (ckc1 := 0) (cks1 := 0) (ckc2 := kc) (cks2 := ks) (by omega) (by omega) (by omega) hT (c_blobAt hT hB) (fun r N h => ?_)
  obtain ⟨rfl, rfl⟩ := h
  rcases vB hB v with ⟨h1, h2⟩ | ⟨k, b, a, h1, h2, -, h3, -, h4, s1, pr, cq, s2, s3, -⟩
  · rw [h2, dSound, h1]
    exact b_ContentStore_sound_5_z (b_ContentStore_sound_21 (b_ContentStore_sound_22 ⟨rfl, rfl⟩ (by decide)))
  · rw [h2, dSound, h1]
    refine b_ContentStore_sound_5 ?_
    refine b_ContentStore_sound_10 (cd1 := 1) (ckc1 := 0) (cks1 := 0) (ckc2 := kc) (cks2 := ks) (by omega) (by omega) (by omega) s2 (c_snd hI hS h3 h4 s2 s3 (by omega)) (fun r N h => ?_)
    obtain ⟨rfl, rfl⟩ := h
    show Xw _ _ _ _ _ _ _ _ _ _ _ (fun r N' => r = some (.int (i2b (sndB pb b))) ∧ N' = N)
    cases hs : sndB pb b with
    | true => exact b_ContentStore_sound_14 (fun c => absurd c (by decide)) (fun _ => b_ContentStore_sound_17 (b_ContentStore_sound_22 ⟨rfl, rfl⟩ (by decide)))
    | false => exact b_ContentStore_sound_14 (fun _ => b_ContentStore_sound_21 (b_ContentStore_sound_22 ⟨rfl, rfl⟩ (by decide))) (fun c => absurd rfl c)
def dGet (pb : Nat → List Int32) (B : List sB) (v i : Int32) : Int32 := match thB B v with
  | some z => match inb i (bLen z.2) with
    | some j => if sndB pb z.2 then ((bb pb (bIds z.2))[j]?).getD 0 else -2
    | none => -1
  | none => -1
/-- the part of a byte -/
theorem ptO_v {b : sB} (hI : bOK es pb nk b) (ht : bThere b = true) (i : Int32) : (inb i (bLen b) = none ∧ ptO (bIds b) (bLen b) i = none) ∨ ∃ j x w, inb i (bLen b) = some j ∧ ptO (bIds b) (bLen b) i = some x ∧ i = nI j ∧ j < bLen b ∧ (bIds b)[j / 16]? = some x ∧ x ∈ es ∧ (pb x)[j % 16]? = some w ∧ (bb pb (bIds b))[j]? = some w := by
  obtain ⟨h1, -, -, h2⟩ := hI
  obtain ⟨h3, h4, -⟩ := h2 ht
  rcases inb_cases i (n := bLen b) (by omega) with ⟨g1, -⟩ | ⟨j, g1, g2, g3⟩
  · exact Or.inl ⟨g1, by rw [ptO, g1]; rfl⟩
  · obtain ⟨x, w1, w2, w3⟩ := bb_at h3 g1
    exact Or.inr ⟨j, x, (pb x)[j % 16], g3, by rw [ptO, g3]; exact w1, g2, g1, w1, h4 x (List.mem_of_getElem? w1), List.getElem?_eq_getElem w3, by rw [w2]; exact List.getElem?_eq_getElem w3⟩
theorem k_get {v i : Int32} (hC : CI M own m A t room P es pb B act nk) (hd : 2 ≤ d) :
    Xw l D ρ m_ContentStore_get 0 [(0, .ref t), (1, .int v), (2, .int i)] [] M d kc ks (fun r N => r = some (.int (dGet pb B v i)) ∧ N = M) := by
  obtain ⟨hI, sh, pa, ba, ra, PA, BA, hT, hP, hB, hR, hS, hM⟩ := hC
  refine b_ContentStore_get_0 (cd1 := 0) (ckc1 := 0) (cks1 := 0) (ckc2 := kc) (cks2 := ks) (by omega) (by omega) (by omega) hT (c_blobAt hT hB) (fun r N h => ?_)
  obtain ⟨rfl, rfl⟩ := h
  rcases vB hB v with ⟨h1, h2⟩ | ⟨k, b, a, h1, h2, -, h3, -, h4, s1, pr, cq, s2, s3, -⟩
  · rw [h2, dGet, h1]
    exact b_ContentStore_get_5_z (b_ContentStore_get_10 (b_ContentStore_get_19_z trivial (b_ContentStore_get_26 ⟨rfl, rfl⟩)))
  · rw [h2, dGet, h1]
    have hO := bOK_at hI h3
    refine b_ContentStore_get_5 ?_
    refine b_ContentStore_get_14 (cd1 := 0) (ckc1 := 0) (cks1 := 0) (ckc2 := kc) (cks2 := ks) (by omega) (by omega) (by omega) s2 (c_partOf s2 s3 (hO.2.2.2 h4).1.1 hO.1) (fun r N h => ?_)
    obtain ⟨rfl, rfl⟩ := h
    rcases ptO_v hO h4 i with ⟨g1, g2⟩ | ⟨j, x, w, g1, g2, rfl, g3, g4, g5, g6, g7⟩
    · show Xw _ _ _ _ _ _ _ _ _ _ _ (fun r N' => r = some (.int (match inb i (bLen b) with | some j => if sndB pb b then ((bb pb (bIds b))[j]?).getD 0 else -2 | none => -1)) ∧ N' = N)
      rw [g1, g2]
      exact b_ContentStore_get_19_z trivial (b_ContentStore_get_26 ⟨rfl, rfl⟩)
    · show Xw _ _ _ _ _ _ _ _ _ _ _ (fun r N' => r = some (.int (match inb (nI j) (bLen b) with | some j => if sndB pb b then ((bb pb (bIds b))[j]?).getD 0 else -2 | none => -1)) ∧ N' = N)
      rw [g1, g2]
      refine b_ContentStore_get_19 trivial ?_
      refine b_ContentStore_get_28 (cd1 := 1) (ckc1 := 0) (cks1 := 0) (ckc2 := kc) (cks2 := ks) (by omega) (by omega) (by omega) s2 (c_snd hI hS h3 h4 s2 s3 (by omega)) (fun r N h => ?_)
      obtain ⟨rfl, rfl⟩ := h
      show Xw _ _ _ _ _ _ _ _ _ _ _ (fun r N' => r = some (.int (if sndB pb b then ((bb pb (bIds b))[j]?).getD 0 else -2)) ∧ N' = N)
      cases hs : sndB pb b with
      | false => exact b_ContentStore_get_32 (fun _ => b_ContentStore_get_47 (b_ContentStore_get_49 ⟨rfl, rfl⟩)) (fun c => absurd rfl c)
      | true =>
        refine b_ContentStore_get_32 (fun c => absurd c (by decide)) (fun _ => ?_)
        obtain ⟨-, -, -, al, -, -, hp⟩ := id hS
        obtain ⟨q, t1, t2, t3, t4, t5⟩ := hp x g5
        have hl96 := hO.1
        refine b_ContentStore_get_35 (cd1 := 0) (ckc1 := 0) (cks1 := 0) (ckc2 := kc) (cks2 := ks) (Q1 := fun r N' => r = some (.int w) ∧ N' = N) (by omega) (by omega) (by omega) t2 ?_ (fun r N h => ?_)
        · rw [show (16 : Int32) = nI 16 from rfl, pk_rem (by omega) (by omega) (by omega)]
          exact c_byteAt t2 t3 (by omega) g6
        · obtain ⟨rfl, rfl⟩ := h
          refine b_ContentStore_get_44 (b_ContentStore_get_49 ⟨?_, rfl⟩)
          rw [if_pos rfl, g7]
          rfl
def dReferred (act : List Int32) (v : Int32) : Int32 := match inb v 20 with
  | some j => (act[j]?).getD 0
  | none => -1
theorem k_referred {v : Int32} (hC : CI M own m A t room P es pb B act nk) :
    Xw l D ρ m_ContentStore_referred 0 [(0, .ref t), (1, .int v)] [] M d kc ks (fun r N => r = some (.int (dReferred act v)) ∧ N = M) := by
  obtain ⟨hI, sh, pa, ba, ra, PA, BA, hT, hP, hB, hR, hS, hM⟩ := hC
  have h20 : act.length = 20 := hI.2.2.2.1
  rcases inb_cases v (n := 20) (by decide) with ⟨g1, g2⟩ | ⟨j, g1, rfl, g3⟩
  · rw [dReferred, g1]
    have fin : Xw l D ρ m_ContentStore_referred 13 [] [] M d kc ks (fun r N => r = some (.int (-1)) ∧ N = M) := b_ContentStore_referred_13 (b_ContentStore_referred_23 ⟨rfl, rfl⟩)
    refine b_ContentStore_referred_0 (fun _ => fin) (fun c => b_ContentStore_referred_4 hT hR.2 (fun c2 => ?_) (fun _ => fin))
    rcases g2 with g2 | ⟨-, g2⟩
    · exact absurd g2 c
    · rw [h20] at c2
      exact absurd c2 (Int32.not_lt.mpr g2)
  · rw [dReferred, g3]
    refine b_ContentStore_referred_0 (fun c => absurd c (nI_pos (by omega))) (fun c => b_ContentStore_referred_4 hT hR.2 (fun _ => ?_) (fun c2 => absurd (by rw [h20]; exact nI_lt g1 (by decide)) c2))
    refine b_ContentStore_referred_17 (v22 := act[j]) hT hR.2 rfl (List.getElem?_eq_getElem (by omega)) (by omega) (b_ContentStore_referred_23 ⟨?_, rfl⟩)
    show _ = some (Value.int ((act[j]?).getD 0))
    rw [List.getElem?_eq_getElem (by omega)]
    rfl
end QUERY
