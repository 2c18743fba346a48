/-! END AND REPAIR: rows of parts come -/
def nOK (es : List Nat) (pb : Nat → List Int32) (a : List Int32) (std : List Nat) (nid : Nat → Nat) : Prop := ∀ k, k < nParts a.length → ∀ y ∈ (rowF a std nid es pb k).1, y < nid k
def bNew (bs : List Int32) (row : List Nat) : sB := (bs.length, row, sumL 0 bs, digL (nI bs.length).toInt64 bs, none, -1, true)
def sNew (room : Nat) (es : List Nat) (pb : Nat → List Int32) (B : List sB) (bs : List Int32) (nid : Nat → Nat) : Int32 × List Nat × (Nat → List Int32) × List sB :=
  if B.length < 60 ∧ tot pb es + needF es pb bs (nParts bs.length) ≤ room then (nI B.length, (rowF bs [] nid es pb (nParts bs.length)).1, (rowF bs [] nid es pb (nParts bs.length)).2.1, B ++ [bNew bs (rowF bs [] nid es pb (nParts bs.length)).2.2]) else (-3, es, pb, B)
def fnd (pb : Nat → List Int32) (B : List sB) (bs : List Int32) : Option Nat := B.findIdx? (fun b => bThere b && (decide (bb pb (bIds b) = bs) && sndB pb b))
def pShut (p : sP) : sP := (p.1, p.2.1, p.2.2.1, false)
def sEnd (room : Nat) (P : List sP) (es : List Nat) (pb : Nat → List Int32) (B : List sB) (v : Int32) (nid : Nat → Nat) : Int32 × List sP × List Nat × (Nat → List Int32) × List sB := match opP P v with
  | none => (-1, P, es, pb, B)
  | some z => if z.2.2.2.1.length = z.2.1 ∧ z.2.2.1 = 0 then (match fnd pb B z.2.2.2.1 with
      | some k => (nI k, P.set z.1 (pShut z.2), es, pb, B)
      | none => ((sNew room es pb B z.2.2.2.1 nid).1, P.set z.1 (pShut z.2), (sNew room es pb B z.2.2.2.1 nid).2))
    else (-2, P.set z.1 (pShut z.2), es, pb, B)
def bRow (b : sB) (row : List Nat) : sB := (bLen b, row, bSum b, bDig b, bCopy b, bPack b, bThere b)
def sRepair (room : Nat) (es : List Nat) (pb : Nat → List Int32) (B : List sB) (v : Int32) (nid : Nat → Nat) : Int32 × List Nat × (Nat → List Int32) × List sB := match thB B v with
  | none => (-1, es, pb, B)
  | some z => if sndB pb z.2 then (0, es, pb, B) else match bCopy z.2 with
    | none => (-2, es, pb, B)
    | some c => if sumL 0 c = bSum z.2 then (if tot pb es + needF es pb c (nParts c.length) ≤ room then
          (1, keptE (rowF c (bIds z.2) nid es pb (nParts c.length)).1 (cnt (B.set z.1 (bRow z.2 (rowF c (bIds z.2) nid es pb (nParts c.length)).2.2))), (rowF c (bIds z.2) nid es pb (nParts c.length)).2.1, B.set z.1 (bRow z.2 (rowF c (bIds z.2) nid es pb (nParts c.length)).2.2))
        else (-3, es, pb, B)) else (-2, es, pb, B)
theorem nOK_ex {es : List Nat} {pb : Nat → List Int32} {n : Nat} (h : ∀ y ∈ es, y < n) (a : List Int32) (std : List Nat) : nOK es pb a std (fun k => n + k) := by
  have : ∀ k, ∀ y ∈ (rowF a std (fun k => n + k) es pb k).1, y < n + k := by
    intro k
    induction k with
    | zero => exact h
    | succ k ih =>
      intro y hy
      cases hp : pickP (rowF a std (fun k => n + k) es pb k).1 (rowF a std (fun k => n + k) es pb k).2.1 std k (chunk a (16 * k)) with
      | some x =>
        rw [rowF_some hp] at hy
        have := ih y hy
        omega
      | none =>
        rw [rowF_none hp] at hy
        rcases List.mem_append.mp hy with hy | hy
        · have := ih y hy
          omega
        · rw [List.mem_singleton.mp hy]
          omega
  exact fun k _ => this k
section ENDS
variable {l : Launch} {D : va_G} {ρ : xR} {M : List xCl} {d kc ks : Nat} {own : Nat → Nat × Nat} {m t sh pa ba ra : Nat} {A : List xCl} {PA BA : List Nat} {room : Nat} {P : List sP} {es : List Nat} {pb : Nat → List Int32} {B : List sB} {act : List Int32} {nk : Nat}
theorem fr_fresh {T : List Nat} {N : List xCl} {own' : Nat → Nat × Nat} {i : Nat} {c : xCl} (h : fr T M N own own') (hi : M.length ≤ i) : fr T M (N.set i c) own own' := ⟨by rw [List.length_set]; exact h.1, h.2.1, fun j e hj hT => xset_at (h.2.2 j e hj hT) (by have := xlt hj; omega)⟩
theorem row_facts {a : List Int32} {R : List Nat × (Nat → List Int32) × List Nat} (h4 : ∀ x ∈ es, 1 ≤ (pb x).length ∧ (pb x).length ≤ 16) (hR : rowOK es pb a (nParts a.length) R) :
    (∀ b, bOK es pb nk b → bOK R.1 R.2.1 nk b) ∧ wfI R.2.1 R.2.2 a.length ∧ (∀ x ∈ R.2.2, x ∈ R.1) ∧ (∀ x ∈ R.1, 1 ≤ (R.2.1 x).length ∧ (R.2.1 x).length ≤ 16) := by
  obtain ⟨h1, h2, h3, -, h5, h6⟩ := hR
  refine ⟨fun b hb => ?_, ⟨h6, fun k x hk => ?_⟩, fun x hx => ?_, fun x hx => ?_⟩
  · obtain ⟨g1, g2, g3, g4⟩ := hb
    exact ⟨g1, g2, g3, fun ht => ⟨⟨(g4 ht).1.1, fun k x hk => by rw [(h1 x ((g4 ht).2.1 x (List.mem_of_getElem? hk))).2]; exact (g4 ht).1.2 k x hk⟩, fun x hx => (h1 x ((g4 ht).2.1 x hx)).1, (g4 ht).2.2⟩⟩
  · obtain ⟨y, w1, w2, w3⟩ := h3 k (by have := (List.getElem?_eq_some_iff.mp hk).1; omega)
    rw [hk] at w1
    cases w1
    rw [w3, chunk_len]
  · obtain ⟨k, hk, rfl⟩ := List.getElem_of_mem hx
    obtain ⟨y, w1, w2, w3⟩ := h3 k (by omega)
    rw [List.getElem?_eq_getElem hk] at w1
    cases w1
    exact w2
  · rcases h2 x hx with g | ⟨-, j, g1, g2⟩
    · rw [(h1 x g).2]
      exact h4 x g
    · rw [g2, chunk_len]
      unfold nParts at g1
      omega
theorem cnt_hi (hI : SI room P es pb B act nk) (hS : cShelf M own sh room es pb (cnt B)) {y : Nat} (hy : M.length ≤ y) : cnt B y = 0 := cnt_zero (fun b hb ht hx => by
  have := cShelf_lt hS (((hI.2.2.1.2 b hb).2.2.2 ht).2.1 y hx)
  omega)
theorem SI_new {bs : List Int32} {nid : Nat → Nat} (hI : SI room P es pb B act nk) (hbs : bs.length ≤ 96) (hn : nOK es pb bs [] nid) (hB : B.length < 60) (hroom : tot pb es + needF es pb bs (nParts bs.length) ≤ room) :
    SI room P (rowF bs [] nid es pb (nParts bs.length)).1 (rowF bs [] nid es pb (nParts bs.length)).2.1 (B ++ [bNew bs (rowF bs [] nid es pb (nParts bs.length)).2.2]) act nk := by
  obtain ⟨⟨h1, h2, h3, h4⟩, h5, ⟨h6, h7⟩, h8⟩ := hI
  have hR := row_ok (a := bs) (std := []) (nid := nid) (pb := pb) h3 (fun y hy => absurd hy (by simp)) (nParts bs.length) hn
  obtain ⟨f1, f2, f3, f4⟩ := row_facts (nk := nk) (fun x hx => (h4 x hx).2) hR
  obtain ⟨r1, r2, r3, r4, r5, r6⟩ := hR
  refine ⟨⟨h1, by rw [r4]; exact hroom, r5, fun x hx => ⟨?_, f4 x hx⟩⟩, h5, ⟨by rw [List.length_append, List.length_singleton]; omega, fun b hb => ?_⟩, h8⟩
  · rw [cnt_app]
    rcases r2 x hx with g | ⟨g, -⟩
    · have := (h4 x g).1
      omega
    · have h9 : trm (bNew bs (rowF bs [] nid es pb (nParts bs.length)).2.2) x = (rowF bs [] nid es pb (nParts bs.length)).2.2.count x := rfl
      have h10 : 1 ≤ (rowF bs [] nid es pb (nParts bs.length)).2.2.count x := List.count_pos_iff.mpr g
      omega
  · rcases List.mem_append.mp hb with hb | hb
    · exact f1 b (h7 b hb)
    · rw [List.mem_singleton.mp hb]
      exact ⟨hbs, fun c hc => (by cases hc), by show (rowF bs [] nid es pb (nParts bs.length)).2.2.length ≤ 6; rw [r6]; unfold nParts; omega, fun _ => ⟨f2, f3, Or.inl rfl⟩⟩
theorem c_new {q : Nat} {bs : List Int32} (hC : CI M own m A t room P es pb B act nk) (hq : M[q]? = some (cI bs)) (hbs : bs.length ≤ 96) (hd : 9 ≤ d) (hkc : 21 ≤ kc) (hks : 4321 ≤ ks) :
    Xw l D ρ m_ContentStore_newBlobWith 0 [(0, .ref t), (1, .ref q)] [] M d kc ks (fun r N => ∃ own' nid, nOK es pb bs [] nid ∧ r = some (.int (sNew room es pb B bs nid).1) ∧ CI N own' m A t room P (sNew room es pb B bs nid).2.1 (sNew room es pb B bs nid).2.2.1 (sNew room es pb B bs nid).2.2.2 act nk) := by
  obtain ⟨hI, sh, pa, ba, ra, PA, BA, hT, hP, hB, hR, hS, hM⟩ := id hC
  have hal := arr_len hB.1 hB.2.1
  have h60 := hB.2.1
  obtain ⟨-, -, -, al, k1, -⟩ := id hS
  have fin : (∀ nid, sNew room es pb B bs nid = (-3, es, pb, B)) → Xw l D ρ m_ContentStore_newBlobWith 23 [] [] M d kc ks (fun r N => ∃ own' nid, nOK es pb bs [] nid ∧ r = some (.int (sNew room es pb B bs nid).1) ∧ CI N own' m A t room P (sNew room es pb B bs nid).2.1 (sNew room es pb B bs nid).2.2.1 (sNew room es pb B bs nid).2.2.2 act nk) := fun hw => by
    refine b_ContentStore_newBlobWith_23 ⟨own, fun k => M.length + k, nOK_ex (fun y hy => cShelf_lt hS hy) bs [], ?_⟩
    rw [hw]
    exact ⟨rfl, hC⟩
  refine b_ContentStore_newBlobWith_0 hT hB.2.2.1 (fun c => ?_) (fun c => ?_)
  · rw [hal] at c
    have := (nI_leI (by decide) (by omega)).mp c
    exact fin (fun nid => if_neg (by omega))
  · rw [hal] at c
    have hlt : B.length < 60 := by
      rcases Nat.lt_or_ge B.length 60 with z | z
      · exact z
      · exact absurd (nI_le z (by omega)) c
    refine b_ContentStore_newBlobWith_12 (cd1 := 4) (ckc1 := 0) (cks1 := 0) (ckc2 := kc) (cks2 := ks) trivial hT (by omega) (by omega) (by omega) k1 (c_hasRoomFor hS hI.1.2.1 hq hbs (by omega)) (fun r N h => ?_)
    obtain ⟨rfl, rfl⟩ := h
    refine b_ContentStore_newBlobWith_20 (fun c2 => ?_) (fun c2 => ?_)
    · have hroom := of_decide_eq_true (i2b_t c2)
      have hlen1 : (N ++ [cO 4 [.int 0, .int 0, .long 0, .null, .null, .int 0, .int 0]]).length = N.length + 1 := by simp
      have hlen2 : (N ++ [cO 4 [.int 0, .int 0, .long 0, .null, .null, .int 0, .int 0]] ++ [cR 2 (List.replicate 0 none)]).length = N.length + 2 := by simp
      have f2 : fr [] N (N ++ [cO 4 [.int 0, .int 0, .long 0, .null, .null, .int 0, .int 0]] ++ [cR 2 (List.replicate 0 none)]) own (va_up own N.length (3, B.length)) := ⟨by omega, fun j hj => va_up_ne _ _ (by omega), fun j c hj _ => xpush_at (xpush_at hj)⟩
      have hS2 := cShelf_fr hS f2 (by decide) (by decide) (by decide) (by decide) (by decide)
      have ht40 : tot pb es ≤ 40000 := by have := hI.1.1; have := hI.1.2.1; omega
      have he := SI_es hI
      refine b_ContentStore_newBlobWith_26 (f27_2 := .ref ba) (n47 := 0) (kc1 := kc - 1) (ks1 := ks - 7) (kc2 := kc - 2) (ks2 := ks - 7) (cd1 := 8) (ckc1 := 19) (cks1 := 4314) (ckc2 := 0) (cks2 := 0) trivial trivial hT (by omega) (by omega) rfl (by decide) (by omega) (by omega) (by omega) (by omega) (by omega) (xpush_at (xpush_at k1)) (c_rowOf (std := []) hS2 ht40 hbs (xpush_at (xpush_at hq)) xpush_last (fun x hx => absurd hx (by simp)) (by decide) (fun y hy => cnt_hi hI hS (by omega)) (by omega) (by omega)) (fun r N2 h => ?_)
      obtain ⟨rfl, own', nid, r1, r2, r3, r4, r5, r6⟩ := h
      rw [hlen2] at r1 r5 ⊢
      have hnid : nOK es pb bs [] nid := fun k hk => (r6 k hk).2
      have hw : sNew room es pb B bs nid = (nI B.length, (rowF bs [] nid es pb (nParts bs.length)).1, (rowF bs [] nid es pb (nParts bs.length)).2.1, B ++ [bNew bs (rowF bs [] nid es pb (nParts bs.length)).2.2]) := if_pos ⟨hlt, hroom⟩
      have f3 : fr [1, 2, 203, 5] N N2 own own' := fr_tr (fr_wk f2 (by simp)) (fr_sh r3 r4)
      have hbc : N2[N.length]? = some (cO 4 [.int 0, .int 0, .long 0, .null, .null, .int 0, .int 0]) := r3.2 _ _ (xpush_at xpush_last) (kne rfl) (kne rfl) (kne rfl) (kne rfl)
      have hown : own' N.length = (3, B.length) := by rw [r4 N.length (by omega), va_up_self]
      have hq2 : N2[q]? = some (cI bs) := r3.2 _ _ (xpush_at (xpush_at hq)) (kne rfl) (kne rfl) (kne rfl) (kne rfl)
      refine b_ContentStore_newBlobWith_53 (cd1 := 1) (ckc1 := 0) (cks1 := 0) (ckc2 := 0) (cks2 := 0) trivial trivial trivial trivial (by omega) (by omega) (by omega) (c_BlobInit hbc hq2 hbs trivial (by omega)) (fun r N3 h => ?_)
      obtain ⟨rfl, rfl⟩ := h
      have f4 := fr_fresh (i := N.length) (c := cO 4 [.int (nI bs.length), .int (sumL 0 bs), .long (digL (nI bs.length).toInt64 bs), .ref (N.length + 2), .null, .int (-1), .int 1]) f3 (Nat.le_refl _)
      have g4 : fr [4] N2 (N2.set N.length (cO 4 [.int (nI bs.length), .int (sumL 0 bs), .long (digL (nI bs.length).toInt64 bs), .ref (N.length + 2), .null, .int (-1), .int 1])) own' own' := fr_setk 4 hbc rfl (by decide) (by decide)
      have hB4 := cBs_fr hB f4 (by decide) (by decide) (by decide) (by decide)
      have hbA : cBlobA (N2.set N.length (cO 4 [.int (nI bs.length), .int (sumL 0 bs), .long (digL (nI bs.length).toInt64 bs), .ref (N.length + 2), .null, .int (-1), .int 1])) own' B.length N.length (bNew bs (rowF bs [] nid es pb (nParts bs.length)).2.2) := ⟨hown, N.length + 2, none, xset_eq hbc, fr_atk 202 g4 r1 rfl (by decide) (by decide), Or.inl ⟨rfl, rfl⟩⟩
      have hS4 := cShelf_fr r2 g4 (by decide) (by decide) (by decide) (by decide) (by decide)
      have hT4 := fr_atk 0 f4 hT rfl (by decide) (by decide)
      have hP4 := cPs_fr hP f4 (by decide) (by decide) (by decide)
      have hR4 := cRs_fr hR f4 (by decide)
      have hM4 := cMo_fr hM f4 (by decide) (by decide) (by decide) (by decide)
      have hB5 := cBs_add hB4 hlt hbA
      have hx4 := xset_eq (c' := cO 4 [.int (nI bs.length), .int (sumL 0 bs), .long (digL (nI bs.length).toInt64 bs), .ref (N.length + 2), .null, .int (-1), .int 1]) hbc
      generalize N2.set N.length (cO 4 [.int (nI bs.length), .int (sumL 0 bs), .long (digL (nI bs.length).toInt64 bs), .ref (N.length + 2), .null, .int (-1), .int 1]) = N3 at hB4 hS4 hT4 hP4 hR4 hM4 hB5 hx4 ⊢
      refine b_ContentStore_newBlobWith_56 hB4.2.2.1 rfl (by rw [hal]; exact hlt) (by omega) hx4 ck_Blob (Or.inl rfl) (xset_ne hT4 hB4.2.2.1 rfl) ⟨own', nid, hnid, ?_⟩
      rw [hw]
      refine ⟨rfl, SI_new hI hbs hnid hlt hroom, sh, pa, ba, ra, PA, BA ++ [N.length], ?_⟩
      have e : (cO 0 [.ref sh, .ref pa, .ref ba, .ref ra, .int (nI P.length), .int (nI (openN P)), .int (nI B.length + 1), .int (nI nk)] : xCl) = tpC sh pa ba ra P (B ++ [bNew bs (rowF bs [] nid es pb (nParts bs.length)).2.2]) nk := by
        show _ = cO 0 _
        rw [nI_1, List.length_append]
        rfl
      rw [e]
      have g0 := fr_setk (T := [0]) (own := own') 0 (c' := tpC sh pa ba ra P (B ++ [bNew bs (rowF bs [] nid es pb (nParts bs.length)).2.2]) nk) (xset_ne (c' := cR 1 ((BA.map some ++ List.replicate (60 - B.length) none).set B.length (some N.length))) hT4 hB4.2.2.1 rfl) rfl (by decide) (by decide)
      have g5 := fr_tr (fr_setk (T := [0, 201]) (own := own') 201 (c' := cR 1 ((BA.map some ++ List.replicate (60 - B.length) none).set B.length (some N.length))) hB4.2.2.1 rfl (by decide) (by decide)) (fr_wk (T' := [0, 201]) g0 (by simp))
      exact ⟨xset_eq (xset_ne hT4 hB4.2.2.1 rfl), cPs_fr hP4 g5 (by decide) (by decide) (by decide), cBs_fr hB5 g0 (by decide) (by decide) (by decide) (by decide), cRs_fr hR4 g5 (by decide), cShelf_hold (cShelf_fr hS4 g5 (by decide) (by decide) (by decide) (by decide) (by decide)) (fun x _ => by rw [cnt_app]; rfl), cMo_fr hM4 g5 (by decide) (by decide) (by decide) (by decide)⟩
    · have hroom := of_decide_eq_false (i2b_0.mp c2)
      exact fin (fun nid => if_neg (fun z => hroom z.2))
end ENDS
