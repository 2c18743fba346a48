/-! BLOBS GO: letGo, forget, sweep, cut; PACKS -/
theorem tot_kept (pb : Nat → List Int32) (h : Nat → Nat) : ∀ es, tot pb (keptE es h) ≤ tot pb es
  | [] => Nat.le_refl _
  | x :: es => by
    have ih := tot_kept pb h es
    unfold keptE at ih ⊢
    rw [List.filter_cons]
    split
    · simp only [tot, List.map_cons, List.sum_cons] at ih ⊢
      omega
    · simp only [tot, List.map_cons, List.sum_cons] at ih ⊢
      omega
theorem keptE_keptE {es : List Nat} {h h' : Nat → Nat} (hle : ∀ x, h' x ≤ h x) : keptE (keptE es h) h' = keptE es h' := by
  unfold keptE
  rw [List.filter_filter]
  refine List.filter_congr (fun y _ => ?_)
  have := hle y
  by_cases h1 : h' y = 0
  · simp [h1]
  · have h2 : h y ≠ 0 := by omega
    simp [h1, h2]
theorem keptE_all {es : List Nat} {h : Nat → Nat} (hh : ∀ x ∈ es, 1 ≤ h x) : keptE es h = es := by
  unfold keptE
  refine List.filter_eq_self.mpr (fun y hy => ?_)
  have := hh y hy
  exact decide_eq_true (by omega)
theorem mapset {α : Type} (f : α → α) {L : List α} {k : Nat} {b : α} (h : L[k]? = some b) : ((L.take k).map f ++ L.drop k).set k (f b) = (L.take (k + 1)).map f ++ L.drop (k + 1) ∧ ((L.take k).map f ++ L.drop k)[k]? = some b := by
  obtain ⟨h1, h2⟩ := List.getElem?_eq_some_iff.mp h
  have h3 : ((L.take k).map f).length = k := by rw [List.length_map, List.length_take]; omega
  constructor
  · rw [List.set_append_right _ _ (by omega), h3, Nat.sub_self, List.drop_eq_getElem_cons h1, List.set_cons_zero, List.take_succ_eq_append_getElem h1, List.map_append, List.append_assoc, h2]
    rfl
  · rw [List.getElem?_append_right (by omega), h3, Nat.sub_self, List.drop_eq_getElem_cons h1, h2]
    rfl
def fgt (act : List Int32) (v : Int32) : List Int32 := act.map fun a => if a = v then -1 else a
section SWEEP
variable {l : Launch} {D : va_G} {ρ : xR} {M : List xCl} {d kc ks : Nat} {own : Nat → Nat × Nat} {m t sh pa ba ra : Nat} {A : List xCl} {PA BA : List Nat} {room : Nat} {P : List sP} {es : List Nat} {pb : Nat → List Int32} {B : List sB} {act : List Int32} {nk : Nat}
theorem SI_kept {B' : List sB} (h1 : room ≤ 2000) (h2 : tot pb es ≤ room) (h3 : es.Nodup) (h4 : ∀ x ∈ es, 1 ≤ (pb x).length ∧ (pb x).length ≤ 16) (h5 : P.length ≤ 60 ∧ (∀ p ∈ P, pOK p) ∧ openN P ≤ 4) (h6 : B'.length ≤ 60) (h7 : ∀ b ∈ B', bOK es pb nk b) (h8 : act.length = 20 ∧ nk ≤ 12) : SI room P (keptE es (cnt B')) pb B' act nk := by
  refine ⟨⟨h1, Nat.le_trans (tot_kept pb _ es) h2, List.Nodup.sublist List.filter_sublist h3, fun x hx => ?_⟩, h5, ⟨h6, fun b hb => ?_⟩, h8⟩
  · obtain ⟨g1, g2⟩ := keptE_mem.mp hx
    exact ⟨by omega, h4 x g1⟩
  · obtain ⟨g1, g2, g3, g4⟩ := h7 b hb
    refine ⟨g1, g2, g3, fun ht => ⟨(g4 ht).1, fun x hx => keptE_mem.mpr ⟨(g4 ht).2.1 x hx, ?_⟩, (g4 ht).2.2⟩⟩
    have h9 := cnt_mem (x := x) hb ht
    have h10 : 1 ≤ (bIds b).count x := List.count_pos_iff.mpr hx
    omega
theorem c_letGo {k a : Nat} {b : sB} (hI : SI room P es pb B act nk) (hT : M[t]? = some (tpC sh pa ba ra P B nk)) (hP : cPs M own pa PA P) (hB : cBs M own ba BA B) (hR : cRs M own ra act) (hS : cShelf M own sh room es pb (cnt B)) (hM : cMo M own m A) (hb : B[k]? = some b) (ha : BA[k]? = some a) (ht : bThere b = true) (hd : 5 ≤ d) :
    Xw l D ρ m_ContentStore_letGo 0 [(0, .ref t), (1, .ref a)] [] M d kc ks (fun r N => r = none ∧ CI N own m A t room P (keptE es (cnt (B.set k (bGone b)))) pb (B.set k (bGone b)) act nk) := by
  obtain ⟨s1, pr, cq, s2, s3, s4⟩ := hB.2.2.2 k a b ha hb
  have hO := bOK_at hI hb
  have f : fr [4] M (M.set a (cO 4 [.int (nI (bLen b)), .int (bSum b), .long (bDig b), .ref pr, xrv cq, .int (bPack b), .int 0])) own own := fr_setk 4 s2 rfl (by decide) (by decide)
  have hB1 : cBs (M.set a (cO 4 [.int (nI (bLen b)), .int (bSum b), .long (bDig b), .ref pr, xrv cq, .int (bPack b), .int 0])) own ba BA (B.set k (bGone b)) := cBs_obj (b' := bGone b) (pr := pr) (cq := cq) hB ha hb s2 rfl s1 s3 s4
  have hS1 := cShelf_fr hS f (by decide) (by decide) (by decide) (by decide) (by decide)
  have hT1 := fr_atk 0 f hT rfl (by decide) (by decide)
  obtain ⟨-, -, -, al, k1, -⟩ := id hS1
  have hcn : ∀ x, cnt (B.set k (bGone b)) x = leftH (cnt B) (bIds b) x := fun x => by
    have h1 := cnt_set x B k b (bGone b) hb
    have h2 : trm b x = (bIds b).count x := by rw [trm, if_pos ht]
    have h3 : trm (bGone b) x = 0 := rfl
    unfold leftH
    omega
  have hfun : cnt (B.set k (bGone b)) = leftH (cnt B) (bIds b) := funext hcn
  refine b_ContentStore_letGo_0 (f2_3 := .ref pr) (cd1 := 4) (ckc1 := 0) (cks1 := 0) (ckc2 := kc) (cks2 := ks) trivial s2 hT1 (by omega) (by omega) (by omega) k1 (c_leave hS1 (fr_atk 202 f s3 rfl (by decide) (by decide)) (by have := hO.2.2.1; omega) (fun y hy => ⟨(hI.1.2.2.2 y hy).1, by have := SI_cnt hI y; omega⟩) (hO.2.2.2 ht).2.1 (fun y => cnt_mem (List.mem_of_getElem? hb) ht) (by omega)) (fun r N h => ?_)
  obtain ⟨rfl, r1, r2⟩ := h
  have g := fr_sh (own := own) (own' := own) r2 (fun j _ => rfl)
  refine b_ContentStore_letGo_16 ⟨rfl, ?_, sh, pa, ba, ra, PA, BA, ?_⟩
  · refine SI_kept hI.1.1 hI.1.2.1 hI.1.2.2.1 (fun x hx => (hI.1.2.2.2 x hx).2) hI.2.1 (by rw [List.length_set]; exact hI.2.2.1.1) (fun c hc => ?_) hI.2.2.2
    rcases mem_set_or hc with hc | hc
    · exact hI.2.2.1.2 c hc
    · rw [hc]
      exact ⟨hO.1, hO.2.1, hO.2.2.1, fun z => by cases z⟩
  · rw [hfun, List.length_set]
    exact ⟨fr_atk 0 g hT1 rfl (by decide) (by decide), cPs_fr (cPs_fr hP f (by decide) (by decide) (by decide)) g (by decide) (by decide) (by decide), cBs_fr hB1 g (by decide) (by decide) (by decide) (by decide), cRs_fr (cRs_fr hR f (by decide)) g (by decide), r1, cMo_fr (cMo_fr hM f (by decide) (by decide) (by decide) (by decide)) g (by decide) (by decide) (by decide) (by decide)⟩
theorem c_isRef {v : Int32} (hT : M[t]? = some (tpC sh pa ba ra P B nk)) (hR : M[ra]? = some (cI act)) (h20 : act.length ≤ 1000) :
    Xw l D ρ m_ContentStore_isReferredTo 0 [(0, .ref t), (1, .int v)] [] M d kc ks (fun r N => r = some (.int (i2b (decide (v ∈ act)))) ∧ N = M) := by
  refine b_ContentStore_isReferredTo_0 ?_
  have loop : ∀ (n k : Nat), k + n = act.length → v ∉ act.take k → Xw l D ρ m_ContentStore_isReferredTo 2 [(0, .ref t), (1, .int v), (2, .int (nI k))] [] M d kc ks (fun r N => r = some (.int (i2b (decide (v ∈ act)))) ∧ N = M) := by
    intro n
    induction n with
    | zero =>
      intro k hk hp
      refine b_ContentStore_isReferredTo_2 hT hR (fun _ => b_ContentStore_isReferredTo_29 ⟨?_, rfl⟩) (fun c => absurd (nI_le (by omega) (by omega)) c)
      rw [List.take_of_length_le (by omega)] at hp
      rw [decide_eq_false hp]
      rfl
    | succ n ih =>
      intro k hk hp
      have hlt : k < act.length := by omega
      refine b_ContentStore_isReferredTo_2 hT hR (fun c => absurd c (nI_ge hlt (by omega))) (fun _ => ?_)
      refine b_ContentStore_isReferredTo_11 hT hR rfl (List.getElem?_eq_getElem hlt) (by omega) (fun c => ?_) (fun c => ?_)
      · refine b_ContentStore_isReferredTo_23 ?_
        rw [nI_1]
        refine ih (k + 1) (by omega) (fun z => ?_)
        rw [List.take_succ_eq_append_getElem hlt] at z
        rcases List.mem_append.mp z with z | z
        · exact hp z
        · exact c (List.mem_singleton.mp z).symm
      · refine b_ContentStore_isReferredTo_21 ⟨?_, rfl⟩
        rw [decide_eq_true (by rw [← c]; exact List.getElem_mem hlt)]
        rfl
  exact loop act.length 0 (by omega) (by simp)
theorem c_forget {v : Int32} (hT : M[t]? = some (tpC sh pa ba ra P B nk)) (hR : M[ra]? = some (cI act)) (h20 : act.length ≤ 1000) :
    Xw l D ρ m_ContentStore_forget 0 [(0, .ref t), (1, .int v)] [] M d kc ks (fun r N => r = none ∧ N = M.set ra (cI (fgt act v))) := by
  refine b_ContentStore_forget_0 ?_
  have hnr : t ≠ ra := fun z => by
    subst z
    rw [hT] at hR
    cases hR
  have hdrop : ∀ k, ((act.take k).map (fun a => if a = v then (-1 : Int32) else a) ++ act.drop k).length = act.length := fun k => by
    rw [List.length_append, List.length_map, List.length_take, List.length_drop]
    omega
  have loop : ∀ (n k : Nat) (N : List xCl), k + n = act.length → N[t]? = some (tpC sh pa ba ra P B nk) → N[ra]? = some (cI ((act.take k).map (fun a => if a = v then (-1 : Int32) else a) ++ act.drop k)) → (∀ c, N.set ra c = M.set ra c) → Xw l D ρ m_ContentStore_forget 2 [(0, .ref t), (1, .int v), (2, .int (nI k))] [] N d kc ks (fun r N => r = none ∧ N = M.set ra (cI (fgt act v))) := by
    intro n
    induction n with
    | zero =>
      intro k N hk hT hR hs
      refine b_ContentStore_forget_2 hT hR (fun _ => b_ContentStore_forget_34 ⟨rfl, ?_⟩) (fun c => absurd (nI_le (by rw [hdrop]; omega) (by omega)) c)
      rw [List.take_of_length_le (by omega), List.drop_eq_nil_of_le (by omega), List.append_nil] at hR
      rw [← hs]
      exact (set_same hR).symm
    | succ n ih =>
      intro k N hk hT hR hs
      have hlt : k < act.length := by omega
      have hk? : act[k]? = some act[k] := List.getElem?_eq_getElem hlt
      obtain ⟨m1, m2⟩ := mapset (fun a => if a = v then (-1 : Int32) else a) hk?
      refine b_ContentStore_forget_2 hT hR (fun c => absurd c (nI_ge (by rw [hdrop]; exact hlt) (by rw [hdrop]; omega))) (fun _ => ?_)
      refine b_ContentStore_forget_11 hT hR rfl m2 (by rw [hdrop]; omega) (fun c => ?_) (fun c => ?_)
      · refine b_ContentStore_forget_28 ?_
        rw [nI_1]
        refine ih (k + 1) N (by omega) hT ?_ hs
        rw [← m1, if_neg c, set_same m2]
        exact hR
      · refine b_ContentStore_forget_21 hT hR rfl (by rw [hdrop]; exact hlt) (by rw [hdrop]; omega) ?_
        refine b_ContentStore_forget_28 ?_
        rw [nI_1]
        refine ih (k + 1) _ (by omega) (xset_at hT hnr.symm) ?_ (fun c' => by rw [List.set_set]; exact hs c')
        rw [← m1, if_pos c]
        exact xset_eq hR
  exact loop act.length 0 M (by omega) hT (by simpa using hR) (fun _ => rfl)
def swC (act : List Int32) (k : Nat) (b : sB) : Bool := bThere b && (decide (bPack b = -1) && !decide (nI k ∈ act))
/-- sweep's first k blobs: how many went, the blobs -/
def swF (act : List Int32) (B : List sB) : Nat → Nat × List sB
  | 0 => (0, B)
  | k + 1 => match (swF act B k).2[k]? with
    | some b => if swC act k b then ((swF act B k).1 + 1, (swF act B k).2.set k (bGone b)) else swF act B k
    | none => swF act B k
theorem swF_len (act : List Int32) (B : List sB) : ∀ k, (swF act B k).2.length = B.length
  | 0 => rfl
  | k + 1 => by
    have ih := swF_len act B k
    rw [swF]
    split
    · split
      · rw [List.length_set]; exact ih
      · exact ih
    · exact ih
theorem cnt_gone_le {k : Nat} {b : sB} (hb : B[k]? = some b) (x : Nat) : cnt (B.set k (bGone b)) x ≤ cnt B x := by
  have h1 := cnt_set x B k b (bGone b) hb
  have h3 : trm (bGone b) x = 0 := rfl
  omega
theorem k_sweep (hC : CI M own m A t room P es pb B act nk) (hd : 6 ≤ d) :
    Xw l D ρ m_ContentStore_sweep 0 [(0, .ref t)] [] M d kc ks (fun r N => r = some (.int (nI (swF act B B.length).1)) ∧ ∃ own', CI N own' m A t room P (keptE es (cnt (swF act B B.length).2)) pb (swF act B B.length).2 act nk) := by
  refine b_ContentStore_sweep_0 trivial ?_
  have h60 : B.length ≤ 60 := hC.1.2.2.1.1
  have hall : keptE es (cnt B) = es := keptE_all (fun x hx => (hC.1.1.2.2.2 x hx).1)
  have loop : ∀ (n k : Nat) (N : List xCl), k + n = B.length → CI N own m A t room P (keptE es (cnt (swF act B k).2)) pb (swF act B k).2 act nk → Xw l D ρ m_ContentStore_sweep 4 [(0, .ref t), (1, .int (nI (swF act B k).1)), (2, .int (nI k))] [] N d kc ks (fun r N => r = some (.int (nI (swF act B B.length).1)) ∧ ∃ own', CI N own' m A t room P (keptE es (cnt (swF act B B.length).2)) pb (swF act B B.length).2 act nk) := by
    intro n
    induction n with
    | zero =>
      intro k N hk hC
      obtain ⟨hI, sh, pa, ba, ra, PA, BA, hT, hP, hB, hR, hS, hM⟩ := id hC
      have hl := swF_len act B k
      obtain rfl : k = B.length := by omega
      exact b_ContentStore_sweep_4 hT (fun _ => b_ContentStore_sweep_52 ⟨rfl, own, hC⟩) (fun c => absurd (nI_le (by omega) (by omega)) c)
    | succ n ih =>
      intro k N hk hC
      obtain ⟨hI, sh, pa, ba, ra, PA, BA, hT, hP, hB, hR, hS, hM⟩ := id hC
      have hl := swF_len act B k
      have hlt : k < (swF act B k).2.length := by omega
      have hb : (swF act B k).2[k]? = some (swF act B k).2[k] := List.getElem?_eq_getElem hlt
      obtain ⟨a, ha, ⟨s1, pr, cq, s2, s3, s4⟩, h2⟩ := adB_at hB hb
      have hno : swC act k (swF act B k).2[k] = false → ∀ M', CI M' own m A t room P (keptE es (cnt (swF act B k).2)) pb (swF act B k).2 act nk → Xw l D ρ m_ContentStore_sweep 46 [(0, .ref t), (1, .int (nI (swF act B k).1)), (2, .int (nI k))] [] M' d kc ks (fun r N => r = some (.int (nI (swF act B B.length).1)) ∧ ∃ own', CI N own' m A t room P (keptE es (cnt (swF act B B.length).2)) pb (swF act B B.length).2 act nk) := by
        intro hc M' hC'
        refine b_ContentStore_sweep_46 ?_
        rw [nI_1]
        have he : swF act B (k + 1) = swF act B k := by
          rw [swF, hb]
          simp only [hc]
          rfl
        have := ih (k + 1) M' (by omega) (by rw [he]; exact hC')
        rw [he] at this
        exact this
      refine b_ContentStore_sweep_4 hT (fun c => absurd c (nI_ge (by omega) (by omega))) (fun _ => ?_)
      refine b_ContentStore_sweep_12 (cd1 := 0) (ckc1 := 0) (cks1 := 0) (ckc2 := kc) (cks2 := ks) (by omega) (by omega) (by omega) hT (c_blobAt hT hB) (fun r N' h => ?_)
      obtain ⟨rfl, rfl⟩ := h
      rw [h2]
      cases ht : bThere (swF act B k).2[k] with
      | false =>
        refine b_ContentStore_sweep_17_z (hno ?_ N' hC)
        unfold swC
        rw [ht]
        rfl
      | true =>
        refine b_ContentStore_sweep_17 (b_ContentStore_sweep_22 s2 (fun c => ?_) (fun c => ?_))
        · refine hno ?_ N' hC
          unfold swC
          rw [decide_eq_false c]
          simp
        · refine b_ContentStore_sweep_30 (cd1 := 0) (ckc1 := 0) (cks1 := 0) (ckc2 := kc) (cks2 := ks) (by omega) (by omega) (by omega) hT (c_isRef hT hR.2 (by have := hI.2.2.2.1; omega)) (fun r N2 h => ?_)
          obtain ⟨rfl, rfl⟩ := h
          refine b_ContentStore_sweep_35 (fun c2 => ?_) (fun c2 => ?_)
          · refine hno ?_ N2 hC
            unfold swC
            rw [i2b_t c2]
            simp
          · have hsw : swC act k (swF act B k).2[k] = true := by
              unfold swC
              rw [ht, decide_eq_true c, i2b_0.mp c2]
              rfl
            have he : swF act B (k + 1) = ((swF act B k).1 + 1, (swF act B k).2.set k (bGone (swF act B k).2[k])) := by
              rw [swF, hb]
              simp only [hsw]
              rfl
            refine b_ContentStore_sweep_38 (cd1 := 5) (ckc1 := 0) (cks1 := 0) (ckc2 := kc) (cks2 := ks) trivial (by omega) (by omega) (by omega) hT (c_letGo hI hT hP hB hR hS hM hb ha ht (by omega)) (fun r N3 h => ?_)
            obtain ⟨rfl, r1⟩ := h
            refine b_ContentStore_sweep_43 trivial (b_ContentStore_sweep_46 ?_)
            rw [nI_1, nI_1]
            have := ih (k + 1) N3 (by omega) (by
              rw [he]
              rw [keptE_keptE (fun x => cnt_gone_le hb x)] at r1
              exact r1)
            rw [he] at this
            exact this
  refine loop B.length 0 M (by omega) ?_
  show CI M own m A t room P (keptE es (cnt B)) pb B act nk
  rw [hall]
  exact hC
end SWEEP
