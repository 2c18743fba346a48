/-! THE ROW OF PARTS OF BYTES -/
def stayP (pb : Nat → List Int32) (std : List Nat) (k : Nat) (c : List Int32) : Option Nat := match std[k]? with
  | some x => if pb x = c then some x else none
  | none => none
def pickP (es : List Nat) (pb : Nat → List Int32) (std : List Nat) (k : Nat) (c : List Int32) : Option Nat := match stayP pb std k c with
  | some x => some x
  | none => findP es pb c
/-- behind k places: the parts, their bytes, the row; nid k is the part that is made at place k, if one is made there -/
def rowF (a : List Int32) (std : List Nat) (nid : Nat → Nat) (es : List Nat) (pb : Nat → List Int32) : Nat → List Nat × (Nat → List Int32) × List Nat
  | 0 => (es, pb, [])
  | k + 1 => match pickP (rowF a std nid es pb k).1 (rowF a std nid es pb k).2.1 std k (chunk a (16 * k)) with
    | some x => ((rowF a std nid es pb k).1, (rowF a std nid es pb k).2.1, (rowF a std nid es pb k).2.2 ++ [x])
    | none => ((rowF a std nid es pb k).1 ++ [nid k], va_up (rowF a std nid es pb k).2.1 (nid k) (chunk a (16 * k)), (rowF a std nid es pb k).2.2 ++ [nid k])
theorem rowF_congr {a : List Int32} {std : List Nat} {nid nid' : Nat → Nat} {es : List Nat} {pb : Nat → List Int32} : ∀ (k : Nat), (∀ i, i < k → nid' i = nid i) → rowF a std nid' es pb k = rowF a std nid es pb k
  | 0, _ => rfl
  | k + 1, h => by
    have ih := rowF_congr (a := a) (std := std) (es := es) (pb := pb) k (fun i hi => h i (by omega))
    rw [rowF, rowF, ih, h k (by omega)]
theorem rowF_some {a : List Int32} {std : List Nat} {nid : Nat → Nat} {es : List Nat} {pb : Nat → List Int32} {k x : Nat} (h : pickP (rowF a std nid es pb k).1 (rowF a std nid es pb k).2.1 std k (chunk a (16 * k)) = some x) : rowF a std nid es pb (k + 1) = ((rowF a std nid es pb k).1, (rowF a std nid es pb k).2.1, (rowF a std nid es pb k).2.2 ++ [x]) := by
  rw [rowF, h]
theorem rowF_none {a : List Int32} {std : List Nat} {nid : Nat → Nat} {es : List Nat} {pb : Nat → List Int32} {k : Nat} (h : pickP (rowF a std nid es pb k).1 (rowF a std nid es pb k).2.1 std k (chunk a (16 * k)) = none) : rowF a std nid es pb (k + 1) = ((rowF a std nid es pb k).1 ++ [nid k], va_up (rowF a std nid es pb k).2.1 (nid k) (chunk a (16 * k)), (rowF a std nid es pb k).2.2 ++ [nid k]) := by
  rw [rowF, h]
theorem findP_mem {es : List Nat} {pb : Nat → List Int32} {c : List Int32} {x : Nat} (h : findP es pb c = some x) : x ∈ es ∧ pb x = c := ⟨List.mem_of_find?_eq_some h, by simpa using List.find?_some h⟩
/-- what isn't of the kinds shelf, list, list's row, part stays -/
def shK5 (M N : List xCl) : Prop := M.length ≤ N.length ∧ ∀ (j : Nat) (c : xCl), M[j]? = some c → xkd c ≠ 1 → xkd c ≠ 2 → xkd c ≠ 203 → xkd c ≠ 5 → N[j]? = some c
theorem shK5_of {M N : List xCl} (h : shK M N) : shK5 M N := ⟨h.1, fun j c a b d e _ => h.2 j c a b d e⟩
theorem shK5_tr {M N O : List xCl} (h : shK5 M N) (k : shK5 N O) : shK5 M O := ⟨Nat.le_trans h.1 k.1, fun j c g1 g2 g3 g4 g5 => k.2 j c (h.2 j c g1 g2 g3 g4 g5) g2 g3 g4 g5⟩
theorem cShelf_hold {M : List xCl} {own : Nat → Nat × Nat} {sh room : Nat} {es : List Nat} {pb : Nat → List Int32} {hold hold' : Nat → Nat} (h : cShelf M own sh room es pb hold) (hh : ∀ x ∈ es, hold' x = hold x) : cShelf M own sh room es pb hold' := by
  obtain ⟨g1, g2, g3, al, h1, h2, h3⟩ := h
  refine ⟨g1, g2, g3, al, h1, h2, fun x hx => ?_⟩
  rw [hh x hx]
  exact h3 x hx
/-- one more place has the part x -/
theorem cShelf_up {M : List xCl} {own : Nat → Nat × Nat} {sh room : Nat} {es : List Nat} {pb : Nat → List Int32} {hold hold' : Nat → Nat} (h : cShelf M own sh room es pb hold) {x : Nat} {q : Value} {z : Int32} (hM : M[x]? = some (cO 5 [q, .int z])) (hz : ∃ v : Int32, v = nI (hold' x)) (hh : ∀ y ∈ es, y ≠ x → hold' y = hold y) : cShelf (M.set x (cO 5 [q, .int (nI (hold' x))])) own sh room es pb hold' := by
  obtain ⟨g1, g2, g3, al, h1, h2, h3⟩ := h
  refine ⟨g1, g2, g3, al, xset_ne h1 hM rfl, ?_, fun y hy => ?_⟩
  · obtain ⟨w1, ed', mc', w2, w3⟩ := h2
    refine ⟨w1, ed', mc', xset_ne w2 hM rfl, ?_⟩
    rcases w3 with w3 | ⟨e, a', t1, t2, t3⟩
    · exact Or.inl w3
    · exact Or.inr ⟨e, a', t1, xset_ne t2 hM rfl, t3⟩
  · obtain ⟨qy, t1, t2, t3, t4⟩ := h3 y hy
    by_cases hyx : y = x
    · subst hyx
      rw [hM] at t2
      cases t2
      exact ⟨qy, t1, xset_eq hM, xset_ne t3 hM rfl, t4⟩
    · rw [hh y hy hyx]
      exact ⟨qy, t1, xset_at t2 (fun z => hyx z.symm), xset_ne t3 hM rfl, t4⟩
/-- a cell of another kind changes -/
theorem cShelf_other {M : List xCl} {own : Nat → Nat × Nat} {sh room : Nat} {es : List Nat} {pb : Nat → List Int32} {hold : Nat → Nat} (h : cShelf M own sh room es pb hold) {i : Nat} {c c' : xCl} (hM : M[i]? = some c) (k1 : xkd c ≠ 1) (k2 : xkd c ≠ 2) (k3 : xkd c ≠ 203) (k4 : xkd c ≠ 5) (k5 : xkd c ≠ 100 ∨ (own i).1 ≠ 6) : cShelf (M.set i c') own sh room es pb hold := by
  have ne : ∀ {j : Nat} {e : xCl}, M[j]? = some e → xkd e ≠ xkd c → i ≠ j := fun hj hk z => hk (by
    subst z
    rw [hM] at hj
    cases hj
    rfl)
  obtain ⟨g1, g2, g3, al, h1, h2, h3⟩ := h
  refine ⟨g1, g2, g3, al, xset_at h1 (ne h1 (fun z => k1 z.symm)), ?_, fun y hy => ?_⟩
  · obtain ⟨w1, ed', mc', w2, w3⟩ := h2
    refine ⟨w1, ed', mc', xset_at w2 (ne w2 (fun z => k2 z.symm)), ?_⟩
    rcases w3 with w3 | ⟨e, a', t1, t2, t3⟩
    · exact Or.inl w3
    · exact Or.inr ⟨e, a', t1, xset_at t2 (ne t2 (fun z => k3 z.symm)), t3⟩
  · obtain ⟨qy, t1, t2, t3, t4⟩ := h3 y hy
    refine ⟨qy, t1, xset_at t2 (ne t2 (fun z => k4 z.symm)), xset_at t3 (fun z => ?_), t4⟩
    subst z
    rcases k5 with k5 | k5
    · rw [hM] at t3
      cases t3
      exact k5 rfl
    · exact k5 (by rw [t1])
/-- a new cell comes -/
theorem cShelf_push {M : List xCl} {own : Nat → Nat × Nat} {sh room : Nat} {es : List Nat} {pb : Nat → List Int32} {hold : Nat → Nat} (h : cShelf M own sh room es pb hold) (c : xCl) : cShelf (M ++ [c]) own sh room es pb hold := by
  obtain ⟨g1, g2, g3, al, h1, h2, h3⟩ := h
  refine ⟨g1, g2, g3, al, xpush_at h1, ?_, fun y hy => ?_⟩
  · obtain ⟨w1, ed', mc', w2, w3⟩ := h2
    refine ⟨w1, ed', mc', xpush_at w2, ?_⟩
    rcases w3 with w3 | ⟨e, a', t1, t2, t3⟩
    · exact Or.inl w3
    · exact Or.inr ⟨e, a', t1, xpush_at t2, t3⟩
  · obtain ⟨qy, t1, t2, t3, t4⟩ := h3 y hy
    exact ⟨qy, t1, xpush_at t2, xpush_at t3, t4⟩
def rowPost (M : List xCl) (own : Nat → Nat × Nat) (sh room : Nat) (es : List Nat) (pb : Nat → List Int32) (hold : Nat → Nat) (a : List Int32) (std : List Nat) (n : Nat) (r : Option Value) (N : List xCl) : Prop :=
  r = some (.ref M.length) ∧ ∃ own' nid, N[M.length]? = some (cR 2 ((rowF a std nid es pb n).2.2.map some)) ∧ cShelf N own' sh room (rowF a std nid es pb n).1 (rowF a std nid es pb n).2.1 (fun y => hold y + (rowF a std nid es pb n).2.2.count y) ∧ shK5 M N ∧ oEq M own own' ∧ M.length < N.length ∧ ∀ k, k < n → M.length ≤ nid k ∧ ∀ y ∈ (rowF a std nid es pb k).1, y < nid k
section ROW
variable {l : Launch} {D : va_G} {ρ : xR} {M : List xCl} {d : Nat} {own : Nat → Nat × Nat} {sh room : Nat} {es : List Nat} {pb : Nat → List Int32} {hold : Nat → Nat}
theorem rowF_len {a : List Int32} {std : List Nat} {nid : Nat → Nat} : ∀ (k : Nat), (rowF a std nid es pb k).2.2.length = k ∧ (rowF a std nid es pb k).1.length ≤ es.length + k ∧ tot (rowF a std nid es pb k).2.1 (rowF a std nid es pb k).1 ≤ tot (rowF a std nid es pb k).2.1 (rowF a std nid es pb k).1
  | 0 => ⟨rfl, Nat.le_refl _, Nat.le_refl _⟩
  | k + 1 => by
    obtain ⟨h1, h2, -⟩ := rowF_len (a := a) (std := std) (nid := nid) k
    cases hp : pickP (rowF a std nid es pb k).1 (rowF a std nid es pb k).2.1 std k (chunk a (16 * k)) with
    | some x =>
      rw [rowF_some hp]
      exact ⟨by rw [List.length_append, h1]; rfl, by show (rowF a std nid es pb k).1.length ≤ _; omega, Nat.le_refl _⟩
    | none =>
      rw [rowF_none hp]
      exact ⟨by rw [List.length_append, h1]; rfl, by rw [List.length_append, List.length_singleton]; omega, Nat.le_refl _⟩
theorem app_set_none (row : List Nat) (m x : Nat) : (row.map some ++ List.replicate (m + 1) none).set row.length (some x) = (row ++ [x]).map some ++ List.replicate m none := by
  have := app_set (row.map some) m (some x) (none : Option Nat)
  rw [List.length_map] at this
  rw [this, List.map_append]
  rfl
theorem c_rowLoop {q sd n : Nat} {a : List Int32} {std : List Nat} (hn : nParts a.length = n) (ha : a.length ≤ 96) (hq : M[q]? = some (cI a)) (hsd : M[sd]? = some (cR 2 (std.map some))) (hstd : ∀ x ∈ std, x ∈ es) (hsl : std.length ≤ 1000) (hz : ∀ y, M.length ≤ y → hold y = 0) (he : es.length ≤ 390) (hd : 8 ≤ d) :
    ∀ (m k : Nat) (N : List xCl) (own' : Nat → Nat × Nat) (nid : Nat → Nat), k + m = n → N[M.length]? = some (cR 2 ((rowF a std nid es pb k).2.2.map some ++ List.replicate m none)) → cShelf N own' sh room (rowF a std nid es pb k).1 (rowF a std nid es pb k).2.1 (fun y => hold y + (rowF a std nid es pb k).2.2.count y) → tot (rowF a std nid es pb k).2.1 (rowF a std nid es pb k).1 ≤ 40000 + 16 * k → (∀ x ∈ es, x ∈ (rowF a std nid es pb k).1) → (∀ x ∈ (rowF a std nid es pb k).2.2, x ∈ (rowF a std nid es pb k).1) → shK5 M N → oEq M own own' → M.length < N.length → (∀ i, i < k → M.length ≤ nid i ∧ ∀ y ∈ (rowF a std nid es pb i).1, y < nid i) →
    Xw l D ρ m_Shelf_rowOf 17 [(0, .ref sh), (1, .ref q), (2, .ref sd), (3, .ref M.length), (4, .int (nI k))] [] N d (3 * m) (718 * m) (rowPost M own sh room es pb hold a std n) := by
  have hn6 : n ≤ 6 := by rw [← hn]; unfold nParts; omega
  intro m
  induction m with
  | zero =>
    intro k N own' nid hk hR hS ht hsub hrow hK hO hl hf
    have hlen := (rowF_len (es := es) (pb := pb) (a := a) (std := std) (nid := nid) k).1
    rw [List.replicate_zero, List.append_nil] at hR
    refine b_Shelf_rowOf_17 hR (fun _ => ?_) (fun c => absurd (nI_le (by rw [List.length_map]; omega) (by omega)) c)
    obtain rfl : k = n := by omega
    exact b_Shelf_rowOf_114 trivial ⟨rfl, own', nid, hR, hS, hK, hO, hl, hf⟩
  | succ m ih =>
    intro k N own' nid hk hR hS ht hsub hrow hK hO hl hf
    have hlen := (rowF_len (es := es) (pb := pb) (a := a) (std := std) (nid := nid) k)
    have hk16 : 16 * k < a.length := by unfold nParts at hn; omega
    have hqN : N[q]? = some (cI a) := hK.2 _ _ hq (kne rfl) (kne rfl) (kne rfl) (kne rfl)
    have hsdN : N[sd]? = some (cR 2 (std.map some)) := hK.2 _ _ hsd (kne rfl) (kne rfl) (kne rfl) (kne rfl)
    refine b_Shelf_rowOf_17 hR (fun c => absurd c (nI_ge (by rw [List.length_append, List.length_map, List.length_replicate]; omega) (by rw [List.length_append, List.length_map, List.length_replicate]; omega))) (fun _ => ?_)
    -- the end of a step: part x comes into the row
    have hcon : rowF a std (va_up nid k N.length) es pb k = rowF a std nid es pb k := rowF_congr k (fun i hi => va_up_ne _ _ (by omega))
    have hf' : ∀ i, i < k + 1 → M.length ≤ va_up nid k N.length i ∧ ∀ y ∈ (rowF a std (va_up nid k N.length) es pb i).1, y < va_up nid k N.length i := by
      intro i hi
      by_cases hik : i = k
      · subst hik
        rw [va_up_self, hcon]
        exact ⟨hK.1, fun y hy => cShelf_lt hS hy⟩
      · rw [va_up_ne _ _ hik, rowF_congr i (fun t ht => va_up_ne _ _ (by omega))]
        exact hf i (by omega)
    have fin : ∀ (N' : List xCl) (own'' : Nat → Nat × Nat) (es' : List Nat) (pb' : Nat → List Int32) (x : Nat), rowF a std (va_up nid k N.length) es pb (k + 1) = (es', pb', (rowF a std nid es pb k).2.2 ++ [x]) → cShelf N' own'' sh room es' pb' (fun y => hold y + (rowF a std nid es pb k).2.2.count y) → x ∈ es' → (∀ y ∈ (rowF a std nid es pb k).1, y ∈ es') → tot pb' es' ≤ 40000 + 16 * (k + 1) → N'[M.length]? = some (cR 2 ((rowF a std nid es pb k).2.2.map some ++ List.replicate (m + 1) none)) → shK5 M N' → oEq M own own'' → M.length < N'.length →
        Xw l D ρ m_Shelf_rowOf 91 [(0, .ref sh), (1, .ref q), (2, .ref sd), (3, .ref M.length), (4, .int (nI k)), (6, .ref x)] [] N' d (3 * m) (718 * m) (rowPost M own sh room es pb hold a std n) := by
      intro N' own'' es' pb' x hrw hS' hx hsub' ht' hR' hK' hO' hl'
      obtain ⟨g1, g2, g3, al, h1, h2, h3⟩ := id hS'
      obtain ⟨qx, t1, t2, t3, t4⟩ := h3 x hx
      have hxR : M.length ≠ x := fun z => by
        subst z
        rw [hR'] at t2
        cases t2
      refine b_Shelf_rowOf_91 t2 (xset_at hR' hxR.symm) rfl (by rw [List.length_append, List.length_map, List.length_replicate]; omega) (by rw [List.length_append, List.length_map, List.length_replicate]; omega) ?_
      have hrl := hlen.1
      rw [nI_1, nI_1]
      have hset : ((rowF a std nid es pb k).2.2.map some ++ List.replicate (m + 1) none).set k (some x) = ((rowF a std nid es pb k).2.2 ++ [x]).map some ++ List.replicate m none := by
        have := app_set_none (rowF a std nid es pb k).2.2 m x
        rw [hrl] at this
        exact this
      rw [hset]
      refine ih (k + 1) _ own'' (va_up nid k N.length) (by omega) ?_ ?_ ?_ ?_ ?_ ?_ hO' ?_ hf'
      · rw [hrw]
        exact xset_eq (xset_at hR' hxR.symm)
      · rw [hrw]
        refine cShelf_other ?_ (xset_at hR' hxR.symm) (kne rfl) (kne rfl) (kne rfl) (kne rfl) (Or.inl (kne rfl))
        have hcx : hold x + (rowF a std nid es pb k).2.2.count x + 1 = hold x + ((rowF a std nid es pb k).2.2 ++ [x]).count x := by
          rw [List.count_append, List.count_singleton_self]; omega
        rw [hcx]
        refine cShelf_up (hold' := fun y => hold y + ((rowF a std nid es pb k).2.2 ++ [x]).count y) hS' t2 ⟨_, rfl⟩ (fun y _ hyx => ?_)
        rw [List.count_append, List.count_singleton, if_neg (by simpa using fun z => hyx z.symm)]
        rfl
      · rw [hrw]; exact ht'
      · rw [hrw]; exact fun y hy => hsub' y (hsub y hy)
      · rw [hrw]
        intro y hy
        rcases List.mem_append.mp hy with hy | hy
        · exact hsub' y (hrow y hy)
        · rw [List.mem_singleton.mp hy]; exact hx
      · refine ⟨by rw [List.length_set, List.length_set]; exact hK'.1, fun jj c hjj e1 e2 e3 e4 => ?_⟩
        have hjl := xlt hjj
        refine xset_at (xset_at (hK'.2 jj c hjj e1 e2 e3 e4) (fun z => e4 ?_)) (by omega)
        have := hK'.2 jj c hjj e1 e2 e3 e4
        rw [← z, t2] at this
        cases this
        rfl
      · rw [List.length_set, List.length_set]; exact hl'
    have more : ∀ {pcx : Nat} {L : List (Nat × Value)} {st : List Value} {N' : List xCl}, Xw l D ρ m_Shelf_rowOf pcx L st N' d (3 * m) (718 * m) (rowPost M own sh room es pb hold a std n) → Xw l D ρ m_Shelf_rowOf pcx L st N' d (3 * (m + 1)) (718 * (m + 1)) (rowPost M own sh room es pb hold a std n) := fun h => x_wk (Nat.le_refl _) (by omega) (by omega) (fun _ _ z => z) h
    have hm16 : nI k * 16 = nI (16 * k) := by rw [show (16 : Int32) = nI 16 from rfl, pk_mul, Nat.mul_comm]
    -- not the one that stands there: found, or made
    have hfound : stayP (rowF a std nid es pb k).2.1 std k (chunk a (16 * k)) = none → Xw l D ρ m_Shelf_rowOf 68 [(0, .ref sh), (1, .ref q), (2, .ref sd), (3, .ref M.length), (4, .int (nI k)), (5, .int (nI (16 * k)))] [] N d (3 * (m + 1)) (718 * (m + 1)) (rowPost M own sh room es pb hold a std n) := by
      intro hstay
      obtain ⟨g1, g2, g3, al, h1, h2, h3⟩ := id hS
      refine b_Shelf_rowOf_68 (cd1 := 3) (ckc1 := 0) (cks1 := 0) (ckc2 := 3 * (m + 1)) (cks2 := 718 * (m + 1)) trivial (by omega) (by omega) (by omega) h1 (c_found hS hqN ha (by omega) (by omega)) (fun r N1 h => ?_)
      obtain ⟨rfl, rfl⟩ := h
      refine b_Shelf_rowOf_75 (xrf_opt _) ?_
      cases hfd : findP (rowF a std nid es pb k).1 (rowF a std nid es pb k).2.1 (chunk a (16 * k)) with
      | some x =>
        refine more (b_Shelf_rowOf_77 (fin N1 own' _ _ x ?_ hS (findP_mem hfd).1 (fun y hy => hy) (by omega) hR hK hO hl))
        have hpick : pickP (rowF a std (va_up nid k N1.length) es pb k).1 (rowF a std (va_up nid k N1.length) es pb k).2.1 std k (chunk a (16 * k)) = some x := by
          rw [hcon, pickP, hstay]; exact hfd
        rw [rowF_some hpick, hcon]
      | none =>
        refine b_Shelf_rowOf_77_z ?_
        have hpick : pickP (rowF a std (va_up nid k N1.length) es pb k).1 (rowF a std (va_up nid k N1.length) es pb k).2.1 std k (chunk a (16 * k)) = none := by
          rw [hcon, pickP, hstay]; exact hfd
        have hc16 : (chunk a (16 * k)).length ≤ 16 := by rw [chunk_len]; omega
        refine b_Shelf_rowOf_82 (cd1 := 7) (ckc1 := 3) (cks1 := 718) (ckc2 := 3 * m) (cks2 := 718 * m) trivial (by omega) (by omega) (by omega) h1 (c_made hS (by omega) (by omega) hqN ha hk16 (by omega) (by omega) (by omega)) (fun r N2 h => ?_)
        obtain ⟨rfl, own'', r1, r2, r3, r4⟩ := h
        refine b_Shelf_rowOf_89 trivial (fin N2 own'' _ _ N1.length ?_ (cShelf_hold r1 ?_) (List.mem_append_right _ (List.mem_singleton.mpr rfl)) (fun y hy => List.mem_append_left _ hy) ?_ ?_ (shK5_tr hK (shK5_of r2)) ?_ (by omega))
        · rw [rowF_none hpick, hcon, va_up_self]
        · intro y hy
          rcases List.mem_append.mp hy with hy | hy
          · rw [va_up_ne _ _ (by have := cShelf_lt hS hy; omega)]
          · rw [List.mem_singleton.mp hy, va_up_self, hz _ hK.1]
            have : (rowF a std nid es pb k).2.2.count N1.length = 0 := List.count_eq_zero.mpr (fun z => Nat.lt_irrefl _ (cShelf_lt hS (hrow _ z)))
            rw [this]
        · rw [tot_app, tot_congr (fun y hy => va_up_ne _ _ (by have := cShelf_lt hS hy; omega))]
          simp only [tot, List.map_cons, List.map_nil, List.sum_cons, List.sum_nil, va_up_self] at ht ⊢
          omega
        · exact r2.2 _ _ hR (kne rfl) (kne rfl) (kne rfl)
        · intro j hj
          rw [r3 j (Nat.lt_of_lt_of_le hj hK.1)]
          exact hO j hj
    refine b_Shelf_rowOf_24 hsdN (fun c => ?_) (fun c => ?_)
    · rw [List.length_map] at c
      rw [hm16]
      refine b_Shelf_rowOf_45 (b_Shelf_rowOf_46_z (hfound ?_))
      have hge : std.length ≤ k := by
        rcases Nat.lt_or_ge k std.length with z | z
        · exact absurd c (nI_ge z (by omega))
        · exact z
      rw [stayP, List.getElem?_eq_none hge]
    · rw [List.length_map] at c
      rw [hm16]
      have hlt : k < std.length := by
        rcases Nat.lt_or_ge k std.length with z | z
        · exact z
        · exact absurd (nI_le z (by omega)) c
      have hsk : std[k]? = some std[k] := List.getElem?_eq_getElem hlt
      have hmem : std[k] ∈ (rowF a std nid es pb k).1 := hsub _ (hstd _ (List.getElem_mem hlt))
      refine b_Shelf_rowOf_38 (o41 := some std[k]) hsdN rfl (by rw [List.length_map]; omega) (by rw [List.getElem?_map, hsk]; rfl) ?_
      refine b_Shelf_rowOf_46 ?_
      obtain ⟨g1, g2, g3, al, h1, h2, h3⟩ := id hS
      obtain ⟨qx, t1, t2, t3, t4, t5⟩ := h3 _ hmem
      refine b_Shelf_rowOf_53 (f55_0 := .ref qx) (cd1 := 2) (ckc1 := 0) (cks1 := 0) (ckc2 := 3 * (m + 1)) (cks2 := 718 * (m + 1)) trivial trivial t2 (by omega) (by omega) (by omega) (c_areAlike t3 hqN (j := 0) (by omega) (by omega) (by omega) (by omega) (by omega)) (fun r N1 h => ?_)
      obtain ⟨rfl, rfl⟩ := h
      rw [chunk_self t5]
      refine b_Shelf_rowOf_65 (fun c2 => ?_) (fun c2 => ?_)
      · have heq : (rowF a std nid es pb k).2.1 std[k] = chunk a (16 * k) := by
          by_cases h0 : (rowF a std nid es pb k).2.1 std[k] = chunk a (16 * k)
          · exact h0
          · exact absurd (by rw [decide_eq_false h0]; rfl) c2
        refine more (b_Shelf_rowOf_77 (fin N1 own' _ _ std[k] ?_ hS hmem (fun y hy => hy) (by omega) hR hK hO hl))
        have hpick : pickP (rowF a std (va_up nid k N1.length) es pb k).1 (rowF a std (va_up nid k N1.length) es pb k).2.1 std k (chunk a (16 * k)) = some std[k] := by
          rw [hcon, pickP, stayP, hsk]
          simp only [heq, if_true]
        rw [rowF_some hpick, hcon]
      · have hne : ¬ (rowF a std nid es pb k).2.1 std[k] = chunk a (16 * k) := by simpa using i2b_0.mp c2
        refine hfound ?_
        rw [stayP, hsk]
        simp only [hne, if_false]
theorem c_rowOf {q sd : Nat} {a : List Int32} {std : List Nat} (hS : cShelf M own sh room es pb hold) (ht : tot pb es ≤ 40000) (ha : a.length ≤ 96) (hq : M[q]? = some (cI a)) (hsd : M[sd]? = some (cR 2 (std.map some))) (hstd : ∀ x ∈ std, x ∈ es) (hsl : std.length ≤ 1000) (hz : ∀ y, M.length ≤ y → hold y = 0) (he : es.length ≤ 390) (hd : 8 ≤ d) :
    Xw l D ρ m_Shelf_rowOf 0 [(0, .ref sh), (1, .ref q), (2, .ref sd)] [] M d 19 4314 (rowPost M own sh room es pb hold a std (nParts a.length)) := by
  have hn6 : nParts a.length ≤ 6 := by unfold nParts; omega
  refine b_Shelf_rowOf_0 (n10 := nParts a.length) (kc1 := 3 * nParts a.length) (ks1 := 718 * nParts a.length) trivial hq ?_ (by omega) (by omega) (by omega) ?_
  · rw [show (16 : Int32) = nI 16 from rfl, nI_add, show (1 : Int32) = nI 1 from rfl, pk_sub (by omega), pk_div (by omega) (by omega) (by omega)]
    rfl
  · refine c_rowLoop rfl ha hq hsd hstd hsl hz he hd (nParts a.length) 0 (M ++ [cR 2 (List.replicate (nParts a.length) none)]) own (fun _ => 0) (by omega) xpush_last ?_ (by rw [rowF]; omega) (fun x hx => hx) (fun x hx => absurd hx (by simp [rowF])) ⟨by simp, fun j c hj _ _ _ _ => xpush_at hj⟩ (fun j hj => rfl) (by simp) (fun i hi => absurd hi (Nat.not_lt_zero i))
    exact cShelf_hold (cShelf_push hS _) (fun x hx => by simp [rowF])
end ROW
