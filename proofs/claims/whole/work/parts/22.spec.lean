/-! WHAT THE STORE IS: puts P, parts es with bytes pb, blobs B, actions act, nk packs -/
def openN (P : List sP) : Nat := P.countP (fun p => p.2.2.2)
def opP (P : List sP) (v : Int32) : Option (Nat × sP) := (inb v P.length).bind fun i => (P[i]?).bind fun p => if p.2.2.2 then some (i, p) else none
def thB (B : List sB) (v : Int32) : Option (Nat × sB) := (inb v B.length).bind fun i => (B[i]?).bind fun b => if bThere b then some (i, b) else none
theorem opP_cases (P : List sP) (v : Int32) (hn : P.length ≤ 60) : (opP P v = none ∧ ((v < 0 ∨ (¬ v < 0 ∧ nI P.length ≤ v)) ∨ ∃ k p, v = nI k ∧ P[k]? = some p ∧ p.2.2.2 = false)) ∨ ∃ k p, v = nI k ∧ P[k]? = some p ∧ p.2.2.2 = true ∧ opP P v = some (k, p) := by
  rcases inb_cases v (n := P.length) (by omega) with ⟨h1, h2⟩ | ⟨k, h1, h2, h3⟩
  · exact Or.inl ⟨by rw [opP, h1]; rfl, Or.inl h2⟩
  · have h4 : P[k]? = some P[k] := List.getElem?_eq_getElem h1
    cases hp : P[k].2.2.2 with
    | true => exact Or.inr ⟨k, P[k], h2, h4, hp, by rw [opP, h3, Option.bind_some, h4, Option.bind_some, if_pos hp]⟩
    | false => exact Or.inl ⟨by rw [opP, h3, Option.bind_some, h4, Option.bind_some, if_neg (by rw [hp]; decide)], Or.inr ⟨k, P[k], h2, h4, hp⟩⟩
theorem thB_cases (B : List sB) (v : Int32) (hn : B.length ≤ 60) : (thB B v = none ∧ ((v < 0 ∨ (¬ v < 0 ∧ nI B.length ≤ v)) ∨ ∃ k b, v = nI k ∧ B[k]? = some b ∧ bThere b = false)) ∨ ∃ k b, v = nI k ∧ B[k]? = some b ∧ bThere b = true ∧ thB B v = some (k, b) := by
  rcases inb_cases v (n := B.length) (by omega) with ⟨h1, h2⟩ | ⟨k, h1, h2, h3⟩
  · exact Or.inl ⟨by rw [thB, h1]; rfl, Or.inl h2⟩
  · have h4 : B[k]? = some B[k] := List.getElem?_eq_getElem h1
    cases hp : bThere B[k] with
    | true => exact Or.inr ⟨k, B[k], h2, h4, hp, by rw [thB, h3, Option.bind_some, h4, Option.bind_some, if_pos hp]⟩
    | false => exact Or.inl ⟨by rw [thB, h3, Option.bind_some, h4, Option.bind_some, if_neg (by rw [hp]; decide)], Or.inr ⟨k, B[k], h2, h4, hp⟩⟩
theorem thB_nI {B : List sB} {k : Nat} {b : sB} (hn : B.length ≤ 60) (hb : B[k]? = some b) : thB B (nI k) = if bThere b then some (k, b) else none := by
  have h1 := (List.getElem?_eq_some_iff.mp hb).1
  rw [thB, inb_nI h1 (by omega), Option.bind_some, hb, Option.bind_some]
def trm (b : sB) (x : Nat) : Nat := if bThere b then (bIds b).count x else 0
/-- how many places have the part x -/
def cnt (B : List sB) (x : Nat) : Nat := (B.map fun b => trm b x).sum
theorem cnt_app (B : List sB) (b : sB) (x : Nat) : cnt (B ++ [b]) x = cnt B x + trm b x := by simp [cnt]
theorem cnt_set (x : Nat) : ∀ (B : List sB) (k : Nat) (b b' : sB), B[k]? = some b → cnt (B.set k b') x + trm b x = cnt B x + trm b' x
  | [], k, b, b', h => by simp at h
  | c :: B, 0, b, b', h => by
    cases h
    simp only [cnt, List.set_cons_zero, List.map_cons, List.sum_cons]
    omega
  | c :: B, k + 1, b, b', h => by
    have ih := cnt_set x B k b b' (by simpa using h)
    simp only [cnt, List.set_cons_succ, List.map_cons, List.sum_cons] at ih ⊢
    omega
theorem cnt_zero {B : List sB} {x : Nat} (h : ∀ b ∈ B, bThere b = true → x ∉ bIds b) : cnt B x = 0 := by
  induction B with
  | nil => rfl
  | cons b B ih =>
    have h1 := ih (fun c hc => h c (List.mem_cons_of_mem _ hc))
    have h2 : trm b x = 0 := by
      unfold trm
      split
      · rename_i ht
        exact List.count_eq_zero.mpr (h b List.mem_cons_self ht)
      · rfl
    show trm b x + cnt B x = 0
    omega
theorem cnt_pos {B : List sB} {x : Nat} (h : 1 ≤ cnt B x) : ∃ b ∈ B, bThere b = true ∧ x ∈ bIds b := by
  apply Classical.byContradiction
  intro hn
  have : cnt B x = 0 := cnt_zero (fun b hb ht hx => hn ⟨b, hb, ht, hx⟩)
  omega
theorem cnt_mem {B : List sB} {x : Nat} {b : sB} (hb : b ∈ B) (ht : bThere b = true) : (bIds b).count x ≤ cnt B x := by
  induction B with
  | nil => simp at hb
  | cons c B ih =>
    show _ ≤ trm c x + cnt B x
    rcases List.mem_cons.mp hb with h | h
    · subst h
      have : trm b x = (bIds b).count x := by rw [trm, if_pos ht]
      omega
    · have := ih h
      omega
theorem cnt_le {B : List sB} (h : ∀ b ∈ B, (bIds b).length ≤ 6) (x : Nat) : cnt B x ≤ 6 * B.length := by
  induction B with
  | nil => exact Nat.le_refl _
  | cons c B ih =>
    have h1 := ih (fun b hb => h b (List.mem_cons_of_mem _ hb))
    have h2 : trm c x ≤ 6 := by
      unfold trm
      have := h c List.mem_cons_self
      have h3 : (bIds c).count x ≤ (bIds c).length := List.count_le_length
      split <;> omega
    show trm c x + cnt B x ≤ _
    rw [List.length_cons]
    omega
theorem nodup_le : ∀ {es L : List Nat}, es.Nodup → (∀ x ∈ es, x ∈ L) → es.length ≤ L.length
  | [], _, _, _ => Nat.zero_le _
  | y :: es, L, hn, hs => by
    have hy := hs y List.mem_cons_self
    have h1 := nodup_le (es := es) (L := L.erase y) (List.nodup_cons.mp hn).2 (fun x hx => (List.mem_erase_of_ne (show x ≠ y from fun z => (List.nodup_cons.mp hn).1 (by rw [← z]; exact hx))).mpr (hs x (List.mem_cons_of_mem _ hx)))
    have h2 := List.length_erase_of_mem hy
    have h3 := List.length_pos_of_mem hy
    rw [List.length_cons]
    omega
theorem flat_le {B : List sB} (h : ∀ b ∈ B, (bIds b).length ≤ 6) : (B.map bIds).flatten.length ≤ 6 * B.length := by
  induction B with
  | nil => exact Nat.le_refl _
  | cons c B ih =>
    have h1 := ih (fun b hb => h b (List.mem_cons_of_mem _ hb))
    have h2 := h c List.mem_cons_self
    rw [List.map_cons, List.flatten_cons, List.length_append, List.length_cons]
    omega
def bOK (es : List Nat) (pb : Nat → List Int32) (nk : Nat) (b : sB) : Prop := bLen b ≤ 96 ∧ (∀ c, bCopy b = some c → c.length = bLen b) ∧ (bIds b).length ≤ 6 ∧ (bThere b = true → wfI pb (bIds b) (bLen b) ∧ (∀ x ∈ bIds b, x ∈ es) ∧ (bPack b = -1 ∨ ∃ p, p < nk ∧ bPack b = nI p))
def pOK (p : sP) : Prop := p.2.2.1.length ≤ p.1 ∧ p.1 ≤ 96
def SI (room : Nat) (P : List sP) (es : List Nat) (pb : Nat → List Int32) (B : List sB) (act : List Int32) (nk : Nat) : Prop :=
  (room ≤ 2000 ∧ tot pb es ≤ room ∧ es.Nodup ∧ ∀ x ∈ es, 1 ≤ cnt B x ∧ 1 ≤ (pb x).length ∧ (pb x).length ≤ 16) ∧ (P.length ≤ 60 ∧ (∀ p ∈ P, pOK p) ∧ openN P ≤ 4) ∧ (B.length ≤ 60 ∧ ∀ b ∈ B, bOK es pb nk b) ∧ act.length = 20 ∧ nk ≤ 12
def CH (M : List xCl) (own : Nat → Nat × Nat) (m : Nat) (A : List xCl) (t : Nat) (room : Nat) (P : List sP) (es : List Nat) (pb : Nat → List Int32) (B : List sB) (act : List Int32) (nk : Nat) : Prop :=
  ∃ sh pa ba ra PA BA, M[t]? = some (cO 0 [.ref sh, .ref pa, .ref ba, .ref ra, .int (nI P.length), .int (nI (openN P)), .int (nI B.length), .int (nI nk)]) ∧ cPs M own pa PA P ∧ cBs M own ba BA B ∧ cRs M own ra act ∧ cShelf M own sh room es pb (cnt B) ∧ cMo M own m A
section SPEC
variable {room : Nat} {P : List sP} {es : List Nat} {pb : Nat → List Int32} {B : List sB} {act : List Int32} {nk : Nat}
theorem SI_es (h : SI room P es pb B act nk) : es.length ≤ 360 := by
  obtain ⟨⟨-, -, h1, h2⟩, -, ⟨h3, h4⟩, -⟩ := h
  have h5 := flat_le (B := B) (fun b hb => (h4 b hb).2.2.1)
  have h6 : es.length ≤ (B.map bIds).flatten.length := nodup_le h1 (fun x hx => by
    obtain ⟨b, g1, g2, g3⟩ := cnt_pos (h2 x hx).1
    exact List.mem_flatten.mpr ⟨bIds b, List.mem_map_of_mem g1, g3⟩)
  omega
theorem SI_cnt (h : SI room P es pb B act nk) (x : Nat) : cnt B x ≤ 360 := by
  obtain ⟨-, -, ⟨h3, h4⟩, -⟩ := h
  have := cnt_le (B := B) (fun b hb => (h4 b hb).2.2.1) x
  omega
theorem openN_set {p p' : sP} : ∀ {P : List sP} {k : Nat}, P[k]? = some p → openN (P.set k p') + (if p.2.2.2 then 1 else 0) = openN P + (if p'.2.2.2 then 1 else 0)
  | [], k, h => by simp at h
  | c :: P, 0, h => by
    cases h
    simp only [openN, List.set_cons_zero, List.countP_cons]
    omega
  | c :: P, k + 1, h => by
    have ih := openN_set (p' := p') (P := P) (k := k) (p := p) (by simpa using h)
    simp only [openN, List.set_cons_succ, List.countP_cons] at ih ⊢
    omega
theorem mem_set_or {α : Type} {L : List α} {k : Nat} {v x : α} (h : x ∈ L.set k v) : x ∈ L ∨ x = v := List.mem_or_eq_of_mem_set h
/-! the parts of a row -/
theorem findP_none {c : List Int32} : findP es pb c = none ↔ ∀ x ∈ es, pb x ≠ c := by
  rw [findP, List.find?_eq_none]
  constructor
  · intro h x hx
    simpa using h x hx
  · intro h x hx
    simpa using h x hx
theorem stayP_some {std : List Nat} {k x : Nat} {c : List Int32} (h : stayP pb std k c = some x) : std[k]? = some x ∧ pb x = c := by
  unfold stayP at h
  split at h
  · rename_i y hy
    split at h
    · rename_i hc
      cases h
      exact ⟨hy, hc⟩
    · cases h
  · cases h
theorem pickP_none {std : List Nat} {k : Nat} {c : List Int32} (h : pickP es pb std k c = none) : findP es pb c = none := by
  unfold pickP at h
  split at h
  · cases h
  · exact h
theorem pickP_some {std : List Nat} {k x : Nat} {c : List Int32} (hs : ∀ y ∈ std, y ∈ es) (h : pickP es pb std k c = some x) : x ∈ es ∧ pb x = c := by
  unfold pickP at h
  split at h
  · rename_i y hy
    cases h
    obtain ⟨h1, h2⟩ := stayP_some hy
    exact ⟨hs _ (List.mem_of_getElem? h1), h2⟩
  · exact findP_mem h
theorem earlier_iff {a : List Int32} {k : Nat} : earlier a k = true ↔ ∃ j, j < k ∧ chunk a (16 * j) = chunk a (16 * k) := by
  rw [earlier, List.any_eq_true]
  constructor
  · rintro ⟨j, h1, h2⟩
    exact ⟨j, List.mem_range.mp h1, by simpa using h2⟩
  · rintro ⟨j, h1, h2⟩
    exact ⟨j, List.mem_range.mpr h1, by simpa using h2⟩
def rowOK (es : List Nat) (pb : Nat → List Int32) (a : List Int32) (k : Nat) (R : List Nat × (Nat → List Int32) × List Nat) : Prop :=
  (∀ x ∈ es, x ∈ R.1 ∧ R.2.1 x = pb x) ∧ (∀ x ∈ R.1, x ∈ es ∨ (x ∈ R.2.2 ∧ ∃ j, j < k ∧ R.2.1 x = chunk a (16 * j))) ∧ (∀ j, j < k → ∃ x, R.2.2[j]? = some x ∧ x ∈ R.1 ∧ R.2.1 x = chunk a (16 * j)) ∧ tot R.2.1 R.1 = tot pb es + needF es pb a k ∧ R.1.Nodup ∧ R.2.2.length = k
theorem row_ok {a : List Int32} {std : List Nat} {nid : Nat → Nat} (hn : es.Nodup) (hs : ∀ y ∈ std, y ∈ es) : ∀ (k : Nat), (∀ i, i < k → ∀ y ∈ (rowF a std nid es pb i).1, y < nid i) → rowOK es pb a k (rowF a std nid es pb k)
  | 0, _ => ⟨fun x hx => ⟨hx, rfl⟩, fun x hx => Or.inl hx, fun j hj => absurd hj (Nat.not_lt_zero j), rfl, hn, rfl⟩
  | k + 1, hf => by
    obtain ⟨h1, h2, h3, h4, h5, h6⟩ := row_ok (a := a) (std := std) (nid := nid) hn hs k (fun i hi => hf i (by omega))
    -- found among the parts so far: found at the start, or made from bytes that came before
    have key : (∃ x ∈ (rowF a std nid es pb k).1, (rowF a std nid es pb k).2.1 x = chunk a (16 * k)) ↔ (∃ x ∈ es, pb x = chunk a (16 * k)) ∨ earlier a k = true := by
      constructor
      · rintro ⟨x, g1, g2⟩
        rcases h2 x g1 with g3 | ⟨-, j, g3, g4⟩
        · exact Or.inl ⟨x, g3, by rw [← g2, (h1 x g3).2]⟩
        · exact Or.inr (earlier_iff.mpr ⟨j, g3, by rw [← g2, g4]⟩)
      · rintro (⟨x, g1, g2⟩ | g)
        · exact ⟨x, (h1 x g1).1, by rw [(h1 x g1).2, g2]⟩
        · obtain ⟨j, g1, g2⟩ := earlier_iff.mp g
          obtain ⟨x, g3, g4, g5⟩ := h3 j g1
          exact ⟨x, g4, by rw [g5, g2]⟩
    have hneed : needF es pb a (k + 1) = needF es pb a k + (if (∃ x ∈ (rowF a std nid es pb k).1, (rowF a std nid es pb k).2.1 x = chunk a (16 * k)) then 0 else (chunk a (16 * k)).length) := by
      rw [needF]
      congr 1
      by_cases hk : ∃ x ∈ (rowF a std nid es pb k).1, (rowF a std nid es pb k).2.1 x = chunk a (16 * k)
      · rw [if_pos hk]
        rcases key.mp hk with ⟨x, g1, g2⟩ | g
        · cases hfd : findP es pb (chunk a (16 * k)) with
          | none => exact absurd g2 (findP_none.mp hfd x g1)
          | some w => rfl
        · rw [g]
          simp
      · rw [if_neg hk]
        have g1 : findP es pb (chunk a (16 * k)) = none := findP_none.mpr (fun x hx hc => hk (key.mpr (Or.inl ⟨x, hx, hc⟩)))
        have g2 : earlier a k = false := by
          cases he : earlier a k with
          | false => rfl
          | true => exact absurd (key.mpr (Or.inr he)) hk
        rw [g1, g2]
        rfl
    cases hp : pickP (rowF a std nid es pb k).1 (rowF a std nid es pb k).2.1 std k (chunk a (16 * k)) with
    | some x =>
      obtain ⟨g1, g2⟩ := pickP_some (fun y hy => (h1 y (hs y hy)).1) hp
      rw [rowF_some hp]
      refine ⟨h1, fun y hy => ?_, fun j hj => ?_, ?_, h5, by rw [List.length_append, h6]; rfl⟩
      · rcases h2 y hy with g | ⟨g, j, g3, g4⟩
        · exact Or.inl g
        · exact Or.inr ⟨List.mem_append_left _ g, j, by omega, g4⟩
      · by_cases hjk : j < k
        · obtain ⟨y, w1, w2, w3⟩ := h3 j hjk
          exact ⟨y, by rw [List.getElem?_append_left (by omega)]; exact w1, w2, w3⟩
        · obtain rfl : j = k := by omega
          exact ⟨x, by rw [List.getElem?_append_right (by omega), h6, Nat.sub_self]; rfl, g1, g2⟩
      · rw [hneed, if_pos ⟨x, g1, g2⟩]
        exact h4
    | none =>
      have g1 := findP_none.mp (pickP_none hp)
      have hlt := hf k (by omega)
      have hni : nid k ∉ (rowF a std nid es pb k).1 := fun z => Nat.lt_irrefl _ (hlt _ z)
      have hup : ∀ y ∈ (rowF a std nid es pb k).1, va_up (rowF a std nid es pb k).2.1 (nid k) (chunk a (16 * k)) y = (rowF a std nid es pb k).2.1 y := fun y hy => va_up_ne _ _ (fun z => hni (z ▸ hy))
      rw [rowF_none hp]
      refine ⟨fun y hy => ⟨List.mem_append_left _ (h1 y hy).1, (hup y (h1 y hy).1).trans (h1 y hy).2⟩, fun y hy => ?_, fun j hj => ?_, ?_, ?_, by rw [List.length_append, h6]; rfl⟩
      · rcases List.mem_append.mp hy with hy | hy
        · rcases h2 y hy with g | ⟨g, j, g3, g4⟩
          · exact Or.inl g
          · exact Or.inr ⟨List.mem_append_left _ g, j, by omega, (hup y hy).trans g4⟩
        · rw [List.mem_singleton.mp hy]
          exact Or.inr ⟨List.mem_append_right _ (List.mem_singleton.mpr rfl), k, by omega, va_up_self _ _ _⟩
      · by_cases hjk : j < k
        · obtain ⟨y, w1, w2, w3⟩ := h3 j hjk
          exact ⟨y, by rw [List.getElem?_append_left (by omega)]; exact w1, List.mem_append_left _ w2, (hup y w2).trans w3⟩
        · obtain rfl : j = k := by omega
          exact ⟨nid j, by rw [List.getElem?_append_right (by omega), h6, Nat.sub_self]; rfl, List.mem_append_right _ (List.mem_singleton.mpr rfl), va_up_self _ _ _⟩
      · rw [hneed, if_neg (fun ⟨x, w1, w2⟩ => g1 x w1 w2)]
        show tot _ (_ ++ [nid k]) = _
        rw [tot_app, tot_congr hup, h4]
        simp [tot, va_up_self]
        omega
      · refine List.nodup_append.mpr ⟨h5, by simp, fun y hy z hz => ?_⟩
        rw [List.mem_singleton.mp hz]
        intro w
        exact hni (w ▸ hy)
end SPEC
