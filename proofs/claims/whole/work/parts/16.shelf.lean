/-! THE SHELF: parts es in the order of their making, pb their bytes, hold how many places have them -/
abbrev sP : Type := Nat × Int64 × List Int32 × Bool
abbrev sB : Type := Nat × List Nat × Int32 × Int64 × Option (List Int32) × Int32 × Bool
abbrev bLen (b : sB) : Nat := b.1
abbrev bIds (b : sB) : List Nat := b.2.1
abbrev bSum (b : sB) : Int32 := b.2.2.1
abbrev bDig (b : sB) : Int64 := b.2.2.2.1
abbrev bCopy (b : sB) : Option (List Int32) := b.2.2.2.2.1
abbrev bPack (b : sB) : Int32 := b.2.2.2.2.2.1
abbrev bThere (b : sB) : Bool := b.2.2.2.2.2.2
def tot (pb : Nat → List Int32) (es : List Nat) : Nat := (es.map fun x => (pb x).length).sum
def cParts (M : List xCl) (own : Nat → Nat × Nat) (es : List Nat) (pb : Nat → List Int32) (hold : Nat → Nat) : Prop :=
  ∀ x ∈ es, ∃ q, own q = (6, x) ∧ M[x]? = some (cO 5 [.ref q, .int (nI (hold x))]) ∧ M[q]? = some (cI (pb x)) ∧ 1 ≤ (pb x).length ∧ (pb x).length ≤ 16
def cShelf (M : List xCl) (own : Nat → Nat × Nat) (sh room : Nat) (es : List Nat) (pb : Nat → List Int32) (hold : Nat → Nat) : Prop :=
  room ≤ 2000 ∧ tot pb es ≤ 100000 ∧ es.Nodup ∧ ∃ al, M[sh]? = some (cO 1 [.int (nI room), .ref al, .int (nI (tot pb es))]) ∧ cAL M al es ∧ cParts M own es pb hold
theorem i2b_0 {b : Bool} : i2b b = 0 ↔ b = false := by cases b <;> decide
theorem chunk_self {a : List Int32} (h : a.length ≤ 16) : chunk a 0 = a := by rw [chunk, List.drop_zero, List.take_of_length_le h]
/-- the first part that has these bytes -/
def findP (es : List Nat) (pb : Nat → List Int32) (c : List Int32) : Option Nat := es.find? (fun x => decide (pb x = c))
theorem cParts_el {M : List xCl} {own : Nat → Nat × Nat} {es : List Nat} {pb : Nat → List Int32} {hold : Nat → Nat} (h : cParts M own es pb hold) : cEl M es := fun v hv => by
  obtain ⟨q, -, h1, -⟩ := h v hv
  exact ⟨_, h1⟩
section SHELF
variable {l : Launch} {D : va_G} {ρ : xR} {M : List xCl} {d kc ks : Nat} {own : Nat → Nat × Nat} {sh room : Nat} {es : List Nat} {pb : Nat → List Int32} {hold : Nat → Nat}
theorem c_found {q j : Nat} {a : List Int32} (hS : cShelf M own sh room es pb hold) (hq : M[q]? = some (cI a)) (ha : a.length ≤ 96) (hj : j ≤ 96) (hd : 3 ≤ d) :
    Xw l D ρ m_Shelf_found 0 [(0, .ref sh), (1, .ref q), (2, .int (nI j))] [] M d kc ks (fun r N => r = some (xrv (findP es pb (chunk a j))) ∧ N = M) := by
  obtain ⟨-, -, -, al, h1, h2, h3⟩ := hS
  obtain ⟨h4, ed, mc, h5, h6⟩ := id h2
  refine b_Shelf_found_0 ?_
  have loop : ∀ (n i : Nat), i + n = es.length → Xw l D ρ m_Shelf_found 2 [(0, .ref sh), (1, .ref q), (2, .int (nI j)), (3, .int (nI i))] [] M d kc ks (fun r N => r = some (xrv (findP (es.drop i) pb (chunk a j))) ∧ N = M) := by
    intro n
    induction n with
    | zero =>
      intro i hi
      refine b_Shelf_found_2 (cd1 := 0) (ckc1 := 0) (cks1 := 0) (ckc2 := kc) (cks2 := ks) h1 (by omega) (by omega) (by omega) h5 (c_size h2) (fun r N h => ?_)
      obtain ⟨rfl, rfl⟩ := h
      refine b_Shelf_found_10 (fun _ => b_Shelf_found_49 ⟨?_, rfl⟩) (fun c => absurd (nI_le (by omega) (by omega)) c)
      rw [List.drop_eq_nil_of_le (by omega)]
      rfl
    | succ n ih =>
      intro i hi
      have hlt : i < es.length := by omega
      refine b_Shelf_found_2 (cd1 := 0) (ckc1 := 0) (cks1 := 0) (ckc2 := kc) (cks2 := ks) h1 (by omega) (by omega) (by omega) h5 (c_size h2) (fun r N h => ?_)
      obtain ⟨rfl, rfl⟩ := h
      refine b_Shelf_found_10 (fun c => absurd c (nI_ge hlt (by omega))) (fun _ => ?_)
      refine b_Shelf_found_13 (cd1 := 2) (ckc1 := 0) (cks1 := 0) (ckc2 := kc) (cks2 := ks) h1 (by omega) (by omega) (by omega) h5 (c_get h2 (List.getElem?_eq_getElem hlt) (by omega)) (fun r N' h => ?_)
      obtain ⟨rfl, rfl⟩ := h
      obtain ⟨q', -, g1, g2, g3, g4⟩ := h3 es[i] (List.getElem_mem hlt)
      refine b_Shelf_found_21 (cd1 := 2) (ckc1 := 0) (cks1 := 0) (ckc2 := kc) (cks2 := ks) (f21_0 := .ref q') trivial trivial g1 (by omega) (by omega) (by omega) (c_areAlike g2 hq (j := 0) (by omega) (by omega) (by omega) (by omega) (by omega)) (fun r N h => ?_)
      obtain ⟨rfl, rfl⟩ := h
      rw [chunk_self g4, List.drop_eq_getElem_cons hlt]
      refine b_Shelf_found_37 (fun c => ?_) (fun c => ?_)
      · have hne : decide (pb es[i] = chunk a j) = false := i2b_0.mp c
        rw [findP, List.find?_cons, hne]
        refine b_Shelf_found_43 ?_
        rw [nI_1]
        exact ih (i + 1) (by omega)
      · have hne : decide (pb es[i] = chunk a j) = true := by
          cases hb : decide (pb es[i] = chunk a j) with
          | true => rfl
          | false => rw [hb] at c; exact absurd rfl c
        rw [findP, List.find?_cons, hne]
        exact b_Shelf_found_40 trivial ⟨rfl, rfl⟩
  exact loop es.length 0 (by omega)
/-- whether bytes that begin at 16 k come before too -/
def earlier (a : List Int32) (k : Nat) : Bool := (List.range k).any fun i => decide (chunk a (16 * i) = chunk a (16 * k))
theorem c_comesEarlier {q k : Nat} {a : List Int32} {x0 : Value} (hq : M[q]? = some (cI a)) (ha : a.length ≤ 96) (hk : k ≤ 6) (hd : 3 ≤ d) :
    Xw l D ρ m_Shelf_comesEarlier 0 [(0, x0), (1, .ref q), (2, .int (nI (16 * k)))] [] M d kc ks (fun r N => r = some (.int (i2b (earlier a k))) ∧ N = M) := by
  refine b_Shelf_comesEarlier_0 ?_
  have loop : ∀ (n i : Nat), i + n = k → (∀ t, t < i → ¬ chunk a (16 * t) = chunk a (16 * k)) → Xw l D ρ m_Shelf_comesEarlier 2 [(1, .ref q), (2, .int (nI (16 * k))), (3, .int (nI (16 * i)))] [] M d kc ks (fun r N => r = some (.int (i2b (earlier a k))) ∧ N = M) := by
    intro n
    induction n with
    | zero =>
      intro i hi hp
      refine b_Shelf_comesEarlier_2 (fun _ => b_Shelf_comesEarlier_25 ⟨?_, rfl⟩) (fun c => absurd (nI_le (by omega) (by omega)) c)
      have : earlier a k = false := by
        rw [earlier, List.any_eq_false]
        intro t ht
        have ht2 : t < k := List.mem_range.mp ht
        simpa using hp t (by omega)
      rw [this]
      rfl
    | succ n ih =>
      intro i hi hp
      refine b_Shelf_comesEarlier_2 (fun c => absurd c (nI_ge (by omega) (by omega))) (fun _ => ?_)
      refine b_Shelf_comesEarlier_7 (cd1 := 2) (ckc1 := 0) (cks1 := 0) (ckc2 := kc) (cks2 := ks) trivial (by omega) (by omega) (by omega) (c_areAlike hq hq (by omega) (by omega) (by omega) (by omega) (by omega)) (fun r N h => ?_)
      obtain ⟨rfl, rfl⟩ := h
      refine b_Shelf_comesEarlier_14 (fun c => ?_) (fun c => ?_)
      · have hne : ¬ chunk a (16 * i) = chunk a (16 * k) := by simpa using i2b_0.mp c
        refine b_Shelf_comesEarlier_19 ?_
        rw [show nI (16 * i) + 16 = nI (16 * (i + 1)) by rw [show (16 : Int32) = nI 16 from rfl, nI_add]; rfl]
        refine ih (i + 1) (by omega) (fun t ht => ?_)
        by_cases hti : t = i
        · subst hti; exact hne
        · exact hp t (by omega)
      · refine b_Shelf_comesEarlier_17 ⟨?_, rfl⟩
        have heq : chunk a (16 * i) = chunk a (16 * k) := by
          by_cases h0 : chunk a (16 * i) = chunk a (16 * k)
          · exact h0
          · exact absurd (by simp [h0, i2b]) c
        have : earlier a k = true := by
          rw [earlier, List.any_eq_true]
          exact ⟨i, List.mem_range.mpr (by omega), by simpa using heq⟩
        rw [this]
        rfl
  exact loop k 0 (by omega) (fun t ht => absurd ht (Nat.not_lt_zero t))
def nParts (n : Nat) : Nat := (n + 15) / 16
/-- room that the first k parts of a want -/
def needF (es : List Nat) (pb : Nat → List Int32) (a : List Int32) : Nat → Nat
  | 0 => 0
  | k + 1 => needF es pb a k + (if (findP es pb (chunk a (16 * k))).isNone && !(earlier a k) then (chunk a (16 * k)).length else 0)
theorem needF_le (es : List Nat) (pb : Nat → List Int32) (a : List Int32) : ∀ k, needF es pb a k ≤ 16 * k
  | 0 => Nat.le_refl _
  | k + 1 => by
    have ih := needF_le es pb a k
    have h16 : (chunk a (16 * k)).length ≤ 16 := by rw [chunk_len]; omega
    rw [needF]
    split <;> omega
theorem c_hasRoomFor {q : Nat} {a : List Int32} (hS : cShelf M own sh room es pb hold) (hu : tot pb es ≤ room) (hq : M[q]? = some (cI a)) (ha : a.length ≤ 96) (hd : 4 ≤ d) :
    Xw l D ρ m_Shelf_hasRoomFor 0 [(0, .ref sh), (1, .ref q)] [] M d kc ks (fun r N => r = some (.int (i2b (decide (tot pb es + needF es pb a (nParts a.length) ≤ room)))) ∧ N = M) := by
  obtain ⟨g1, g2, g3, al, h1, h2, h3⟩ := id hS
  refine b_Shelf_hasRoomFor_0 trivial ?_
  have loop : ∀ (n i : Nat), i + n = nParts a.length → Xw l D ρ m_Shelf_hasRoomFor 4 [(0, .ref sh), (1, .ref q), (2, .int (nI (needF es pb a i))), (3, .int (nI (16 * i)))] [] M d kc ks (fun r N => r = some (.int (i2b (decide (tot pb es + needF es pb a (nParts a.length) ≤ room)))) ∧ N = M) := by
    intro n
    induction n with
    | zero =>
      intro i hi
      have hnl := needF_le es pb a i
      refine b_Shelf_hasRoomFor_4 hq (fun _ => ?_) (fun c => absurd (nI_le (by unfold nParts at hi; omega) (by unfold nParts at hi; omega)) c)
      have hi6 : i ≤ 6 := by unfold nParts at hi; omega
      obtain rfl : i = nParts a.length := by omega
      refine b_Shelf_hasRoomFor_42 h1 (fun c => ?_) (fun c => ?_)
      · rw [pk_sub hu] at c
        have hlt := (nI_ltI (by omega) (by omega)).mp c
        refine b_Shelf_hasRoomFor_59 (b_Shelf_hasRoomFor_60 ⟨?_, rfl⟩ (by decide))
        rw [decide_eq_false (by omega)]
        rfl
      · rw [pk_sub hu] at c
        refine b_Shelf_hasRoomFor_55 (b_Shelf_hasRoomFor_60 ⟨?_, rfl⟩ (by decide))
        have hge : ¬ room - tot pb es < needF es pb a (nParts a.length) := fun z => c (nI_lt z (by omega))
        rw [decide_eq_true (by omega)]
        rfl
    | succ n ih =>
      intro i hi
      have hi6 : i < 6 := by unfold nParts at hi; omega
      have hlt : 16 * i < a.length := by unfold nParts at hi; omega
      have hnl := needF_le es pb a i
      refine b_Shelf_hasRoomFor_4 hq (fun c => absurd c (nI_ge hlt (by omega))) (fun _ => ?_)
      have next : ∀ w, w = needF es pb a (i + 1) → Xw l D ρ m_Shelf_hasRoomFor 36 [(0, .ref sh), (1, .ref q), (2, .int (nI w)), (3, .int (nI (16 * i)))] [] M d kc ks (fun r N => r = some (.int (i2b (decide (tot pb es + needF es pb a (nParts a.length) ≤ room)))) ∧ N = M) := by
        intro w hw
        subst hw
        refine b_Shelf_hasRoomFor_36 ?_
        rw [show nI (16 * i) + 16 = nI (16 * (i + 1)) by rw [show (16 : Int32) = nI 16 from rfl, nI_add]; rfl]
        exact ih (i + 1) (by omega)
      refine b_Shelf_hasRoomFor_10 (cd1 := 3) (ckc1 := 0) (cks1 := 0) (ckc2 := kc) (cks2 := ks) trivial (by omega) (by omega) (by omega) h1 (c_found hS hq ha (by omega) (by omega)) (fun r N h => ?_)
      obtain ⟨rfl, rfl⟩ := h
      cases hf : findP es pb (chunk a (16 * i)) with
      | some x =>
        refine b_Shelf_hasRoomFor_16 (next _ ?_)
        rw [needF, hf]
        rfl
      | none =>
        refine b_Shelf_hasRoomFor_16_z ?_
        refine b_Shelf_hasRoomFor_19 (cd1 := 3) (ckc1 := 0) (cks1 := 0) (ckc2 := kc) (cks2 := ks) trivial (by omega) (by omega) (by omega) h1 (c_comesEarlier hq ha (by omega) (by omega)) (fun r N h => ?_)
        obtain ⟨rfl, rfl⟩ := h
        refine b_Shelf_hasRoomFor_25 (fun c => ?_) (fun c => ?_)
        · have he : earlier a i = true := by
            cases hb : earlier a i with
            | true => rfl
            | false => rw [hb] at c; exact absurd rfl c
          refine next _ ?_
          rw [needF, hf, he]
          rfl
        · have he : earlier a i = false := i2b_0.mp c
          refine b_Shelf_hasRoomFor_28 (cd1 := 1) (ckc1 := 0) (cks1 := 0) (ckc2 := kc) (cks2 := ks) trivial (by omega) (by omega) (by omega) (c_partLength hq (by omega) (by omega) (by omega)) (fun r N h => ?_)
          obtain ⟨rfl, rfl⟩ := h
          refine b_Shelf_hasRoomFor_34 trivial ?_
          rw [nI_add]
          refine next _ ?_
          rw [needF, hf, he]
          rfl
  exact loop (nParts a.length) 0 (by omega)
end SHELF
