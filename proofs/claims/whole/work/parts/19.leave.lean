/-! PARTS ARE LEFT -/
section LEAVE
variable {l : Launch} {D : va_G} {ρ : xR} {d kc ks : Nat} {own : Nat → Nat × Nat} {sh room : Nat} {es : List Nat} {pb : Nat → List Int32} {hold : Nat → Nat}
def leftH (hold : Nat → Nat) (row : List Nat) (y : Nat) : Nat := hold y - row.count y
def keptE (es : List Nat) (hold : Nat → Nat) : List Nat := es.filter (fun y => decide (hold y ≠ 0))
theorem keptE_mem {x : Nat} : x ∈ keptE es hold ↔ x ∈ es ∧ hold x ≠ 0 := by simp [keptE]
theorem count_take1 {row : List Nat} {k x : Nat} (h : row[k]? = some x) (y : Nat) : (row.take (k + 1)).count y = (row.take k).count y + (if x = y then 1 else 0) := by
  have hk := (List.getElem?_eq_some_iff.mp h)
  obtain ⟨h1, h2⟩ := hk
  rw [List.take_succ_eq_append_getElem h1, List.count_append, h2, List.count_singleton]
  simp
theorem count_take_le (row : List Nat) (k y : Nat) : (row.take k).count y ≤ row.count y := (List.take_sublist k row).count_le y
theorem c_leave {M0 : List xCl} {rw0 : Nat} {row : List Nat} (hS0 : cShelf M0 own sh room es pb hold) (hR0 : M0[rw0]? = some (cR 2 (row.map some))) (hrl : row.length ≤ 1000) (hh : ∀ y ∈ es, 1 ≤ hold y ∧ hold y ≤ 100000) (hsub : ∀ y ∈ row, y ∈ es) (hc : ∀ y, row.count y ≤ hold y) (hd : 4 ≤ d) :
    Xw l D ρ m_Shelf_leave 0 [(0, .ref sh), (1, .ref rw0)] [] M0 d kc ks (fun r N => r = none ∧ cShelf N own sh room (keptE es (leftH hold row)) pb (leftH hold row) ∧ shK5 M0 N) := by
  refine b_Shelf_leave_0 trivial ?_
  have loop : ∀ (n k : Nat) (M : List xCl), k + n = row.length → cShelf M own sh room (keptE es (leftH hold (row.take k))) pb (leftH hold (row.take k)) → shK5 M0 M →
      Xw l D ρ m_Shelf_leave 2 [(0, .ref sh), (1, .ref rw0), (2, .int (nI k))] [] M d kc ks (fun r N => r = none ∧ cShelf N own sh room (keptE es (leftH hold row)) pb (leftH hold row) ∧ shK5 M0 N) := by
    intro n
    induction n with
    | zero =>
      intro k M hk hS hK
      have hR := hK.2 _ _ hR0 (kne rfl) (kne rfl) (kne rfl) (kne rfl)
      refine b_Shelf_leave_2 hR (fun _ => b_Shelf_leave_40 ⟨rfl, ?_, hK⟩) (fun c => absurd (nI_le (by rw [List.length_map]; omega) (by omega)) c)
      rw [List.take_of_length_le (by omega)] at hS
      exact hS
    | succ n ih =>
      intro k M hk hS hK
      have hR := hK.2 _ _ hR0 (kne rfl) (kne rfl) (kne rfl) (kne rfl)
      have hlt : k < row.length := by omega
      have hx : row[k]? = some row[k] := List.getElem?_eq_getElem hlt
      have hxe : row[k] ∈ es := hsub _ (List.getElem_mem hlt)
      have c1 := count_take1 hx row[k]
      rw [if_pos rfl] at c1
      have c2 := count_take_le row (k + 1) row[k]
      have c3 := hc row[k]
      have hhx := hh _ hxe
      have hxk : row[k] ∈ keptE es (leftH hold (row.take k)) := keptE_mem.mpr ⟨hxe, by unfold leftH; omega⟩
      obtain ⟨g1, g2, g3, al, h1, h2, h3⟩ := id hS
      obtain ⟨q, t1, t2, t3, t4⟩ := h3 _ hxk
      refine b_Shelf_leave_2 hR (fun c => absurd c (nI_ge (by rw [List.length_map]; omega) (by rw [List.length_map]; omega))) (fun _ => ?_)
      have hp : nI (leftH hold (row.take k) row[k]) - 1 = nI (leftH hold (row.take (k + 1)) row[k]) := by
        rw [show (1 : Int32) = nI 1 from rfl, pk_sub (by unfold leftH; omega)]
        congr 1
        unfold leftH
        omega
      have hS' : cShelf (M.set row[k] (cO 5 [.ref q, .int (nI (leftH hold (row.take (k + 1)) row[k]))])) own sh room (keptE es (leftH hold (row.take k))) pb (leftH hold (row.take (k + 1))) := by
        refine cShelf_up hS t2 ⟨_, rfl⟩ (fun y _ hyx => ?_)
        have := count_take1 hx y
        rw [if_neg (fun z => hyx z.symm)] at this
        unfold leftH
        omega
      have hK' : shK5 M0 (M.set row[k] (cO 5 [.ref q, .int (nI (leftH hold (row.take (k + 1)) row[k]))])) := by
        refine ⟨by rw [List.length_set]; exact hK.1, fun jj c hjj e1 e2 e3 e4 => ?_⟩
        have h9 := hK.2 jj c hjj e1 e2 e3 e4
        refine xset_at h9 (fun z => e4 ?_)
        rw [← z, t2] at h9
        cases h9
        rfl
      refine b_Shelf_leave_8 hR rfl (by rw [List.length_map]; omega) (by rw [List.getElem?_map, hx]; rfl) t2 (fun c => ?_) (fun c => ?_)
      · rw [hp] at c ⊢
        refine b_Shelf_leave_34 trivial ?_
        rw [nI_1]
        refine ih (k + 1) _ (by omega) ?_ hK'
        have hne : leftH hold (row.take (k + 1)) row[k] ≠ 0 := fun z => c (by rw [z]; rfl)
        have he : keptE es (leftH hold (row.take (k + 1))) = keptE es (leftH hold (row.take k)) := by
          unfold keptE
          refine List.filter_congr (fun y hy => ?_)
          by_cases hyx : y = row[k]
          · subst hyx
            rw [decide_eq_true hne, decide_eq_true (keptE_mem.mp hxk).2]
          · have := count_take1 hx y
            rw [if_neg (fun z => hyx z.symm)] at this
            have h7 : leftH hold (row.take (k + 1)) y = leftH hold (row.take k) y := by unfold leftH; omega
            rw [h7]
        rw [he]
        exact hS'
      · rw [hp] at c ⊢
        have h0 : leftH hold (row.take (k + 1)) row[k] = 0 := by
          have : leftH hold (row.take (k + 1)) row[k] < 2 ^ 31 := by unfold leftH; omega
          exact (nI_eq (by omega) (by decide)).mp (c.trans (show (0 : Int32) = nI 0 from rfl))
        obtain ⟨-, -, -, al', k1, -⟩ := id hS'
        refine b_Shelf_leave_29 (cd1 := 3) (ckc1 := 0) (cks1 := 0) (ckc2 := kc) (cks2 := ks) trivial (by omega) (by omega) (by omega) k1 (c_drop hS' hxk (by omega)) (fun r N h => ?_)
        obtain ⟨rfl, r1, r2, -⟩ := h
        refine b_Shelf_leave_34 trivial ?_
        rw [nI_1]
        refine ih (k + 1) _ (by omega) ?_ (shK5_tr hK' (shK5_of r2))
        have he : keptE es (leftH hold (row.take (k + 1))) = (keptE es (leftH hold (row.take k))).filter (fun y => decide (y ≠ row[k])) := by
          unfold keptE
          rw [List.filter_filter]
          refine List.filter_congr (fun y hy => ?_)
          by_cases hyx : y = row[k]
          · subst hyx
            simp [h0]
          · have := count_take1 hx y
            rw [if_neg (fun z => hyx z.symm)] at this
            have h7 : leftH hold (row.take (k + 1)) y = leftH hold (row.take k) y := by unfold leftH; omega
            rw [h7]
            simp [hyx]
        rw [he]
        exact r1
  refine loop row.length 0 M0 (by omega) ?_ ⟨Nat.le_refl _, fun _ _ h _ _ _ _ => h⟩
  have he : keptE es (leftH hold (row.take 0)) = es := by
    unfold keptE
    apply List.filter_eq_self.mpr
    intro y hy
    have := (hh y hy).1
    have h7 : leftH hold (row.take 0) y = hold y := by simp [leftH]
    rw [h7]
    exact decide_eq_true (by omega)
  rw [he]
  exact cShelf_hold hS0 (fun x _ => by simp [leftH])
end LEAVE
