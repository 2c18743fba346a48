section MTAKE
variable {l : Launch} {D : va_G} {ρ : xR} {M : List xCl} {d kc ks : Nat} {pre post : List xCl} {s : mS} {es : List Nat} {pb : Nat → List Int32} {sl st : Nat → Nat} {c : Nat} {B : List sB} {a : List Int32}
/-- take, behind k places -/
def tkI (R : List Nat × (Nat → List Int32) × List Nat) (es std : List Nat) (sl sl' st' : Nat → Nat) (c k kb : Nat) (slot0 psz stp pby : List Int32) (n : Nat) (slot : List Int32) : Prop :=
  mrS R.1 R.2.1 sl' st' c n psz stp pby ∧ (∀ x ∈ es, sl' x = sl x) ∧ slot.length = 360 ∧ (∀ (j x : Nat), R.2.2[j]? = some x → slot[6 * kb + j]? = some (nI (sl' x))) ∧ (∀ (j x : Nat), k ≤ j → std[j]? = some x → slot[6 * kb + j]? = some (nI (sl' x))) ∧ ∀ p : Nat, p < 6 * kb ∨ 6 * kb + 6 ≤ p → slot[p]? = slot0[p]?
theorem c_mTake {kb : Nat} {had : Bool} {std : List Nat} {nid : Nat → Nat} (hS : mrSs es pb sl st c s) (hc : c ≤ 100000) (hn : es.Nodup) (h16 : ∀ x ∈ es, 1 ≤ (pb x).length ∧ (pb x).length ≤ 16) (hel : es.length ≤ 360) (hwk : wk a (g_work s)) (ha : a.length ≤ 96) (hkb : kb < 60) (hll : (g_len s).length = 60) (hlen : (g_len s)[kb]? = some (nI a.length)) (hsl : (g_slot s).length = 360)
    (hstd : (had = false ∧ std = []) ∨ (had = true ∧ std.length = nParts a.length ∧ ∀ (j x : Nat), std[j]? = some x → x ∈ es ∧ (g_slot s)[6 * kb + j]? = some (nI (sl x)))) (hf : nOK es pb a std nid) (hd : 3 ≤ d) :
    Xw l D ρ m_ContentStoreModel_take 0 [(0, .ref pre.length), (1, .int (nI kb)), (2, .int (i2b had))] [] (mH pre post s) d kc ks (fun r N => r = none ∧ ∃ psz stp pby n slot sl' st', N = mH pre post (p_slot (u4 s psz stp pby n) slot) ∧ tkI (rowF a std nid es pb (nParts a.length)) es std sl sl' st' (c + 6) (nParts a.length) kb (g_slot s) psz stp pby n slot) := by
  have hn6 : nParts a.length ≤ 6 := by unfold nParts; omega
  have hsub : ∀ y ∈ std, y ∈ es := by
    rcases hstd with ⟨-, rfl⟩ | ⟨-, -, h⟩
    · exact fun y hy => absurd hy (by simp)
    · intro y hy
      obtain ⟨j, hj, rfl⟩ := List.getElem_of_mem hy
      exact (h j _ (List.getElem?_eq_getElem hj)).1
  refine b_ContentStoreModel_take_0 h_obj h_len rfl hlen (by omega) ?_
  have loop : ∀ (m k : Nat) (psz stp pby : List Int32) (n : Nat) (slot : List Int32) (slk stk : Nat → Nat), k + m = nParts a.length → tkI (rowF a std nid es pb k) es std sl slk stk (c + k) k kb (g_slot s) psz stp pby n slot →
      Xw l D ρ m_ContentStoreModel_take 10 [(0, .ref pre.length), (1, .int (nI kb)), (2, .int (i2b had)), (3, .int (nI a.length)), (4, .int (nI k))] [] (mH pre post (p_slot (u4 s psz stp pby n) slot)) d kc ks (fun r N => r = none ∧ ∃ psz stp pby n slot sl' st', N = mH pre post (p_slot (u4 s psz stp pby n) slot) ∧ tkI (rowF a std nid es pb (nParts a.length)) es std sl sl' st' (c + 6) (nParts a.length) kb (g_slot s) psz stp pby n slot) := by
    intro m
    induction m with
    | zero =>
      intro k psz stp pby n slot slk stk hk hI
      refine b_ContentStoreModel_take_10 (cd1 := 0) (ckc1 := 0) (cks1 := 0) (ckc2 := kc) (cks2 := ks) (by omega) (by omega) (by omega) (c_mparts (by omega)) (fun r N h => ?_)
      obtain ⟨rfl, rfl⟩ := h
      obtain rfl : k = nParts a.length := by omega
      refine b_ContentStoreModel_take_16 (fun _ => b_ContentStoreModel_take_81 ⟨rfl, psz, stp, pby, n, slot, slk, stk, rfl, ?_⟩) (fun c => absurd (nI_le (by omega) (by omega)) c)
      obtain ⟨⟨m0, m1⟩, h2⟩ := hI
      exact ⟨⟨by omega, m1⟩, h2⟩
    | succ m ih =>
      intro k psz stp pby n slot slk stk hk hI
      have hkn : k < nParts a.length := by omega
      have hk16 := kParts hkn
      obtain ⟨i1, i2, i3, i4, i5, i6⟩ := id hI
      have hRo := row_ok (a := a) (std := std) (nid := nid) (pb := pb) hn hsub k (fun i hi => hf i (by omega))
      have hlenR := (rowF_len (es := es) (pb := pb) (a := a) (std := std) (nid := nid) k)
      have hnid := hf k hkn
      have hl16 : ∀ x ∈ (rowF a std nid es pb k).1, 1 ≤ ((rowF a std nid es pb k).2.1 x).length ∧ ((rowF a std nid es pb k).2.1 x).length ≤ 16 := fun x hx => by
        rcases hRo.2.1 x hx with g | ⟨-, j, g1, g2⟩
        · rw [(hRo.1 x g).2]
          exact h16 x g
        · have := kParts (n := a.length) (k := j) (by omega)
          rw [g2, chunk_len]
          omega
      have hsubk : ∀ y ∈ std, y ∈ (rowF a std nid es pb k).1 := fun y hy => (hRo.1 y (hsub y hy)).1
      have hwk' : wk a (g_work (p_slot (u4 s psz stp pby n) slot)) := hwk
      have hSk : mrSs (rowF a std nid es pb k).1 (rowF a std nid es pb k).2.1 slk stk (c + k) (p_slot (u4 s psz stp pby n) slot) := i1
      refine b_ContentStoreModel_take_10 (cd1 := 0) (ckc1 := 0) (cks1 := 0) (ckc2 := kc) (cks2 := ks) (by omega) (by omega) (by omega) (c_mparts (by omega)) (fun r N h => ?_)
      obtain ⟨rfl, rfl⟩ := h
      refine b_ContentStoreModel_take_16 (fun c => absurd c (nI_ge hkn (by omega))) (fun _ => ?_)
      -- the slot is written
      have fin : ∀ (psz' stp' pby' : List Int32) (n' : Nat) (slk' stk' : Nat → Nat) (es' : List Nat) (pb' : Nat → List Int32) (x : Nat), rowF a std nid es pb (k + 1) = (es', pb', (rowF a std nid es pb k).2.2 ++ [x]) → mrS es' pb' slk' stk' (c + (k + 1)) n' psz' stp' pby' → (∀ y ∈ (rowF a std nid es pb k).1, slk' y = slk y) → Xw l D ρ m_ContentStoreModel_take 74 [(0, .ref pre.length), (1, .int (nI kb)), (2, .int (i2b had)), (3, .int (nI a.length)), (4, .int (nI k))] [.int (nI (slk' x)), .int (6 * nI kb + nI k), .ref (pre.length + 11)] (mH pre post (p_slot (u4 s psz' stp' pby' n') slot)) d kc ks (fun r N => r = none ∧ ∃ psz stp pby n slot sl' st', N = mH pre post (p_slot (u4 s psz stp pby n) slot) ∧ tkI (rowF a std nid es pb (nParts a.length)) es std sl sl' st' (c + 6) (nParts a.length) kb (g_slot s) psz stp pby n slot) := by
        intro psz' stp' pby' n' slk' stk' es' pb' x hrw hm hsame
        refine b_ContentStoreModel_take_74 (a74 := slot) (j74 := 6 * kb + k) h_slot (e6 kb k) (by omega) (by omega) ?_
        rw [w_slot]
        refine b_ContentStoreModel_take_75 ?_
        rw [nI_1]
        refine ih (k + 1) psz' stp' pby' n' (slot.set (6 * kb + k) (nI (slk' x))) slk' stk' (by omega) ⟨?_, ?_, ?_, ?_, ?_, ?_⟩
        · rw [hrw]; exact hm
        · intro y hy
          rw [hsame y (hRo.1 y hy).1]
          exact i2 y hy
        · rw [List.length_set]; exact i3
        · rw [hrw]
          intro j y hj
          by_cases hjk : j = k
          · subst hjk
            rw [List.getElem?_append_right (by rw [hlenR.1]; exact Nat.le_refl _), hlenR.1, Nat.sub_self] at hj
            cases hj
            exact List.getElem?_set_self (by omega)
          · have hjl := (List.getElem?_eq_some_iff.mp hj).1
            rw [List.length_append, hlenR.1, List.length_singleton] at hjl
            rw [List.getElem?_append_left (by rw [hlenR.1]; omega)] at hj
            rw [List.getElem?_set_ne (by omega)]
            obtain ⟨y', g1, g2, g3⟩ := hRo.2.2.1 j (by omega)
            rw [hj] at g1
            cases g1
            rw [hsame _ g2]
            exact i4 j _ hj
        · intro j y hj hy
          rw [List.getElem?_set_ne (by omega), hsame _ (hsubk y (List.mem_of_getElem? hy))]
          exact i5 j y (by omega) hy
        · intro p hp
          rw [List.getElem?_set_ne (by omega)]
          exact i6 p hp
      -- found, or made
      have seek : stayP (rowF a std nid es pb k).2.1 std k (chunk a (16 * k)) = none → Xw l D ρ m_ContentStoreModel_take 37 [(0, .ref pre.length), (1, .int (nI kb)), (2, .int (i2b had)), (3, .int (nI a.length)), (4, .int (nI k))] [] (mH pre post (p_slot (u4 s psz stp pby n) slot)) d kc ks (fun r N => r = none ∧ ∃ psz stp pby n slot sl' st', N = mH pre post (p_slot (u4 s psz stp pby n) slot) ∧ tkI (rowF a std nid es pb (nParts a.length)) es std sl sl' st' (c + 6) (nParts a.length) kb (g_slot s) psz stp pby n slot) := by
        intro hst
        refine b_ContentStoreModel_take_37 (cd1 := 2) (ckc1 := 0) (cks1 := 0) (ckc2 := kc) (cks2 := ks) (by omega) (by omega) (by omega) h_obj (c_mFind hSk (by omega) (fun x hx => (hl16 x hx).2) hwk' ha hkn (by omega)) (fun r N h => ?_)
        obtain ⟨rfl, rfl⟩ := h
        cases hfd : findP (rowF a std nid es pb k).1 (rowF a std nid es pb k).2.1 (chunk a (16 * k)) with
        | some x =>
          have hpick : pickP (rowF a std nid es pb k).1 (rowF a std nid es pb k).2.1 std k (chunk a (16 * k)) = some x := by rw [pickP, hst]; exact hfd
          have hx4 := (i1.2.2.1 x (findP_mem hfd).1).1
          refine b_ContentStoreModel_take_44 h_obj (fun _ => ?_) (fun c => absurd (nI_pos' (by omega)) c)
          refine b_ContentStoreModel_take_72 ?_
          obtain ⟨q0, q1⟩ := i1
          exact fin psz stp pby n slk stk _ _ x (rowF_some hpick) ⟨by omega, q1⟩ (fun y _ => rfl)
        | none =>
          have hpick : pickP (rowF a std nid es pb k).1 (rowF a std nid es pb k).2.1 std k (chunk a (16 * k)) = none := by rw [pickP, hst]; exact hfd
          refine b_ContentStoreModel_take_44 h_obj (fun c => absurd c (show ¬ (0 : Int32) ≤ -1 by decide)) (fun _ => ?_)
          refine b_ContentStoreModel_take_62 (cd1 := 1) (ckc1 := 0) (cks1 := 0) (ckc2 := kc) (cks2 := ks) trivial (by omega) (by omega) (by omega) h_obj (c_mMade hSk hl16 (by omega) hwk' ha hkn (by omega)) (fun r N h => ?_)
          obtain ⟨i, psz', stp', pby', rfl, hi4, rfl, hm⟩ := h
          have hni : nid k ∉ (rowF a std nid es pb k).1 := fun z => Nat.lt_irrefl _ (hnid _ z)
          refine b_ContentStoreModel_take_69 ?_
          have := fin psz' stp' pby' (n + 1) (va_up slk (nid k) i) (va_up stk (nid k) n) _ _ (nid k) (rowF_none hpick) (hm (nid k) hni) (fun y hy => va_up_ne _ _ (fun z => hni (z ▸ hy)))
          rw [va_up_self] at this
          exact this
      refine b_ContentStoreModel_take_19 (fun cz => ?_) (fun cz => ?_)
      · have hh : had = false := i2b_0.mp cz
        rcases hstd with ⟨-, hs0⟩ | ⟨h, -⟩
        · refine seek ?_
          rw [hs0]
          simp [stayP]
        · rw [hh] at h
          cases h
      · have hh : had = true := i2b_t cz
        rcases hstd with ⟨h, -⟩ | ⟨-, hsl2, hs3⟩
        · rw [hh] at h
          cases h
        · refine b_ContentStoreModel_take_23 (cd1 := 2) (ckc1 := 0) (cks1 := 0) (ckc2 := kc) (cks2 := ks) (by omega) (by omega) (by omega) h_obj (c_mStays hSk (fun x hx => (hl16 x hx).2) hwk' ha hkn (Or.inr ⟨kb, hkb, rfl, by omega, i3, fun x hx => ⟨hsubk x (List.mem_of_getElem? hx), i5 k x (Nat.le_refl _) hx⟩⟩) (by omega)) (fun r N h => ?_)
          obtain ⟨rfl, rfl⟩ := h
          refine b_ContentStoreModel_take_31 (fun c2 => ?_) (fun c2 => ?_)
          · refine seek ?_
            cases hq : stayP (rowF a std nid es pb k).2.1 std k (chunk a (16 * k)) with
            | none => rfl
            | some x => rw [hq] at c2; exact absurd c2 (show ¬ (1 : Int32) = 0 by decide)
          · obtain ⟨x, hx⟩ := Option.isSome_iff_exists.mp (i2b_t c2)
            have hpick : pickP (rowF a std nid es pb k).1 (rowF a std nid es pb k).2.1 std k (chunk a (16 * k)) = some x := by rw [pickP, hx]
            obtain ⟨g1, g2⟩ := stayP_some hx
            refine b_ContentStoreModel_take_34 (b_ContentStoreModel_take_75 ?_)
            rw [nI_1]
            refine ih (k + 1) psz stp pby n slot slk stk (by omega) ⟨?_, i2, i3, ?_, fun j y hj hy => i5 j y (by omega) hy, i6⟩
            · rw [rowF_some hpick]
              obtain ⟨q0, q1⟩ := i1
              exact ⟨by omega, q1⟩
            · rw [rowF_some hpick]
              intro j y hj
              by_cases hjk : j = k
              · subst hjk
                rw [List.getElem?_append_right (by rw [hlenR.1]; exact Nat.le_refl _), hlenR.1, Nat.sub_self] at hj
                cases hj
                exact i5 j _ (Nat.le_refl _) g1
              · have hjl := (List.getElem?_eq_some_iff.mp hj).1
                rw [List.length_append, hlenR.1, List.length_singleton] at hjl
                rw [List.getElem?_append_left (by rw [hlenR.1]; omega)] at hj
                exact i4 j _ hj
  refine loop (nParts a.length) 0 (g_psz s) (g_stp s) (g_pby s) (g_stamps s) (g_slot s) sl st (by omega) ⟨hS, fun _ _ => rfl, hsl, fun j x hj => by simp [rowF] at hj, fun j x _ hx => ?_, fun _ _ => rfl⟩
  rcases hstd with ⟨-, rfl⟩ | ⟨-, -, h⟩
  · simp at hx
  · exact (h j x hx).2
end MTAKE
