section MMADE
variable {l : Launch} {D : va_G} {ρ : xR} {M : List xCl} {d kc ks : Nat} {pre post : List xCl} {s : mS} {es : List Nat} {pb : Nat → List Int32} {sl st : Nat → Nat} {c : Nat} {B : List sB} {a : List Int32}
/-- the rows of the slots change -/
abbrev u4 (s : mS) (psz stp pby : List Int32) (n : Nat) : mS := p_pby (p_stamps (p_stp (p_psz s psz) stp) n) pby
/-- bytes are written one by one: w of them so far -/
def wrt (pby : List Int32) (i : Nat) (bs : List Int32) : List Int32 := (List.range pby.length).map fun p => if 16 * i ≤ p ∧ p < 16 * i + bs.length then (bs[p - 16 * i]?).getD 0 else (pby[p]?).getD 0
theorem wrt_len (pby : List Int32) (i : Nat) (bs : List Int32) : (wrt pby i bs).length = pby.length := by simp [wrt]
theorem wrt_at {pby : List Int32} {i p : Nat} {bs : List Int32} (hp : p < pby.length) : (wrt pby i bs)[p]? = some (if 16 * i ≤ p ∧ p < 16 * i + bs.length then (bs[p - 16 * i]?).getD 0 else (pby[p]?).getD 0) := by simp [wrt, hp]
theorem wrt_nil (pby : List Int32) (i : Nat) : wrt pby i [] = pby := by
  apply List.ext_getElem?
  intro p
  by_cases hp : p < pby.length
  · rw [wrt_at hp, if_neg (by rw [List.length_nil]; omega), List.getElem?_eq_getElem hp]
    rfl
  · rw [List.getElem?_eq_none (by rw [wrt_len]; omega), List.getElem?_eq_none (by omega)]
theorem wrt_set {pby : List Int32} {i : Nat} {bs : List Int32} {w : Int32} (h : 16 * i + bs.length < pby.length) : (wrt pby i bs).set (16 * i + bs.length) w = wrt pby i (bs ++ [w]) := by
  apply List.ext_getElem?
  intro p
  by_cases hp : p < pby.length
  · rw [wrt_at hp, List.length_append, List.length_singleton]
    by_cases hpe : p = 16 * i + bs.length
    · subst hpe
      rw [List.getElem?_set_self (by rw [wrt_len]; exact hp), if_pos (by omega), Nat.add_sub_cancel_left, List.getElem?_append_right (Nat.le_refl _), Nat.sub_self]
      rfl
    · rw [List.getElem?_set_ne (fun z => hpe z.symm), wrt_at hp]
      by_cases hin : 16 * i ≤ p ∧ p < 16 * i + bs.length
      · rw [if_pos hin, if_pos (by omega), List.getElem?_append_left (by omega)]
      · rw [if_neg hin, if_neg (by omega)]
  · rw [List.getElem?_eq_none (by rw [List.length_set, wrt_len]; omega), List.getElem?_eq_none (by rw [wrt_len]; omega)]
theorem mrS_add {x i : Nat} {bs : List Int32} {n : Nat} {psz stp pby : List Int32} (h : mrS es pb sl st c n psz stp pby) (hx : x ∉ es) (hi : i < 400) (hfree : ∀ y ∈ es, sl y ≠ i) (hb : bs.length ≤ 16) (h16 : ∀ y ∈ es, (pb y).length ≤ 16) : mrS (es ++ [x]) (va_up pb x bs) (va_up sl x i) (va_up st x n) (c + 1) (n + 1) (psz.set i (nI bs.length)) (stp.set i (nI n)) (wrt pby i bs) := by
  obtain ⟨m0, ⟨m1, m2, m3⟩, m4, m5, m6, m7⟩ := h
  have ne : ∀ y ∈ es, y ≠ x := fun y hy z => hx (z ▸ hy)
  refine ⟨by omega, ⟨by rw [List.length_set]; exact m1, by rw [List.length_set]; exact m2, by rw [wrt_len]; exact m3⟩, fun y hy => ?_, ?_, fun y hy z hz => ?_, fun j hj hall => ?_⟩
  · rcases List.mem_append.mp hy with hy | hy
    · rw [va_up_ne _ _ (ne y hy), va_up_ne _ _ (ne y hy), va_up_ne _ _ (ne y hy)]
      obtain ⟨t1, t2, t3, t4, t5⟩ := m4 y hy
      have hne := hfree y hy
      refine ⟨t1, by rw [List.getElem?_set_ne (fun z => hne z.symm)]; exact t2, by omega, by rw [List.getElem?_set_ne (fun z => hne z.symm)]; exact t4, fun j w hj => ?_⟩
      have hjl := (List.getElem?_eq_some_iff.mp hj).1
      have h16y := h16 y hy
      rw [wrt_at (by omega), if_neg (by omega), t5 j w hj]
      rfl
    · rw [List.mem_singleton.mp hy, va_up_self, va_up_self, va_up_self]
      refine ⟨hi, List.getElem?_set_self (by omega), by omega, List.getElem?_set_self (by omega), fun j w hj => ?_⟩
      have hjl := (List.getElem?_eq_some_iff.mp hj).1
      rw [wrt_at (by omega), if_pos (by omega), Nat.add_sub_cancel_left, hj]
      rfl
  · refine List.pairwise_append.mpr ⟨?_, List.pairwise_singleton _ _, fun y hy z hz => ?_⟩
    · refine List.Pairwise.imp_of_mem ?_ m5
      intro y z hy hz hyz
      rw [va_up_ne _ _ (ne y hy), va_up_ne _ _ (ne z hz)]
      exact hyz
    · rw [List.mem_singleton.mp hz, va_up_self, va_up_ne _ _ (ne y hy)]
      exact (m4 y hy).2.2.1
  · rcases List.mem_append.mp hy with hy | hy
    · rcases List.mem_append.mp hz with hz | hz
      · rw [va_up_ne _ _ (ne y hy), va_up_ne _ _ (ne z hz)]
        exact m6 y hy z hz
      · rw [List.mem_singleton.mp hz, va_up_self, va_up_ne _ _ (ne y hy)]
        exact fun w => absurd w (hfree y hy)
    · rcases List.mem_append.mp hz with hz | hz
      · rw [List.mem_singleton.mp hy, va_up_self, va_up_ne _ _ (ne z hz)]
        exact fun w => absurd w.symm (hfree z hz)
      · rw [List.mem_singleton.mp hy, List.mem_singleton.mp hz]
        exact fun _ => rfl
  · have hji : i ≠ j := by
      have := hall x (List.mem_append_right _ (List.mem_singleton.mpr rfl))
      rw [va_up_self] at this
      exact this
    rw [List.getElem?_set_ne hji]
    refine m7 j hj (fun y hy => ?_)
    have := hall y (List.mem_append_left _ hy)
    rw [va_up_ne _ _ (ne y hy)] at this
    exact this
theorem c_mMade {k : Nat} (hS : mrSs es pb sl st c s) (h16 : ∀ x ∈ es, 1 ≤ (pb x).length ∧ (pb x).length ≤ 16) (hel : es.length ≤ 390) (hwk : wk a (g_work s)) (ha : a.length ≤ 96) (hk : k < nParts a.length) (hd : 1 ≤ d) :
    Xw l D ρ m_ContentStoreModel_made 0 [(0, .ref pre.length), (1, .int (nI k)), (2, .int (nI a.length))] [] (mH pre post s) d kc ks (fun r N => ∃ i psz stp pby, r = some (.int (nI i)) ∧ i < 400 ∧ N = mH pre post (u4 s psz stp pby (g_stamps s + 1)) ∧ ∀ x, x ∉ es → mrS (es ++ [x]) (va_up pb x (chunk a (16 * k))) (va_up sl x i) (va_up st x (g_stamps s)) (c + 1) (g_stamps s + 1) psz stp pby) := by
  have hk16 := kParts hk
  have hcw := chunk_wide a k
  have hwl := hwk.1
  obtain ⟨m0, ⟨m1, m2, m3⟩, m4, m5, m6, m7⟩ := id hS
  refine b_ContentStoreModel_made_0 ?_
  have loop : ∀ (n i : Nat), i + n = 400 → (∀ t, t < i → ∃ x ∈ es, sl x = t) → Xw l D ρ m_ContentStoreModel_made 2 [(0, .ref pre.length), (1, .int (nI k)), (2, .int (nI a.length)), (3, .int (nI i))] [] (mH pre post s) d kc ks (fun r N => ∃ i psz stp pby, r = some (.int (nI i)) ∧ i < 400 ∧ N = mH pre post (u4 s psz stp pby (g_stamps s + 1)) ∧ ∀ x, x ∉ es → mrS (es ++ [x]) (va_up pb x (chunk a (16 * k))) (va_up sl x i) (va_up st x (g_stamps s)) (c + 1) (g_stamps s + 1) psz stp pby) := by
    intro n
    induction n with
    | zero =>
      intro i hi hp
      exfalso
      have : (List.range 400).length ≤ (es.map sl).length := nodup_le List.nodup_range (fun t ht => by
        obtain ⟨x, g1, g2⟩ := hp t (by have := List.mem_range.mp ht; omega)
        exact List.mem_map.mpr ⟨x, g1, g2⟩)
      rw [List.length_range, List.length_map] at this
      omega
    | succ n ih =>
      intro i hi hp
      have hi4 : i < 400 := by omega
      obtain ⟨z1, z2⟩ := slC_ok hS hi4
      rcases slC_cases es pb sl i with ⟨x, g1, g2, g3⟩ | ⟨g1, g2⟩
      · rw [g3] at z1
        have hx16 := h16 x g1
        refine b_ContentStoreModel_made_2 h_obj h_psz rfl z1 (by omega) (fun c => absurd c (nI_nle (by omega) (by omega))) (fun _ => ?_)
        refine b_ContentStoreModel_made_11 ?_
        rw [nI_1]
        refine ih (i + 1) (by omega) (fun t ht => ?_)
        by_cases hti : t = i
        · subst hti; exact ⟨x, g1, g2⟩
        · exact hp t (by omega)
      · rw [g2] at z1
        refine b_ContentStoreModel_made_2 h_obj h_psz rfl z1 (by omega) (fun _ => ?_) (fun c => absurd (by decide) c)
        refine b_ContentStoreModel_made_17 (f18_9 := .ref (pre.length + 6)) (cd1 := 0) (ckc1 := 0) (cks1 := 0) (ckc2 := kc) (cks2 := ks) trivial h_obj (by omega) (by omega) (by omega) (c_mwide (by omega) (by omega)) (fun r N h => ?_)
        obtain ⟨rfl, rfl⟩ := h
        rw [← hcw]
        refine b_ContentStoreModel_made_27 (a27 := g_psz s) (j27 := i) (a37 := g_stp s) (j37 := i) h_psz rfl (by omega) (by omega) (by rw [w_psz]; exact h_obj) (by rw [w_psz]; exact h_stp) rfl (by omega) (by omega) ?_
        rw [w_psz, w_stp, nI_1, w_stamps]
        have copy : ∀ (n' j : Nat), j + n' = (chunk a (16 * k)).length → Xw l D ρ m_ContentStoreModel_made 51 [(0, .ref pre.length), (1, .int (nI k)), (2, .int (nI a.length)), (3, .int (nI i)), (4, .int (nI j))] [] (mH pre post (u4 s ((g_psz s).set i (nI (chunk a (16 * k)).length)) ((g_stp s).set i (nI (g_stamps s))) (wrt (g_pby s) i ((chunk a (16 * k)).take j)) (g_stamps s + 1))) d kc ks (fun r N => ∃ i psz stp pby, r = some (.int (nI i)) ∧ i < 400 ∧ N = mH pre post (u4 s psz stp pby (g_stamps s + 1)) ∧ ∀ x, x ∉ es → mrS (es ++ [x]) (va_up pb x (chunk a (16 * k))) (va_up sl x i) (va_up st x (g_stamps s)) (c + 1) (g_stamps s + 1) psz stp pby) := by
          intro n'
          induction n' with
          | zero =>
            intro j hj
            refine b_ContentStoreModel_made_51 (cd1 := 0) (ckc1 := 0) (cks1 := 0) (ckc2 := kc) (cks2 := ks) (by omega) (by omega) (by omega) (c_mwide (by omega) (by omega)) (fun r N h => ?_)
            obtain ⟨rfl, rfl⟩ := h
            refine b_ContentStoreModel_made_58 (fun _ => b_ContentStoreModel_made_91 ⟨i, _, _, _, rfl, hi4, rfl, fun x hx => ?_⟩) (fun c => absurd (nI_le (by omega) (by omega)) c)
            rw [List.take_of_length_le (by omega)]
            exact mrS_add hS hx hi4 g1 (by omega) (fun y hy => (h16 y hy).2)
          | succ n' ih2 =>
            intro j hj
            have hjk : j < (chunk a (16 * k)).length := by omega
            have htl : ((chunk a (16 * k)).take j).length = j := by rw [List.length_take]; omega
            refine b_ContentStoreModel_made_51 (cd1 := 0) (ckc1 := 0) (cks1 := 0) (ckc2 := kc) (cks2 := ks) (by omega) (by omega) (by omega) (c_mwide (by omega) (by omega)) (fun r N h => ?_)
            obtain ⟨rfl, rfl⟩ := h
            refine b_ContentStoreModel_made_58 (fun c => absurd c (nI_ge (by omega) (by omega))) (fun _ => ?_)
            refine b_ContentStoreModel_made_61 (a83 := g_work s) (a84 := wrt (g_pby s) i ((chunk a (16 * k)).take j)) h_obj h_work (e16 k j) (hwk.2 _ _ (chunk_at hjk)) (by omega) h_pby (e16 i j) (by rw [wrt_len]; omega) (by rw [wrt_len]; omega) ?_
            rw [w_pby, nI_1]
            have hset := wrt_set (pby := g_pby s) (i := i) (bs := (chunk a (16 * k)).take j) (w := (chunk a (16 * k))[j]) (by omega)
            rw [htl, ← List.take_succ_eq_append_getElem hjk] at hset
            rw [hset]
            exact ih2 (j + 1) (by omega)
        have h0 := copy (chunk a (16 * k)).length 0 (by omega)
        rw [List.take_zero, wrt_nil] at h0
        exact h0
  exact loop 400 0 rfl (fun t ht => absurd ht (Nat.not_lt_zero t))
end MMADE
