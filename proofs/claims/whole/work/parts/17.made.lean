/-! PARTS ARE MADE AND DROPPED -/
/-- what isn't of the kinds shelf, list, list's row stays -/
theorem kne {a b : Nat} (h : Nat.beq a b = false) : a ≠ b := Nat.ne_of_beq_eq_false h
def shK (M N : List xCl) : Prop := M.length ≤ N.length ∧ ∀ (j : Nat) (c : xCl), M[j]? = some c → xkd c ≠ 1 → xkd c ≠ 2 → xkd c ≠ 203 → N[j]? = some c
def oEq (M : List xCl) (own own' : Nat → Nat × Nat) : Prop := ∀ j, j < M.length → own' j = own j
theorem shK_rf (M : List xCl) : shK M M := ⟨Nat.le_refl _, fun _ _ h _ _ _ => h⟩
theorem shK_tr {M N O : List xCl} (h : shK M N) (k : shK N O) : shK M O := ⟨Nat.le_trans h.1 k.1, fun j c g1 g2 g3 g4 => k.2 j c (h.2 j c g1 g2 g3 g4) g2 g3 g4⟩
theorem xlt {M : List xCl} {j : Nat} {c : xCl} (h : M[j]? = some c) : j < M.length := (List.getElem?_eq_some_iff.mp h).1
theorem cParts_kept {M N : List xCl} {own own' : Nat → Nat × Nat} {es : List Nat} {pb pb' : Nat → List Int32} {hold hold' : Nat → Nat} (h : cParts M own es pb hold) (hk : shK M N) (ho : oEq M own own') (hp : ∀ x ∈ es, pb' x = pb x) (hh : ∀ x ∈ es, hold' x = hold x) : cParts N own' es pb' hold' := fun x hx => by
  obtain ⟨q, h1, h2, h3, h4⟩ := h x hx
  rw [hp x hx, hh x hx]
  exact ⟨q, by rw [ho q (xlt h3)]; exact h1, hk.2 _ _ h2 (kne rfl) (kne rfl) (kne rfl), hk.2 _ _ h3 (kne rfl) (kne rfl) (kne rfl), h4⟩
theorem tot_app (pb : Nat → List Int32) (es fs : List Nat) : tot pb (es ++ fs) = tot pb es + tot pb fs := by simp [tot]
theorem tot_congr {pb pb' : Nat → List Int32} {es : List Nat} (h : ∀ x ∈ es, pb' x = pb x) : tot pb' es = tot pb es := by
  unfold tot
  congr 1
  exact List.map_congr_left fun x hx => by rw [h x hx]
theorem tot_erase (pb : Nat → List Int32) : ∀ (es : List Nat) (i x : Nat), es[i]? = some x → tot pb (es.eraseIdx i) + (pb x).length = tot pb es
  | [], i, x, h => by simp at h
  | y :: es, 0, x, h => by
    cases h
    simp [tot, Nat.add_comm]
  | y :: es, i + 1, x, h => by
    have ih := tot_erase pb es i x (by simpa using h)
    simp only [tot, List.eraseIdx_cons_succ, List.map_cons, List.sum_cons] at ih ⊢
    omega
theorem erase_filter : ∀ (es : List Nat) (i x : Nat), es.Nodup → es[i]? = some x → es.eraseIdx i = es.filter (fun y => decide (y ≠ x))
  | [], i, x, _, h => by simp at h
  | y :: es, 0, x, hn, h => by
    cases h
    rw [List.eraseIdx_cons_zero, List.filter_cons_of_neg (by simp)]
    symm
    apply List.filter_eq_self.mpr
    intro z hz
    have : y ∉ es := (List.nodup_cons.mp hn).1
    simp only [decide_eq_true_eq]
    intro q
    exact this (q ▸ hz)
  | y :: es, i + 1, x, hn, h => by
    have h2 : es[i]? = some x := by simpa using h
    have hyx : y ≠ x := fun q => (List.nodup_cons.mp hn).1 (q ▸ List.mem_of_getElem? h2)
    rw [List.eraseIdx_cons_succ, List.filter_cons_of_pos (by simpa using hyx), erase_filter es i x (List.nodup_cons.mp hn).2 h2]
section MADE
variable {l : Launch} {D : va_G} {ρ : xR} {M : List xCl} {d kc ks : Nat} {own : Nat → Nat × Nat} {sh room : Nat} {es : List Nat} {pb : Nat → List Int32} {hold : Nat → Nat}
theorem cShelf_lt (hS : cShelf M own sh room es pb hold) {x : Nat} (hx : x ∈ es) : x < M.length := by
  obtain ⟨-, -, -, al, -, -, h3⟩ := hS
  obtain ⟨q, -, h, -⟩ := h3 x hx
  exact xlt h
theorem c_made {q j : Nat} {a : List Int32} (hS : cShelf M own sh room es pb hold) (hu : tot pb es ≤ 50000) (he : es.length < 400) (hq : M[q]? = some (cI a)) (ha : a.length ≤ 96) (hj : j < a.length) (hd : 7 ≤ d) (hkc : 3 ≤ kc) (hks : 718 ≤ ks) :
    Xw l D ρ m_Shelf_made 0 [(0, .ref sh), (1, .ref q), (2, .int (nI j))] [] M d kc ks (fun r N => r = some (.ref M.length) ∧ ∃ own', cShelf N own' sh room (es ++ [M.length]) (va_up pb M.length (chunk a j)) (va_up hold M.length 0) ∧ shK M N ∧ oEq M own own' ∧ M.length < N.length) := by
  obtain ⟨g1, g2, g3, al, h1, h2, h3⟩ := id hS
  obtain ⟨h4, ed, mc, h5, h6⟩ := id h2
  have hc16 : (chunk a j).length ≤ 16 := by rw [chunk_len]; omega
  have hc1 : 1 ≤ (chunk a j).length := by rw [chunk_len]; omega
  have hsh := xlt h1
  have hal := xlt h5
  have hql := xlt hq
  have hnotin : M.length ∉ es := fun z => Nat.lt_irrefl _ (cShelf_lt hS z)
  refine b_Shelf_made_0 (kc1 := kc - 1) (ks1 := ks - 2) (cd1 := 2) (ckc1 := 1) (cks1 := 16) (ckc2 := kc - 2) (cks2 := ks - 18) trivial (by omega) (by omega) (by omega) (by omega) (by omega) (c_PartInit xpush_last (xpush_at hq) (by omega) (by omega) (by omega) (by omega) (by omega)) (fun r N h => ?_)
  obtain ⟨rfl, rfl⟩ := h
  have hlen1 : (M ++ [cO 5 [.null, .int 0]]).length = M.length + 1 := by simp
  rw [hlen1]
  have keep : ∀ {jj : Nat} {c : xCl}, M[jj]? = some c → ((M ++ [cO 5 [.null, .int 0]] ++ [cI (chunk a j)]).set M.length (cO 5 [.ref (M.length + 1), .int 0]))[jj]? = some c := fun hjj => xset_at (xpush_at (xpush_at hjj)) (by have := xlt hjj; omega)
  have hx : ((M ++ [cO 5 [.null, .int 0]] ++ [cI (chunk a j)]).set M.length (cO 5 [.ref (M.length + 1), .int 0]))[M.length]? = some (cO 5 [.ref (M.length + 1), .int 0]) := xset_eq (xpush_at xpush_last)
  have hb : ((M ++ [cO 5 [.null, .int 0]] ++ [cI (chunk a j)]).set M.length (cO 5 [.ref (M.length + 1), .int 0]))[M.length + 1]? = some (cI (chunk a j)) := by
    refine xset_at ?_ (by omega)
    rw [← hlen1]
    exact xpush_last
  have hAL : cAL ((M ++ [cO 5 [.null, .int 0]] ++ [cI (chunk a j)]).set M.length (cO 5 [.ref (M.length + 1), .int 0])) al es := by
    refine ⟨h4, ed, mc, keep h5, ?_⟩
    rcases h6 with h6 | ⟨e, a', r1, r2, r3⟩
    · exact Or.inl h6
    · exact Or.inr ⟨e, a', r1, keep r2, r3⟩
  generalize hN : (M ++ [cO 5 [.null, .int 0]] ++ [cI (chunk a j)]).set M.length (cO 5 [.ref (M.length + 1), .int 0]) = N at keep hx hb hAL ⊢
  have hNl : N.length = M.length + 2 := by rw [← hN]; simp
  have hEl : cEl N es := fun v hv => by
    obtain ⟨fs, hfs⟩ := cParts_el h3 v hv
    exact ⟨fs, keep hfs⟩
  refine b_Shelf_made_9 (cd1 := 6) (ckc1 := 1) (cks1 := 700) (ckc2 := 0) (cks2 := 0) trivial (keep h1) (by omega) (by omega) (by omega) (keep h5) (c_listAdd hAL he hEl hx (by omega) (by omega) (by omega)) (fun r N' h => ?_)
  obtain ⟨rfl, r1, r2, r3⟩ := h
  have hsal : sh ≠ al := fun z => by
    rw [z] at h1
    rw [h1] at h5
    cases h5
  have hxal : M.length ≠ al := by omega
  have k1 := r3 sh _ (keep h1) hsal (kne rfl)
  have k2 := r3 M.length _ hx hxal (kne rfl)
  have k3 := r3 (M.length + 1) _ hb (by omega) (kne rfl)
  refine b_Shelf_made_18 k1 k2 k3 ⟨rfl, va_up own (M.length + 1) (6, M.length), ?_, ?_, ?_, ?_⟩
  · have hpb : ∀ y ∈ es, va_up pb M.length (chunk a j) y = pb y := fun y hy => va_up_ne _ _ (by have := cShelf_lt hS hy; omega)
    have htot : tot (va_up pb M.length (chunk a j)) (es ++ [M.length]) = tot pb es + (chunk a j).length := by
      rw [tot_app, tot_congr hpb]
      simp [tot, va_up_self]
    refine ⟨g1, by rw [htot]; omega, List.nodup_append.mpr ⟨g3, by simp, fun y hy z hz => ?_⟩, al, ?_, ?_, ?_⟩
    · rw [List.mem_singleton.mp hz]
      intro w
      exact hnotin (w ▸ hy)
    · rw [htot, ← nI_add]
      exact xset_eq k1
    · obtain ⟨w1, ed', mc', w2, w3⟩ := r1
      refine ⟨w1, ed', mc', xset_at w2 hsal, ?_⟩
      rcases w3 with w3 | ⟨e, a', s1, s2, s3⟩
      · exact Or.inl w3
      · exact Or.inr ⟨e, a', s1, xset_ne s2 k1 rfl, s3⟩
    · intro y hy
      rcases List.mem_append.mp hy with hy | hy
      · obtain ⟨qy, s1, s2, s3, s4⟩ := h3 y hy
        have hyl := xlt s2
        have hqy := xlt s3
        have hyal : y ≠ al := fun z => by
          rw [z] at s2
          rw [s2] at h5
          cases h5
        have hqal : qy ≠ al := fun z => by
          rw [z] at s3
          rw [s3] at h5
          cases h5
        rw [hpb y hy, va_up_ne _ _ (show y ≠ M.length by omega)]
        exact ⟨qy, by rw [va_up_ne _ _ (by omega)]; exact s1, xset_ne (r3 y _ (keep s2) hyal (kne rfl)) k1 rfl, xset_ne (r3 qy _ (keep s3) hqal (kne rfl)) k1 rfl, s4⟩
      · rw [List.mem_singleton.mp hy, va_up_self, va_up_self]
        exact ⟨M.length + 1, va_up_self _ _ _, xset_ne k2 k1 rfl, xset_ne k3 k1 rfl, hc1, hc16⟩
  · refine ⟨by rw [List.length_set]; omega, fun jj c hjj e1 e2 e3 => ?_⟩
    have hja : jj ≠ al := fun z => e2 (by
      rw [z] at hjj
      rw [h5] at hjj
      cases hjj
      rfl)
    have hjs : sh ≠ jj := fun z => e1 (by
      rw [← z] at hjj
      rw [h1] at hjj
      cases hjj
      rfl)
    exact xset_at (r3 jj c (keep hjj) hja e3) hjs
  · intro jj hjj
    exact va_up_ne _ _ (by omega)
  · rw [List.length_set]; omega
theorem c_drop {x : Nat} (hS : cShelf M own sh room es pb hold) (hx : x ∈ es) (hd : 3 ≤ d) :
    Xw l D ρ m_Shelf_drop 0 [(0, .ref sh), (1, .ref x)] [] M d kc ks (fun r N => r = none ∧ cShelf N own sh room (es.filter (fun y => decide (y ≠ x))) pb hold ∧ shK M N ∧ N.length = N.length) := by
  obtain ⟨g1, g2, g3, al, h1, h2, h3⟩ := id hS
  obtain ⟨h4, ed, mc, h5, h6⟩ := id h2
  obtain ⟨q, s1, s2, s3, s4⟩ := h3 x hx
  have hsal : sh ≠ al := fun z => by
    rw [z] at h1
    rw [h1] at h5
    cases h5
  have hne : ∀ {jj : Nat} {c : xCl}, M[jj]? = some c → xkd c ≠ 2 → jj ≠ al := fun hjj hk z => hk (by
    rw [z] at hjj
    rw [h5] at hjj
    cases hjj
    rfl)
  refine b_Shelf_drop_0 trivial ?_
  have loop : ∀ (n i : Nat), i + n = es.length → (∀ t y, t < i → es[t]? = some y → y ≠ x) → Xw l D ρ m_Shelf_drop 2 [(0, .ref sh), (1, .ref x), (2, .int (nI i))] [] M d kc ks (fun r N => r = none ∧ cShelf N own sh room (es.filter (fun y => decide (y ≠ x))) pb hold ∧ shK M N ∧ N.length = N.length) := by
    intro n
    induction n with
    | zero =>
      intro i hi hp
      obtain ⟨t, ht, rfl⟩ := List.getElem_of_mem hx
      exact absurd rfl (hp t es[t] (by omega) (List.getElem?_eq_getElem ht))
    | succ n ih =>
      intro i hi hp
      have hlt : i < es.length := by omega
      refine b_Shelf_drop_2 (cd1 := 0) (ckc1 := 0) (cks1 := 0) (ckc2 := kc) (cks2 := ks) h1 (by omega) (by omega) (by omega) h5 (c_size h2) (fun r N h => ?_)
      obtain ⟨rfl, rfl⟩ := h
      refine b_Shelf_drop_10 (fun c => absurd c (nI_ge hlt (by omega))) (fun _ => ?_)
      refine b_Shelf_drop_13 (cd1 := 2) (ckc1 := 0) (cks1 := 0) (ckc2 := kc) (cks2 := ks) h1 (by omega) (by omega) (by omega) h5 (c_get h2 (List.getElem?_eq_getElem hlt) (by omega)) (fun r N' h => ?_)
      obtain ⟨rfl, rfl⟩ := h
      refine b_Shelf_drop_21 (fun c => ?_) (fun c => ?_)
      · refine b_Shelf_drop_49 trivial ?_
        rw [nI_1]
        refine ih (i + 1) (by omega) (fun t y ht hy => ?_)
        by_cases hti : t = i
        · subst hti
          rw [List.getElem?_eq_getElem hlt] at hy
          cases hy
          exact c
        · exact hp t y (by omega) hy
      · have hxi : es[i]? = some x := by rw [List.getElem?_eq_getElem hlt, c]
        refine b_Shelf_drop_25 (cd1 := 2) (ckc1 := kc) (cks1 := ks) (ckc2 := 0) (cks2 := 0) h1 (by omega) (by omega) (by omega) h5 (c_listRemove h2 (cParts_el h3) hxi (by omega)) (fun r N h => ?_)
        obtain ⟨rfl, r1, r2, r3⟩ := h
        have k1 := r3 sh _ h1 hsal (kne rfl)
        have k2 := r3 x _ s2 (hne s2 (kne rfl)) (kne rfl)
        have k3 := r3 q _ s3 (hne s3 (kne rfl)) (kne rfl)
        have hef := erase_filter es i x g3 hxi
        have hte := tot_erase pb es i x hxi
        rw [← hef]
        refine b_Shelf_drop_33 trivial k1 k2 k3 ⟨rfl, ⟨g1, by omega, List.Nodup.sublist (List.eraseIdx_sublist es i) g3, al, ?_, ?_, ?_⟩, ?_, rfl⟩
        · rw [pk_sub (by omega), show tot pb es - (pb x).length = tot pb (es.eraseIdx i) by omega]
          exact xset_eq k1
        · obtain ⟨w1, ed', mc', w2, w3⟩ := r1
          refine ⟨w1, ed', mc', xset_at w2 hsal, ?_⟩
          rcases w3 with w3 | ⟨e, a', t1, t2, t3⟩
          · exact Or.inl w3
          · exact Or.inr ⟨e, a', t1, xset_ne t2 k1 rfl, t3⟩
        · intro y hy
          obtain ⟨qy, t1, t2, t3, t4⟩ := h3 y ((List.eraseIdx_sublist es i).subset hy)
          exact ⟨qy, t1, xset_ne (r3 y _ t2 (hne t2 (kne rfl)) (kne rfl)) k1 rfl, xset_ne (r3 qy _ t3 (hne t3 (kne rfl)) (kne rfl)) k1 rfl, t4⟩
        · refine ⟨by rw [List.length_set]; exact r2, fun jj c hjj e1 e2 e3 => ?_⟩
          have hjs : sh ≠ jj := fun z => e1 (by
            rw [← z] at hjj
            rw [h1] at hjj
            cases hjj
            rfl)
          exact xset_at (r3 jj c hjj (hne hjj e2) e3) hjs
  exact loop es.length 0 (by omega) (fun t y ht => absurd ht (Nat.not_lt_zero t))
end MADE
