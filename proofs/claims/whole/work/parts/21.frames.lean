/-! WHAT A CHANGE LEAVES ALONE -/
/-- the kind of a cell; int arrays by their owner too -/
def rgc (c : xCl) (t : Nat) : Nat := if xkd c = 100 then 1000 + t else xkd c
def fr (T : List Nat) (M N : List xCl) (own own' : Nat → Nat × Nat) : Prop := M.length ≤ N.length ∧ (∀ j, j < M.length → own' j = own j) ∧ ∀ j c, M[j]? = some c → rgc c (own j).1 ∉ T → N[j]? = some c
section FRAME
variable {T : List Nat} {M N O : List xCl} {own own' own'' : Nat → Nat × Nat}
theorem rgc_I {a : List Int32} {t : Nat} : rgc (cI a) t = 1000 + t := rfl
theorem rgc_n {c : xCl} {t : Nat} (h : xkd c ≠ 100) : rgc c t = xkd c := by rw [rgc, if_neg h]
theorem fr_rf : fr T M M own own := ⟨Nat.le_refl _, fun _ _ => rfl, fun _ _ h _ => h⟩
theorem fr_tr (h : fr T M N own own') (k : fr T N O own' own'') : fr T M O own own'' := ⟨Nat.le_trans h.1 k.1, fun j hj => by rw [k.2.1 j (Nat.lt_of_lt_of_le hj h.1), h.2.1 j hj], fun j c hj hT => k.2.2 j c (h.2.2 j c hj hT) (by rw [h.2.1 j (xlt hj)]; exact hT)⟩
theorem fr_wk {T' : List Nat} (h : fr T M N own own') (hT : ∀ x ∈ T, x ∈ T') : fr T' M N own own' := ⟨h.1, h.2.1, fun j c hj hn => h.2.2 j c hj (fun z => hn (hT _ z))⟩
theorem fr_set {i : Nat} {c c' : xCl} (hM : M[i]? = some c) (hT : rgc c (own i).1 ∈ T) : fr T M (M.set i c') own own := ⟨by rw [List.length_set]; exact Nat.le_refl _, fun _ _ => rfl, fun j e hj hn => xset_at hj (fun z => hn (by subst z; rw [hM] at hj; cases hj; exact hT))⟩
theorem fr_setk (k : Nat) {i : Nat} {c c' : xCl} (hM : M[i]? = some c) (hk : xkd c = k) (hne : k ≠ 100) (hT : k ∈ T) : fr T M (M.set i c') own own := fr_set hM (by rw [rgc_n (by rw [hk]; exact hne), hk]; exact hT)
theorem fr_setI (t : Nat) {i : Nat} {a : List Int32} {c' : xCl} (hM : M[i]? = some (cI a)) (ht : (own i).1 = t) (hT : 1000 + t ∈ T) : fr T M (M.set i c') own own := fr_set hM (by rw [rgc_I, ht]; exact hT)
theorem fr_push (c : xCl) (o : Nat × Nat) : fr T M (M ++ [c]) own (va_up own M.length o) := ⟨by simp, fun j hj => va_up_ne _ _ (by omega), fun j e hj _ => xpush_at hj⟩
theorem fr_sh (h : shK5 M N) (ho : oEq M own own') : fr [1, 2, 203, 5] M N own own' := ⟨h.1, ho, fun j c hj hn => h.2 j c hj (fun z => hn (by rw [rgc_n (by rw [z]; decide), z]; decide)) (fun z => hn (by rw [rgc_n (by rw [z]; decide), z]; decide)) (fun z => hn (by rw [rgc_n (by rw [z]; decide), z]; decide)) (fun z => hn (by rw [rgc_n (by rw [z]; decide), z]; decide))⟩
theorem fr_own {o : Nat × Nat} {k : Nat} (h : fr T M N own own') (hk : M.length ≤ k) : fr T M N own (va_up own' k o) := ⟨h.1, fun j hj => by rw [va_up_ne _ _ (by omega)]; exact h.2.1 j hj, h.2.2⟩
theorem fr_at (h : fr T M N own own') {j : Nat} {c : xCl} (hj : M[j]? = some c) (hk : xkd c ≠ 100) (hT : xkd c ∉ T) : N[j]? = some c := h.2.2 j c hj (by rw [rgc_n hk]; exact hT)
theorem fr_atI (h : fr T M N own own') {j t : Nat} {a : List Int32} (hj : M[j]? = some (cI a)) (ho : (own j).1 = t) (hT : 1000 + t ∉ T) : N[j]? = some (cI a) := h.2.2 j _ hj (by rw [rgc_I, ho]; exact hT)
theorem fr_o (h : fr T M N own own') {j : Nat} {c : xCl} (hj : M[j]? = some c) : own' j = own j := h.2.1 j (xlt hj)
/-! THE CLASS'S CELLS -/
def cPutA (M : List xCl) (own : Nat → Nat × Nat) (i a : Nat) (p : sP) : Prop := own a = (1, i) ∧ ∃ b, own b = (2, i) ∧ M[a]? = some (cO 3 [.ref b, .long p.2.1, .int (nI p.2.2.1.length), .int (i2b p.2.2.2)]) ∧ M[b]? = some (cI (p.2.2.1 ++ List.replicate (p.1 - p.2.2.1.length) 0))
def cPs (M : List xCl) (own : Nat → Nat × Nat) (pa : Nat) (PA : List Nat) (P : List sP) : Prop := PA.length = P.length ∧ P.length ≤ 60 ∧ M[pa]? = some (cR 0 (PA.map some ++ List.replicate (60 - P.length) none)) ∧ ∀ i a p, PA[i]? = some a → P[i]? = some p → cPutA M own i a p
def cCp (M : List xCl) (own : Nat → Nat × Nat) (i : Nat) (cq : Option Nat) (cp : Option (List Int32)) : Prop := (cq = none ∧ cp = none) ∨ ∃ q c, cq = some q ∧ cp = some c ∧ own q = (5, i) ∧ M[q]? = some (cI c)
def cBlobA (M : List xCl) (own : Nat → Nat × Nat) (i a : Nat) (b : sB) : Prop := own a = (3, i) ∧ ∃ pr cq, M[a]? = some (cO 4 [.int (nI (bLen b)), .int (bSum b), .long (bDig b), .ref pr, xrv cq, .int (bPack b), .int (i2b (bThere b))]) ∧ M[pr]? = some (cR 2 ((bIds b).map some)) ∧ cCp M own i cq (bCopy b)
def cBs (M : List xCl) (own : Nat → Nat × Nat) (ba : Nat) (BA : List Nat) (B : List sB) : Prop := BA.length = B.length ∧ B.length ≤ 60 ∧ M[ba]? = some (cR 1 (BA.map some ++ List.replicate (60 - B.length) none)) ∧ ∀ i a b, BA[i]? = some a → B[i]? = some b → cBlobA M own i a b
def cRs (M : List xCl) (own : Nat → Nat × Nat) (ra : Nat) (act : List Int32) : Prop := own ra = (7, 0) ∧ M[ra]? = some (cI act)
def cMo (M : List xCl) (own : Nat → Nat × Nat) (m : Nat) (A : List xCl) : Prop := ∀ i c, A[i]? = some c → M[m + i]? = some c ∧ (own (m + i)).1 = 8 ∧ (xkd c = 6 ∨ xkd c = 100 ∨ xkd c = 102 ∨ xkd c = 103)
theorem cPutA_fr {i a : Nat} {p : sP} (h : cPutA M own i a p) (hf : fr T M N own own') (h1 : 3 ∉ T) (h2 : 1002 ∉ T) : cPutA N own' i a p := by
  obtain ⟨g1, b, g2, g3, g4⟩ := h
  exact ⟨by rw [fr_o hf g3]; exact g1, b, by rw [fr_o hf g4]; exact g2, fr_at hf g3 (kne rfl) h1, fr_atI hf g4 (by rw [g2]) h2⟩
theorem cPs_fr {pa : Nat} {PA : List Nat} {P : List sP} (h : cPs M own pa PA P) (hf : fr T M N own own') (h0 : 200 ∉ T) (h1 : 3 ∉ T) (h2 : 1002 ∉ T) : cPs N own' pa PA P := by
  obtain ⟨g1, g2, g3, g4⟩ := h
  exact ⟨g1, g2, fr_at hf g3 (kne rfl) h0, fun i a p ha hp => cPutA_fr (g4 i a p ha hp) hf h1 h2⟩
theorem cCp_fr {i : Nat} {cq : Option Nat} {cp : Option (List Int32)} (h : cCp M own i cq cp) (hf : fr T M N own own') (h1 : 1005 ∉ T) : cCp N own' i cq cp := by
  rcases h with h | ⟨q, c, g1, g2, g3, g4⟩
  · exact Or.inl h
  · exact Or.inr ⟨q, c, g1, g2, by rw [fr_o hf g4]; exact g3, fr_atI hf g4 (by rw [g3]) h1⟩
theorem cBlobA_fr {i a : Nat} {b : sB} (h : cBlobA M own i a b) (hf : fr T M N own own') (h1 : 4 ∉ T) (h2 : 202 ∉ T) (h3 : 1005 ∉ T) : cBlobA N own' i a b := by
  obtain ⟨g1, pr, cq, g2, g3, g4⟩ := h
  exact ⟨by rw [fr_o hf g2]; exact g1, pr, cq, fr_at hf g2 (kne rfl) h1, fr_at hf g3 (kne rfl) h2, cCp_fr g4 hf h3⟩
theorem cBs_fr {ba : Nat} {BA : List Nat} {B : List sB} (h : cBs M own ba BA B) (hf : fr T M N own own') (h0 : 201 ∉ T) (h1 : 4 ∉ T) (h2 : 202 ∉ T) (h3 : 1005 ∉ T) : cBs N own' ba BA B := by
  obtain ⟨g1, g2, g3, g4⟩ := h
  exact ⟨g1, g2, fr_at hf g3 (kne rfl) h0, fun i a b ha hb => cBlobA_fr (g4 i a b ha hb) hf h1 h2 h3⟩
theorem cRs_fr {ra : Nat} {act : List Int32} (h : cRs M own ra act) (hf : fr T M N own own') (h1 : 1007 ∉ T) : cRs N own' ra act := ⟨by rw [fr_o hf h.2]; exact h.1, fr_atI hf h.2 (by rw [h.1]) h1⟩
theorem cMo_fr {m : Nat} {A : List xCl} (h : cMo M own m A) (hf : fr T M N own own') (h1 : 6 ∉ T) (h2 : 102 ∉ T) (h3 : 103 ∉ T) (h4 : 1008 ∉ T) : cMo N own' m A := fun i c hi => by
  obtain ⟨g1, g2, g3⟩ := h i c hi
  refine ⟨hf.2.2 _ _ g1 ?_, by rw [fr_o hf g1]; exact g2, g3⟩
  rw [g2]
  rcases g3 with g3 | g3 | g3 | g3
  · rw [rgc_n (by rw [g3]; decide), g3]; exact h1
  · rw [rgc, if_pos g3]; exact h4
  · rw [rgc_n (by rw [g3]; decide), g3]; exact h2
  · rw [rgc_n (by rw [g3]; decide), g3]; exact h3
theorem cAL_fr {al : Nat} {es : List Nat} (h : cAL M al es) (hf : fr T M N own own') (h1 : 2 ∉ T) (h2 : 203 ∉ T) : cAL N al es := by
  obtain ⟨w1, ed, mc, w2, w3⟩ := h
  refine ⟨w1, ed, mc, fr_at hf w2 (kne rfl) h1, ?_⟩
  rcases w3 with w3 | ⟨e, a', t1, t2, t3⟩
  · exact Or.inl w3
  · exact Or.inr ⟨e, a', t1, fr_at hf t2 (kne rfl) h2, t3⟩
theorem cParts_fr {es : List Nat} {pb : Nat → List Int32} {hold : Nat → Nat} (h : cParts M own es pb hold) (hf : fr T M N own own') (h3 : 5 ∉ T) (h4 : 1006 ∉ T) : cParts N own' es pb hold := fun x hx => by
  obtain ⟨q, g1, g2, g3, g4⟩ := h x hx
  exact ⟨q, by rw [fr_o hf g3]; exact g1, fr_at hf g2 (kne rfl) h3, fr_atI hf g3 (by rw [g1]) h4, g4⟩
theorem cShelf_fr {sh room : Nat} {es : List Nat} {pb : Nat → List Int32} {hold : Nat → Nat} (h : cShelf M own sh room es pb hold) (hf : fr T M N own own') (h0 : 1 ∉ T) (h1 : 2 ∉ T) (h2 : 203 ∉ T) (h3 : 5 ∉ T) (h4 : 1006 ∉ T) : cShelf N own' sh room es pb hold := by
  obtain ⟨g1, g2, g3, al, g4, g5, g6⟩ := h
  exact ⟨g1, g2, g3, al, fr_at hf g4 (kne rfl) h0, cAL_fr g5 hf h1 h2, cParts_fr g6 hf h3 h4⟩
theorem cShelf_own {sh room : Nat} {es : List Nat} {pb : Nat → List Int32} {hold : Nat → Nat} (h : cShelf M own sh room es pb hold) (ho : ∀ q a, M[q]? = some (cI a) → own' q = own q) : cShelf M own' sh room es pb hold := by
  obtain ⟨g1, g2, g3, al, g4, g5, g6⟩ := h
  refine ⟨g1, g2, g3, al, g4, g5, fun x hx => ?_⟩
  obtain ⟨q, t1, t2, t3, t4⟩ := g6 x hx
  exact ⟨q, by rw [ho q _ t3]; exact t1, t2, t3, t4⟩
/-- one put changes -/
theorem cPs_put {pa i a b : Nat} {PA : List Nat} {P : List sP} {p p' : sP} {u : List Int32} {v1 : Value} {v2 : Int64} {v3 v4 : Int32} (h : cPs M own pa PA P) (ha : PA[i]? = some a) (hp : P[i]? = some p) (h1 : M[a]? = some (cO 3 [v1, .long v2, .int v3, .int v4])) (h2 : M[b]? = some (cI u)) (o1 : own a = (1, i)) (o2 : own b = (2, i)) :
    cPs ((M.set b (cI (p'.2.2.1 ++ List.replicate (p'.1 - p'.2.2.1.length) 0))).set a (cO 3 [.ref b, .long p'.2.1, .int (nI p'.2.2.1.length), .int (i2b p'.2.2.2)])) own pa PA (P.set i p') := by
  obtain ⟨g1, g2, g3, g4⟩ := h
  have hba : b ≠ a := fun z => by
    subst z
    rw [o1] at o2
    cases o2
  have h1' := xset_at (c' := cI (p'.2.2.1 ++ List.replicate (p'.1 - p'.2.2.1.length) 0)) h1 hba
  refine ⟨by rw [List.length_set]; exact g1, by rw [List.length_set]; exact g2, ?_, fun j a' q ha' hq => ?_⟩
  · rw [List.length_set]
    exact xset_ne (xset_ne g3 h2 rfl) h1' rfl
  · by_cases hji : j = i
    · subst hji
      rw [ha] at ha'
      cases ha'
      rw [List.getElem?_set_self (List.getElem?_eq_some_iff.mp hp).1] at hq
      cases hq
      exact ⟨o1, b, o2, xset_eq h1', xset_at (xset_eq h2) hba.symm⟩
    · rw [List.getElem?_set_ne (fun z => hji z.symm)] at hq
      obtain ⟨s1, b', s2, s3, s4⟩ := g4 j a' q ha' hq
      refine ⟨s1, b', s2, xset_at (xset_ne s3 h2 rfl) (fun z => hji ?_), xset_ne (xset_at s4 (fun z => hji ?_)) h1' rfl⟩
      · subst z
        rw [o1] at s1
        cases s1
        rfl
      · subst z
        rw [o2] at s2
        cases s2
        rfl
/-- one blob's object changes -/
theorem cBs_obj {ba i a pr : Nat} {cq : Option Nat} {BA : List Nat} {B : List sB} {b b' : sB} {c0 : xCl} (h : cBs M own ba BA B) (ha : BA[i]? = some a) (hb : B[i]? = some b) (h1 : M[a]? = some c0) (k0 : xkd c0 = 4) (o1 : own a = (3, i)) (h2 : M[pr]? = some (cR 2 ((bIds b').map some))) (h3 : cCp M own i cq (bCopy b')) :
    cBs (M.set a (cO 4 [.int (nI (bLen b')), .int (bSum b'), .long (bDig b'), .ref pr, xrv cq, .int (bPack b'), .int (i2b (bThere b'))])) own ba BA (B.set i b') := by
  obtain ⟨g1, g2, g3, g4⟩ := h
  have kk : ∀ {j : Nat} {e e' : xCl}, M[j]? = some e → xkd e ≠ 4 → (M.set a e')[j]? = some e := fun hj hne => xset_at hj (fun z => hne (by
    subst z
    rw [h1] at hj
    cases hj
    exact k0))
  refine ⟨by rw [List.length_set]; exact g1, by rw [List.length_set]; exact g2, ?_, fun j a' q ha' hq => ?_⟩
  · rw [List.length_set]
    exact kk g3 (kne rfl)
  · by_cases hji : j = i
    · subst hji
      rw [ha] at ha'
      cases ha'
      rw [List.getElem?_set_self (List.getElem?_eq_some_iff.mp hb).1] at hq
      cases hq
      refine ⟨o1, pr, cq, xset_eq h1, kk h2 (kne rfl), ?_⟩
      rcases h3 with h3 | ⟨q, c, t1, t2, t3, t4⟩
      · exact Or.inl h3
      · exact Or.inr ⟨q, c, t1, t2, t3, kk t4 (kne rfl)⟩
    · rw [List.getElem?_set_ne (fun z => hji z.symm)] at hq
      obtain ⟨s1, pr', cq', s2, s3, s4⟩ := g4 j a' q ha' hq
      refine ⟨s1, pr', cq', xset_at s2 (fun z => hji ?_), kk s3 (kne rfl), ?_⟩
      · subst z
        rw [o1] at s1
        cases s1
        rfl
      · rcases s4 with s4 | ⟨q, c, t1, t2, t3, t4⟩
        · exact Or.inl s4
        · exact Or.inr ⟨q, c, t1, t2, t3, kk t4 (kne rfl)⟩
/-- a blob's copy is written anew -/
theorem cBs_copy {ba i a q : Nat} {BA : List Nat} {B : List sB} {u u' : List Int32} {v1 v2 : Int32} {v3 : Int64} {v4 : Value} {v5 v6 : Int32} (h : cBs M own ba BA B) (ha : BA[i]? = some a) (hA : M[a]? = some (cO 4 [.int v1, .int v2, .long v3, v4, .ref q, .int v5, .int v6])) (h1 : M[q]? = some (cI u)) (o1 : own q = (5, i)) {b : sB} (hb : B[i]? = some b) :
    cBs (M.set q (cI u')) own ba BA (B.set i (bLen b, bIds b, bSum b, bDig b, some u', bPack b, bThere b)) := by
  obtain ⟨g1, g2, g3, g4⟩ := h
  refine ⟨by rw [List.length_set]; exact g1, by rw [List.length_set]; exact g2, ?_, fun j a' b' ha' hq => ?_⟩
  · rw [List.length_set]
    exact xset_ne g3 h1 rfl
  · by_cases hji : j = i
    · subst hji
      rw [List.getElem?_set_self (List.getElem?_eq_some_iff.mp hb).1] at hq
      cases hq
      rw [ha] at ha'
      cases ha'
      obtain ⟨s1, pr', cq', s2, s3, s4⟩ := g4 j a b ha hb
      have hcq : cq' = some q := by
        rw [hA] at s2
        have h5 : Value.ref q = xrv cq' := by
          have h6 := Sum.inl.inj (Option.some.inj s2)
          have h7 := congrArg (fun z : Nat × List Value => z.2.getD 4 .null) h6
          exact h7
        cases cq' with
        | none => cases h5
        | some w => cases h5; rfl
      exact ⟨s1, pr', cq', xset_ne s2 h1 rfl, xset_ne s3 h1 rfl, Or.inr ⟨q, u', hcq, rfl, o1, xset_eq h1⟩⟩
    · rw [List.getElem?_set_ne (fun z => hji z.symm)] at hq
      obtain ⟨s1, pr', cq', s2, s3, s4⟩ := g4 j a' b' ha' hq
      refine ⟨s1, pr', cq', xset_ne s2 h1 rfl, xset_ne s3 h1 rfl, ?_⟩
      rcases s4 with s4 | ⟨q', c, t1, t2, t3, t4⟩
      · exact Or.inl s4
      · exact Or.inr ⟨q', c, t1, t2, t3, xset_at t4 (fun z => hji (by
          subst z
          rw [o1] at t3
          cases t3
          rfl))⟩
/-- a put comes -/
theorem cPs_add {pa a b : Nat} {PA : List Nat} {P : List sP} {p : sP} (h : cPs M own pa PA P) (hP : P.length < 60) (hp : cPutA M own P.length a p) :
    cPs (M.set pa (cR 0 ((PA.map some ++ List.replicate (60 - P.length) none).set P.length (some a)))) own pa (PA ++ [a]) (P ++ [p]) := by
  obtain ⟨g1, g2, g3, g4⟩ := h
  refine ⟨by rw [List.length_append, List.length_append, g1]; rfl, by rw [List.length_append, List.length_singleton]; omega, ?_, fun j a' q ha' hq => ?_⟩
  · rw [xset_eq g3, show 60 - P.length = (60 - P.length - 1) + 1 by omega]
    have := app_set_none PA (60 - P.length - 1) a
    rw [g1] at this
    rw [this, List.length_append, List.length_singleton, show 60 - P.length - 1 = 60 - (P.length + 1) by omega]
  · by_cases hj : j < P.length
    · rw [List.getElem?_append_left (by omega)] at ha' hq
      exact cPutA_fr (T := [200]) (g4 j a' q ha' hq) (fr_setk 200 g3 rfl (by decide) (by decide)) (by decide) (by decide)
    · have hjl := (List.getElem?_eq_some_iff.mp hq).1
      rw [List.length_append, List.length_singleton] at hjl
      obtain rfl : j = P.length := by omega
      rw [List.getElem?_append_right (by omega), show P.length - PA.length = 0 by omega] at ha'
      rw [List.getElem?_append_right (by omega), Nat.sub_self] at hq
      cases ha'
      cases hq
      exact cPutA_fr (T := [200]) hp (fr_setk 200 g3 rfl (by decide) (by decide)) (by decide) (by decide)
/-- a blob comes -/
theorem cBs_add {ba a : Nat} {BA : List Nat} {B : List sB} {b : sB} (h : cBs M own ba BA B) (hB : B.length < 60) (hb : cBlobA M own B.length a b) :
    cBs (M.set ba (cR 1 ((BA.map some ++ List.replicate (60 - B.length) none).set B.length (some a)))) own ba (BA ++ [a]) (B ++ [b]) := by
  obtain ⟨g1, g2, g3, g4⟩ := h
  refine ⟨by rw [List.length_append, List.length_append, g1]; rfl, by rw [List.length_append, List.length_singleton]; omega, ?_, fun j a' q ha' hq => ?_⟩
  · rw [xset_eq g3, show 60 - B.length = (60 - B.length - 1) + 1 by omega]
    have := app_set_none BA (60 - B.length - 1) a
    rw [g1] at this
    rw [this, List.length_append, List.length_singleton, show 60 - B.length - 1 = 60 - (B.length + 1) by omega]
  · by_cases hj : j < B.length
    · rw [List.getElem?_append_left (by omega)] at ha' hq
      exact cBlobA_fr (T := [201]) (g4 j a' q ha' hq) (fr_setk 201 g3 rfl (by decide) (by decide)) (by decide) (by decide) (by decide)
    · have hjl := (List.getElem?_eq_some_iff.mp hq).1
      rw [List.length_append, List.length_singleton] at hjl
      obtain rfl : j = B.length := by omega
      rw [List.getElem?_append_right (by omega), show B.length - BA.length = 0 by omega] at ha'
      rw [List.getElem?_append_right (by omega), Nat.sub_self] at hq
      cases ha'
      cases hq
      exact cBlobA_fr (T := [201]) hb (fr_setk 201 g3 rfl (by decide) (by decide)) (by decide) (by decide) (by decide)
end FRAME
