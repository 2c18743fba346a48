/-! THE LAW: call by call the two answers are one -/
theorem lg_same (x : Int64) : lg_cmp x x = 0 := by
  unfold lg_cmp
  rw [if_neg (show ¬ x > x from Int64.lt_irrefl), if_pos rfl]
theorem CI_mo {M : List xCl} {own : Nat → Nat × Nat} {m : Nat} {A : List xCl} {t room : Nat} {P : List sP} {es : List Nat} {pb : Nat → List Int32} {B : List sB} {act : List Int32} {nk : Nat} (hC : CI M own m A t room P es pb B act nk) : cMo M own m A := by
  obtain ⟨-, sh, pa, ba, ra, PA, BA, hT, hP, hB, hR, hS, hM⟩ := hC
  exact hM
section LAW
variable {l : Launch} {D : va_G} {ρ : xR}
theorem law_step {m : Nat} (n i c : Nat) (N : List xCl) (room : Nat) (P : List sP) (es : List Nat) (pb : Nat → List Int32) (B : List sB) (act : List Int32) (nk : Nat) (own : Nat → Nat × Nat) (s : mS) (hi : i + 5 ≤ ρ.2.1) (hsl : ρ.2.1 ≤ 100000000) (hc : c ≤ 100000) (hC : CI N own m (mC m s) 0 room P es pb B act nk) (hR : MR c room P es pb B act nk s)
    (next : ∀ (N : List xCl) (P : List sP) (es : List Nat) (pb : Nat → List Int32) (B : List sB) (act : List Int32) (nk : Nat) (own : Nat → Nat × Nat) (s : mS), CI N own m (mC m s) 0 room P es pb B act nk → MR (c + 6) room P es pb B act nk s → Xw l D ρ m_law 663 [(0, .retAddr 0), (1, .ref 0), (2, .ref m), (3, .int (nI i))] [] N 11 (21 * n) (4321 * n) (fun r _ => r = some (.int 1))) :
    Xw l D ρ m_law 36 [(0, .retAddr 0), (1, .ref 0), (2, .ref m), (3, .int (nI i))] [] N 11 (21 * (n + 1)) (4321 * (n + 1)) (fun r _ => r = some (.int 1)) := by
  obtain ⟨sh, pa, ba, ra, PA, BA, hT, -⟩ := hC.2
  have hI := hC.1
  refine b_law_36 (j38 := i) rfl (by omega) hsl (fun _ => ?c0) (fun _ => ?c1) (fun _ => ?c2) (fun _ => ?c3) (fun _ => ?c4) (fun _ => ?c5) (fun _ => ?c6) (fun _ => ?c7) (fun _ => ?c8) (fun _ => ?c9) (fun _ => ?c10) (fun _ => ?c11) (fun _ => ?c12) (fun _ => ?c13) (fun _ => ?c14) (fun _ => ?c15) (fun _ => ?c16) (fun _ => ?c17) (fun _ => ?cx)
  case c0 =>
    refine b_law_128 (j133 := i + 1) (j138 := i + 2) (j147 := i + 3) (cd1 := 10) (ckc1 := 21) (cks1 := 4321) (ckc2 := 21 * n) (cks2 := 4321 * n) (nI_add i 1) (by omega) hsl (nI_add i 2) (by omega) (nI_add i 3) (by omega) (by omega) (by omega) (by omega) hT (k_begin hC (by omega) (by omega) (by omega)) (fun r N h => ?_)
    obtain ⟨rfl, own', hC'⟩ := h
    obtain ⟨pre, post, rfl, rfl⟩ := mo_split (CI_mo hC')
    refine b_law_157 (j162 := i + 1) (j167 := i + 2) (j176 := i + 3) (cd1 := 10) (ckc1 := 0) (cks1 := 0) (ckc2 := 21 * n) (cks2 := 4321 * n) (nI_add i 1) (by omega) hsl (nI_add i 2) (by omega) (nI_add i 3) (by omega) (by omega) (by omega) (by omega) h_obj (q_begin hI hR (by omega)) (fun r N h => ?_)
    obtain ⟨rfl, s', rfl, hR'⟩ := h
    exact b_law_186 (fun _ => next _ _ _ _ _ _ _ _ _ (CI_swap hC') hR') (fun z => absurd rfl z)
  case c1 =>
    refine b_law_191 (j196 := i + 1) (j201 := i + 2) (j210 := i + 3) (j221 := i + 4) (cd1 := 10) (ckc1 := 21) (cks1 := 4321) (ckc2 := 21 * n) (cks2 := 4321 * n) (nI_add i 1) (by omega) hsl (nI_add i 2) (by omega) (nI_add i 3) (by omega) (nI_add i 4) (by omega) (by omega) (by omega) (by omega) hT (k_add hC (by omega)) (fun r N h => ?_)
    obtain ⟨rfl, own', hC'⟩ := h
    obtain ⟨pre, post, rfl, rfl⟩ := mo_split (CI_mo hC')
    refine b_law_225 (j230 := i + 1) (j235 := i + 2) (j244 := i + 3) (j255 := i + 4) (cd1 := 10) (ckc1 := 0) (cks1 := 0) (ckc2 := 21 * n) (cks2 := 4321 * n) (nI_add i 1) (by omega) hsl (nI_add i 2) (by omega) (nI_add i 3) (by omega) (nI_add i 4) (by omega) (by omega) (by omega) (by omega) h_obj (q_add hI hR (by omega)) (fun r N h => ?_)
    obtain ⟨rfl, s', rfl, hR'⟩ := h
    exact b_law_259 (fun _ => next _ _ _ _ _ _ _ _ _ (CI_swap hC') hR') (fun z => absurd rfl z)
  case c2 =>
    refine b_law_264 (j269 := i + 1) (cd1 := 10) (ckc1 := 21) (cks1 := 4321) (ckc2 := 21 * n) (cks2 := 4321 * n) (nI_add i 1) (by omega) hsl (by omega) (by omega) (by omega) hT (k_end hC (by omega) (by omega) (by omega)) (fun r N h => ?_)
    obtain ⟨own', nid, hn, rfl, hC'⟩ := h
    obtain ⟨pre, post, rfl, rfl⟩ := mo_split (CI_mo hC')
    refine b_law_273 (j278 := i + 1) (cd1 := 10) (ckc1 := 0) (cks1 := 0) (ckc2 := 21 * n) (cks2 := 4321 * n) (nI_add i 1) (by omega) hsl (by omega) (by omega) (by omega) h_obj (q_end hI hR hc hn (by omega)) (fun r N h => ?_)
    obtain ⟨rfl, s', rfl, hR'⟩ := h
    exact b_law_282 (fun _ => next _ _ _ _ _ _ _ _ _ (CI_swap hC') hR') (fun z => absurd rfl z)
  case c3 =>
    refine b_law_287 (j292 := i + 1) (cd1 := 10) (ckc1 := 21) (cks1 := 4321) (ckc2 := 21 * n) (cks2 := 4321 * n) (nI_add i 1) (by omega) hsl (by omega) (by omega) (by omega) hT (k_there hC (by omega)) (fun r N h => ?_)
    obtain ⟨rfl, rfl⟩ := h
    obtain ⟨pre, post, rfl, rfl⟩ := mo_split (CI_mo hC)
    refine b_law_296 (j301 := i + 1) (cd1 := 10) (ckc1 := 0) (cks1 := 0) (ckc2 := 21 * n) (cks2 := 4321 * n) (nI_add i 1) (by omega) hsl (by omega) (by omega) (by omega) h_obj (q_there hI hR (by omega)) (fun r N h => ?_)
    obtain ⟨rfl, rfl⟩ := h
    exact b_law_305 (fun _ => next _ _ _ _ _ _ _ _ _ hC (MR_up hR (by omega))) (fun z => absurd rfl z)
  case c4 =>
    refine b_law_310 (j315 := i + 1) (cd1 := 10) (ckc1 := 21) (cks1 := 4321) (ckc2 := 21 * n) (cks2 := 4321 * n) (nI_add i 1) (by omega) hsl (by omega) (by omega) (by omega) hT (k_digest hC (by omega)) (fun r N h => ?_)
    obtain ⟨rfl, rfl⟩ := h
    obtain ⟨pre, post, rfl, rfl⟩ := mo_split (CI_mo hC)
    refine b_law_319 (j324 := i + 1) (cd1 := 10) (ckc1 := 0) (cks1 := 0) (ckc2 := 21 * n) (cks2 := 4321 * n) (nI_add i 1) (by omega) hsl (by omega) (by omega) (by omega) h_obj (q_digest hI hR (by omega)) (fun r N h => ?_)
    obtain ⟨rfl, rfl⟩ := h
    exact b_law_328 (fun _ => next _ _ _ _ _ _ _ _ _ hC (MR_up hR (by omega))) (fun z => absurd (lg_same _) z)
  case c5 =>
    refine b_law_334 (j339 := i + 1) (cd1 := 10) (ckc1 := 21) (cks1 := 4321) (ckc2 := 21 * n) (cks2 := 4321 * n) (nI_add i 1) (by omega) hsl (by omega) (by omega) (by omega) hT (k_size hC (by omega)) (fun r N h => ?_)
    obtain ⟨rfl, rfl⟩ := h
    obtain ⟨pre, post, rfl, rfl⟩ := mo_split (CI_mo hC)
    refine b_law_343 (j348 := i + 1) (cd1 := 10) (ckc1 := 0) (cks1 := 0) (ckc2 := 21 * n) (cks2 := 4321 * n) (nI_add i 1) (by omega) hsl (by omega) (by omega) (by omega) h_obj (q_size hI hR (by omega)) (fun r N h => ?_)
    obtain ⟨rfl, rfl⟩ := h
    exact b_law_352 (fun _ => next _ _ _ _ _ _ _ _ _ hC (MR_up hR (by omega))) (fun z => absurd rfl z)
  case c6 =>
    refine b_law_357 (j362 := i + 1) (j367 := i + 2) (cd1 := 10) (ckc1 := 21) (cks1 := 4321) (ckc2 := 21 * n) (cks2 := 4321 * n) (nI_add i 1) (by omega) hsl (nI_add i 2) (by omega) (by omega) (by omega) (by omega) hT (k_get hC (by omega)) (fun r N h => ?_)
    obtain ⟨rfl, rfl⟩ := h
    obtain ⟨pre, post, rfl, rfl⟩ := mo_split (CI_mo hC)
    refine b_law_371 (j376 := i + 1) (j381 := i + 2) (cd1 := 10) (ckc1 := 0) (cks1 := 0) (ckc2 := 21 * n) (cks2 := 4321 * n) (nI_add i 1) (by omega) hsl (nI_add i 2) (by omega) (by omega) (by omega) (by omega) h_obj (q_get hI hR (by omega)) (fun r N h => ?_)
    obtain ⟨rfl, rfl⟩ := h
    exact b_law_385 (fun _ => next _ _ _ _ _ _ _ _ _ hC (MR_up hR (by omega))) (fun z => absurd rfl z)
  case c7 =>
    refine b_law_390 (j395 := i + 1) (j400 := i + 2) (j405 := i + 3) (cd1 := 10) (ckc1 := 21) (cks1 := 4321) (ckc2 := 21 * n) (cks2 := 4321 * n) (nI_add i 1) (by omega) hsl (nI_add i 2) (by omega) (nI_add i 3) (by omega) (by omega) (by omega) (by omega) hT (k_poison hC (by omega)) (fun r N h => ?_)
    obtain ⟨rfl, own', hC'⟩ := h
    obtain ⟨pre, post, rfl, rfl⟩ := mo_split (CI_mo hC')
    refine b_law_409 (j414 := i + 1) (j419 := i + 2) (j424 := i + 3) (cd1 := 10) (ckc1 := 0) (cks1 := 0) (ckc2 := 21 * n) (cks2 := 4321 * n) (nI_add i 1) (by omega) hsl (nI_add i 2) (by omega) (nI_add i 3) (by omega) (by omega) (by omega) (by omega) h_obj (q_poison hI hR (by omega)) (fun r N h => ?_)
    obtain ⟨rfl, s', rfl, hR'⟩ := h
    exact b_law_428 (fun _ => next _ _ _ _ _ _ _ _ _ (CI_swap hC') hR') (fun z => absurd rfl z)
  case c8 =>
    refine b_law_433 (j438 := i + 1) (cd1 := 10) (ckc1 := 21) (cks1 := 4321) (ckc2 := 21 * n) (cks2 := 4321 * n) (nI_add i 1) (by omega) hsl (by omega) (by omega) (by omega) hT (k_sound hC (by omega)) (fun r N h => ?_)
    obtain ⟨rfl, rfl⟩ := h
    obtain ⟨pre, post, rfl, rfl⟩ := mo_split (CI_mo hC)
    refine b_law_442 (j447 := i + 1) (cd1 := 10) (ckc1 := 0) (cks1 := 0) (ckc2 := 21 * n) (cks2 := 4321 * n) (nI_add i 1) (by omega) hsl (by omega) (by omega) (by omega) h_obj (q_sound hI hR (by omega)) (fun r N h => ?_)
    obtain ⟨rfl, rfl⟩ := h
    exact b_law_451 (fun _ => next _ _ _ _ _ _ _ _ _ hC (MR_up hR (by omega))) (fun z => absurd rfl z)
  case c9 =>
    refine b_law_456 (j461 := i + 1) (cd1 := 10) (ckc1 := 21) (cks1 := 4321) (ckc2 := 21 * n) (cks2 := 4321 * n) (nI_add i 1) (by omega) hsl (by omega) (by omega) (by omega) hT (k_mirror hC (by omega) (by omega) (by omega)) (fun r N h => ?_)
    obtain ⟨rfl, own', hC'⟩ := h
    obtain ⟨pre, post, rfl, rfl⟩ := mo_split (CI_mo hC')
    refine b_law_465 (j470 := i + 1) (cd1 := 10) (ckc1 := 0) (cks1 := 0) (ckc2 := 21 * n) (cks2 := 4321 * n) (nI_add i 1) (by omega) hsl (by omega) (by omega) (by omega) h_obj (q_mirror hI hR (by omega)) (fun r N h => ?_)
    obtain ⟨rfl, s', rfl, hR'⟩ := h
    exact b_law_474 (fun _ => next _ _ _ _ _ _ _ _ _ (CI_swap hC') hR') (fun z => absurd rfl z)
  case c10 =>
    refine b_law_479 (j484 := i + 1) (cd1 := 10) (ckc1 := 21) (cks1 := 4321) (ckc2 := 21 * n) (cks2 := 4321 * n) (nI_add i 1) (by omega) hsl (by omega) (by omega) (by omega) hT (k_repair hC (by omega) (by omega) (by omega)) (fun r N h => ?_)
    obtain ⟨own', nid, hn, rfl, hC'⟩ := h
    obtain ⟨pre, post, rfl, rfl⟩ := mo_split (CI_mo hC')
    refine b_law_488 (j493 := i + 1) (cd1 := 10) (ckc1 := 0) (cks1 := 0) (ckc2 := 21 * n) (cks2 := 4321 * n) (nI_add i 1) (by omega) hsl (by omega) (by omega) (by omega) h_obj (q_repair hI hR hc hn (by omega)) (fun r N h => ?_)
    obtain ⟨rfl, s', rfl, hR'⟩ := h
    exact b_law_497 (fun _ => next _ _ _ _ _ _ _ _ _ (CI_swap hC') hR') (fun z => absurd rfl z)
  case c11 =>
    refine b_law_502 (j507 := i + 1) (j512 := i + 2) (cd1 := 10) (ckc1 := 21) (cks1 := 4321) (ckc2 := 21 * n) (cks2 := 4321 * n) (nI_add i 1) (by omega) hsl (nI_add i 2) (by omega) (by omega) (by omega) (by omega) hT (k_refer hC (by omega)) (fun r N h => ?_)
    obtain ⟨rfl, own', hC'⟩ := h
    obtain ⟨pre, post, rfl, rfl⟩ := mo_split (CI_mo hC')
    refine b_law_516 (j521 := i + 1) (j526 := i + 2) (cd1 := 10) (ckc1 := 0) (cks1 := 0) (ckc2 := 21 * n) (cks2 := 4321 * n) (nI_add i 1) (by omega) hsl (nI_add i 2) (by omega) (by omega) (by omega) (by omega) h_obj (q_refer hI hR (by omega)) (fun r N h => ?_)
    obtain ⟨rfl, s', rfl, hR'⟩ := h
    exact b_law_530 (fun _ => next _ _ _ _ _ _ _ _ _ (CI_swap hC') hR') (fun z => absurd rfl z)
  case c12 =>
    refine b_law_535 (j540 := i + 1) (cd1 := 10) (ckc1 := 21) (cks1 := 4321) (ckc2 := 21 * n) (cks2 := 4321 * n) (nI_add i 1) (by omega) hsl (by omega) (by omega) (by omega) hT (k_referred hC) (fun r N h => ?_)
    obtain ⟨rfl, rfl⟩ := h
    obtain ⟨pre, post, rfl, rfl⟩ := mo_split (CI_mo hC)
    refine b_law_544 (j549 := i + 1) (cd1 := 10) (ckc1 := 0) (cks1 := 0) (ckc2 := 21 * n) (cks2 := 4321 * n) (nI_add i 1) (by omega) hsl (by omega) (by omega) (by omega) h_obj (q_referred hI hR (by omega)) (fun r N h => ?_)
    obtain ⟨rfl, rfl⟩ := h
    exact b_law_553 (fun _ => next _ _ _ _ _ _ _ _ _ hC (MR_up hR (by omega))) (fun z => absurd rfl z)
  case c13 =>
    refine b_law_558 (cd1 := 10) (ckc1 := 21) (cks1 := 4321) (ckc2 := 21 * n) (cks2 := 4321 * n) (by omega) (by omega) (by omega) hT (k_sweep hC (by omega)) (fun r N h => ?_)
    obtain ⟨rfl, own', hC'⟩ := h
    obtain ⟨pre, post, rfl, rfl⟩ := mo_split (CI_mo hC')
    refine b_law_562 (cd1 := 10) (ckc1 := 0) (cks1 := 0) (ckc2 := 21 * n) (cks2 := 4321 * n) (by omega) (by omega) (by omega) h_obj (q_sweep hI hR (by omega)) (fun r N h => ?_)
    obtain ⟨rfl, s', rfl, hR'⟩ := h
    exact b_law_566 (fun _ => next _ _ _ _ _ _ _ _ _ (CI_swap hC') hR') (fun z => absurd rfl z)
  case c14 =>
    refine b_law_571 (cd1 := 10) (ckc1 := 21) (cks1 := 4321) (ckc2 := 21 * n) (cks2 := 4321 * n) (by omega) (by omega) (by omega) hT (k_pack hC (by omega)) (fun r N h => ?_)
    obtain ⟨rfl, own', hC'⟩ := h
    obtain ⟨pre, post, rfl, rfl⟩ := mo_split (CI_mo hC')
    refine b_law_575 (cd1 := 10) (ckc1 := 0) (cks1 := 0) (ckc2 := 21 * n) (cks2 := 4321 * n) (by omega) (by omega) (by omega) h_obj (q_pack hI hR (by omega)) (fun r N h => ?_)
    obtain ⟨rfl, s', rfl, hR'⟩ := h
    exact b_law_579 (fun _ => next _ _ _ _ _ _ _ _ _ (CI_swap hC') hR') (fun z => absurd rfl z)
  case c15 =>
    refine b_law_584 (j589 := i + 1) (j594 := i + 2) (cd1 := 10) (ckc1 := 21) (cks1 := 4321) (ckc2 := 21 * n) (cks2 := 4321 * n) (nI_add i 1) (by omega) hsl (nI_add i 2) (by omega) (by omega) (by omega) (by omega) hT (k_cut hC (by omega)) (fun r N h => ?_)
    obtain ⟨rfl, own', hC'⟩ := h
    obtain ⟨pre, post, rfl, rfl⟩ := mo_split (CI_mo hC')
    refine b_law_598 (j603 := i + 1) (j608 := i + 2) (cd1 := 10) (ckc1 := 0) (cks1 := 0) (ckc2 := 21 * n) (cks2 := 4321 * n) (nI_add i 1) (by omega) hsl (nI_add i 2) (by omega) (by omega) (by omega) (by omega) h_obj (q_cut hI hR (by omega)) (fun r N h => ?_)
    obtain ⟨rfl, s', rfl, hR'⟩ := h
    exact b_law_612 (fun _ => next _ _ _ _ _ _ _ _ _ (CI_swap hC') hR') (fun z => absurd rfl z)
  case c16 =>
    refine b_law_617 (j622 := i + 1) (cd1 := 10) (ckc1 := 21) (cks1 := 4321) (ckc2 := 21 * n) (cks2 := 4321 * n) (nI_add i 1) (by omega) hsl (by omega) (by omega) (by omega) hT (k_packOf hC (by omega)) (fun r N h => ?_)
    obtain ⟨rfl, rfl⟩ := h
    obtain ⟨pre, post, rfl, rfl⟩ := mo_split (CI_mo hC)
    refine b_law_626 (j631 := i + 1) (cd1 := 10) (ckc1 := 0) (cks1 := 0) (ckc2 := 21 * n) (cks2 := 4321 * n) (nI_add i 1) (by omega) hsl (by omega) (by omega) (by omega) h_obj (q_packOf hI hR (by omega)) (fun r N h => ?_)
    obtain ⟨rfl, rfl⟩ := h
    exact b_law_635 (fun _ => next _ _ _ _ _ _ _ _ _ hC (MR_up hR (by omega))) (fun z => absurd rfl z)
  case c17 =>
    refine b_law_640 (j645 := i + 1) (cd1 := 10) (ckc1 := 21) (cks1 := 4321) (ckc2 := 21 * n) (cks2 := 4321 * n) (nI_add i 1) (by omega) hsl (by omega) (by omega) (by omega) hT (k_count hC (by omega)) (fun r N h => ?_)
    obtain ⟨rfl, rfl⟩ := h
    obtain ⟨pre, post, rfl, rfl⟩ := mo_split (CI_mo hC)
    refine b_law_649 (j654 := i + 1) (cd1 := 10) (ckc1 := 0) (cks1 := 0) (ckc2 := 21 * n) (cks2 := 4321 * n) (nI_add i 1) (by omega) hsl (by omega) (by omega) (by omega) h_obj (q_count hI hR (by omega)) (fun r N h => ?_)
    obtain ⟨rfl, rfl⟩ := h
    exact b_law_658 (fun _ => next _ _ _ _ _ _ _ _ _ hC (MR_up hR (by omega))) (fun z => absurd rfl z)
  case cx => exact x_wk (Nat.le_refl _) (by omega) (by omega) (fun r N h => h) (next _ _ _ _ _ _ _ _ _ hC (MR_up hR (by omega)))
theorem law_loop {m room : Nat} (hsl : ρ.2.1 ≤ 100000000) : ∀ (n i c : Nat) (N : List xCl) (P : List sP) (es : List Nat) (pb : Nat → List Int32) (B : List sB) (act : List Int32) (nk : Nat) (own : Nat → Nat × Nat) (s : mS), ρ.2.1 < i + 5 * n + 5 → i ≤ ρ.2.1 + 5 → c + 6 * n ≤ 100000 → CI N own m (mC m s) 0 room P es pb B act nk → MR c room P es pb B act nk s →
    Xw l D ρ m_law 28 [(0, .retAddr 0), (1, .ref 0), (2, .ref m), (3, .int (nI i))] [] N 11 (21 * n) (4321 * n) (fun r _ => r = some (.int 1)) := by
  intro n
  have key : ∀ i : Nat, i ≤ ρ.2.1 + 5 → ¬ (nI ρ.2.1 - 5) < nI i → i + 5 ≤ ρ.2.1 := by
    intro i hi hz
    rcases Nat.lt_or_ge ρ.2.1 5 with h | h
    · exact absurd (Int32.lt_of_lt_of_le (show nI ρ.2.1 - 5 < 0 from (show ∀ k : Nat, k < 5 → nI k - 5 < 0 by decide) _ h) (nI_pos' (by omega))) hz
    · rw [show nI ρ.2.1 - 5 = nI (ρ.2.1 - 5) from pk_sub (b := 5) h] at hz
      rcases Nat.lt_or_ge (ρ.2.1 - 5) i with z | z
      · exact absurd (nI_lt z (by omega)) hz
      · omega
  induction n with
  | zero =>
    intro i c N P es pb B act nk own s h1 h2 h3 hC hR
    exact b_law_28 (fun _ => b_law_669 rfl) (fun z => absurd (key i h2 z) (by omega))
  | succ n ih =>
    intro i c N P es pb B act nk own s h1 h2 h3 hC hR
    refine b_law_28 (fun _ => b_law_669 rfl) (fun z => ?_)
    have hi := key i h2 z
    refine law_step n i c N room P es pb B act nk own s hi hsl (by omega) hC hR (fun N' P' es' pb' B' act' nk' own' s' hC' hR' => b_law_663 trivial ?_)
    rw [show nI i + 5 = nI (i + 5) from nI_add i 5]
    exact ih (i + 5) (c + 6) N' P' es' pb' B' act' nk' own' s' (by omega) (by omega) (by omega) hC' hR'
theorem c_cell0 {M : List xCl} {d kc ks : Nat} (hsl : ρ.2.1 ≤ 100000000) : Xw l D ρ m_ContentStoreLaw_cell 0 [(0, .retAddr 0), (1, .int 0)] [] M d kc ks (fun r N => r = some (.int (if 0 < ρ.2.1 then ρ.2.2 0 else 0)) ∧ N = M) := by
  refine b_ContentStoreLaw_cell_0 (fun z => ?_) (fun z => ?_)
  · have : ¬ 0 < ρ.2.1 := fun h => nI_nle h (by omega) z
    rw [if_neg this]
    exact b_ContentStoreLaw_cell_12 (b_ContentStoreLaw_cell_13 ⟨rfl, rfl⟩)
  · have : 0 < ρ.2.1 := by
      rcases Nat.eq_zero_or_pos ρ.2.1 with h | h
      · exact absurd (by rw [h]; decide) z
      · exact h
    rw [if_pos this]
    exact b_ContentStoreLaw_cell_6 (j8 := 0) rfl this hsl (b_ContentStoreLaw_cell_13 ⟨rfl, rfl⟩)
theorem law_all (hlen : ρ.2.1 ≤ 2561) : Xw l D ρ m_law 0 [(0, .retAddr 0)] [] [] 11 600000 7302250 (fun r _ => r = some (.int 1)) := by
  have hsl : ρ.2.1 ≤ 100000000 := by omega
  refine b_law_0 (kc1 := 599999) (ks1 := 7302242) (cd1 := 0) (ckc1 := 0) (cks1 := 0) (ckc2 := 599999) (cks2 := 7302242) (by omega) (by omega) (by omega) (by omega) (by omega) (c_cell0 hsl) (fun r N h => ?_)
  obtain ⟨rfl, rfl⟩ := h
  refine b_law_9 (s1 := 0) (s2 := .ref 0) (cd1 := 10) (ckc1 := 5) (cks1 := 200) (ckc2 := 599994) (cks2 := 7302042) trivial (by omega) (by omega) (by omega) (c_CInit (by omega) (by omega) (by omega)) (fun r N h => ?_)
  obtain ⟨rfl, rfl⟩ := h
  generalize hrm : (if 0 < ρ.2.1 then ρ.2.2 0 else 0) = r0
  refine b_law_12 (s0 := .ref 0) (kc1 := 599993) (ks1 := 7302018) (cd1 := 0) (ckc1 := 0) (cks1 := 0) (ckc2 := 599993) (cks2 := 7302018) trivial (by omega) (by omega) (by omega) (by omega) (by omega) (c_cell0 hsl) (fun r N h => ?_)
  obtain ⟨rfl, rfl⟩ := h
  rw [hrm]
  refine b_law_22 (s1 := (cN0 (rmN r0)).length) (s2 := .ref 6) (cd1 := 10) (ckc1 := 18) (cks1 := 19796) (ckc2 := 21 * 512) (cks2 := 4321 * 512) trivial (by omega) (by omega) (by omega) (c_MInit (by omega) (by omega) (by omega)) (fun r N h => ?_)
  obtain ⟨rfl, rfl⟩ := h
  refine b_law_25 (x1 := .ref 0) (s0 := .ref 6) trivial trivial ?_
  exact law_loop hsl 512 1 0 _ _ _ _ _ _ _ _ _ (by omega) (by omega) (by omega) (CI_start (rmN r0) (rmN_le r0) (sM0 (rmN r0))) (MR_0 (rmN r0) _)
end LAW
