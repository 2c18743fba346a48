section XB
variable {l : Launch} {D : va_G} {ρ : xR} {M : List xCl} {d kc ks : Nat} {Q : Option Value → List xCl → Prop}
theorem b_ContentStoreLaw_cell_0 {x1 : Int32}  (kt : (nI ρ.2.1) ≤ x1 → Xw l D ρ m_ContentStoreLaw_cell 12 [] [] M d kc ks Q) (kf : ¬ (nI ρ.2.1) ≤ x1 → Xw l D ρ m_ContentStoreLaw_cell 6 [(0, .retAddr 0), (1, .int x1)] [] M d kc ks Q) : Xw l D ρ m_ContentStoreLaw_cell 0 [(0, .retAddr 0), (1, .int x1)] [] M d kc ks Q := by
  refine x_iload_n d_ContentStoreLaw_cell_0 rfl 1 rfl ?_
  refine x_aload_n d_ContentStoreLaw_cell_1 rfl 0 rfl trivial ?_
  refine x_alenS d_ContentStoreLaw_cell_2 ?_
  exact x_icmp_ge d_ContentStoreLaw_cell_3 (tgt := 12) (by decide) (fun c => x_pick [] rfl (kt c)) (fun c => x_pick [0, 1] rfl (kf c))
theorem b_ContentStoreLaw_cell_6 {x1 : Int32} {j8 : Nat} (e8 : x1 = nI j8) (g8 : j8 < ρ.2.1) (hsl0 : ρ.2.1 ≤ 100000000) (k : Xw l D ρ m_ContentStoreLaw_cell 13 [] [.int (ρ.2.2 j8)] M d kc ks Q) : Xw l D ρ m_ContentStoreLaw_cell 6 [(0, .retAddr 0), (1, .int x1)] [] M d kc ks Q := by
  refine x_aload_n d_ContentStoreLaw_cell_6 rfl 0 rfl trivial ?_
  refine x_iload_n d_ContentStoreLaw_cell_7 rfl 1 rfl ?_
  refine x_ialdS d_ContentStoreLaw_cell_8 e8 g8 hsl0 ?_
  exact x_goto d_ContentStoreLaw_cell_9 (tgt := 13) (by decide) (x_pick [] rfl k)
theorem b_ContentStoreLaw_cell_12   (k : Xw l D ρ m_ContentStoreLaw_cell 13 [] [.int 0] M d kc ks Q) : Xw l D ρ m_ContentStoreLaw_cell 12 [] [] M d kc ks Q := by
  refine x_iconst (v := 0) d_ContentStoreLaw_cell_12 (by decide) ?_
  exact x_pick [] rfl k
theorem b_ContentStoreLaw_cell_13 {s0 : Int32} (hQ : Q (some (.int s0)) M)  : Xw l D ρ m_ContentStoreLaw_cell 13 [] [.int s0] M d kc ks Q := by
  exact x_iret d_ContentStoreLaw_cell_13 rfl rfl hQ
theorem b_law_0 {kc1 : Nat} {ks1 : Nat} {cd1 : Nat} {ckc1 : Nat} {cks1 : Nat} {ckc2 : Nat} {cks2 : Nat} {Q1 : Option Value → List xCl → Prop} (hk1 : kc1 + 1 ≤ kc) (hs1 : ks1 + 8 ≤ ks) (hdp : cd1 + 1 ≤ d) (hkc : ckc1 + ckc2 ≤ kc1) (hks : cks1 + cks2 ≤ ks1) (kz : Xw l D ρ m_ContentStoreLaw_cell 0 [(0, .retAddr 0), (1, .int 0)] [] (M ++ [cO 0 [.null, .null, .null, .null, .int 0, .int 0, .int 0, .int 0]]) cd1 ckc1 cks1 Q1) (kk : ∀ r N, Q1 r N → Xw l D ρ m_law 9 [(0, .retAddr 0)] (r.toList ++ [.ref M.length, .ref M.length]) N d ckc2 cks2 Q) : Xw l D ρ m_law 0 [(0, .retAddr 0)] [] M d kc ks Q := by
  refine x_new (fs := [.null, .null, .null, .null, .int 0, .int 0, .int 0, .int 0]) d_law_0 ck_ContentStore kn_ContentStoreLaw_7 ki_ContentStore kz_ContentStore df_ContentStore rfl hk1 hs1 ?_
  refine x_dup d_law_3 rfl ?_
  refine x_aload_n d_law_4 rfl 0 rfl trivial ?_
  refine x_iconst (v := 0) d_law_5 (by decide) ?_
  exact x_pick [0] rfl (x_callS (As := [.retAddr 0, .int 0]) (st := [.ref M.length, .ref M.length]) (host := "") d_law_6 rfl mk_ContentStoreLaw_cell ms_ContentStoreLaw_cell (Or.inl kl_ContentStoreLaw_9) rfl (Nat.le_of_ble_eq_true rfl) (Nat.le_of_ble_eq_true rfl) hdp hkc hks rfl kz kk)
theorem b_law_9 {s0 : Int32} {s1 : Nat} {s2 : Value} {cd1 : Nat} {ckc1 : Nat} {cks1 : Nat} {ckc2 : Nat} {cks2 : Nat} {Q1 : Option Value → List xCl → Prop} (h_s2 : xrf s2) (hdp : cd1 + 1 ≤ d) (hkc : ckc1 + ckc2 ≤ kc) (hks : cks1 + cks2 ≤ ks) (kz : Xw l D ρ m_ContentStore_init 0 [(0, .ref s1), (1, .int s0)] [] M cd1 ckc1 cks1 Q1) (kk : ∀ r N, Q1 r N → Xw l D ρ m_law 12 [(0, .retAddr 0)] (r.toList ++ [s2]) N d ckc2 cks2 Q) : Xw l D ρ m_law 9 [(0, .retAddr 0)] [.int s0, .ref s1, s2] M d kc ks Q := by
  exact x_pick [0] rfl (x_callI (As := [.int s0]) (st := [s2]) d_law_9 rfl mk_ContentStore_init rfl rfl mi_ContentStore_init kl_ContentStoreLaw_15 rfl (Nat.le_of_ble_eq_true rfl) (by simp [xcat_i, xcat_l, xcat_r, xcat_n, xcat_o, xrf_cat h_s2]) hdp hkc hks rfl kz kk)
theorem b_law_12 {s0 : Value} {kc1 : Nat} {ks1 : Nat} {cd1 : Nat} {ckc1 : Nat} {cks1 : Nat} {ckc2 : Nat} {cks2 : Nat} {Q1 : Option Value → List xCl → Prop} (h_s0 : xrf s0) (hk1 : kc1 + 1 ≤ kc) (hs1 : ks1 + 24 ≤ ks) (hdp : cd1 + 1 ≤ d) (hkc : ckc1 + ckc2 ≤ kc1) (hks : cks1 + cks2 ≤ ks1) (kz : Xw l D ρ m_ContentStoreLaw_cell 0 [(0, .retAddr 0), (1, .int 0)] [] (M ++ [cO 6 [.int 0, .int 0, .int 0, .null, .null, .null, .null, .null, .int 0, .null, .null, .null, .int 0, .null, .null, .null, .null, .null, .null, .null, .null, .null, .int 0, .null]]) cd1 ckc1 cks1 Q1) (kk : ∀ r N, Q1 r N → Xw l D ρ m_law 22 [(0, .retAddr 0), (1, s0)] (r.toList ++ [.ref M.length, .ref M.length]) N d ckc2 cks2 Q) : Xw l D ρ m_law 12 [(0, .retAddr 0)] [s0] M d kc ks Q := by
  refine x_astore_n (i := 1) (L' := [(1, s0), (0, .retAddr 0)]) d_law_12 rfl (Nat.le_of_ble_eq_true rfl) h_s0 rfl ?_
  refine x_new (fs := [.int 0, .int 0, .int 0, .null, .null, .null, .null, .null, .int 0, .null, .null, .null, .int 0, .null, .null, .null, .null, .null, .null, .null, .null, .null, .int 0, .null]) d_law_13 ck_ContentStoreModel kn_ContentStoreLaw_18 ki_ContentStoreModel kz_ContentStoreModel df_ContentStoreModel rfl hk1 hs1 ?_
  refine x_dup d_law_16 rfl ?_
  refine x_aload_n d_law_17 rfl 1 rfl trivial ?_
  refine x_iconst (v := 0) d_law_18 (by decide) ?_
  exact x_pick [1, 0] rfl (x_callS (As := [.retAddr 0, .int 0]) (st := [.ref M.length, .ref M.length]) (host := "") d_law_19 rfl mk_ContentStoreLaw_cell ms_ContentStoreLaw_cell (Or.inl kl_ContentStoreLaw_9) rfl (Nat.le_of_ble_eq_true rfl) (Nat.le_of_ble_eq_true rfl) hdp hkc hks rfl kz kk)
theorem b_law_22 {x1 : Value} {s0 : Int32} {s1 : Nat} {s2 : Value} {cd1 : Nat} {ckc1 : Nat} {cks1 : Nat} {ckc2 : Nat} {cks2 : Nat} {Q1 : Option Value → List xCl → Prop} (h_s2 : xrf s2) (hdp : cd1 + 1 ≤ d) (hkc : ckc1 + ckc2 ≤ kc) (hks : cks1 + cks2 ≤ ks) (kz : Xw l D ρ m_ContentStoreModel_init 0 [(0, .ref s1), (1, .int s0)] [] M cd1 ckc1 cks1 Q1) (kk : ∀ r N, Q1 r N → Xw l D ρ m_law 25 [(0, .retAddr 0), (1, x1)] (r.toList ++ [s2]) N d ckc2 cks2 Q) : Xw l D ρ m_law 22 [(0, .retAddr 0), (1, x1)] [.int s0, .ref s1, s2] M d kc ks Q := by
  exact x_pick [0, 1] rfl (x_callI (As := [.int s0]) (st := [s2]) d_law_22 rfl mk_ContentStoreModel_init rfl rfl mi_ContentStoreModel_init kl_ContentStoreLaw_20 rfl (Nat.le_of_ble_eq_true rfl) (by simp [xcat_i, xcat_l, xcat_r, xcat_n, xcat_o, xrf_cat h_s2]) hdp hkc hks rfl kz kk)
theorem b_law_25 {x1 : Value} {s0 : Value} (h_x1 : xrf x1) (h_s0 : xrf s0) (k : Xw l D ρ m_law 28 [(0, .retAddr 0), (1, x1), (2, s0), (3, .int 1)] [] M d kc ks Q) : Xw l D ρ m_law 25 [(0, .retAddr 0), (1, x1)] [s0] M d kc ks Q := by
  refine x_astore_n (i := 2) (L' := [(2, s0), (0, .retAddr 0), (1, x1)]) d_law_25 rfl (Nat.le_of_ble_eq_true rfl) h_s0 (by simp [xrf_cat h_x1]) ?_
  refine x_iconst (v := 1) d_law_26 (by decide) ?_
  refine x_istore_n (i := 3) (L' := [(3, .int 1), (2, s0), (0, .retAddr 0), (1, x1)]) d_law_27 rfl (Nat.le_of_ble_eq_true rfl) (by simp [xrf_cat h_s0]) ?_
  exact x_pick [2, 3, 1, 0] rfl k
theorem b_law_28 {x1 : Value} {x2 : Value} {x3 : Int32}  (kt : ((nI ρ.2.1) - 5) < x3 → Xw l D ρ m_law 669 [] [] M d kc ks Q) (kf : ¬ ((nI ρ.2.1) - 5) < x3 → Xw l D ρ m_law 36 [(0, .retAddr 0), (1, x1), (2, x2), (3, .int x3)] [] M d kc ks Q) : Xw l D ρ m_law 28 [(0, .retAddr 0), (1, x1), (2, x2), (3, .int x3)] [] M d kc ks Q := by
  refine x_iload_n d_law_28 rfl 3 rfl ?_
  refine x_aload_n d_law_29 rfl 0 rfl trivial ?_
  refine x_alenS d_law_30 ?_
  refine x_iconst (v := 5) d_law_31 (by decide) ?_
  refine x_isub d_law_32 ?_
  exact x_icmp_gt d_law_33 (tgt := 669) (by decide) (fun c => x_pick [] rfl (kt c)) (fun c => x_pick [0, 1, 2, 3] rfl (kf c))
theorem b_law_36 {x1 : Value} {x2 : Value} {x3 : Int32} {j38 : Nat} (e38 : x3 = nI j38) (g38 : j38 < ρ.2.1) (hsl0 : ρ.2.1 ≤ 100000000) (kt0 : ((ρ.2.2 j38) &&& 31) = 0 → Xw l D ρ m_law 128 [(0, .retAddr 0), (1, x1), (2, x2), (3, .int x3)] [] M d kc ks Q) (kt1 : ((ρ.2.2 j38) &&& 31) = 1 → Xw l D ρ m_law 191 [(0, .retAddr 0), (1, x1), (2, x2), (3, .int x3)] [] M d kc ks Q) (kt2 : ((ρ.2.2 j38) &&& 31) = 2 → Xw l D ρ m_law 264 [(0, .retAddr 0), (1, x1), (2, x2), (3, .int x3)] [] M d kc ks Q) (kt3 : ((ρ.2.2 j38) &&& 31) = 3 → Xw l D ρ m_law 287 [(0, .retAddr 0), (1, x1), (2, x2), (3, .int x3)] [] M d kc ks Q) (kt4 : ((ρ.2.2 j38) &&& 31) = 4 → Xw l D ρ m_law 310 [(0, .retAddr 0), (1, x1), (2, x2), (3, .int x3)] [] M d kc ks Q) (kt5 : ((ρ.2.2 j38) &&& 31) = 5 → Xw l D ρ m_law 334 [(0, .retAddr 0), (1, x1), (2, x2), (3, .int x3)] [] M d kc ks Q) (kt6 : ((ρ.2.2 j38) &&& 31) = 6 → Xw l D ρ m_law 357 [(0, .retAddr 0), (1, x1), (2, x2), (3, .int x3)] [] M d kc ks Q) (kt7 : ((ρ.2.2 j38) &&& 31) = 7 → Xw l D ρ m_law 390 [(0, .retAddr 0), (1, x1), (2, x2), (3, .int x3)] [] M d kc ks Q) (kt8 : ((ρ.2.2 j38) &&& 31) = 8 → Xw l D ρ m_law 433 [(0, .retAddr 0), (1, x1), (2, x2), (3, .int x3)] [] M d kc ks Q) (kt9 : ((ρ.2.2 j38) &&& 31) = 9 → Xw l D ρ m_law 456 [(0, .retAddr 0), (1, x1), (2, x2), (3, .int x3)] [] M d kc ks Q) (kt10 : ((ρ.2.2 j38) &&& 31) = 10 → Xw l D ρ m_law 479 [(0, .retAddr 0), (1, x1), (2, x2), (3, .int x3)] [] M d kc ks Q) (kt11 : ((ρ.2.2 j38) &&& 31) = 11 → Xw l D ρ m_law 502 [(0, .retAddr 0), (1, x1), (2, x2), (3, .int x3)] [] M d kc ks Q) (kt12 : ((ρ.2.2 j38) &&& 31) = 12 → Xw l D ρ m_law 535 [(0, .retAddr 0), (1, x1), (2, x2), (3, .int x3)] [] M d kc ks Q) (kt13 : ((ρ.2.2 j38) &&& 31) = 13 → Xw l D ρ m_law 558 [(0, .retAddr 0), (1, x1), (2, x2), (3, .int x3)] [] M d kc ks Q) (kt14 : ((ρ.2.2 j38) &&& 31) = 14 → Xw l D ρ m_law 571 [(0, .retAddr 0), (1, x1), (2, x2), (3, .int x3)] [] M d kc ks Q) (kt15 : ((ρ.2.2 j38) &&& 31) = 15 → Xw l D ρ m_law 584 [(0, .retAddr 0), (1, x1), (2, x2), (3, .int x3)] [] M d kc ks Q) (kt16 : ((ρ.2.2 j38) &&& 31) = 16 → Xw l D ρ m_law 617 [(0, .retAddr 0), (1, x1), (2, x2), (3, .int x3)] [] M d kc ks Q) (kt17 : ((ρ.2.2 j38) &&& 31) = 17 → Xw l D ρ m_law 640 [(0, .retAddr 0), (1, x1), (2, x2), (3, .int x3)] [] M d kc ks Q) (kf : (((ρ.2.2 j38) &&& 31).toInt < 0 ∨ 17 < ((ρ.2.2 j38) &&& 31).toInt) → Xw l D ρ m_law 663 [(0, .retAddr 0), (1, x1), (2, x2), (3, .int x3)] [] M d kc ks Q) : Xw l D ρ m_law 36 [(0, .retAddr 0), (1, x1), (2, x2), (3, .int x3)] [] M d kc ks Q := by
  refine x_aload_n d_law_36 rfl 0 rfl trivial ?_
  refine x_iload_n d_law_37 rfl 3 rfl ?_
  refine x_ialdS d_law_38 e38 g38 hsl0 ?_
  refine x_bipush (v := 31) d_law_39 (by decide) ?_
  refine x_iand d_law_41 ?_
  rcases Decidable.em (((ρ.2.2 j38) &&& 31).toInt < 0 ∨ 17 < ((ρ.2.2 j38) &&& 31).toInt) with h | h
  · exact x_tableOut d_law_42 h (tgt := 663) (by decide) (x_pick [0, 1, 2, 3] rfl (kf h))
  · have h1 : ((ρ.2.2 j38) &&& 31).toInt = 0 ∨ ((ρ.2.2 j38) &&& 31).toInt = 1 ∨ ((ρ.2.2 j38) &&& 31).toInt = 2 ∨ ((ρ.2.2 j38) &&& 31).toInt = 3 ∨ ((ρ.2.2 j38) &&& 31).toInt = 4 ∨ ((ρ.2.2 j38) &&& 31).toInt = 5 ∨ ((ρ.2.2 j38) &&& 31).toInt = 6 ∨ ((ρ.2.2 j38) &&& 31).toInt = 7 ∨ ((ρ.2.2 j38) &&& 31).toInt = 8 ∨ ((ρ.2.2 j38) &&& 31).toInt = 9 ∨ ((ρ.2.2 j38) &&& 31).toInt = 10 ∨ ((ρ.2.2 j38) &&& 31).toInt = 11 ∨ ((ρ.2.2 j38) &&& 31).toInt = 12 ∨ ((ρ.2.2 j38) &&& 31).toInt = 13 ∨ ((ρ.2.2 j38) &&& 31).toInt = 14 ∨ ((ρ.2.2 j38) &&& 31).toInt = 15 ∨ ((ρ.2.2 j38) &&& 31).toInt = 16 ∨ ((ρ.2.2 j38) &&& 31).toInt = 17 := by omega
    rcases h1 with h1 | h1 | h1 | h1 | h1 | h1 | h1 | h1 | h1 | h1 | h1 | h1 | h1 | h1 | h1 | h1 | h1 | h1
    · exact x_tableIn d_law_42 (off := 86) (tgt := 128) (by omega) (by omega) (by rw [h1]; rfl) (by decide) (x_pick [0, 1, 2, 3] rfl (kt0 (Int32.toInt_inj.mp (by rw [h1]; decide))))
    · exact x_tableIn d_law_42 (off := 149) (tgt := 191) (by omega) (by omega) (by rw [h1]; rfl) (by decide) (x_pick [0, 1, 2, 3] rfl (kt1 (Int32.toInt_inj.mp (by rw [h1]; decide))))
    · exact x_tableIn d_law_42 (off := 222) (tgt := 264) (by omega) (by omega) (by rw [h1]; rfl) (by decide) (x_pick [0, 1, 2, 3] rfl (kt2 (Int32.toInt_inj.mp (by rw [h1]; decide))))
    · exact x_tableIn d_law_42 (off := 245) (tgt := 287) (by omega) (by omega) (by rw [h1]; rfl) (by decide) (x_pick [0, 1, 2, 3] rfl (kt3 (Int32.toInt_inj.mp (by rw [h1]; decide))))
    · exact x_tableIn d_law_42 (off := 268) (tgt := 310) (by omega) (by omega) (by rw [h1]; rfl) (by decide) (x_pick [0, 1, 2, 3] rfl (kt4 (Int32.toInt_inj.mp (by rw [h1]; decide))))
    · exact x_tableIn d_law_42 (off := 292) (tgt := 334) (by omega) (by omega) (by rw [h1]; rfl) (by decide) (x_pick [0, 1, 2, 3] rfl (kt5 (Int32.toInt_inj.mp (by rw [h1]; decide))))
    · exact x_tableIn d_law_42 (off := 315) (tgt := 357) (by omega) (by omega) (by rw [h1]; rfl) (by decide) (x_pick [0, 1, 2, 3] rfl (kt6 (Int32.toInt_inj.mp (by rw [h1]; decide))))
    · exact x_tableIn d_law_42 (off := 348) (tgt := 390) (by omega) (by omega) (by rw [h1]; rfl) (by decide) (x_pick [0, 1, 2, 3] rfl (kt7 (Int32.toInt_inj.mp (by rw [h1]; decide))))
    · exact x_tableIn d_law_42 (off := 391) (tgt := 433) (by omega) (by omega) (by rw [h1]; rfl) (by decide) (x_pick [0, 1, 2, 3] rfl (kt8 (Int32.toInt_inj.mp (by rw [h1]; decide))))
    · exact x_tableIn d_law_42 (off := 414) (tgt := 456) (by omega) (by omega) (by rw [h1]; rfl) (by decide) (x_pick [0, 1, 2, 3] rfl (kt9 (Int32.toInt_inj.mp (by rw [h1]; decide))))
    · exact x_tableIn d_law_42 (off := 437) (tgt := 479) (by omega) (by omega) (by rw [h1]; rfl) (by decide) (x_pick [0, 1, 2, 3] rfl (kt10 (Int32.toInt_inj.mp (by rw [h1]; decide))))
    · exact x_tableIn d_law_42 (off := 460) (tgt := 502) (by omega) (by omega) (by rw [h1]; rfl) (by decide) (x_pick [0, 1, 2, 3] rfl (kt11 (Int32.toInt_inj.mp (by rw [h1]; decide))))
    · exact x_tableIn d_law_42 (off := 493) (tgt := 535) (by omega) (by omega) (by rw [h1]; rfl) (by decide) (x_pick [0, 1, 2, 3] rfl (kt12 (Int32.toInt_inj.mp (by rw [h1]; decide))))
    · exact x_tableIn d_law_42 (off := 516) (tgt := 558) (by omega) (by omega) (by rw [h1]; rfl) (by decide) (x_pick [0, 1, 2, 3] rfl (kt13 (Int32.toInt_inj.mp (by rw [h1]; decide))))
    · exact x_tableIn d_law_42 (off := 529) (tgt := 571) (by omega) (by omega) (by rw [h1]; rfl) (by decide) (x_pick [0, 1, 2, 3] rfl (kt14 (Int32.toInt_inj.mp (by rw [h1]; decide))))
    · exact x_tableIn d_law_42 (off := 542) (tgt := 584) (by omega) (by omega) (by rw [h1]; rfl) (by decide) (x_pick [0, 1, 2, 3] rfl (kt15 (Int32.toInt_inj.mp (by rw [h1]; decide))))
    · exact x_tableIn d_law_42 (off := 575) (tgt := 617) (by omega) (by omega) (by rw [h1]; rfl) (by decide) (x_pick [0, 1, 2, 3] rfl (kt16 (Int32.toInt_inj.mp (by rw [h1]; decide))))
    · exact x_tableIn d_law_42 (off := 598) (tgt := 640) (by omega) (by omega) (by rw [h1]; rfl) (by decide) (x_pick [0, 1, 2, 3] rfl (kt17 (Int32.toInt_inj.mp (by rw [h1]; decide))))
theorem b_law_128 {x1 : Nat} {x2 : Value} {x3 : Int32} {j133 : Nat} {j138 : Nat} {j147 : Nat} {cd1 : Nat} {ckc1 : Nat} {cks1 : Nat} {ckc2 : Nat} {cks2 : Nat} {Q1 : Option Value → List xCl → Prop} {fr_0 : Value} {fr_1 : Value} {fr_2 : Value} {fr_3 : Value} {fr_4 : Int32} {fr_5 : Int32} {fr_6 : Int32} {fr_7 : Int32} (e133 : x3 + 1 = nI j133) (g133 : j133 < ρ.2.1) (hsl0 : ρ.2.1 ≤ 100000000) (e138 : x3 + 2 = nI j138) (g138 : j138 < ρ.2.1) (e147 : x3 + 3 = nI j147) (g147 : j147 < ρ.2.1) (hdp : cd1 + 1 ≤ d) (hkc : ckc1 + ckc2 ≤ kc) (hks : cks1 + cks2 ≤ ks) (hr : M[x1]? = some (cO 0 [fr_0, fr_1, fr_2, fr_3, .int fr_4, .int fr_5, .int fr_6, .int fr_7])) (kz : Xw l D ρ m_ContentStore_begin 0 [(0, .ref x1), (1, .int (ρ.2.2 j133)), (2, .long ((((ρ.2.2 j138).toInt64) <<< ((32 : Int32).toInt64 &&& 63)) ||| (((ρ.2.2 j147).toInt64) &&& 4294967295)))] [] M cd1 ckc1 cks1 Q1) (kk : ∀ r N, Q1 r N → Xw l D ρ m_law 157 [(0, .retAddr 0), (1, .ref x1), (2, x2), (3, .int x3)] (r.toList ++ []) N d ckc2 cks2 Q) : Xw l D ρ m_law 128 [(0, .retAddr 0), (1, .ref x1), (2, x2), (3, .int x3)] [] M d kc ks Q := by
  refine x_aload_n d_law_128 rfl 1 rfl trivial ?_
  refine x_aload_n d_law_129 rfl 0 rfl trivial ?_
  refine x_iload_n d_law_130 rfl 3 rfl ?_
  refine x_iconst (v := 1) d_law_131 (by decide) ?_
  refine x_iadd d_law_132 ?_
  refine x_ialdS d_law_133 e133 g133 hsl0 ?_
  refine x_aload_n d_law_134 rfl 0 rfl trivial ?_
  refine x_iload_n d_law_135 rfl 3 rfl ?_
  refine x_iconst (v := 2) d_law_136 (by decide) ?_
  refine x_iadd d_law_137 ?_
  refine x_ialdS d_law_138 e138 g138 hsl0 ?_
  refine x_i2l d_law_139 ?_
  refine x_bipush (v := 32) d_law_140 (by decide) ?_
  refine x_lshl d_law_142 ?_
  refine x_aload_n d_law_143 rfl 0 rfl trivial ?_
  refine x_iload_n d_law_144 rfl 3 rfl ?_
  refine x_iconst (v := 3) d_law_145 (by decide) ?_
  refine x_iadd d_law_146 ?_
  refine x_ialdS d_law_147 e147 g147 hsl0 ?_
  refine x_i2l d_law_148 ?_
  refine x_ldc2 (v := 4294967295) kc_ContentStoreLaw_21 d_law_149 ?_
  refine x_land d_law_152 ?_
  refine x_lor d_law_153 ?_
  exact x_pick [0, 1, 2, 3] rfl (x_callV (As := [.int (ρ.2.2 j133), .long ((((ρ.2.2 j138).toInt64) <<< ((32 : Int32).toInt64 &&& 63)) ||| (((ρ.2.2 j147).toInt64) &&& 4294967295))]) (st := []) (host := "") d_law_154 rfl mk_ContentStore_begin mi_ContentStore_begin mv_ContentStore_begin (Or.inl kl_ContentStoreLaw_23) rfl (Nat.le_of_ble_eq_true rfl) (Nat.le_of_ble_eq_true rfl) ck_ContentStore hr hdp hkc hks rfl kz kk)
theorem b_law_157 {x1 : Value} {x2 : Nat} {x3 : Int32} {s0 : Int32} {j162 : Nat} {j167 : Nat} {j176 : Nat} {cd1 : Nat} {ckc1 : Nat} {cks1 : Nat} {ckc2 : Nat} {cks2 : Nat} {Q1 : Option Value → List xCl → Prop} {fr_0 : Int32} {fr_1 : Int32} {fr_2 : Int32} {fr_3 : Value} {fr_4 : Value} {fr_5 : Value} {fr_6 : Value} {fr_7 : Value} {fr_8 : Int32} {fr_9 : Value} {fr_10 : Value} {fr_11 : Value} {fr_12 : Int32} {fr_13 : Value} {fr_14 : Value} {fr_15 : Value} {fr_16 : Value} {fr_17 : Value} {fr_18 : Value} {fr_19 : Value} {fr_20 : Value} {fr_21 : Value} {fr_22 : Int32} {fr_23 : Value} (e162 : x3 + 1 = nI j162) (g162 : j162 < ρ.2.1) (hsl0 : ρ.2.1 ≤ 100000000) (e167 : x3 + 2 = nI j167) (g167 : j167 < ρ.2.1) (e176 : x3 + 3 = nI j176) (g176 : j176 < ρ.2.1) (hdp : cd1 + 1 ≤ d) (hkc : ckc1 + ckc2 ≤ kc) (hks : cks1 + cks2 ≤ ks) (hr : M[x2]? = some (cO 6 [.int fr_0, .int fr_1, .int fr_2, fr_3, fr_4, fr_5, fr_6, fr_7, .int fr_8, fr_9, fr_10, fr_11, .int fr_12, fr_13, fr_14, fr_15, fr_16, fr_17, fr_18, fr_19, fr_20, fr_21, .int fr_22, fr_23])) (kz : Xw l D ρ m_ContentStoreModel_begin 0 [(0, .ref x2), (1, .int (ρ.2.2 j162)), (2, .long ((((ρ.2.2 j167).toInt64) <<< ((32 : Int32).toInt64 &&& 63)) ||| (((ρ.2.2 j176).toInt64) &&& 4294967295)))] [] M cd1 ckc1 cks1 Q1) (kk : ∀ r N, Q1 r N → Xw l D ρ m_law 186 [(0, .retAddr 0), (1, x1), (2, .ref x2), (3, .int x3)] (r.toList ++ [.int s0]) N d ckc2 cks2 Q) : Xw l D ρ m_law 157 [(0, .retAddr 0), (1, x1), (2, .ref x2), (3, .int x3)] [.int s0] M d kc ks Q := by
  refine x_aload_n d_law_157 rfl 2 rfl trivial ?_
  refine x_aload_n d_law_158 rfl 0 rfl trivial ?_
  refine x_iload_n d_law_159 rfl 3 rfl ?_
  refine x_iconst (v := 1) d_law_160 (by decide) ?_
  refine x_iadd d_law_161 ?_
  refine x_ialdS d_law_162 e162 g162 hsl0 ?_
  refine x_aload_n d_law_163 rfl 0 rfl trivial ?_
  refine x_iload_n d_law_164 rfl 3 rfl ?_
  refine x_iconst (v := 2) d_law_165 (by decide) ?_
  refine x_iadd d_law_166 ?_
  refine x_ialdS d_law_167 e167 g167 hsl0 ?_
  refine x_i2l d_law_168 ?_
  refine x_bipush (v := 32) d_law_169 (by decide) ?_
  refine x_lshl d_law_171 ?_
  refine x_aload_n d_law_172 rfl 0 rfl trivial ?_
  refine x_iload_n d_law_173 rfl 3 rfl ?_
  refine x_iconst (v := 3) d_law_174 (by decide) ?_
  refine x_iadd d_law_175 ?_
  refine x_ialdS d_law_176 e176 g176 hsl0 ?_
  refine x_i2l d_law_177 ?_
  refine x_ldc2 (v := 4294967295) kc_ContentStoreLaw_21 d_law_178 ?_
  refine x_land d_law_181 ?_
  refine x_lor d_law_182 ?_
  exact x_pick [0, 1, 2, 3] rfl (x_callV (As := [.int (ρ.2.2 j162), .long ((((ρ.2.2 j167).toInt64) <<< ((32 : Int32).toInt64 &&& 63)) ||| (((ρ.2.2 j176).toInt64) &&& 4294967295))]) (st := [.int s0]) (host := "") d_law_183 rfl mk_ContentStoreModel_begin mi_ContentStoreModel_begin mv_ContentStoreModel_begin (Or.inl kl_ContentStoreLaw_27) rfl (Nat.le_of_ble_eq_true rfl) (Nat.le_of_ble_eq_true rfl) ck_ContentStoreModel hr hdp hkc hks rfl kz kk)
theorem b_law_186 {x1 : Value} {x2 : Value} {x3 : Int32} {s0 : Int32} {s1 : Int32}  (kt : s1 = s0 → Xw l D ρ m_law 663 [(0, .retAddr 0), (1, x1), (2, x2), (3, .int x3)] [] M d kc ks Q) (kf : ¬ s1 = s0 → Xw l D ρ m_law 189 [] [] M d kc ks Q) : Xw l D ρ m_law 186 [(0, .retAddr 0), (1, x1), (2, x2), (3, .int x3)] [.int s0, .int s1] M d kc ks Q := by
  exact x_icmp_eq d_law_186 (tgt := 663) (by decide) (fun c => x_pick [0, 1, 2, 3] rfl (kt c)) (fun c => x_pick [] rfl (kf c))
theorem b_law_189  (hQ : Q (some (.int 0)) M)  : Xw l D ρ m_law 189 [] [] M d kc ks Q := by
  refine x_iconst (v := 0) d_law_189 (by decide) ?_
  exact x_iret d_law_190 rfl rfl hQ
theorem b_law_191 {x1 : Nat} {x2 : Value} {x3 : Int32} {j196 : Nat} {j201 : Nat} {j210 : Nat} {j221 : Nat} {cd1 : Nat} {ckc1 : Nat} {cks1 : Nat} {ckc2 : Nat} {cks2 : Nat} {Q1 : Option Value → List xCl → Prop} {fr_0 : Value} {fr_1 : Value} {fr_2 : Value} {fr_3 : Value} {fr_4 : Int32} {fr_5 : Int32} {fr_6 : Int32} {fr_7 : Int32} (e196 : x3 + 1 = nI j196) (g196 : j196 < ρ.2.1) (hsl0 : ρ.2.1 ≤ 100000000) (e201 : x3 + 2 = nI j201) (g201 : j201 < ρ.2.1) (e210 : x3 + 3 = nI j210) (g210 : j210 < ρ.2.1) (e221 : x3 + 4 = nI j221) (g221 : j221 < ρ.2.1) (hdp : cd1 + 1 ≤ d) (hkc : ckc1 + ckc2 ≤ kc) (hks : cks1 + cks2 ≤ ks) (hr : M[x1]? = some (cO 0 [fr_0, fr_1, fr_2, fr_3, .int fr_4, .int fr_5, .int fr_6, .int fr_7])) (kz : Xw l D ρ m_ContentStore_add 0 [(0, .ref x1), (1, .int (ρ.2.2 j196)), (2, .long ((((ρ.2.2 j201).toInt64) <<< ((32 : Int32).toInt64 &&& 63)) ||| (((ρ.2.2 j210).toInt64) &&& 4294967295))), (4, .int (ρ.2.2 j221))] [] M cd1 ckc1 cks1 Q1) (kk : ∀ r N, Q1 r N → Xw l D ρ m_law 225 [(0, .retAddr 0), (1, .ref x1), (2, x2), (3, .int x3)] (r.toList ++ []) N d ckc2 cks2 Q) : Xw l D ρ m_law 191 [(0, .retAddr 0), (1, .ref x1), (2, x2), (3, .int x3)] [] M d kc ks Q := by
  refine x_aload_n d_law_191 rfl 1 rfl trivial ?_
  refine x_aload_n d_law_192 rfl 0 rfl trivial ?_
  refine x_iload_n d_law_193 rfl 3 rfl ?_
  refine x_iconst (v := 1) d_law_194 (by decide) ?_
  refine x_iadd d_law_195 ?_
  refine x_ialdS d_law_196 e196 g196 hsl0 ?_
  refine x_aload_n d_law_197 rfl 0 rfl trivial ?_
  refine x_iload_n d_law_198 rfl 3 rfl ?_
  refine x_iconst (v := 2) d_law_199 (by decide) ?_
  refine x_iadd d_law_200 ?_
  refine x_ialdS d_law_201 e201 g201 hsl0 ?_
  refine x_i2l d_law_202 ?_
  refine x_bipush (v := 32) d_law_203 (by decide) ?_
  refine x_lshl d_law_205 ?_
  refine x_aload_n d_law_206 rfl 0 rfl trivial ?_
  refine x_iload_n d_law_207 rfl 3 rfl ?_
  refine x_iconst (v := 3) d_law_208 (by decide) ?_
  refine x_iadd d_law_209 ?_
  refine x_ialdS d_law_210 e210 g210 hsl0 ?_
  refine x_i2l d_law_211 ?_
  refine x_ldc2 (v := 4294967295) kc_ContentStoreLaw_21 d_law_212 ?_
  refine x_land d_law_215 ?_
  refine x_lor d_law_216 ?_
  refine x_aload_n d_law_217 rfl 0 rfl trivial ?_
  refine x_iload_n d_law_218 rfl 3 rfl ?_
  refine x_iconst (v := 4) d_law_219 (by decide) ?_
  refine x_iadd d_law_220 ?_
  refine x_ialdS d_law_221 e221 g221 hsl0 ?_
  exact x_pick [0, 1, 2, 3] rfl (x_callV (As := [.int (ρ.2.2 j196), .long ((((ρ.2.2 j201).toInt64) <<< ((32 : Int32).toInt64 &&& 63)) ||| (((ρ.2.2 j210).toInt64) &&& 4294967295)), .int (ρ.2.2 j221)]) (st := []) (host := "") d_law_222 rfl mk_ContentStore_add mi_ContentStore_add mv_ContentStore_add (Or.inl kl_ContentStoreLaw_28) rfl (Nat.le_of_ble_eq_true rfl) (Nat.le_of_ble_eq_true rfl) ck_ContentStore hr hdp hkc hks rfl kz kk)
theorem b_law_225 {x1 : Value} {x2 : Nat} {x3 : Int32} {s0 : Int32} {j230 : Nat} {j235 : Nat} {j244 : Nat} {j255 : Nat} {cd1 : Nat} {ckc1 : Nat} {cks1 : Nat} {ckc2 : Nat} {cks2 : Nat} {Q1 : Option Value → List xCl → Prop} {fr_0 : Int32} {fr_1 : Int32} {fr_2 : Int32} {fr_3 : Value} {fr_4 : Value} {fr_5 : Value} {fr_6 : Value} {fr_7 : Value} {fr_8 : Int32} {fr_9 : Value} {fr_10 : Value} {fr_11 : Value} {fr_12 : Int32} {fr_13 : Value} {fr_14 : Value} {fr_15 : Value} {fr_16 : Value} {fr_17 : Value} {fr_18 : Value} {fr_19 : Value} {fr_20 : Value} {fr_21 : Value} {fr_22 : Int32} {fr_23 : Value} (e230 : x3 + 1 = nI j230) (g230 : j230 < ρ.2.1) (hsl0 : ρ.2.1 ≤ 100000000) (e235 : x3 + 2 = nI j235) (g235 : j235 < ρ.2.1) (e244 : x3 + 3 = nI j244) (g244 : j244 < ρ.2.1) (e255 : x3 + 4 = nI j255) (g255 : j255 < ρ.2.1) (hdp : cd1 + 1 ≤ d) (hkc : ckc1 + ckc2 ≤ kc) (hks : cks1 + cks2 ≤ ks) (hr : M[x2]? = some (cO 6 [.int fr_0, .int fr_1, .int fr_2, fr_3, fr_4, fr_5, fr_6, fr_7, .int fr_8, fr_9, fr_10, fr_11, .int fr_12, fr_13, fr_14, fr_15, fr_16, fr_17, fr_18, fr_19, fr_20, fr_21, .int fr_22, fr_23])) (kz : Xw l D ρ m_ContentStoreModel_add 0 [(0, .ref x2), (1, .int (ρ.2.2 j230)), (2, .long ((((ρ.2.2 j235).toInt64) <<< ((32 : Int32).toInt64 &&& 63)) ||| (((ρ.2.2 j244).toInt64) &&& 4294967295))), (4, .int (ρ.2.2 j255))] [] M cd1 ckc1 cks1 Q1) (kk : ∀ r N, Q1 r N → Xw l D ρ m_law 259 [(0, .retAddr 0), (1, x1), (2, .ref x2), (3, .int x3)] (r.toList ++ [.int s0]) N d ckc2 cks2 Q) : Xw l D ρ m_law 225 [(0, .retAddr 0), (1, x1), (2, .ref x2), (3, .int x3)] [.int s0] M d kc ks Q := by
  refine x_aload_n d_law_225 rfl 2 rfl trivial ?_
  refine x_aload_n d_law_226 rfl 0 rfl trivial ?_
  refine x_iload_n d_law_227 rfl 3 rfl ?_
  refine x_iconst (v := 1) d_law_228 (by decide) ?_
  refine x_iadd d_law_229 ?_
  refine x_ialdS d_law_230 e230 g230 hsl0 ?_
  refine x_aload_n d_law_231 rfl 0 rfl trivial ?_
  refine x_iload_n d_law_232 rfl 3 rfl ?_
  refine x_iconst (v := 2) d_law_233 (by decide) ?_
  refine x_iadd d_law_234 ?_
  refine x_ialdS d_law_235 e235 g235 hsl0 ?_
  refine x_i2l d_law_236 ?_
  refine x_bipush (v := 32) d_law_237 (by decide) ?_
  refine x_lshl d_law_239 ?_
  refine x_aload_n d_law_240 rfl 0 rfl trivial ?_
  refine x_iload_n d_law_241 rfl 3 rfl ?_
  refine x_iconst (v := 3) d_law_242 (by decide) ?_
  refine x_iadd d_law_243 ?_
  refine x_ialdS d_law_244 e244 g244 hsl0 ?_
  refine x_i2l d_law_245 ?_
  refine x_ldc2 (v := 4294967295) kc_ContentStoreLaw_21 d_law_246 ?_
  refine x_land d_law_249 ?_
  refine x_lor d_law_250 ?_
  refine x_aload_n d_law_251 rfl 0 rfl trivial ?_
  refine x_iload_n d_law_252 rfl 3 rfl ?_
  refine x_iconst (v := 4) d_law_253 (by decide) ?_
  refine x_iadd d_law_254 ?_
  refine x_ialdS d_law_255 e255 g255 hsl0 ?_
  exact x_pick [0, 1, 2, 3] rfl (x_callV (As := [.int (ρ.2.2 j230), .long ((((ρ.2.2 j235).toInt64) <<< ((32 : Int32).toInt64 &&& 63)) ||| (((ρ.2.2 j244).toInt64) &&& 4294967295)), .int (ρ.2.2 j255)]) (st := [.int s0]) (host := "") d_law_256 rfl mk_ContentStoreModel_add mi_ContentStoreModel_add mv_ContentStoreModel_add (Or.inl kl_ContentStoreLaw_32) rfl (Nat.le_of_ble_eq_true rfl) (Nat.le_of_ble_eq_true rfl) ck_ContentStoreModel hr hdp hkc hks rfl kz kk)
theorem b_law_259 {x1 : Value} {x2 : Value} {x3 : Int32} {s0 : Int32} {s1 : Int32}  (kt : s1 = s0 → Xw l D ρ m_law 663 [(0, .retAddr 0), (1, x1), (2, x2), (3, .int x3)] [] M d kc ks Q) (kf : ¬ s1 = s0 → Xw l D ρ m_law 262 [] [] M d kc ks Q) : Xw l D ρ m_law 259 [(0, .retAddr 0), (1, x1), (2, x2), (3, .int x3)] [.int s0, .int s1] M d kc ks Q := by
  exact x_icmp_eq d_law_259 (tgt := 663) (by decide) (fun c => x_pick [0, 1, 2, 3] rfl (kt c)) (fun c => x_pick [] rfl (kf c))
theorem b_law_262  (hQ : Q (some (.int 0)) M)  : Xw l D ρ m_law 262 [] [] M d kc ks Q := by
  refine x_iconst (v := 0) d_law_262 (by decide) ?_
  exact x_iret d_law_263 rfl rfl hQ
theorem b_law_264 {x1 : Nat} {x2 : Value} {x3 : Int32} {j269 : Nat} {cd1 : Nat} {ckc1 : Nat} {cks1 : Nat} {ckc2 : Nat} {cks2 : Nat} {Q1 : Option Value → List xCl → Prop} {fr_0 : Value} {fr_1 : Value} {fr_2 : Value} {fr_3 : Value} {fr_4 : Int32} {fr_5 : Int32} {fr_6 : Int32} {fr_7 : Int32} (e269 : x3 + 1 = nI j269) (g269 : j269 < ρ.2.1) (hsl0 : ρ.2.1 ≤ 100000000) (hdp : cd1 + 1 ≤ d) (hkc : ckc1 + ckc2 ≤ kc) (hks : cks1 + cks2 ≤ ks) (hr : M[x1]? = some (cO 0 [fr_0, fr_1, fr_2, fr_3, .int fr_4, .int fr_5, .int fr_6, .int fr_7])) (kz : Xw l D ρ m_ContentStore_end 0 [(0, .ref x1), (1, .int (ρ.2.2 j269))] [] M cd1 ckc1 cks1 Q1) (kk : ∀ r N, Q1 r N → Xw l D ρ m_law 273 [(0, .retAddr 0), (1, .ref x1), (2, x2), (3, .int x3)] (r.toList ++ []) N d ckc2 cks2 Q) : Xw l D ρ m_law 264 [(0, .retAddr 0), (1, .ref x1), (2, x2), (3, .int x3)] [] M d kc ks Q := by
  refine x_aload_n d_law_264 rfl 1 rfl trivial ?_
  refine x_aload_n d_law_265 rfl 0 rfl trivial ?_
  refine x_iload_n d_law_266 rfl 3 rfl ?_
  refine x_iconst (v := 1) d_law_267 (by decide) ?_
  refine x_iadd d_law_268 ?_
  refine x_ialdS d_law_269 e269 g269 hsl0 ?_
  exact x_pick [0, 1, 2, 3] rfl (x_callV (As := [.int (ρ.2.2 j269)]) (st := []) (host := "") d_law_270 rfl mk_ContentStore_end mi_ContentStore_end mv_ContentStore_end (Or.inl kl_ContentStoreLaw_33) rfl (Nat.le_of_ble_eq_true rfl) (Nat.le_of_ble_eq_true rfl) ck_ContentStore hr hdp hkc hks rfl kz kk)
theorem b_law_273 {x1 : Value} {x2 : Nat} {x3 : Int32} {s0 : Int32} {j278 : Nat} {cd1 : Nat} {ckc1 : Nat} {cks1 : Nat} {ckc2 : Nat} {cks2 : Nat} {Q1 : Option Value → List xCl → Prop} {fr_0 : Int32} {fr_1 : Int32} {fr_2 : Int32} {fr_3 : Value} {fr_4 : Value} {fr_5 : Value} {fr_6 : Value} {fr_7 : Value} {fr_8 : Int32} {fr_9 : Value} {fr_10 : Value} {fr_11 : Value} {fr_12 : Int32} {fr_13 : Value} {fr_14 : Value} {fr_15 : Value} {fr_16 : Value} {fr_17 : Value} {fr_18 : Value} {fr_19 : Value} {fr_20 : Value} {fr_21 : Value} {fr_22 : Int32} {fr_23 : Value} (e278 : x3 + 1 = nI j278) (g278 : j278 < ρ.2.1) (hsl0 : ρ.2.1 ≤ 100000000) (hdp : cd1 + 1 ≤ d) (hkc : ckc1 + ckc2 ≤ kc) (hks : cks1 + cks2 ≤ ks) (hr : M[x2]? = some (cO 6 [.int fr_0, .int fr_1, .int fr_2, fr_3, fr_4, fr_5, fr_6, fr_7, .int fr_8, fr_9, fr_10, fr_11, .int fr_12, fr_13, fr_14, fr_15, fr_16, fr_17, fr_18, fr_19, fr_20, fr_21, .int fr_22, fr_23])) (kz : Xw l D ρ m_ContentStoreModel_end 0 [(0, .ref x2), (1, .int (ρ.2.2 j278))] [] M cd1 ckc1 cks1 Q1) (kk : ∀ r N, Q1 r N → Xw l D ρ m_law 282 [(0, .retAddr 0), (1, x1), (2, .ref x2), (3, .int x3)] (r.toList ++ [.int s0]) N d ckc2 cks2 Q) : Xw l D ρ m_law 273 [(0, .retAddr 0), (1, x1), (2, .ref x2), (3, .int x3)] [.int s0] M d kc ks Q := by
  refine x_aload_n d_law_273 rfl 2 rfl trivial ?_
  refine x_aload_n d_law_274 rfl 0 rfl trivial ?_
  refine x_iload_n d_law_275 rfl 3 rfl ?_
  refine x_iconst (v := 1) d_law_276 (by decide) ?_
  refine x_iadd d_law_277 ?_
  refine x_ialdS d_law_278 e278 g278 hsl0 ?_
  exact x_pick [0, 1, 2, 3] rfl (x_callV (As := [.int (ρ.2.2 j278)]) (st := [.int s0]) (host := "") d_law_279 rfl mk_ContentStoreModel_end mi_ContentStoreModel_end mv_ContentStoreModel_end (Or.inl kl_ContentStoreLaw_37) rfl (Nat.le_of_ble_eq_true rfl) (Nat.le_of_ble_eq_true rfl) ck_ContentStoreModel hr hdp hkc hks rfl kz kk)
theorem b_law_282 {x1 : Value} {x2 : Value} {x3 : Int32} {s0 : Int32} {s1 : Int32}  (kt : s1 = s0 → Xw l D ρ m_law 663 [(0, .retAddr 0), (1, x1), (2, x2), (3, .int x3)] [] M d kc ks Q) (kf : ¬ s1 = s0 → Xw l D ρ m_law 285 [] [] M d kc ks Q) : Xw l D ρ m_law 282 [(0, .retAddr 0), (1, x1), (2, x2), (3, .int x3)] [.int s0, .int s1] M d kc ks Q := by
  exact x_icmp_eq d_law_282 (tgt := 663) (by decide) (fun c => x_pick [0, 1, 2, 3] rfl (kt c)) (fun c => x_pick [] rfl (kf c))
theorem b_law_285  (hQ : Q (some (.int 0)) M)  : Xw l D ρ m_law 285 [] [] M d kc ks Q := by
  refine x_iconst (v := 0) d_law_285 (by decide) ?_
  exact x_iret d_law_286 rfl rfl hQ
theorem b_law_287 {x1 : Nat} {x2 : Value} {x3 : Int32} {j292 : Nat} {cd1 : Nat} {ckc1 : Nat} {cks1 : Nat} {ckc2 : Nat} {cks2 : Nat} {Q1 : Option Value → List xCl → Prop} {fr_0 : Value} {fr_1 : Value} {fr_2 : Value} {fr_3 : Value} {fr_4 : Int32} {fr_5 : Int32} {fr_6 : Int32} {fr_7 : Int32} (e292 : x3 + 1 = nI j292) (g292 : j292 < ρ.2.1) (hsl0 : ρ.2.1 ≤ 100000000) (hdp : cd1 + 1 ≤ d) (hkc : ckc1 + ckc2 ≤ kc) (hks : cks1 + cks2 ≤ ks) (hr : M[x1]? = some (cO 0 [fr_0, fr_1, fr_2, fr_3, .int fr_4, .int fr_5, .int fr_6, .int fr_7])) (kz : Xw l D ρ m_ContentStore_there 0 [(0, .ref x1), (1, .int (ρ.2.2 j292))] [] M cd1 ckc1 cks1 Q1) (kk : ∀ r N, Q1 r N → Xw l D ρ m_law 296 [(0, .retAddr 0), (1, .ref x1), (2, x2), (3, .int x3)] (r.toList ++ []) N d ckc2 cks2 Q) : Xw l D ρ m_law 287 [(0, .retAddr 0), (1, .ref x1), (2, x2), (3, .int x3)] [] M d kc ks Q := by
  refine x_aload_n d_law_287 rfl 1 rfl trivial ?_
  refine x_aload_n d_law_288 rfl 0 rfl trivial ?_
  refine x_iload_n d_law_289 rfl 3 rfl ?_
  refine x_iconst (v := 1) d_law_290 (by decide) ?_
  refine x_iadd d_law_291 ?_
  refine x_ialdS d_law_292 e292 g292 hsl0 ?_
  exact x_pick [0, 1, 2, 3] rfl (x_callV (As := [.int (ρ.2.2 j292)]) (st := []) (host := "") d_law_293 rfl mk_ContentStore_there mi_ContentStore_there mv_ContentStore_there (Or.inl kl_ContentStoreLaw_38) rfl (Nat.le_of_ble_eq_true rfl) (Nat.le_of_ble_eq_true rfl) ck_ContentStore hr hdp hkc hks rfl kz kk)
theorem b_law_296 {x1 : Value} {x2 : Nat} {x3 : Int32} {s0 : Int32} {j301 : Nat} {cd1 : Nat} {ckc1 : Nat} {cks1 : Nat} {ckc2 : Nat} {cks2 : Nat} {Q1 : Option Value → List xCl → Prop} {fr_0 : Int32} {fr_1 : Int32} {fr_2 : Int32} {fr_3 : Value} {fr_4 : Value} {fr_5 : Value} {fr_6 : Value} {fr_7 : Value} {fr_8 : Int32} {fr_9 : Value} {fr_10 : Value} {fr_11 : Value} {fr_12 : Int32} {fr_13 : Value} {fr_14 : Value} {fr_15 : Value} {fr_16 : Value} {fr_17 : Value} {fr_18 : Value} {fr_19 : Value} {fr_20 : Value} {fr_21 : Value} {fr_22 : Int32} {fr_23 : Value} (e301 : x3 + 1 = nI j301) (g301 : j301 < ρ.2.1) (hsl0 : ρ.2.1 ≤ 100000000) (hdp : cd1 + 1 ≤ d) (hkc : ckc1 + ckc2 ≤ kc) (hks : cks1 + cks2 ≤ ks) (hr : M[x2]? = some (cO 6 [.int fr_0, .int fr_1, .int fr_2, fr_3, fr_4, fr_5, fr_6, fr_7, .int fr_8, fr_9, fr_10, fr_11, .int fr_12, fr_13, fr_14, fr_15, fr_16, fr_17, fr_18, fr_19, fr_20, fr_21, .int fr_22, fr_23])) (kz : Xw l D ρ m_ContentStoreModel_there 0 [(0, .ref x2), (1, .int (ρ.2.2 j301))] [] M cd1 ckc1 cks1 Q1) (kk : ∀ r N, Q1 r N → Xw l D ρ m_law 305 [(0, .retAddr 0), (1, x1), (2, .ref x2), (3, .int x3)] (r.toList ++ [.int s0]) N d ckc2 cks2 Q) : Xw l D ρ m_law 296 [(0, .retAddr 0), (1, x1), (2, .ref x2), (3, .int x3)] [.int s0] M d kc ks Q := by
  refine x_aload_n d_law_296 rfl 2 rfl trivial ?_
  refine x_aload_n d_law_297 rfl 0 rfl trivial ?_
  refine x_iload_n d_law_298 rfl 3 rfl ?_
  refine x_iconst (v := 1) d_law_299 (by decide) ?_
  refine x_iadd d_law_300 ?_
  refine x_ialdS d_law_301 e301 g301 hsl0 ?_
  exact x_pick [0, 1, 2, 3] rfl (x_callV (As := [.int (ρ.2.2 j301)]) (st := [.int s0]) (host := "") d_law_302 rfl mk_ContentStoreModel_there mi_ContentStoreModel_there mv_ContentStoreModel_there (Or.inl kl_ContentStoreLaw_42) rfl (Nat.le_of_ble_eq_true rfl) (Nat.le_of_ble_eq_true rfl) ck_ContentStoreModel hr hdp hkc hks rfl kz kk)
theorem b_law_305 {x1 : Value} {x2 : Value} {x3 : Int32} {s0 : Int32} {s1 : Int32}  (kt : s1 = s0 → Xw l D ρ m_law 663 [(0, .retAddr 0), (1, x1), (2, x2), (3, .int x3)] [] M d kc ks Q) (kf : ¬ s1 = s0 → Xw l D ρ m_law 308 [] [] M d kc ks Q) : Xw l D ρ m_law 305 [(0, .retAddr 0), (1, x1), (2, x2), (3, .int x3)] [.int s0, .int s1] M d kc ks Q := by
  exact x_icmp_eq d_law_305 (tgt := 663) (by decide) (fun c => x_pick [0, 1, 2, 3] rfl (kt c)) (fun c => x_pick [] rfl (kf c))
theorem b_law_308  (hQ : Q (some (.int 0)) M)  : Xw l D ρ m_law 308 [] [] M d kc ks Q := by
  refine x_iconst (v := 0) d_law_308 (by decide) ?_
  exact x_iret d_law_309 rfl rfl hQ
theorem b_law_310 {x1 : Nat} {x2 : Value} {x3 : Int32} {j315 : Nat} {cd1 : Nat} {ckc1 : Nat} {cks1 : Nat} {ckc2 : Nat} {cks2 : Nat} {Q1 : Option Value → List xCl → Prop} {fr_0 : Value} {fr_1 : Value} {fr_2 : Value} {fr_3 : Value} {fr_4 : Int32} {fr_5 : Int32} {fr_6 : Int32} {fr_7 : Int32} (e315 : x3 + 1 = nI j315) (g315 : j315 < ρ.2.1) (hsl0 : ρ.2.1 ≤ 100000000) (hdp : cd1 + 1 ≤ d) (hkc : ckc1 + ckc2 ≤ kc) (hks : cks1 + cks2 ≤ ks) (hr : M[x1]? = some (cO 0 [fr_0, fr_1, fr_2, fr_3, .int fr_4, .int fr_5, .int fr_6, .int fr_7])) (kz : Xw l D ρ m_ContentStore_digest 0 [(0, .ref x1), (1, .int (ρ.2.2 j315))] [] M cd1 ckc1 cks1 Q1) (kk : ∀ r N, Q1 r N → Xw l D ρ m_law 319 [(0, .retAddr 0), (1, .ref x1), (2, x2), (3, .int x3)] (r.toList ++ []) N d ckc2 cks2 Q) : Xw l D ρ m_law 310 [(0, .retAddr 0), (1, .ref x1), (2, x2), (3, .int x3)] [] M d kc ks Q := by
  refine x_aload_n d_law_310 rfl 1 rfl trivial ?_
  refine x_aload_n d_law_311 rfl 0 rfl trivial ?_
  refine x_iload_n d_law_312 rfl 3 rfl ?_
  refine x_iconst (v := 1) d_law_313 (by decide) ?_
  refine x_iadd d_law_314 ?_
  refine x_ialdS d_law_315 e315 g315 hsl0 ?_
  exact x_pick [0, 1, 2, 3] rfl (x_callV (As := [.int (ρ.2.2 j315)]) (st := []) (host := "") d_law_316 rfl mk_ContentStore_digest mi_ContentStore_digest mv_ContentStore_digest (Or.inl kl_ContentStoreLaw_43) rfl (Nat.le_of_ble_eq_true rfl) (Nat.le_of_ble_eq_true rfl) ck_ContentStore hr hdp hkc hks rfl kz kk)
theorem b_law_319 {x1 : Value} {x2 : Nat} {x3 : Int32} {s0 : Int64} {j324 : Nat} {cd1 : Nat} {ckc1 : Nat} {cks1 : Nat} {ckc2 : Nat} {cks2 : Nat} {Q1 : Option Value → List xCl → Prop} {fr_0 : Int32} {fr_1 : Int32} {fr_2 : Int32} {fr_3 : Value} {fr_4 : Value} {fr_5 : Value} {fr_6 : Value} {fr_7 : Value} {fr_8 : Int32} {fr_9 : Value} {fr_10 : Value} {fr_11 : Value} {fr_12 : Int32} {fr_13 : Value} {fr_14 : Value} {fr_15 : Value} {fr_16 : Value} {fr_17 : Value} {fr_18 : Value} {fr_19 : Value} {fr_20 : Value} {fr_21 : Value} {fr_22 : Int32} {fr_23 : Value} (e324 : x3 + 1 = nI j324) (g324 : j324 < ρ.2.1) (hsl0 : ρ.2.1 ≤ 100000000) (hdp : cd1 + 1 ≤ d) (hkc : ckc1 + ckc2 ≤ kc) (hks : cks1 + cks2 ≤ ks) (hr : M[x2]? = some (cO 6 [.int fr_0, .int fr_1, .int fr_2, fr_3, fr_4, fr_5, fr_6, fr_7, .int fr_8, fr_9, fr_10, fr_11, .int fr_12, fr_13, fr_14, fr_15, fr_16, fr_17, fr_18, fr_19, fr_20, fr_21, .int fr_22, fr_23])) (kz : Xw l D ρ m_ContentStoreModel_digest 0 [(0, .ref x2), (1, .int (ρ.2.2 j324))] [] M cd1 ckc1 cks1 Q1) (kk : ∀ r N, Q1 r N → Xw l D ρ m_law 328 [(0, .retAddr 0), (1, x1), (2, .ref x2), (3, .int x3)] (r.toList ++ [.long s0]) N d ckc2 cks2 Q) : Xw l D ρ m_law 319 [(0, .retAddr 0), (1, x1), (2, .ref x2), (3, .int x3)] [.long s0] M d kc ks Q := by
  refine x_aload_n d_law_319 rfl 2 rfl trivial ?_
  refine x_aload_n d_law_320 rfl 0 rfl trivial ?_
  refine x_iload_n d_law_321 rfl 3 rfl ?_
  refine x_iconst (v := 1) d_law_322 (by decide) ?_
  refine x_iadd d_law_323 ?_
  refine x_ialdS d_law_324 e324 g324 hsl0 ?_
  exact x_pick [0, 1, 2, 3] rfl (x_callV (As := [.int (ρ.2.2 j324)]) (st := [.long s0]) (host := "") d_law_325 rfl mk_ContentStoreModel_digest mi_ContentStoreModel_digest mv_ContentStoreModel_digest (Or.inl kl_ContentStoreLaw_47) rfl (Nat.le_of_ble_eq_true rfl) (Nat.le_of_ble_eq_true rfl) ck_ContentStoreModel hr hdp hkc hks rfl kz kk)
theorem b_law_328 {x1 : Value} {x2 : Value} {x3 : Int32} {s0 : Int64} {s1 : Int64}  (kt : (lg_cmp s1 s0) = 0 → Xw l D ρ m_law 663 [(0, .retAddr 0), (1, x1), (2, x2), (3, .int x3)] [] M d kc ks Q) (kf : ¬ (lg_cmp s1 s0) = 0 → Xw l D ρ m_law 332 [] [] M d kc ks Q) : Xw l D ρ m_law 328 [(0, .retAddr 0), (1, x1), (2, x2), (3, .int x3)] [.long s0, .long s1] M d kc ks Q := by
  refine x_lcmp d_law_328 ?_
  exact x_if_eq d_law_329 (tgt := 663) (by decide) (fun c => x_pick [0, 1, 2, 3] rfl (kt c)) (fun c => x_pick [] rfl (kf c))
theorem b_law_332  (hQ : Q (some (.int 0)) M)  : Xw l D ρ m_law 332 [] [] M d kc ks Q := by
  refine x_iconst (v := 0) d_law_332 (by decide) ?_
  exact x_iret d_law_333 rfl rfl hQ
theorem b_law_334 {x1 : Nat} {x2 : Value} {x3 : Int32} {j339 : Nat} {cd1 : Nat} {ckc1 : Nat} {cks1 : Nat} {ckc2 : Nat} {cks2 : Nat} {Q1 : Option Value → List xCl → Prop} {fr_0 : Value} {fr_1 : Value} {fr_2 : Value} {fr_3 : Value} {fr_4 : Int32} {fr_5 : Int32} {fr_6 : Int32} {fr_7 : Int32} (e339 : x3 + 1 = nI j339) (g339 : j339 < ρ.2.1) (hsl0 : ρ.2.1 ≤ 100000000) (hdp : cd1 + 1 ≤ d) (hkc : ckc1 + ckc2 ≤ kc) (hks : cks1 + cks2 ≤ ks) (hr : M[x1]? = some (cO 0 [fr_0, fr_1, fr_2, fr_3, .int fr_4, .int fr_5, .int fr_6, .int fr_7])) (kz : Xw l D ρ m_ContentStore_size 0 [(0, .ref x1), (1, .int (ρ.2.2 j339))] [] M cd1 ckc1 cks1 Q1) (kk : ∀ r N, Q1 r N → Xw l D ρ m_law 343 [(0, .retAddr 0), (1, .ref x1), (2, x2), (3, .int x3)] (r.toList ++ []) N d ckc2 cks2 Q) : Xw l D ρ m_law 334 [(0, .retAddr 0), (1, .ref x1), (2, x2), (3, .int x3)] [] M d kc ks Q := by
  refine x_aload_n d_law_334 rfl 1 rfl trivial ?_
  refine x_aload_n d_law_335 rfl 0 rfl trivial ?_
  refine x_iload_n d_law_336 rfl 3 rfl ?_
  refine x_iconst (v := 1) d_law_337 (by decide) ?_
  refine x_iadd d_law_338 ?_
  refine x_ialdS d_law_339 e339 g339 hsl0 ?_
  exact x_pick [0, 1, 2, 3] rfl (x_callV (As := [.int (ρ.2.2 j339)]) (st := []) (host := "") d_law_340 rfl mk_ContentStore_size mi_ContentStore_size mv_ContentStore_size (Or.inl kl_ContentStoreLaw_48) rfl (Nat.le_of_ble_eq_true rfl) (Nat.le_of_ble_eq_true rfl) ck_ContentStore hr hdp hkc hks rfl kz kk)
theorem b_law_343 {x1 : Value} {x2 : Nat} {x3 : Int32} {s0 : Int32} {j348 : Nat} {cd1 : Nat} {ckc1 : Nat} {cks1 : Nat} {ckc2 : Nat} {cks2 : Nat} {Q1 : Option Value → List xCl → Prop} {fr_0 : Int32} {fr_1 : Int32} {fr_2 : Int32} {fr_3 : Value} {fr_4 : Value} {fr_5 : Value} {fr_6 : Value} {fr_7 : Value} {fr_8 : Int32} {fr_9 : Value} {fr_10 : Value} {fr_11 : Value} {fr_12 : Int32} {fr_13 : Value} {fr_14 : Value} {fr_15 : Value} {fr_16 : Value} {fr_17 : Value} {fr_18 : Value} {fr_19 : Value} {fr_20 : Value} {fr_21 : Value} {fr_22 : Int32} {fr_23 : Value} (e348 : x3 + 1 = nI j348) (g348 : j348 < ρ.2.1) (hsl0 : ρ.2.1 ≤ 100000000) (hdp : cd1 + 1 ≤ d) (hkc : ckc1 + ckc2 ≤ kc) (hks : cks1 + cks2 ≤ ks) (hr : M[x2]? = some (cO 6 [.int fr_0, .int fr_1, .int fr_2, fr_3, fr_4, fr_5, fr_6, fr_7, .int fr_8, fr_9, fr_10, fr_11, .int fr_12, fr_13, fr_14, fr_15, fr_16, fr_17, fr_18, fr_19, fr_20, fr_21, .int fr_22, fr_23])) (kz : Xw l D ρ m_ContentStoreModel_size 0 [(0, .ref x2), (1, .int (ρ.2.2 j348))] [] M cd1 ckc1 cks1 Q1) (kk : ∀ r N, Q1 r N → Xw l D ρ m_law 352 [(0, .retAddr 0), (1, x1), (2, .ref x2), (3, .int x3)] (r.toList ++ [.int s0]) N d ckc2 cks2 Q) : Xw l D ρ m_law 343 [(0, .retAddr 0), (1, x1), (2, .ref x2), (3, .int x3)] [.int s0] M d kc ks Q := by
  refine x_aload_n d_law_343 rfl 2 rfl trivial ?_
  refine x_aload_n d_law_344 rfl 0 rfl trivial ?_
  refine x_iload_n d_law_345 rfl 3 rfl ?_
  refine x_iconst (v := 1) d_law_346 (by decide) ?_
  refine x_iadd d_law_347 ?_
  refine x_ialdS d_law_348 e348 g348 hsl0 ?_
  exact x_pick [0, 1, 2, 3] rfl (x_callV (As := [.int (ρ.2.2 j348)]) (st := [.int s0]) (host := "") d_law_349 rfl mk_ContentStoreModel_size mi_ContentStoreModel_size mv_ContentStoreModel_size (Or.inl kl_ContentStoreLaw_51) rfl (Nat.le_of_ble_eq_true rfl) (Nat.le_of_ble_eq_true rfl) ck_ContentStoreModel hr hdp hkc hks rfl kz kk)
theorem b_law_352 {x1 : Value} {x2 : Value} {x3 : Int32} {s0 : Int32} {s1 : Int32}  (kt : s1 = s0 → Xw l D ρ m_law 663 [(0, .retAddr 0), (1, x1), (2, x2), (3, .int x3)] [] M d kc ks Q) (kf : ¬ s1 = s0 → Xw l D ρ m_law 355 [] [] M d kc ks Q) : Xw l D ρ m_law 352 [(0, .retAddr 0), (1, x1), (2, x2), (3, .int x3)] [.int s0, .int s1] M d kc ks Q := by
  exact x_icmp_eq d_law_352 (tgt := 663) (by decide) (fun c => x_pick [0, 1, 2, 3] rfl (kt c)) (fun c => x_pick [] rfl (kf c))
theorem b_law_355  (hQ : Q (some (.int 0)) M)  : Xw l D ρ m_law 355 [] [] M d kc ks Q := by
  refine x_iconst (v := 0) d_law_355 (by decide) ?_
  exact x_iret d_law_356 rfl rfl hQ
theorem b_law_357 {x1 : Nat} {x2 : Value} {x3 : Int32} {j362 : Nat} {j367 : Nat} {cd1 : Nat} {ckc1 : Nat} {cks1 : Nat} {ckc2 : Nat} {cks2 : Nat} {Q1 : Option Value → List xCl → Prop} {fr_0 : Value} {fr_1 : Value} {fr_2 : Value} {fr_3 : Value} {fr_4 : Int32} {fr_5 : Int32} {fr_6 : Int32} {fr_7 : Int32} (e362 : x3 + 1 = nI j362) (g362 : j362 < ρ.2.1) (hsl0 : ρ.2.1 ≤ 100000000) (e367 : x3 + 2 = nI j367) (g367 : j367 < ρ.2.1) (hdp : cd1 + 1 ≤ d) (hkc : ckc1 + ckc2 ≤ kc) (hks : cks1 + cks2 ≤ ks) (hr : M[x1]? = some (cO 0 [fr_0, fr_1, fr_2, fr_3, .int fr_4, .int fr_5, .int fr_6, .int fr_7])) (kz : Xw l D ρ m_ContentStore_get 0 [(0, .ref x1), (1, .int (ρ.2.2 j362)), (2, .int (ρ.2.2 j367))] [] M cd1 ckc1 cks1 Q1) (kk : ∀ r N, Q1 r N → Xw l D ρ m_law 371 [(0, .retAddr 0), (1, .ref x1), (2, x2), (3, .int x3)] (r.toList ++ []) N d ckc2 cks2 Q) : Xw l D ρ m_law 357 [(0, .retAddr 0), (1, .ref x1), (2, x2), (3, .int x3)] [] M d kc ks Q := by
  refine x_aload_n d_law_357 rfl 1 rfl trivial ?_
  refine x_aload_n d_law_358 rfl 0 rfl trivial ?_
  refine x_iload_n d_law_359 rfl 3 rfl ?_
  refine x_iconst (v := 1) d_law_360 (by decide) ?_
  refine x_iadd d_law_361 ?_
  refine x_ialdS d_law_362 e362 g362 hsl0 ?_
  refine x_aload_n d_law_363 rfl 0 rfl trivial ?_
  refine x_iload_n d_law_364 rfl 3 rfl ?_
  refine x_iconst (v := 2) d_law_365 (by decide) ?_
  refine x_iadd d_law_366 ?_
  refine x_ialdS d_law_367 e367 g367 hsl0 ?_
  exact x_pick [0, 1, 2, 3] rfl (x_callV (As := [.int (ρ.2.2 j362), .int (ρ.2.2 j367)]) (st := []) (host := "") d_law_368 rfl mk_ContentStore_get mi_ContentStore_get mv_ContentStore_get (Or.inl kl_ContentStoreLaw_52) rfl (Nat.le_of_ble_eq_true rfl) (Nat.le_of_ble_eq_true rfl) ck_ContentStore hr hdp hkc hks rfl kz kk)
theorem b_law_371 {x1 : Value} {x2 : Nat} {x3 : Int32} {s0 : Int32} {j376 : Nat} {j381 : Nat} {cd1 : Nat} {ckc1 : Nat} {cks1 : Nat} {ckc2 : Nat} {cks2 : Nat} {Q1 : Option Value → List xCl → Prop} {fr_0 : Int32} {fr_1 : Int32} {fr_2 : Int32} {fr_3 : Value} {fr_4 : Value} {fr_5 : Value} {fr_6 : Value} {fr_7 : Value} {fr_8 : Int32} {fr_9 : Value} {fr_10 : Value} {fr_11 : Value} {fr_12 : Int32} {fr_13 : Value} {fr_14 : Value} {fr_15 : Value} {fr_16 : Value} {fr_17 : Value} {fr_18 : Value} {fr_19 : Value} {fr_20 : Value} {fr_21 : Value} {fr_22 : Int32} {fr_23 : Value} (e376 : x3 + 1 = nI j376) (g376 : j376 < ρ.2.1) (hsl0 : ρ.2.1 ≤ 100000000) (e381 : x3 + 2 = nI j381) (g381 : j381 < ρ.2.1) (hdp : cd1 + 1 ≤ d) (hkc : ckc1 + ckc2 ≤ kc) (hks : cks1 + cks2 ≤ ks) (hr : M[x2]? = some (cO 6 [.int fr_0, .int fr_1, .int fr_2, fr_3, fr_4, fr_5, fr_6, fr_7, .int fr_8, fr_9, fr_10, fr_11, .int fr_12, fr_13, fr_14, fr_15, fr_16, fr_17, fr_18, fr_19, fr_20, fr_21, .int fr_22, fr_23])) (kz : Xw l D ρ m_ContentStoreModel_get 0 [(0, .ref x2), (1, .int (ρ.2.2 j376)), (2, .int (ρ.2.2 j381))] [] M cd1 ckc1 cks1 Q1) (kk : ∀ r N, Q1 r N → Xw l D ρ m_law 385 [(0, .retAddr 0), (1, x1), (2, .ref x2), (3, .int x3)] (r.toList ++ [.int s0]) N d ckc2 cks2 Q) : Xw l D ρ m_law 371 [(0, .retAddr 0), (1, x1), (2, .ref x2), (3, .int x3)] [.int s0] M d kc ks Q := by
  refine x_aload_n d_law_371 rfl 2 rfl trivial ?_
  refine x_aload_n d_law_372 rfl 0 rfl trivial ?_
  refine x_iload_n d_law_373 rfl 3 rfl ?_
  refine x_iconst (v := 1) d_law_374 (by decide) ?_
  refine x_iadd d_law_375 ?_
  refine x_ialdS d_law_376 e376 g376 hsl0 ?_
  refine x_aload_n d_law_377 rfl 0 rfl trivial ?_
  refine x_iload_n d_law_378 rfl 3 rfl ?_
  refine x_iconst (v := 2) d_law_379 (by decide) ?_
  refine x_iadd d_law_380 ?_
  refine x_ialdS d_law_381 e381 g381 hsl0 ?_
  exact x_pick [0, 1, 2, 3] rfl (x_callV (As := [.int (ρ.2.2 j376), .int (ρ.2.2 j381)]) (st := [.int s0]) (host := "") d_law_382 rfl mk_ContentStoreModel_get mi_ContentStoreModel_get mv_ContentStoreModel_get (Or.inl kl_ContentStoreLaw_56) rfl (Nat.le_of_ble_eq_true rfl) (Nat.le_of_ble_eq_true rfl) ck_ContentStoreModel hr hdp hkc hks rfl kz kk)
theorem b_law_385 {x1 : Value} {x2 : Value} {x3 : Int32} {s0 : Int32} {s1 : Int32}  (kt : s1 = s0 → Xw l D ρ m_law 663 [(0, .retAddr 0), (1, x1), (2, x2), (3, .int x3)] [] M d kc ks Q) (kf : ¬ s1 = s0 → Xw l D ρ m_law 388 [] [] M d kc ks Q) : Xw l D ρ m_law 385 [(0, .retAddr 0), (1, x1), (2, x2), (3, .int x3)] [.int s0, .int s1] M d kc ks Q := by
  exact x_icmp_eq d_law_385 (tgt := 663) (by decide) (fun c => x_pick [0, 1, 2, 3] rfl (kt c)) (fun c => x_pick [] rfl (kf c))
theorem b_law_388  (hQ : Q (some (.int 0)) M)  : Xw l D ρ m_law 388 [] [] M d kc ks Q := by
  refine x_iconst (v := 0) d_law_388 (by decide) ?_
  exact x_iret d_law_389 rfl rfl hQ
theorem b_law_390 {x1 : Nat} {x2 : Value} {x3 : Int32} {j395 : Nat} {j400 : Nat} {j405 : Nat} {cd1 : Nat} {ckc1 : Nat} {cks1 : Nat} {ckc2 : Nat} {cks2 : Nat} {Q1 : Option Value → List xCl → Prop} {fr_0 : Value} {fr_1 : Value} {fr_2 : Value} {fr_3 : Value} {fr_4 : Int32} {fr_5 : Int32} {fr_6 : Int32} {fr_7 : Int32} (e395 : x3 + 1 = nI j395) (g395 : j395 < ρ.2.1) (hsl0 : ρ.2.1 ≤ 100000000) (e400 : x3 + 2 = nI j400) (g400 : j400 < ρ.2.1) (e405 : x3 + 3 = nI j405) (g405 : j405 < ρ.2.1) (hdp : cd1 + 1 ≤ d) (hkc : ckc1 + ckc2 ≤ kc) (hks : cks1 + cks2 ≤ ks) (hr : M[x1]? = some (cO 0 [fr_0, fr_1, fr_2, fr_3, .int fr_4, .int fr_5, .int fr_6, .int fr_7])) (kz : Xw l D ρ m_ContentStore_poison 0 [(0, .ref x1), (1, .int (ρ.2.2 j395)), (2, .int (ρ.2.2 j400)), (3, .int (ρ.2.2 j405))] [] M cd1 ckc1 cks1 Q1) (kk : ∀ r N, Q1 r N → Xw l D ρ m_law 409 [(0, .retAddr 0), (1, .ref x1), (2, x2), (3, .int x3)] (r.toList ++ []) N d ckc2 cks2 Q) : Xw l D ρ m_law 390 [(0, .retAddr 0), (1, .ref x1), (2, x2), (3, .int x3)] [] M d kc ks Q := by
  refine x_aload_n d_law_390 rfl 1 rfl trivial ?_
  refine x_aload_n d_law_391 rfl 0 rfl trivial ?_
  refine x_iload_n d_law_392 rfl 3 rfl ?_
  refine x_iconst (v := 1) d_law_393 (by decide) ?_
  refine x_iadd d_law_394 ?_
  refine x_ialdS d_law_395 e395 g395 hsl0 ?_
  refine x_aload_n d_law_396 rfl 0 rfl trivial ?_
  refine x_iload_n d_law_397 rfl 3 rfl ?_
  refine x_iconst (v := 2) d_law_398 (by decide) ?_
  refine x_iadd d_law_399 ?_
  refine x_ialdS d_law_400 e400 g400 hsl0 ?_
  refine x_aload_n d_law_401 rfl 0 rfl trivial ?_
  refine x_iload_n d_law_402 rfl 3 rfl ?_
  refine x_iconst (v := 3) d_law_403 (by decide) ?_
  refine x_iadd d_law_404 ?_
  refine x_ialdS d_law_405 e405 g405 hsl0 ?_
  exact x_pick [0, 1, 2, 3] rfl (x_callV (As := [.int (ρ.2.2 j395), .int (ρ.2.2 j400), .int (ρ.2.2 j405)]) (st := []) (host := "") d_law_406 rfl mk_ContentStore_poison mi_ContentStore_poison mv_ContentStore_poison (Or.inl kl_ContentStoreLaw_57) rfl (Nat.le_of_ble_eq_true rfl) (Nat.le_of_ble_eq_true rfl) ck_ContentStore hr hdp hkc hks rfl kz kk)
theorem b_law_409 {x1 : Value} {x2 : Nat} {x3 : Int32} {s0 : Int32} {j414 : Nat} {j419 : Nat} {j424 : Nat} {cd1 : Nat} {ckc1 : Nat} {cks1 : Nat} {ckc2 : Nat} {cks2 : Nat} {Q1 : Option Value → List xCl → Prop} {fr_0 : Int32} {fr_1 : Int32} {fr_2 : Int32} {fr_3 : Value} {fr_4 : Value} {fr_5 : Value} {fr_6 : Value} {fr_7 : Value} {fr_8 : Int32} {fr_9 : Value} {fr_10 : Value} {fr_11 : Value} {fr_12 : Int32} {fr_13 : Value} {fr_14 : Value} {fr_15 : Value} {fr_16 : Value} {fr_17 : Value} {fr_18 : Value} {fr_19 : Value} {fr_20 : Value} {fr_21 : Value} {fr_22 : Int32} {fr_23 : Value} (e414 : x3 + 1 = nI j414) (g414 : j414 < ρ.2.1) (hsl0 : ρ.2.1 ≤ 100000000) (e419 : x3 + 2 = nI j419) (g419 : j419 < ρ.2.1) (e424 : x3 + 3 = nI j424) (g424 : j424 < ρ.2.1) (hdp : cd1 + 1 ≤ d) (hkc : ckc1 + ckc2 ≤ kc) (hks : cks1 + cks2 ≤ ks) (hr : M[x2]? = some (cO 6 [.int fr_0, .int fr_1, .int fr_2, fr_3, fr_4, fr_5, fr_6, fr_7, .int fr_8, fr_9, fr_10, fr_11, .int fr_12, fr_13, fr_14, fr_15, fr_16, fr_17, fr_18, fr_19, fr_20, fr_21, .int fr_22, fr_23])) (kz : Xw l D ρ m_ContentStoreModel_poison 0 [(0, .ref x2), (1, .int (ρ.2.2 j414)), (2, .int (ρ.2.2 j419)), (3, .int (ρ.2.2 j424))] [] M cd1 ckc1 cks1 Q1) (kk : ∀ r N, Q1 r N → Xw l D ρ m_law 428 [(0, .retAddr 0), (1, x1), (2, .ref x2), (3, .int x3)] (r.toList ++ [.int s0]) N d ckc2 cks2 Q) : Xw l D ρ m_law 409 [(0, .retAddr 0), (1, x1), (2, .ref x2), (3, .int x3)] [.int s0] M d kc ks Q := by
  refine x_aload_n d_law_409 rfl 2 rfl trivial ?_
  refine x_aload_n d_law_410 rfl 0 rfl trivial ?_
  refine x_iload_n d_law_411 rfl 3 rfl ?_
  refine x_iconst (v := 1) d_law_412 (by decide) ?_
  refine x_iadd d_law_413 ?_
  refine x_ialdS d_law_414 e414 g414 hsl0 ?_
  refine x_aload_n d_law_415 rfl 0 rfl trivial ?_
  refine x_iload_n d_law_416 rfl 3 rfl ?_
  refine x_iconst (v := 2) d_law_417 (by decide) ?_
  refine x_iadd d_law_418 ?_
  refine x_ialdS d_law_419 e419 g419 hsl0 ?_
  refine x_aload_n d_law_420 rfl 0 rfl trivial ?_
  refine x_iload_n d_law_421 rfl 3 rfl ?_
  refine x_iconst (v := 3) d_law_422 (by decide) ?_
  refine x_iadd d_law_423 ?_
  refine x_ialdS d_law_424 e424 g424 hsl0 ?_
  exact x_pick [0, 1, 2, 3] rfl (x_callV (As := [.int (ρ.2.2 j414), .int (ρ.2.2 j419), .int (ρ.2.2 j424)]) (st := [.int s0]) (host := "") d_law_425 rfl mk_ContentStoreModel_poison mi_ContentStoreModel_poison mv_ContentStoreModel_poison (Or.inl kl_ContentStoreLaw_61) rfl (Nat.le_of_ble_eq_true rfl) (Nat.le_of_ble_eq_true rfl) ck_ContentStoreModel hr hdp hkc hks rfl kz kk)
theorem b_law_428 {x1 : Value} {x2 : Value} {x3 : Int32} {s0 : Int32} {s1 : Int32}  (kt : s1 = s0 → Xw l D ρ m_law 663 [(0, .retAddr 0), (1, x1), (2, x2), (3, .int x3)] [] M d kc ks Q) (kf : ¬ s1 = s0 → Xw l D ρ m_law 431 [] [] M d kc ks Q) : Xw l D ρ m_law 428 [(0, .retAddr 0), (1, x1), (2, x2), (3, .int x3)] [.int s0, .int s1] M d kc ks Q := by
  exact x_icmp_eq d_law_428 (tgt := 663) (by decide) (fun c => x_pick [0, 1, 2, 3] rfl (kt c)) (fun c => x_pick [] rfl (kf c))
theorem b_law_431  (hQ : Q (some (.int 0)) M)  : Xw l D ρ m_law 431 [] [] M d kc ks Q := by
  refine x_iconst (v := 0) d_law_431 (by decide) ?_
  exact x_iret d_law_432 rfl rfl hQ
theorem b_law_433 {x1 : Nat} {x2 : Value} {x3 : Int32} {j438 : Nat} {cd1 : Nat} {ckc1 : Nat} {cks1 : Nat} {ckc2 : Nat} {cks2 : Nat} {Q1 : Option Value → List xCl → Prop} {fr_0 : Value} {fr_1 : Value} {fr_2 : Value} {fr_3 : Value} {fr_4 : Int32} {fr_5 : Int32} {fr_6 : Int32} {fr_7 : Int32} (e438 : x3 + 1 = nI j438) (g438 : j438 < ρ.2.1) (hsl0 : ρ.2.1 ≤ 100000000) (hdp : cd1 + 1 ≤ d) (hkc : ckc1 + ckc2 ≤ kc) (hks : cks1 + cks2 ≤ ks) (hr : M[x1]? = some (cO 0 [fr_0, fr_1, fr_2, fr_3, .int fr_4, .int fr_5, .int fr_6, .int fr_7])) (kz : Xw l D ρ m_ContentStore_sound 0 [(0, .ref x1), (1, .int (ρ.2.2 j438))] [] M cd1 ckc1 cks1 Q1) (kk : ∀ r N, Q1 r N → Xw l D ρ m_law 442 [(0, .retAddr 0), (1, .ref x1), (2, x2), (3, .int x3)] (r.toList ++ []) N d ckc2 cks2 Q) : Xw l D ρ m_law 433 [(0, .retAddr 0), (1, .ref x1), (2, x2), (3, .int x3)] [] M d kc ks Q := by
  refine x_aload_n d_law_433 rfl 1 rfl trivial ?_
  refine x_aload_n d_law_434 rfl 0 rfl trivial ?_
  refine x_iload_n d_law_435 rfl 3 rfl ?_
  refine x_iconst (v := 1) d_law_436 (by decide) ?_
  refine x_iadd d_law_437 ?_
  refine x_ialdS d_law_438 e438 g438 hsl0 ?_
  exact x_pick [0, 1, 2, 3] rfl (x_callV (As := [.int (ρ.2.2 j438)]) (st := []) (host := "") d_law_439 rfl mk_ContentStore_sound mi_ContentStore_sound mv_ContentStore_sound (Or.inl kl_ContentStoreLaw_62) rfl (Nat.le_of_ble_eq_true rfl) (Nat.le_of_ble_eq_true rfl) ck_ContentStore hr hdp hkc hks rfl kz kk)
theorem b_law_442 {x1 : Value} {x2 : Nat} {x3 : Int32} {s0 : Int32} {j447 : Nat} {cd1 : Nat} {ckc1 : Nat} {cks1 : Nat} {ckc2 : Nat} {cks2 : Nat} {Q1 : Option Value → List xCl → Prop} {fr_0 : Int32} {fr_1 : Int32} {fr_2 : Int32} {fr_3 : Value} {fr_4 : Value} {fr_5 : Value} {fr_6 : Value} {fr_7 : Value} {fr_8 : Int32} {fr_9 : Value} {fr_10 : Value} {fr_11 : Value} {fr_12 : Int32} {fr_13 : Value} {fr_14 : Value} {fr_15 : Value} {fr_16 : Value} {fr_17 : Value} {fr_18 : Value} {fr_19 : Value} {fr_20 : Value} {fr_21 : Value} {fr_22 : Int32} {fr_23 : Value} (e447 : x3 + 1 = nI j447) (g447 : j447 < ρ.2.1) (hsl0 : ρ.2.1 ≤ 100000000) (hdp : cd1 + 1 ≤ d) (hkc : ckc1 + ckc2 ≤ kc) (hks : cks1 + cks2 ≤ ks) (hr : M[x2]? = some (cO 6 [.int fr_0, .int fr_1, .int fr_2, fr_3, fr_4, fr_5, fr_6, fr_7, .int fr_8, fr_9, fr_10, fr_11, .int fr_12, fr_13, fr_14, fr_15, fr_16, fr_17, fr_18, fr_19, fr_20, fr_21, .int fr_22, fr_23])) (kz : Xw l D ρ m_ContentStoreModel_sound 0 [(0, .ref x2), (1, .int (ρ.2.2 j447))] [] M cd1 ckc1 cks1 Q1) (kk : ∀ r N, Q1 r N → Xw l D ρ m_law 451 [(0, .retAddr 0), (1, x1), (2, .ref x2), (3, .int x3)] (r.toList ++ [.int s0]) N d ckc2 cks2 Q) : Xw l D ρ m_law 442 [(0, .retAddr 0), (1, x1), (2, .ref x2), (3, .int x3)] [.int s0] M d kc ks Q := by
  refine x_aload_n d_law_442 rfl 2 rfl trivial ?_
  refine x_aload_n d_law_443 rfl 0 rfl trivial ?_
  refine x_iload_n d_law_444 rfl 3 rfl ?_
  refine x_iconst (v := 1) d_law_445 (by decide) ?_
  refine x_iadd d_law_446 ?_
  refine x_ialdS d_law_447 e447 g447 hsl0 ?_
  exact x_pick [0, 1, 2, 3] rfl (x_callV (As := [.int (ρ.2.2 j447)]) (st := [.int s0]) (host := "") d_law_448 rfl mk_ContentStoreModel_sound mi_ContentStoreModel_sound mv_ContentStoreModel_sound (Or.inl kl_ContentStoreLaw_65) rfl (Nat.le_of_ble_eq_true rfl) (Nat.le_of_ble_eq_true rfl) ck_ContentStoreModel hr hdp hkc hks rfl kz kk)
theorem b_law_451 {x1 : Value} {x2 : Value} {x3 : Int32} {s0 : Int32} {s1 : Int32}  (kt : s1 = s0 → Xw l D ρ m_law 663 [(0, .retAddr 0), (1, x1), (2, x2), (3, .int x3)] [] M d kc ks Q) (kf : ¬ s1 = s0 → Xw l D ρ m_law 454 [] [] M d kc ks Q) : Xw l D ρ m_law 451 [(0, .retAddr 0), (1, x1), (2, x2), (3, .int x3)] [.int s0, .int s1] M d kc ks Q := by
  exact x_icmp_eq d_law_451 (tgt := 663) (by decide) (fun c => x_pick [0, 1, 2, 3] rfl (kt c)) (fun c => x_pick [] rfl (kf c))
theorem b_law_454  (hQ : Q (some (.int 0)) M)  : Xw l D ρ m_law 454 [] [] M d kc ks Q := by
  refine x_iconst (v := 0) d_law_454 (by decide) ?_
  exact x_iret d_law_455 rfl rfl hQ
theorem b_law_456 {x1 : Nat} {x2 : Value} {x3 : Int32} {j461 : Nat} {cd1 : Nat} {ckc1 : Nat} {cks1 : Nat} {ckc2 : Nat} {cks2 : Nat} {Q1 : Option Value → List xCl → Prop} {fr_0 : Value} {fr_1 : Value} {fr_2 : Value} {fr_3 : Value} {fr_4 : Int32} {fr_5 : Int32} {fr_6 : Int32} {fr_7 : Int32} (e461 : x3 + 1 = nI j461) (g461 : j461 < ρ.2.1) (hsl0 : ρ.2.1 ≤ 100000000) (hdp : cd1 + 1 ≤ d) (hkc : ckc1 + ckc2 ≤ kc) (hks : cks1 + cks2 ≤ ks) (hr : M[x1]? = some (cO 0 [fr_0, fr_1, fr_2, fr_3, .int fr_4, .int fr_5, .int fr_6, .int fr_7])) (kz : Xw l D ρ m_ContentStore_mirror 0 [(0, .ref x1), (1, .int (ρ.2.2 j461))] [] M cd1 ckc1 cks1 Q1) (kk : ∀ r N, Q1 r N → Xw l D ρ m_law 465 [(0, .retAddr 0), (1, .ref x1), (2, x2), (3, .int x3)] (r.toList ++ []) N d ckc2 cks2 Q) : Xw l D ρ m_law 456 [(0, .retAddr 0), (1, .ref x1), (2, x2), (3, .int x3)] [] M d kc ks Q := by
  refine x_aload_n d_law_456 rfl 1 rfl trivial ?_
  refine x_aload_n d_law_457 rfl 0 rfl trivial ?_
  refine x_iload_n d_law_458 rfl 3 rfl ?_
  refine x_iconst (v := 1) d_law_459 (by decide) ?_
  refine x_iadd d_law_460 ?_
  refine x_ialdS d_law_461 e461 g461 hsl0 ?_
  exact x_pick [0, 1, 2, 3] rfl (x_callV (As := [.int (ρ.2.2 j461)]) (st := []) (host := "") d_law_462 rfl mk_ContentStore_mirror mi_ContentStore_mirror mv_ContentStore_mirror (Or.inl kl_ContentStoreLaw_66) rfl (Nat.le_of_ble_eq_true rfl) (Nat.le_of_ble_eq_true rfl) ck_ContentStore hr hdp hkc hks rfl kz kk)
theorem b_law_465 {x1 : Value} {x2 : Nat} {x3 : Int32} {s0 : Int32} {j470 : Nat} {cd1 : Nat} {ckc1 : Nat} {cks1 : Nat} {ckc2 : Nat} {cks2 : Nat} {Q1 : Option Value → List xCl → Prop} {fr_0 : Int32} {fr_1 : Int32} {fr_2 : Int32} {fr_3 : Value} {fr_4 : Value} {fr_5 : Value} {fr_6 : Value} {fr_7 : Value} {fr_8 : Int32} {fr_9 : Value} {fr_10 : Value} {fr_11 : Value} {fr_12 : Int32} {fr_13 : Value} {fr_14 : Value} {fr_15 : Value} {fr_16 : Value} {fr_17 : Value} {fr_18 : Value} {fr_19 : Value} {fr_20 : Value} {fr_21 : Value} {fr_22 : Int32} {fr_23 : Value} (e470 : x3 + 1 = nI j470) (g470 : j470 < ρ.2.1) (hsl0 : ρ.2.1 ≤ 100000000) (hdp : cd1 + 1 ≤ d) (hkc : ckc1 + ckc2 ≤ kc) (hks : cks1 + cks2 ≤ ks) (hr : M[x2]? = some (cO 6 [.int fr_0, .int fr_1, .int fr_2, fr_3, fr_4, fr_5, fr_6, fr_7, .int fr_8, fr_9, fr_10, fr_11, .int fr_12, fr_13, fr_14, fr_15, fr_16, fr_17, fr_18, fr_19, fr_20, fr_21, .int fr_22, fr_23])) (kz : Xw l D ρ m_ContentStoreModel_mirror 0 [(0, .ref x2), (1, .int (ρ.2.2 j470))] [] M cd1 ckc1 cks1 Q1) (kk : ∀ r N, Q1 r N → Xw l D ρ m_law 474 [(0, .retAddr 0), (1, x1), (2, .ref x2), (3, .int x3)] (r.toList ++ [.int s0]) N d ckc2 cks2 Q) : Xw l D ρ m_law 465 [(0, .retAddr 0), (1, x1), (2, .ref x2), (3, .int x3)] [.int s0] M d kc ks Q := by
  refine x_aload_n d_law_465 rfl 2 rfl trivial ?_
  refine x_aload_n d_law_466 rfl 0 rfl trivial ?_
  refine x_iload_n d_law_467 rfl 3 rfl ?_
  refine x_iconst (v := 1) d_law_468 (by decide) ?_
  refine x_iadd d_law_469 ?_
  refine x_ialdS d_law_470 e470 g470 hsl0 ?_
  exact x_pick [0, 1, 2, 3] rfl (x_callV (As := [.int (ρ.2.2 j470)]) (st := [.int s0]) (host := "") d_law_471 rfl mk_ContentStoreModel_mirror mi_ContentStoreModel_mirror mv_ContentStoreModel_mirror (Or.inl kl_ContentStoreLaw_69) rfl (Nat.le_of_ble_eq_true rfl) (Nat.le_of_ble_eq_true rfl) ck_ContentStoreModel hr hdp hkc hks rfl kz kk)
theorem b_law_474 {x1 : Value} {x2 : Value} {x3 : Int32} {s0 : Int32} {s1 : Int32}  (kt : s1 = s0 → Xw l D ρ m_law 663 [(0, .retAddr 0), (1, x1), (2, x2), (3, .int x3)] [] M d kc ks Q) (kf : ¬ s1 = s0 → Xw l D ρ m_law 477 [] [] M d kc ks Q) : Xw l D ρ m_law 474 [(0, .retAddr 0), (1, x1), (2, x2), (3, .int x3)] [.int s0, .int s1] M d kc ks Q := by
  exact x_icmp_eq d_law_474 (tgt := 663) (by decide) (fun c => x_pick [0, 1, 2, 3] rfl (kt c)) (fun c => x_pick [] rfl (kf c))
theorem b_law_477  (hQ : Q (some (.int 0)) M)  : Xw l D ρ m_law 477 [] [] M d kc ks Q := by
  refine x_iconst (v := 0) d_law_477 (by decide) ?_
  exact x_iret d_law_478 rfl rfl hQ
theorem b_law_479 {x1 : Nat} {x2 : Value} {x3 : Int32} {j484 : Nat} {cd1 : Nat} {ckc1 : Nat} {cks1 : Nat} {ckc2 : Nat} {cks2 : Nat} {Q1 : Option Value → List xCl → Prop} {fr_0 : Value} {fr_1 : Value} {fr_2 : Value} {fr_3 : Value} {fr_4 : Int32} {fr_5 : Int32} {fr_6 : Int32} {fr_7 : Int32} (e484 : x3 + 1 = nI j484) (g484 : j484 < ρ.2.1) (hsl0 : ρ.2.1 ≤ 100000000) (hdp : cd1 + 1 ≤ d) (hkc : ckc1 + ckc2 ≤ kc) (hks : cks1 + cks2 ≤ ks) (hr : M[x1]? = some (cO 0 [fr_0, fr_1, fr_2, fr_3, .int fr_4, .int fr_5, .int fr_6, .int fr_7])) (kz : Xw l D ρ m_ContentStore_repair 0 [(0, .ref x1), (1, .int (ρ.2.2 j484))] [] M cd1 ckc1 cks1 Q1) (kk : ∀ r N, Q1 r N → Xw l D ρ m_law 488 [(0, .retAddr 0), (1, .ref x1), (2, x2), (3, .int x3)] (r.toList ++ []) N d ckc2 cks2 Q) : Xw l D ρ m_law 479 [(0, .retAddr 0), (1, .ref x1), (2, x2), (3, .int x3)] [] M d kc ks Q := by
  refine x_aload_n d_law_479 rfl 1 rfl trivial ?_
  refine x_aload_n d_law_480 rfl 0 rfl trivial ?_
  refine x_iload_n d_law_481 rfl 3 rfl ?_
  refine x_iconst (v := 1) d_law_482 (by decide) ?_
  refine x_iadd d_law_483 ?_
  refine x_ialdS d_law_484 e484 g484 hsl0 ?_
  exact x_pick [0, 1, 2, 3] rfl (x_callV (As := [.int (ρ.2.2 j484)]) (st := []) (host := "") d_law_485 rfl mk_ContentStore_repair mi_ContentStore_repair mv_ContentStore_repair (Or.inl kl_ContentStoreLaw_70) rfl (Nat.le_of_ble_eq_true rfl) (Nat.le_of_ble_eq_true rfl) ck_ContentStore hr hdp hkc hks rfl kz kk)
theorem b_law_488 {x1 : Value} {x2 : Nat} {x3 : Int32} {s0 : Int32} {j493 : Nat} {cd1 : Nat} {ckc1 : Nat} {cks1 : Nat} {ckc2 : Nat} {cks2 : Nat} {Q1 : Option Value → List xCl → Prop} {fr_0 : Int32} {fr_1 : Int32} {fr_2 : Int32} {fr_3 : Value} {fr_4 : Value} {fr_5 : Value} {fr_6 : Value} {fr_7 : Value} {fr_8 : Int32} {fr_9 : Value} {fr_10 : Value} {fr_11 : Value} {fr_12 : Int32} {fr_13 : Value} {fr_14 : Value} {fr_15 : Value} {fr_16 : Value} {fr_17 : Value} {fr_18 : Value} {fr_19 : Value} {fr_20 : Value} {fr_21 : Value} {fr_22 : Int32} {fr_23 : Value} (e493 : x3 + 1 = nI j493) (g493 : j493 < ρ.2.1) (hsl0 : ρ.2.1 ≤ 100000000) (hdp : cd1 + 1 ≤ d) (hkc : ckc1 + ckc2 ≤ kc) (hks : cks1 + cks2 ≤ ks) (hr : M[x2]? = some (cO 6 [.int fr_0, .int fr_1, .int fr_2, fr_3, fr_4, fr_5, fr_6, fr_7, .int fr_8, fr_9, fr_10, fr_11, .int fr_12, fr_13, fr_14, fr_15, fr_16, fr_17, fr_18, fr_19, fr_20, fr_21, .int fr_22, fr_23])) (kz : Xw l D ρ m_ContentStoreModel_repair 0 [(0, .ref x2), (1, .int (ρ.2.2 j493))] [] M cd1 ckc1 cks1 Q1) (kk : ∀ r N, Q1 r N → Xw l D ρ m_law 497 [(0, .retAddr 0), (1, x1), (2, .ref x2), (3, .int x3)] (r.toList ++ [.int s0]) N d ckc2 cks2 Q) : Xw l D ρ m_law 488 [(0, .retAddr 0), (1, x1), (2, .ref x2), (3, .int x3)] [.int s0] M d kc ks Q := by
  refine x_aload_n d_law_488 rfl 2 rfl trivial ?_
  refine x_aload_n d_law_489 rfl 0 rfl trivial ?_
  refine x_iload_n d_law_490 rfl 3 rfl ?_
  refine x_iconst (v := 1) d_law_491 (by decide) ?_
  refine x_iadd d_law_492 ?_
  refine x_ialdS d_law_493 e493 g493 hsl0 ?_
  exact x_pick [0, 1, 2, 3] rfl (x_callV (As := [.int (ρ.2.2 j493)]) (st := [.int s0]) (host := "") d_law_494 rfl mk_ContentStoreModel_repair mi_ContentStoreModel_repair mv_ContentStoreModel_repair (Or.inl kl_ContentStoreLaw_73) rfl (Nat.le_of_ble_eq_true rfl) (Nat.le_of_ble_eq_true rfl) ck_ContentStoreModel hr hdp hkc hks rfl kz kk)
theorem b_law_497 {x1 : Value} {x2 : Value} {x3 : Int32} {s0 : Int32} {s1 : Int32}  (kt : s1 = s0 → Xw l D ρ m_law 663 [(0, .retAddr 0), (1, x1), (2, x2), (3, .int x3)] [] M d kc ks Q) (kf : ¬ s1 = s0 → Xw l D ρ m_law 500 [] [] M d kc ks Q) : Xw l D ρ m_law 497 [(0, .retAddr 0), (1, x1), (2, x2), (3, .int x3)] [.int s0, .int s1] M d kc ks Q := by
  exact x_icmp_eq d_law_497 (tgt := 663) (by decide) (fun c => x_pick [0, 1, 2, 3] rfl (kt c)) (fun c => x_pick [] rfl (kf c))
theorem b_law_500  (hQ : Q (some (.int 0)) M)  : Xw l D ρ m_law 500 [] [] M d kc ks Q := by
  refine x_iconst (v := 0) d_law_500 (by decide) ?_
  exact x_iret d_law_501 rfl rfl hQ
theorem b_law_502 {x1 : Nat} {x2 : Value} {x3 : Int32} {j507 : Nat} {j512 : Nat} {cd1 : Nat} {ckc1 : Nat} {cks1 : Nat} {ckc2 : Nat} {cks2 : Nat} {Q1 : Option Value → List xCl → Prop} {fr_0 : Value} {fr_1 : Value} {fr_2 : Value} {fr_3 : Value} {fr_4 : Int32} {fr_5 : Int32} {fr_6 : Int32} {fr_7 : Int32} (e507 : x3 + 1 = nI j507) (g507 : j507 < ρ.2.1) (hsl0 : ρ.2.1 ≤ 100000000) (e512 : x3 + 2 = nI j512) (g512 : j512 < ρ.2.1) (hdp : cd1 + 1 ≤ d) (hkc : ckc1 + ckc2 ≤ kc) (hks : cks1 + cks2 ≤ ks) (hr : M[x1]? = some (cO 0 [fr_0, fr_1, fr_2, fr_3, .int fr_4, .int fr_5, .int fr_6, .int fr_7])) (kz : Xw l D ρ m_ContentStore_refer 0 [(0, .ref x1), (1, .int (ρ.2.2 j507)), (2, .int (ρ.2.2 j512))] [] M cd1 ckc1 cks1 Q1) (kk : ∀ r N, Q1 r N → Xw l D ρ m_law 516 [(0, .retAddr 0), (1, .ref x1), (2, x2), (3, .int x3)] (r.toList ++ []) N d ckc2 cks2 Q) : Xw l D ρ m_law 502 [(0, .retAddr 0), (1, .ref x1), (2, x2), (3, .int x3)] [] M d kc ks Q := by
  refine x_aload_n d_law_502 rfl 1 rfl trivial ?_
  refine x_aload_n d_law_503 rfl 0 rfl trivial ?_
  refine x_iload_n d_law_504 rfl 3 rfl ?_
  refine x_iconst (v := 1) d_law_505 (by decide) ?_
  refine x_iadd d_law_506 ?_
  refine x_ialdS d_law_507 e507 g507 hsl0 ?_
  refine x_aload_n d_law_508 rfl 0 rfl trivial ?_
  refine x_iload_n d_law_509 rfl 3 rfl ?_
  refine x_iconst (v := 2) d_law_510 (by decide) ?_
  refine x_iadd d_law_511 ?_
  refine x_ialdS d_law_512 e512 g512 hsl0 ?_
  exact x_pick [0, 1, 2, 3] rfl (x_callV (As := [.int (ρ.2.2 j507), .int (ρ.2.2 j512)]) (st := []) (host := "") d_law_513 rfl mk_ContentStore_refer mi_ContentStore_refer mv_ContentStore_refer (Or.inl kl_ContentStoreLaw_74) rfl (Nat.le_of_ble_eq_true rfl) (Nat.le_of_ble_eq_true rfl) ck_ContentStore hr hdp hkc hks rfl kz kk)
theorem b_law_516 {x1 : Value} {x2 : Nat} {x3 : Int32} {s0 : Int32} {j521 : Nat} {j526 : Nat} {cd1 : Nat} {ckc1 : Nat} {cks1 : Nat} {ckc2 : Nat} {cks2 : Nat} {Q1 : Option Value → List xCl → Prop} {fr_0 : Int32} {fr_1 : Int32} {fr_2 : Int32} {fr_3 : Value} {fr_4 : Value} {fr_5 : Value} {fr_6 : Value} {fr_7 : Value} {fr_8 : Int32} {fr_9 : Value} {fr_10 : Value} {fr_11 : Value} {fr_12 : Int32} {fr_13 : Value} {fr_14 : Value} {fr_15 : Value} {fr_16 : Value} {fr_17 : Value} {fr_18 : Value} {fr_19 : Value} {fr_20 : Value} {fr_21 : Value} {fr_22 : Int32} {fr_23 : Value} (e521 : x3 + 1 = nI j521) (g521 : j521 < ρ.2.1) (hsl0 : ρ.2.1 ≤ 100000000) (e526 : x3 + 2 = nI j526) (g526 : j526 < ρ.2.1) (hdp : cd1 + 1 ≤ d) (hkc : ckc1 + ckc2 ≤ kc) (hks : cks1 + cks2 ≤ ks) (hr : M[x2]? = some (cO 6 [.int fr_0, .int fr_1, .int fr_2, fr_3, fr_4, fr_5, fr_6, fr_7, .int fr_8, fr_9, fr_10, fr_11, .int fr_12, fr_13, fr_14, fr_15, fr_16, fr_17, fr_18, fr_19, fr_20, fr_21, .int fr_22, fr_23])) (kz : Xw l D ρ m_ContentStoreModel_refer 0 [(0, .ref x2), (1, .int (ρ.2.2 j521)), (2, .int (ρ.2.2 j526))] [] M cd1 ckc1 cks1 Q1) (kk : ∀ r N, Q1 r N → Xw l D ρ m_law 530 [(0, .retAddr 0), (1, x1), (2, .ref x2), (3, .int x3)] (r.toList ++ [.int s0]) N d ckc2 cks2 Q) : Xw l D ρ m_law 516 [(0, .retAddr 0), (1, x1), (2, .ref x2), (3, .int x3)] [.int s0] M d kc ks Q := by
  refine x_aload_n d_law_516 rfl 2 rfl trivial ?_
  refine x_aload_n d_law_517 rfl 0 rfl trivial ?_
  refine x_iload_n d_law_518 rfl 3 rfl ?_
  refine x_iconst (v := 1) d_law_519 (by decide) ?_
  refine x_iadd d_law_520 ?_
  refine x_ialdS d_law_521 e521 g521 hsl0 ?_
  refine x_aload_n d_law_522 rfl 0 rfl trivial ?_
  refine x_iload_n d_law_523 rfl 3 rfl ?_
  refine x_iconst (v := 2) d_law_524 (by decide) ?_
  refine x_iadd d_law_525 ?_
  refine x_ialdS d_law_526 e526 g526 hsl0 ?_
  exact x_pick [0, 1, 2, 3] rfl (x_callV (As := [.int (ρ.2.2 j521), .int (ρ.2.2 j526)]) (st := [.int s0]) (host := "") d_law_527 rfl mk_ContentStoreModel_refer mi_ContentStoreModel_refer mv_ContentStoreModel_refer (Or.inl kl_ContentStoreLaw_78) rfl (Nat.le_of_ble_eq_true rfl) (Nat.le_of_ble_eq_true rfl) ck_ContentStoreModel hr hdp hkc hks rfl kz kk)
theorem b_law_530 {x1 : Value} {x2 : Value} {x3 : Int32} {s0 : Int32} {s1 : Int32}  (kt : s1 = s0 → Xw l D ρ m_law 663 [(0, .retAddr 0), (1, x1), (2, x2), (3, .int x3)] [] M d kc ks Q) (kf : ¬ s1 = s0 → Xw l D ρ m_law 533 [] [] M d kc ks Q) : Xw l D ρ m_law 530 [(0, .retAddr 0), (1, x1), (2, x2), (3, .int x3)] [.int s0, .int s1] M d kc ks Q := by
  exact x_icmp_eq d_law_530 (tgt := 663) (by decide) (fun c => x_pick [0, 1, 2, 3] rfl (kt c)) (fun c => x_pick [] rfl (kf c))
theorem b_law_533  (hQ : Q (some (.int 0)) M)  : Xw l D ρ m_law 533 [] [] M d kc ks Q := by
  refine x_iconst (v := 0) d_law_533 (by decide) ?_
  exact x_iret d_law_534 rfl rfl hQ
theorem b_law_535 {x1 : Nat} {x2 : Value} {x3 : Int32} {j540 : Nat} {cd1 : Nat} {ckc1 : Nat} {cks1 : Nat} {ckc2 : Nat} {cks2 : Nat} {Q1 : Option Value → List xCl → Prop} {fr_0 : Value} {fr_1 : Value} {fr_2 : Value} {fr_3 : Value} {fr_4 : Int32} {fr_5 : Int32} {fr_6 : Int32} {fr_7 : Int32} (e540 : x3 + 1 = nI j540) (g540 : j540 < ρ.2.1) (hsl0 : ρ.2.1 ≤ 100000000) (hdp : cd1 + 1 ≤ d) (hkc : ckc1 + ckc2 ≤ kc) (hks : cks1 + cks2 ≤ ks) (hr : M[x1]? = some (cO 0 [fr_0, fr_1, fr_2, fr_3, .int fr_4, .int fr_5, .int fr_6, .int fr_7])) (kz : Xw l D ρ m_ContentStore_referred 0 [(0, .ref x1), (1, .int (ρ.2.2 j540))] [] M cd1 ckc1 cks1 Q1) (kk : ∀ r N, Q1 r N → Xw l D ρ m_law 544 [(0, .retAddr 0), (1, .ref x1), (2, x2), (3, .int x3)] (r.toList ++ []) N d ckc2 cks2 Q) : Xw l D ρ m_law 535 [(0, .retAddr 0), (1, .ref x1), (2, x2), (3, .int x3)] [] M d kc ks Q := by
  refine x_aload_n d_law_535 rfl 1 rfl trivial ?_
  refine x_aload_n d_law_536 rfl 0 rfl trivial ?_
  refine x_iload_n d_law_537 rfl 3 rfl ?_
  refine x_iconst (v := 1) d_law_538 (by decide) ?_
  refine x_iadd d_law_539 ?_
  refine x_ialdS d_law_540 e540 g540 hsl0 ?_
  exact x_pick [0, 1, 2, 3] rfl (x_callV (As := [.int (ρ.2.2 j540)]) (st := []) (host := "") d_law_541 rfl mk_ContentStore_referred mi_ContentStore_referred mv_ContentStore_referred (Or.inl kl_ContentStoreLaw_79) rfl (Nat.le_of_ble_eq_true rfl) (Nat.le_of_ble_eq_true rfl) ck_ContentStore hr hdp hkc hks rfl kz kk)
theorem b_law_544 {x1 : Value} {x2 : Nat} {x3 : Int32} {s0 : Int32} {j549 : Nat} {cd1 : Nat} {ckc1 : Nat} {cks1 : Nat} {ckc2 : Nat} {cks2 : Nat} {Q1 : Option Value → List xCl → Prop} {fr_0 : Int32} {fr_1 : Int32} {fr_2 : Int32} {fr_3 : Value} {fr_4 : Value} {fr_5 : Value} {fr_6 : Value} {fr_7 : Value} {fr_8 : Int32} {fr_9 : Value} {fr_10 : Value} {fr_11 : Value} {fr_12 : Int32} {fr_13 : Value} {fr_14 : Value} {fr_15 : Value} {fr_16 : Value} {fr_17 : Value} {fr_18 : Value} {fr_19 : Value} {fr_20 : Value} {fr_21 : Value} {fr_22 : Int32} {fr_23 : Value} (e549 : x3 + 1 = nI j549) (g549 : j549 < ρ.2.1) (hsl0 : ρ.2.1 ≤ 100000000) (hdp : cd1 + 1 ≤ d) (hkc : ckc1 + ckc2 ≤ kc) (hks : cks1 + cks2 ≤ ks) (hr : M[x2]? = some (cO 6 [.int fr_0, .int fr_1, .int fr_2, fr_3, fr_4, fr_5, fr_6, fr_7, .int fr_8, fr_9, fr_10, fr_11, .int fr_12, fr_13, fr_14, fr_15, fr_16, fr_17, fr_18, fr_19, fr_20, fr_21, .int fr_22, fr_23])) (kz : Xw l D ρ m_ContentStoreModel_referred 0 [(0, .ref x2), (1, .int (ρ.2.2 j549))] [] M cd1 ckc1 cks1 Q1) (kk : ∀ r N, Q1 r N → Xw l D ρ m_law 553 [(0, .retAddr 0), (1, x1), (2, .ref x2), (3, .int x3)] (r.toList ++ [.int s0]) N d ckc2 cks2 Q) : Xw l D ρ m_law 544 [(0, .retAddr 0), (1, x1), (2, .ref x2), (3, .int x3)] [.int s0] M d kc ks Q := by
  refine x_aload_n d_law_544 rfl 2 rfl trivial ?_
  refine x_aload_n d_law_545 rfl 0 rfl trivial ?_
  refine x_iload_n d_law_546 rfl 3 rfl ?_
  refine x_iconst (v := 1) d_law_547 (by decide) ?_
  refine x_iadd d_law_548 ?_
  refine x_ialdS d_law_549 e549 g549 hsl0 ?_
  exact x_pick [0, 1, 2, 3] rfl (x_callV (As := [.int (ρ.2.2 j549)]) (st := [.int s0]) (host := "") d_law_550 rfl mk_ContentStoreModel_referred mi_ContentStoreModel_referred mv_ContentStoreModel_referred (Or.inl kl_ContentStoreLaw_82) rfl (Nat.le_of_ble_eq_true rfl) (Nat.le_of_ble_eq_true rfl) ck_ContentStoreModel hr hdp hkc hks rfl kz kk)
theorem b_law_553 {x1 : Value} {x2 : Value} {x3 : Int32} {s0 : Int32} {s1 : Int32}  (kt : s1 = s0 → Xw l D ρ m_law 663 [(0, .retAddr 0), (1, x1), (2, x2), (3, .int x3)] [] M d kc ks Q) (kf : ¬ s1 = s0 → Xw l D ρ m_law 556 [] [] M d kc ks Q) : Xw l D ρ m_law 553 [(0, .retAddr 0), (1, x1), (2, x2), (3, .int x3)] [.int s0, .int s1] M d kc ks Q := by
  exact x_icmp_eq d_law_553 (tgt := 663) (by decide) (fun c => x_pick [0, 1, 2, 3] rfl (kt c)) (fun c => x_pick [] rfl (kf c))
theorem b_law_556  (hQ : Q (some (.int 0)) M)  : Xw l D ρ m_law 556 [] [] M d kc ks Q := by
  refine x_iconst (v := 0) d_law_556 (by decide) ?_
  exact x_iret d_law_557 rfl rfl hQ
theorem b_law_558 {x1 : Nat} {x2 : Value} {x3 : Int32} {cd1 : Nat} {ckc1 : Nat} {cks1 : Nat} {ckc2 : Nat} {cks2 : Nat} {Q1 : Option Value → List xCl → Prop} {fr_0 : Value} {fr_1 : Value} {fr_2 : Value} {fr_3 : Value} {fr_4 : Int32} {fr_5 : Int32} {fr_6 : Int32} {fr_7 : Int32} (hdp : cd1 + 1 ≤ d) (hkc : ckc1 + ckc2 ≤ kc) (hks : cks1 + cks2 ≤ ks) (hr : M[x1]? = some (cO 0 [fr_0, fr_1, fr_2, fr_3, .int fr_4, .int fr_5, .int fr_6, .int fr_7])) (kz : Xw l D ρ m_ContentStore_sweep 0 [(0, .ref x1)] [] M cd1 ckc1 cks1 Q1) (kk : ∀ r N, Q1 r N → Xw l D ρ m_law 562 [(0, .retAddr 0), (1, .ref x1), (2, x2), (3, .int x3)] (r.toList ++ []) N d ckc2 cks2 Q) : Xw l D ρ m_law 558 [(0, .retAddr 0), (1, .ref x1), (2, x2), (3, .int x3)] [] M d kc ks Q := by
  refine x_aload_n d_law_558 rfl 1 rfl trivial ?_
  exact x_pick [0, 1, 2, 3] rfl (x_callV (As := []) (st := []) (host := "") d_law_559 rfl mk_ContentStore_sweep mi_ContentStore_sweep mv_ContentStore_sweep (Or.inl kl_ContentStoreLaw_83) rfl (Nat.le_of_ble_eq_true rfl) (Nat.le_of_ble_eq_true rfl) ck_ContentStore hr hdp hkc hks rfl kz kk)
theorem b_law_562 {x1 : Value} {x2 : Nat} {x3 : Int32} {s0 : Int32} {cd1 : Nat} {ckc1 : Nat} {cks1 : Nat} {ckc2 : Nat} {cks2 : Nat} {Q1 : Option Value → List xCl → Prop} {fr_0 : Int32} {fr_1 : Int32} {fr_2 : Int32} {fr_3 : Value} {fr_4 : Value} {fr_5 : Value} {fr_6 : Value} {fr_7 : Value} {fr_8 : Int32} {fr_9 : Value} {fr_10 : Value} {fr_11 : Value} {fr_12 : Int32} {fr_13 : Value} {fr_14 : Value} {fr_15 : Value} {fr_16 : Value} {fr_17 : Value} {fr_18 : Value} {fr_19 : Value} {fr_20 : Value} {fr_21 : Value} {fr_22 : Int32} {fr_23 : Value} (hdp : cd1 + 1 ≤ d) (hkc : ckc1 + ckc2 ≤ kc) (hks : cks1 + cks2 ≤ ks) (hr : M[x2]? = some (cO 6 [.int fr_0, .int fr_1, .int fr_2, fr_3, fr_4, fr_5, fr_6, fr_7, .int fr_8, fr_9, fr_10, fr_11, .int fr_12, fr_13, fr_14, fr_15, fr_16, fr_17, fr_18, fr_19, fr_20, fr_21, .int fr_22, fr_23])) (kz : Xw l D ρ m_ContentStoreModel_sweep 0 [(0, .ref x2)] [] M cd1 ckc1 cks1 Q1) (kk : ∀ r N, Q1 r N → Xw l D ρ m_law 566 [(0, .retAddr 0), (1, x1), (2, .ref x2), (3, .int x3)] (r.toList ++ [.int s0]) N d ckc2 cks2 Q) : Xw l D ρ m_law 562 [(0, .retAddr 0), (1, x1), (2, .ref x2), (3, .int x3)] [.int s0] M d kc ks Q := by
  refine x_aload_n d_law_562 rfl 2 rfl trivial ?_
  exact x_pick [0, 1, 2, 3] rfl (x_callV (As := []) (st := [.int s0]) (host := "") d_law_563 rfl mk_ContentStoreModel_sweep mi_ContentStoreModel_sweep mv_ContentStoreModel_sweep (Or.inl kl_ContentStoreLaw_87) rfl (Nat.le_of_ble_eq_true rfl) (Nat.le_of_ble_eq_true rfl) ck_ContentStoreModel hr hdp hkc hks rfl kz kk)
theorem b_law_566 {x1 : Value} {x2 : Value} {x3 : Int32} {s0 : Int32} {s1 : Int32}  (kt : s1 = s0 → Xw l D ρ m_law 663 [(0, .retAddr 0), (1, x1), (2, x2), (3, .int x3)] [] M d kc ks Q) (kf : ¬ s1 = s0 → Xw l D ρ m_law 569 [] [] M d kc ks Q) : Xw l D ρ m_law 566 [(0, .retAddr 0), (1, x1), (2, x2), (3, .int x3)] [.int s0, .int s1] M d kc ks Q := by
  exact x_icmp_eq d_law_566 (tgt := 663) (by decide) (fun c => x_pick [0, 1, 2, 3] rfl (kt c)) (fun c => x_pick [] rfl (kf c))
theorem b_law_569  (hQ : Q (some (.int 0)) M)  : Xw l D ρ m_law 569 [] [] M d kc ks Q := by
  refine x_iconst (v := 0) d_law_569 (by decide) ?_
  exact x_iret d_law_570 rfl rfl hQ
theorem b_law_571 {x1 : Nat} {x2 : Value} {x3 : Int32} {cd1 : Nat} {ckc1 : Nat} {cks1 : Nat} {ckc2 : Nat} {cks2 : Nat} {Q1 : Option Value → List xCl → Prop} {fr_0 : Value} {fr_1 : Value} {fr_2 : Value} {fr_3 : Value} {fr_4 : Int32} {fr_5 : Int32} {fr_6 : Int32} {fr_7 : Int32} (hdp : cd1 + 1 ≤ d) (hkc : ckc1 + ckc2 ≤ kc) (hks : cks1 + cks2 ≤ ks) (hr : M[x1]? = some (cO 0 [fr_0, fr_1, fr_2, fr_3, .int fr_4, .int fr_5, .int fr_6, .int fr_7])) (kz : Xw l D ρ m_ContentStore_pack 0 [(0, .ref x1)] [] M cd1 ckc1 cks1 Q1) (kk : ∀ r N, Q1 r N → Xw l D ρ m_law 575 [(0, .retAddr 0), (1, .ref x1), (2, x2), (3, .int x3)] (r.toList ++ []) N d ckc2 cks2 Q) : Xw l D ρ m_law 571 [(0, .retAddr 0), (1, .ref x1), (2, x2), (3, .int x3)] [] M d kc ks Q := by
  refine x_aload_n d_law_571 rfl 1 rfl trivial ?_
  exact x_pick [0, 1, 2, 3] rfl (x_callV (As := []) (st := []) (host := "") d_law_572 rfl mk_ContentStore_pack mi_ContentStore_pack mv_ContentStore_pack (Or.inl kl_ContentStoreLaw_88) rfl (Nat.le_of_ble_eq_true rfl) (Nat.le_of_ble_eq_true rfl) ck_ContentStore hr hdp hkc hks rfl kz kk)
theorem b_law_575 {x1 : Value} {x2 : Nat} {x3 : Int32} {s0 : Int32} {cd1 : Nat} {ckc1 : Nat} {cks1 : Nat} {ckc2 : Nat} {cks2 : Nat} {Q1 : Option Value → List xCl → Prop} {fr_0 : Int32} {fr_1 : Int32} {fr_2 : Int32} {fr_3 : Value} {fr_4 : Value} {fr_5 : Value} {fr_6 : Value} {fr_7 : Value} {fr_8 : Int32} {fr_9 : Value} {fr_10 : Value} {fr_11 : Value} {fr_12 : Int32} {fr_13 : Value} {fr_14 : Value} {fr_15 : Value} {fr_16 : Value} {fr_17 : Value} {fr_18 : Value} {fr_19 : Value} {fr_20 : Value} {fr_21 : Value} {fr_22 : Int32} {fr_23 : Value} (hdp : cd1 + 1 ≤ d) (hkc : ckc1 + ckc2 ≤ kc) (hks : cks1 + cks2 ≤ ks) (hr : M[x2]? = some (cO 6 [.int fr_0, .int fr_1, .int fr_2, fr_3, fr_4, fr_5, fr_6, fr_7, .int fr_8, fr_9, fr_10, fr_11, .int fr_12, fr_13, fr_14, fr_15, fr_16, fr_17, fr_18, fr_19, fr_20, fr_21, .int fr_22, fr_23])) (kz : Xw l D ρ m_ContentStoreModel_pack 0 [(0, .ref x2)] [] M cd1 ckc1 cks1 Q1) (kk : ∀ r N, Q1 r N → Xw l D ρ m_law 579 [(0, .retAddr 0), (1, x1), (2, .ref x2), (3, .int x3)] (r.toList ++ [.int s0]) N d ckc2 cks2 Q) : Xw l D ρ m_law 575 [(0, .retAddr 0), (1, x1), (2, .ref x2), (3, .int x3)] [.int s0] M d kc ks Q := by
  refine x_aload_n d_law_575 rfl 2 rfl trivial ?_
  exact x_pick [0, 1, 2, 3] rfl (x_callV (As := []) (st := [.int s0]) (host := "") d_law_576 rfl mk_ContentStoreModel_pack mi_ContentStoreModel_pack mv_ContentStoreModel_pack (Or.inl kl_ContentStoreLaw_91) rfl (Nat.le_of_ble_eq_true rfl) (Nat.le_of_ble_eq_true rfl) ck_ContentStoreModel hr hdp hkc hks rfl kz kk)
theorem b_law_579 {x1 : Value} {x2 : Value} {x3 : Int32} {s0 : Int32} {s1 : Int32}  (kt : s1 = s0 → Xw l D ρ m_law 663 [(0, .retAddr 0), (1, x1), (2, x2), (3, .int x3)] [] M d kc ks Q) (kf : ¬ s1 = s0 → Xw l D ρ m_law 582 [] [] M d kc ks Q) : Xw l D ρ m_law 579 [(0, .retAddr 0), (1, x1), (2, x2), (3, .int x3)] [.int s0, .int s1] M d kc ks Q := by
  exact x_icmp_eq d_law_579 (tgt := 663) (by decide) (fun c => x_pick [0, 1, 2, 3] rfl (kt c)) (fun c => x_pick [] rfl (kf c))
theorem b_law_582  (hQ : Q (some (.int 0)) M)  : Xw l D ρ m_law 582 [] [] M d kc ks Q := by
  refine x_iconst (v := 0) d_law_582 (by decide) ?_
  exact x_iret d_law_583 rfl rfl hQ
theorem b_law_584 {x1 : Nat} {x2 : Value} {x3 : Int32} {j589 : Nat} {j594 : Nat} {cd1 : Nat} {ckc1 : Nat} {cks1 : Nat} {ckc2 : Nat} {cks2 : Nat} {Q1 : Option Value → List xCl → Prop} {fr_0 : Value} {fr_1 : Value} {fr_2 : Value} {fr_3 : Value} {fr_4 : Int32} {fr_5 : Int32} {fr_6 : Int32} {fr_7 : Int32} (e589 : x3 + 1 = nI j589) (g589 : j589 < ρ.2.1) (hsl0 : ρ.2.1 ≤ 100000000) (e594 : x3 + 2 = nI j594) (g594 : j594 < ρ.2.1) (hdp : cd1 + 1 ≤ d) (hkc : ckc1 + ckc2 ≤ kc) (hks : cks1 + cks2 ≤ ks) (hr : M[x1]? = some (cO 0 [fr_0, fr_1, fr_2, fr_3, .int fr_4, .int fr_5, .int fr_6, .int fr_7])) (kz : Xw l D ρ m_ContentStore_cut 0 [(0, .ref x1), (1, .int (ρ.2.2 j589)), (2, .int (ρ.2.2 j594))] [] M cd1 ckc1 cks1 Q1) (kk : ∀ r N, Q1 r N → Xw l D ρ m_law 598 [(0, .retAddr 0), (1, .ref x1), (2, x2), (3, .int x3)] (r.toList ++ []) N d ckc2 cks2 Q) : Xw l D ρ m_law 584 [(0, .retAddr 0), (1, .ref x1), (2, x2), (3, .int x3)] [] M d kc ks Q := by
  refine x_aload_n d_law_584 rfl 1 rfl trivial ?_
  refine x_aload_n d_law_585 rfl 0 rfl trivial ?_
  refine x_iload_n d_law_586 rfl 3 rfl ?_
  refine x_iconst (v := 1) d_law_587 (by decide) ?_
  refine x_iadd d_law_588 ?_
  refine x_ialdS d_law_589 e589 g589 hsl0 ?_
  refine x_aload_n d_law_590 rfl 0 rfl trivial ?_
  refine x_iload_n d_law_591 rfl 3 rfl ?_
  refine x_iconst (v := 2) d_law_592 (by decide) ?_
  refine x_iadd d_law_593 ?_
  refine x_ialdS d_law_594 e594 g594 hsl0 ?_
  exact x_pick [0, 1, 2, 3] rfl (x_callV (As := [.int (ρ.2.2 j589), .int (ρ.2.2 j594)]) (st := []) (host := "") d_law_595 rfl mk_ContentStore_cut mi_ContentStore_cut mv_ContentStore_cut (Or.inl kl_ContentStoreLaw_92) rfl (Nat.le_of_ble_eq_true rfl) (Nat.le_of_ble_eq_true rfl) ck_ContentStore hr hdp hkc hks rfl kz kk)
theorem b_law_598 {x1 : Value} {x2 : Nat} {x3 : Int32} {s0 : Int32} {j603 : Nat} {j608 : Nat} {cd1 : Nat} {ckc1 : Nat} {cks1 : Nat} {ckc2 : Nat} {cks2 : Nat} {Q1 : Option Value → List xCl → Prop} {fr_0 : Int32} {fr_1 : Int32} {fr_2 : Int32} {fr_3 : Value} {fr_4 : Value} {fr_5 : Value} {fr_6 : Value} {fr_7 : Value} {fr_8 : Int32} {fr_9 : Value} {fr_10 : Value} {fr_11 : Value} {fr_12 : Int32} {fr_13 : Value} {fr_14 : Value} {fr_15 : Value} {fr_16 : Value} {fr_17 : Value} {fr_18 : Value} {fr_19 : Value} {fr_20 : Value} {fr_21 : Value} {fr_22 : Int32} {fr_23 : Value} (e603 : x3 + 1 = nI j603) (g603 : j603 < ρ.2.1) (hsl0 : ρ.2.1 ≤ 100000000) (e608 : x3 + 2 = nI j608) (g608 : j608 < ρ.2.1) (hdp : cd1 + 1 ≤ d) (hkc : ckc1 + ckc2 ≤ kc) (hks : cks1 + cks2 ≤ ks) (hr : M[x2]? = some (cO 6 [.int fr_0, .int fr_1, .int fr_2, fr_3, fr_4, fr_5, fr_6, fr_7, .int fr_8, fr_9, fr_10, fr_11, .int fr_12, fr_13, fr_14, fr_15, fr_16, fr_17, fr_18, fr_19, fr_20, fr_21, .int fr_22, fr_23])) (kz : Xw l D ρ m_ContentStoreModel_cut 0 [(0, .ref x2), (1, .int (ρ.2.2 j603)), (2, .int (ρ.2.2 j608))] [] M cd1 ckc1 cks1 Q1) (kk : ∀ r N, Q1 r N → Xw l D ρ m_law 612 [(0, .retAddr 0), (1, x1), (2, .ref x2), (3, .int x3)] (r.toList ++ [.int s0]) N d ckc2 cks2 Q) : Xw l D ρ m_law 598 [(0, .retAddr 0), (1, x1), (2, .ref x2), (3, .int x3)] [.int s0] M d kc ks Q := by
  refine x_aload_n d_law_598 rfl 2 rfl trivial ?_
  refine x_aload_n d_law_599 rfl 0 rfl trivial ?_
  refine x_iload_n d_law_600 rfl 3 rfl ?_
  refine x_iconst (v := 1) d_law_601 (by decide) ?_
  refine x_iadd d_law_602 ?_
  refine x_ialdS d_law_603 e603 g603 hsl0 ?_
  refine x_aload_n d_law_604 rfl 0 rfl trivial ?_
  refine x_iload_n d_law_605 rfl 3 rfl ?_
  refine x_iconst (v := 2) d_law_606 (by decide) ?_
  refine x_iadd d_law_607 ?_
  refine x_ialdS d_law_608 e608 g608 hsl0 ?_
  exact x_pick [0, 1, 2, 3] rfl (x_callV (As := [.int (ρ.2.2 j603), .int (ρ.2.2 j608)]) (st := [.int s0]) (host := "") d_law_609 rfl mk_ContentStoreModel_cut mi_ContentStoreModel_cut mv_ContentStoreModel_cut (Or.inl kl_ContentStoreLaw_95) rfl (Nat.le_of_ble_eq_true rfl) (Nat.le_of_ble_eq_true rfl) ck_ContentStoreModel hr hdp hkc hks rfl kz kk)
theorem b_law_612 {x1 : Value} {x2 : Value} {x3 : Int32} {s0 : Int32} {s1 : Int32}  (kt : s1 = s0 → Xw l D ρ m_law 663 [(0, .retAddr 0), (1, x1), (2, x2), (3, .int x3)] [] M d kc ks Q) (kf : ¬ s1 = s0 → Xw l D ρ m_law 615 [] [] M d kc ks Q) : Xw l D ρ m_law 612 [(0, .retAddr 0), (1, x1), (2, x2), (3, .int x3)] [.int s0, .int s1] M d kc ks Q := by
  exact x_icmp_eq d_law_612 (tgt := 663) (by decide) (fun c => x_pick [0, 1, 2, 3] rfl (kt c)) (fun c => x_pick [] rfl (kf c))
theorem b_law_615  (hQ : Q (some (.int 0)) M)  : Xw l D ρ m_law 615 [] [] M d kc ks Q := by
  refine x_iconst (v := 0) d_law_615 (by decide) ?_
  exact x_iret d_law_616 rfl rfl hQ
theorem b_law_617 {x1 : Nat} {x2 : Value} {x3 : Int32} {j622 : Nat} {cd1 : Nat} {ckc1 : Nat} {cks1 : Nat} {ckc2 : Nat} {cks2 : Nat} {Q1 : Option Value → List xCl → Prop} {fr_0 : Value} {fr_1 : Value} {fr_2 : Value} {fr_3 : Value} {fr_4 : Int32} {fr_5 : Int32} {fr_6 : Int32} {fr_7 : Int32} (e622 : x3 + 1 = nI j622) (g622 : j622 < ρ.2.1) (hsl0 : ρ.2.1 ≤ 100000000) (hdp : cd1 + 1 ≤ d) (hkc : ckc1 + ckc2 ≤ kc) (hks : cks1 + cks2 ≤ ks) (hr : M[x1]? = some (cO 0 [fr_0, fr_1, fr_2, fr_3, .int fr_4, .int fr_5, .int fr_6, .int fr_7])) (kz : Xw l D ρ m_ContentStore_packOf 0 [(0, .ref x1), (1, .int (ρ.2.2 j622))] [] M cd1 ckc1 cks1 Q1) (kk : ∀ r N, Q1 r N → Xw l D ρ m_law 626 [(0, .retAddr 0), (1, .ref x1), (2, x2), (3, .int x3)] (r.toList ++ []) N d ckc2 cks2 Q) : Xw l D ρ m_law 617 [(0, .retAddr 0), (1, .ref x1), (2, x2), (3, .int x3)] [] M d kc ks Q := by
  refine x_aload_n d_law_617 rfl 1 rfl trivial ?_
  refine x_aload_n d_law_618 rfl 0 rfl trivial ?_
  refine x_iload_n d_law_619 rfl 3 rfl ?_
  refine x_iconst (v := 1) d_law_620 (by decide) ?_
  refine x_iadd d_law_621 ?_
  refine x_ialdS d_law_622 e622 g622 hsl0 ?_
  exact x_pick [0, 1, 2, 3] rfl (x_callV (As := [.int (ρ.2.2 j622)]) (st := []) (host := "") d_law_623 rfl mk_ContentStore_packOf mi_ContentStore_packOf mv_ContentStore_packOf (Or.inl kl_ContentStoreLaw_96) rfl (Nat.le_of_ble_eq_true rfl) (Nat.le_of_ble_eq_true rfl) ck_ContentStore hr hdp hkc hks rfl kz kk)
theorem b_law_626 {x1 : Value} {x2 : Nat} {x3 : Int32} {s0 : Int32} {j631 : Nat} {cd1 : Nat} {ckc1 : Nat} {cks1 : Nat} {ckc2 : Nat} {cks2 : Nat} {Q1 : Option Value → List xCl → Prop} {fr_0 : Int32} {fr_1 : Int32} {fr_2 : Int32} {fr_3 : Value} {fr_4 : Value} {fr_5 : Value} {fr_6 : Value} {fr_7 : Value} {fr_8 : Int32} {fr_9 : Value} {fr_10 : Value} {fr_11 : Value} {fr_12 : Int32} {fr_13 : Value} {fr_14 : Value} {fr_15 : Value} {fr_16 : Value} {fr_17 : Value} {fr_18 : Value} {fr_19 : Value} {fr_20 : Value} {fr_21 : Value} {fr_22 : Int32} {fr_23 : Value} (e631 : x3 + 1 = nI j631) (g631 : j631 < ρ.2.1) (hsl0 : ρ.2.1 ≤ 100000000) (hdp : cd1 + 1 ≤ d) (hkc : ckc1 + ckc2 ≤ kc) (hks : cks1 + cks2 ≤ ks) (hr : M[x2]? = some (cO 6 [.int fr_0, .int fr_1, .int fr_2, fr_3, fr_4, fr_5, fr_6, fr_7, .int fr_8, fr_9, fr_10, fr_11, .int fr_12, fr_13, fr_14, fr_15, fr_16, fr_17, fr_18, fr_19, fr_20, fr_21, .int fr_22, fr_23])) (kz : Xw l D ρ m_ContentStoreModel_packOf 0 [(0, .ref x2), (1, .int (ρ.2.2 j631))] [] M cd1 ckc1 cks1 Q1) (kk : ∀ r N, Q1 r N → Xw l D ρ m_law 635 [(0, .retAddr 0), (1, x1), (2, .ref x2), (3, .int x3)] (r.toList ++ [.int s0]) N d ckc2 cks2 Q) : Xw l D ρ m_law 626 [(0, .retAddr 0), (1, x1), (2, .ref x2), (3, .int x3)] [.int s0] M d kc ks Q := by
  refine x_aload_n d_law_626 rfl 2 rfl trivial ?_
  refine x_aload_n d_law_627 rfl 0 rfl trivial ?_
  refine x_iload_n d_law_628 rfl 3 rfl ?_
  refine x_iconst (v := 1) d_law_629 (by decide) ?_
  refine x_iadd d_law_630 ?_
  refine x_ialdS d_law_631 e631 g631 hsl0 ?_
  exact x_pick [0, 1, 2, 3] rfl (x_callV (As := [.int (ρ.2.2 j631)]) (st := [.int s0]) (host := "") d_law_632 rfl mk_ContentStoreModel_packOf mi_ContentStoreModel_packOf mv_ContentStoreModel_packOf (Or.inl kl_ContentStoreLaw_99) rfl (Nat.le_of_ble_eq_true rfl) (Nat.le_of_ble_eq_true rfl) ck_ContentStoreModel hr hdp hkc hks rfl kz kk)
theorem b_law_635 {x1 : Value} {x2 : Value} {x3 : Int32} {s0 : Int32} {s1 : Int32}  (kt : s1 = s0 → Xw l D ρ m_law 663 [(0, .retAddr 0), (1, x1), (2, x2), (3, .int x3)] [] M d kc ks Q) (kf : ¬ s1 = s0 → Xw l D ρ m_law 638 [] [] M d kc ks Q) : Xw l D ρ m_law 635 [(0, .retAddr 0), (1, x1), (2, x2), (3, .int x3)] [.int s0, .int s1] M d kc ks Q := by
  exact x_icmp_eq d_law_635 (tgt := 663) (by decide) (fun c => x_pick [0, 1, 2, 3] rfl (kt c)) (fun c => x_pick [] rfl (kf c))
theorem b_law_638  (hQ : Q (some (.int 0)) M)  : Xw l D ρ m_law 638 [] [] M d kc ks Q := by
  refine x_iconst (v := 0) d_law_638 (by decide) ?_
  exact x_iret d_law_639 rfl rfl hQ
theorem b_law_640 {x1 : Nat} {x2 : Value} {x3 : Int32} {j645 : Nat} {cd1 : Nat} {ckc1 : Nat} {cks1 : Nat} {ckc2 : Nat} {cks2 : Nat} {Q1 : Option Value → List xCl → Prop} {fr_0 : Value} {fr_1 : Value} {fr_2 : Value} {fr_3 : Value} {fr_4 : Int32} {fr_5 : Int32} {fr_6 : Int32} {fr_7 : Int32} (e645 : x3 + 1 = nI j645) (g645 : j645 < ρ.2.1) (hsl0 : ρ.2.1 ≤ 100000000) (hdp : cd1 + 1 ≤ d) (hkc : ckc1 + ckc2 ≤ kc) (hks : cks1 + cks2 ≤ ks) (hr : M[x1]? = some (cO 0 [fr_0, fr_1, fr_2, fr_3, .int fr_4, .int fr_5, .int fr_6, .int fr_7])) (kz : Xw l D ρ m_ContentStore_count 0 [(0, .ref x1), (1, .int (ρ.2.2 j645))] [] M cd1 ckc1 cks1 Q1) (kk : ∀ r N, Q1 r N → Xw l D ρ m_law 649 [(0, .retAddr 0), (1, .ref x1), (2, x2), (3, .int x3)] (r.toList ++ []) N d ckc2 cks2 Q) : Xw l D ρ m_law 640 [(0, .retAddr 0), (1, .ref x1), (2, x2), (3, .int x3)] [] M d kc ks Q := by
  refine x_aload_n d_law_640 rfl 1 rfl trivial ?_
  refine x_aload_n d_law_641 rfl 0 rfl trivial ?_
  refine x_iload_n d_law_642 rfl 3 rfl ?_
  refine x_iconst (v := 1) d_law_643 (by decide) ?_
  refine x_iadd d_law_644 ?_
  refine x_ialdS d_law_645 e645 g645 hsl0 ?_
  exact x_pick [0, 1, 2, 3] rfl (x_callV (As := [.int (ρ.2.2 j645)]) (st := []) (host := "") d_law_646 rfl mk_ContentStore_count mi_ContentStore_count mv_ContentStore_count (Or.inl kl_ContentStoreLaw_100) rfl (Nat.le_of_ble_eq_true rfl) (Nat.le_of_ble_eq_true rfl) ck_ContentStore hr hdp hkc hks rfl kz kk)
theorem b_law_649 {x1 : Value} {x2 : Nat} {x3 : Int32} {s0 : Int32} {j654 : Nat} {cd1 : Nat} {ckc1 : Nat} {cks1 : Nat} {ckc2 : Nat} {cks2 : Nat} {Q1 : Option Value → List xCl → Prop} {fr_0 : Int32} {fr_1 : Int32} {fr_2 : Int32} {fr_3 : Value} {fr_4 : Value} {fr_5 : Value} {fr_6 : Value} {fr_7 : Value} {fr_8 : Int32} {fr_9 : Value} {fr_10 : Value} {fr_11 : Value} {fr_12 : Int32} {fr_13 : Value} {fr_14 : Value} {fr_15 : Value} {fr_16 : Value} {fr_17 : Value} {fr_18 : Value} {fr_19 : Value} {fr_20 : Value} {fr_21 : Value} {fr_22 : Int32} {fr_23 : Value} (e654 : x3 + 1 = nI j654) (g654 : j654 < ρ.2.1) (hsl0 : ρ.2.1 ≤ 100000000) (hdp : cd1 + 1 ≤ d) (hkc : ckc1 + ckc2 ≤ kc) (hks : cks1 + cks2 ≤ ks) (hr : M[x2]? = some (cO 6 [.int fr_0, .int fr_1, .int fr_2, fr_3, fr_4, fr_5, fr_6, fr_7, .int fr_8, fr_9, fr_10, fr_11, .int fr_12, fr_13, fr_14, fr_15, fr_16, fr_17, fr_18, fr_19, fr_20, fr_21, .int fr_22, fr_23])) (kz : Xw l D ρ m_ContentStoreModel_count 0 [(0, .ref x2), (1, .int (ρ.2.2 j654))] [] M cd1 ckc1 cks1 Q1) (kk : ∀ r N, Q1 r N → Xw l D ρ m_law 658 [(0, .retAddr 0), (1, x1), (2, .ref x2), (3, .int x3)] (r.toList ++ [.int s0]) N d ckc2 cks2 Q) : Xw l D ρ m_law 649 [(0, .retAddr 0), (1, x1), (2, .ref x2), (3, .int x3)] [.int s0] M d kc ks Q := by
  refine x_aload_n d_law_649 rfl 2 rfl trivial ?_
  refine x_aload_n d_law_650 rfl 0 rfl trivial ?_
  refine x_iload_n d_law_651 rfl 3 rfl ?_
  refine x_iconst (v := 1) d_law_652 (by decide) ?_
  refine x_iadd d_law_653 ?_
  refine x_ialdS d_law_654 e654 g654 hsl0 ?_
  exact x_pick [0, 1, 2, 3] rfl (x_callV (As := [.int (ρ.2.2 j654)]) (st := [.int s0]) (host := "") d_law_655 rfl mk_ContentStoreModel_count mi_ContentStoreModel_count mv_ContentStoreModel_count (Or.inl kl_ContentStoreLaw_103) rfl (Nat.le_of_ble_eq_true rfl) (Nat.le_of_ble_eq_true rfl) ck_ContentStoreModel hr hdp hkc hks rfl kz kk)
theorem b_law_658 {x1 : Value} {x2 : Value} {x3 : Int32} {s0 : Int32} {s1 : Int32}  (kt : s1 = s0 → Xw l D ρ m_law 663 [(0, .retAddr 0), (1, x1), (2, x2), (3, .int x3)] [] M d kc ks Q) (kf : ¬ s1 = s0 → Xw l D ρ m_law 661 [] [] M d kc ks Q) : Xw l D ρ m_law 658 [(0, .retAddr 0), (1, x1), (2, x2), (3, .int x3)] [.int s0, .int s1] M d kc ks Q := by
  exact x_icmp_eq d_law_658 (tgt := 663) (by decide) (fun c => x_pick [0, 1, 2, 3] rfl (kt c)) (fun c => x_pick [] rfl (kf c))
theorem b_law_661  (hQ : Q (some (.int 0)) M)  : Xw l D ρ m_law 661 [] [] M d kc ks Q := by
  refine x_iconst (v := 0) d_law_661 (by decide) ?_
  exact x_iret d_law_662 rfl rfl hQ
theorem b_law_663 {x1 : Value} {x2 : Value} {x3 : Int32} (h_x2 : xrf x2) (k : Xw l D ρ m_law 28 [(0, .retAddr 0), (1, x1), (2, x2), (3, .int (x3 + 5))] [] M d kc ks Q) : Xw l D ρ m_law 663 [(0, .retAddr 0), (1, x1), (2, x2), (3, .int x3)] [] M d kc ks Q := by
  refine x_iinc (v := x3 + 5) (L' := [(3, .int (x3 + 5)), (0, .retAddr 0), (1, x1), (2, x2)]) d_law_663 3 rfl (by rfl) (Nat.le_of_ble_eq_true rfl) (by simp [xrf_cat h_x2]) ?_
  exact x_goto d_law_666 (tgt := 28) (by decide) (x_pick [1, 2, 3, 0] rfl k)
theorem b_law_669  (hQ : Q (some (.int 1)) M)  : Xw l D ρ m_law 669 [] [] M d kc ks Q := by
  refine x_iconst (v := 1) d_law_669 (by decide) ?_
  exact x_iret d_law_670 rfl rfl hQ
end XB
