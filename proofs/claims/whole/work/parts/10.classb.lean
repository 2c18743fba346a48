section XB
variable {l : Launch} {D : va_G} {ρ : xR} {M : List xCl} {d kc ks : Nat} {Q : Option Value → List xCl → Prop}
theorem b_Shelf_found_10 {x0 : Value} {x1 : Value} {x2 : Int32} {x3 : Int32} {s0 : Int32} {s1 : Int32}  (kt : s0 ≤ s1 → Xw l D ρ m_Shelf_found 49 [] [] M d kc ks Q) (kf : ¬ s0 ≤ s1 → Xw l D ρ m_Shelf_found 13 [(0, x0), (1, x1), (2, .int x2), (3, .int x3)] [] M d kc ks Q) : Xw l D ρ m_Shelf_found 10 [(0, x0), (1, x1), (2, .int x2), (3, .int x3)] [.int s0, .int s1] M d kc ks Q := by
  exact x_icmp_ge d_Shelf_found_10 (tgt := 49) (by decide) (fun c => x_pick [] rfl (kt c)) (fun c => x_pick [0, 1, 2, 3] rfl (kf c))
theorem b_Shelf_found_13 {x0 : Nat} {x1 : Value} {x2 : Int32} {x3 : Int32} {f14_0 : Int32} {f14_1 : Nat} {f14_2 : Int32} {cd1 : Nat} {ckc1 : Nat} {cks1 : Nat} {ckc2 : Nat} {cks2 : Nat} {Q1 : Option Value → List xCl → Prop} {fr_0 : Value} {fr_1 : Int32} {fr_2 : Int32} (h14 : M[x0]? = some (cO 1 [.int f14_0, .ref f14_1, .int f14_2])) (hdp : cd1 + 1 ≤ d) (hkc : ckc1 + ckc2 ≤ kc) (hks : cks1 + cks2 ≤ ks) (hr : M[f14_1]? = some (cO 2 [fr_0, .int fr_1, .int fr_2])) (kz : Xw l D ρ m_ArrayList_get 0 [(0, .ref f14_1), (1, .int x3)] [] M cd1 ckc1 cks1 Q1) (kk : ∀ r N, Q1 r N → Xw l D ρ m_Shelf_found 21 [(0, .ref x0), (1, x1), (2, .int x2), (3, .int x3)] (r.toList ++ []) N d ckc2 cks2 Q) : Xw l D ρ m_Shelf_found 13 [(0, .ref x0), (1, x1), (2, .int x2), (3, .int x3)] [] M d kc ks Q := by
  refine x_aload_n d_Shelf_found_13 rfl 0 rfl trivial ?_
  refine x_getf (k := 1) d_Shelf_found_14 ck_Shelf fk_Shelf_18 (by decide) h14 rfl ?_
  refine x_iload_n d_Shelf_found_17 rfl 3 rfl ?_
  exact x_pick [0, 1, 2, 3] rfl (x_callV (As := [.int x3]) (st := []) (host := "") d_Shelf_found_18 rfl mk_ArrayList_get mi_ArrayList_get mv_ArrayList_get (Or.inl kl_Shelf_68) rfl (Nat.le_of_ble_eq_true rfl) (Nat.le_of_ble_eq_true rfl) ck_ArrayList hr hdp hkc hks rfl kz kk)
theorem b_Shelf_found_21 {x0 : Value} {x1 : Value} {x2 : Int32} {x3 : Int32} {s0 : Nat} {f21_0 : Value} {f21_1 : Int32} {cd1 : Nat} {ckc1 : Nat} {cks1 : Nat} {ckc2 : Nat} {cks2 : Nat} {Q1 : Option Value → List xCl → Prop} (h_x1 : xrf x1) (h_f21_0 : xrf f21_0) (h21 : M[s0]? = some (cO 5 [f21_0, .int f21_1])) (hdp : cd1 + 1 ≤ d) (hkc : ckc1 + ckc2 ≤ kc) (hks : cks1 + cks2 ≤ ks) (kz : Xw l D ρ m_ContentStore_areAlike 0 [(0, f21_0), (1, .int 0), (2, x1), (3, .int x2)] [] M cd1 ckc1 cks1 Q1) (kk : ∀ r N, Q1 r N → Xw l D ρ m_Shelf_found 37 [(0, x0), (1, x1), (2, .int x2), (3, .int x3), (4, .ref s0)] (r.toList ++ []) N d ckc2 cks2 Q) : Xw l D ρ m_Shelf_found 21 [(0, x0), (1, x1), (2, .int x2), (3, .int x3)] [.ref s0] M d kc ks Q := by
  refine x_cast d_Shelf_found_21 kn_Shelf_37 ck_Part h21 (Or.inl rfl) ?_
  refine x_astore (i := 4) (L' := [(4, .ref s0), (0, x0), (1, x1), (2, .int x2), (3, .int x3)]) d_Shelf_found_24 (Nat.le_of_ble_eq_true rfl) trivial rfl ?_
  refine x_aload d_Shelf_found_26 0 rfl trivial ?_
  refine x_getf (k := 0) d_Shelf_found_28 ck_Part fk_Shelf_39 (by decide) h21 rfl ?_
  refine x_iconst (v := 0) d_Shelf_found_31 (by decide) ?_
  refine x_aload_n d_Shelf_found_32 rfl 2 rfl h_x1 ?_
  refine x_iload_n d_Shelf_found_33 rfl 3 rfl ?_
  exact x_pick [1, 2, 3, 4, 0] rfl (x_callS (As := [f21_0, .int 0, x1, .int x2]) (st := []) (host := "ContentStore") d_Shelf_found_34 rfl mk_ContentStore_areAlike ms_ContentStore_areAlike (Or.inr kl_Shelf_43) rfl (by simp [lg_sl, m_ContentStore_areAlike, xcat_i, xcat_l, xcat_r, xcat_n, xcat_o, xrf_cat h_f21_0, xrf_cat h_x1]) (Nat.le_of_ble_eq_true rfl) hdp hkc hks (by simp [lv_args, xcat_i, xcat_l, xcat_r, xcat_n, xcat_o, xrf_cat h_f21_0, xrf_cat h_x1]) kz kk)
theorem b_Shelf_found_37 {x0 : Value} {x1 : Value} {x2 : Int32} {x3 : Int32} {x4 : Value} {s0 : Int32}  (kt : s0 = 0 → Xw l D ρ m_Shelf_found 43 [(0, x0), (1, x1), (2, .int x2), (3, .int x3)] [] M d kc ks Q) (kf : ¬ s0 = 0 → Xw l D ρ m_Shelf_found 40 [(4, x4)] [] M d kc ks Q) : Xw l D ρ m_Shelf_found 37 [(0, x0), (1, x1), (2, .int x2), (3, .int x3), (4, x4)] [.int s0] M d kc ks Q := by
  exact x_if_eq d_Shelf_found_37 (tgt := 43) (by decide) (fun c => x_pick [0, 1, 2, 3] rfl (kt c)) (fun c => x_pick [4] rfl (kf c))
theorem b_Shelf_found_40 {x4 : Value} (h_x4 : xrf x4) (hQ : Q (some (x4)) M)  : Xw l D ρ m_Shelf_found 40 [(4, x4)] [] M d kc ks Q := by
  refine x_aload d_Shelf_found_40 0 rfl h_x4 ?_
  exact x_aret h_x4 d_Shelf_found_42 rfl (Or.inl ⟨_, rfl⟩) hQ
theorem b_Shelf_found_43 {x0 : Value} {x1 : Value} {x2 : Int32} {x3 : Int32}  (k : Xw l D ρ m_Shelf_found 2 [(0, x0), (1, x1), (2, .int x2), (3, .int (x3 + 1))] [] M d kc ks Q) : Xw l D ρ m_Shelf_found 43 [(0, x0), (1, x1), (2, .int x2), (3, .int x3)] [] M d kc ks Q := by
  refine x_iinc (v := x3 + 1) (L' := [(3, .int (x3 + 1)), (0, x0), (1, x1), (2, .int x2)]) d_Shelf_found_43 3 rfl (by rfl) (Nat.le_of_ble_eq_true rfl) rfl ?_
  exact x_goto d_Shelf_found_46 (tgt := 2) (by decide) (x_pick [1, 2, 3, 0] rfl k)
theorem b_Shelf_found_49  (hQ : Q (some (.null)) M)  : Xw l D ρ m_Shelf_found 49 [] [] M d kc ks Q := by
  refine x_null d_Shelf_found_49 ?_
  exact x_aret trivial d_Shelf_found_50 rfl (Or.inl ⟨_, rfl⟩) hQ
theorem b_Shelf_comesEarlier_0 {x0 : Value} {x1 : Value} {x2 : Int32}  (k : Xw l D ρ m_Shelf_comesEarlier 2 [(1, x1), (2, .int x2), (3, .int 0)] [] M d kc ks Q) : Xw l D ρ m_Shelf_comesEarlier 0 [(0, x0), (1, x1), (2, .int x2)] [] M d kc ks Q := by
  refine x_iconst (v := 0) d_Shelf_comesEarlier_0 (by decide) ?_
  refine x_istore_n (i := 3) (L' := [(3, .int 0), (0, x0), (1, x1), (2, .int x2)]) d_Shelf_comesEarlier_1 rfl (Nat.le_of_ble_eq_true rfl) rfl ?_
  exact x_pick [2, 3, 0] rfl k
theorem b_Shelf_comesEarlier_2 {x1 : Value} {x2 : Int32} {x3 : Int32}  (kt : x2 ≤ x3 → Xw l D ρ m_Shelf_comesEarlier 25 [] [] M d kc ks Q) (kf : ¬ x2 ≤ x3 → Xw l D ρ m_Shelf_comesEarlier 7 [(1, x1), (2, .int x2), (3, .int x3)] [] M d kc ks Q) : Xw l D ρ m_Shelf_comesEarlier 2 [(1, x1), (2, .int x2), (3, .int x3)] [] M d kc ks Q := by
  refine x_iload_n d_Shelf_comesEarlier_2 rfl 2 rfl ?_
  refine x_iload_n d_Shelf_comesEarlier_3 rfl 1 rfl ?_
  exact x_icmp_ge d_Shelf_comesEarlier_4 (tgt := 25) (by decide) (fun c => x_pick [] rfl (kt c)) (fun c => x_pick [0, 1, 2] rfl (kf c))
theorem b_Shelf_comesEarlier_7 {x1 : Value} {x2 : Int32} {x3 : Int32} {cd1 : Nat} {ckc1 : Nat} {cks1 : Nat} {ckc2 : Nat} {cks2 : Nat} {Q1 : Option Value → List xCl → Prop} (h_x1 : xrf x1) (hdp : cd1 + 1 ≤ d) (hkc : ckc1 + ckc2 ≤ kc) (hks : cks1 + cks2 ≤ ks) (kz : Xw l D ρ m_ContentStore_areAlike 0 [(0, x1), (1, .int x3), (2, x1), (3, .int x2)] [] M cd1 ckc1 cks1 Q1) (kk : ∀ r N, Q1 r N → Xw l D ρ m_Shelf_comesEarlier 14 [(1, x1), (2, .int x2), (3, .int x3)] (r.toList ++ []) N d ckc2 cks2 Q) : Xw l D ρ m_Shelf_comesEarlier 7 [(1, x1), (2, .int x2), (3, .int x3)] [] M d kc ks Q := by
  refine x_aload_n d_Shelf_comesEarlier_7 rfl 0 rfl h_x1 ?_
  refine x_iload_n d_Shelf_comesEarlier_8 rfl 2 rfl ?_
  refine x_aload_n d_Shelf_comesEarlier_9 rfl 0 rfl h_x1 ?_
  refine x_iload_n d_Shelf_comesEarlier_10 rfl 1 rfl ?_
  exact x_pick [0, 1, 2] rfl (x_callS (As := [x1, .int x3, x1, .int x2]) (st := []) (host := "ContentStore") d_Shelf_comesEarlier_11 rfl mk_ContentStore_areAlike ms_ContentStore_areAlike (Or.inr kl_Shelf_43) rfl (by simp [lg_sl, m_ContentStore_areAlike, xcat_i, xcat_l, xcat_r, xcat_n, xcat_o, xrf_cat h_x1, xrf_cat h_x1]) (Nat.le_of_ble_eq_true rfl) hdp hkc hks (by simp [lv_args, xcat_i, xcat_l, xcat_r, xcat_n, xcat_o, xrf_cat h_x1, xrf_cat h_x1]) kz kk)
theorem b_Shelf_comesEarlier_14 {x1 : Value} {x2 : Int32} {x3 : Int32} {s0 : Int32}  (kt : s0 = 0 → Xw l D ρ m_Shelf_comesEarlier 19 [(1, x1), (2, .int x2), (3, .int x3)] [] M d kc ks Q) (kf : ¬ s0 = 0 → Xw l D ρ m_Shelf_comesEarlier 17 [] [] M d kc ks Q) : Xw l D ρ m_Shelf_comesEarlier 14 [(1, x1), (2, .int x2), (3, .int x3)] [.int s0] M d kc ks Q := by
  exact x_if_eq d_Shelf_comesEarlier_14 (tgt := 19) (by decide) (fun c => x_pick [0, 1, 2] rfl (kt c)) (fun c => x_pick [] rfl (kf c))
theorem b_Shelf_comesEarlier_17  (hQ : Q (some (.int 1)) M)  : Xw l D ρ m_Shelf_comesEarlier 17 [] [] M d kc ks Q := by
  refine x_iconst (v := 1) d_Shelf_comesEarlier_17 (by decide) ?_
  exact x_iret d_Shelf_comesEarlier_18 rfl rfl hQ
theorem b_Shelf_comesEarlier_19 {x1 : Value} {x2 : Int32} {x3 : Int32}  (k : Xw l D ρ m_Shelf_comesEarlier 2 [(1, x1), (2, .int x2), (3, .int (x3 + 16))] [] M d kc ks Q) : Xw l D ρ m_Shelf_comesEarlier 19 [(1, x1), (2, .int x2), (3, .int x3)] [] M d kc ks Q := by
  refine x_iinc (v := x3 + 16) (L' := [(3, .int (x3 + 16)), (1, x1), (2, .int x2)]) d_Shelf_comesEarlier_19 2 rfl (by rfl) (Nat.le_of_ble_eq_true rfl) rfl ?_
  exact x_goto d_Shelf_comesEarlier_22 (tgt := 2) (by decide) (x_pick [1, 2, 0] rfl k)
theorem b_Shelf_comesEarlier_25  (hQ : Q (some (.int 0)) M)  : Xw l D ρ m_Shelf_comesEarlier 25 [] [] M d kc ks Q := by
  refine x_iconst (v := 0) d_Shelf_comesEarlier_25 (by decide) ?_
  exact x_iret d_Shelf_comesEarlier_26 rfl rfl hQ
theorem b_Shelf_rowOf_0 {x0 : Value} {x1 : Nat} {x2 : Value} {a1 : List Int32} {n10 : Nat} {kc1 : Nat} {ks1 : Nat} (h_x2 : xrf x2) (h1 : M[x1]? = some (cI a1)) (e10 : (((nI a1.length) + 16) - 1) / 16 = nI n10) (g10 : n10 ≤ 100000000) (hk1 : kc1 + 1 ≤ kc) (hs1 : ks1 + n10 ≤ ks) (k : Xw l D ρ m_Shelf_rowOf 17 [(0, x0), (1, .ref x1), (2, x2), (3, .ref M.length), (4, .int 0)] [] (M ++ [cR 2 (List.replicate n10 none)]) d kc1 ks1 Q) : Xw l D ρ m_Shelf_rowOf 0 [(0, x0), (1, .ref x1), (2, x2)] [] M d kc ks Q := by
  refine x_aload_n d_Shelf_rowOf_0 rfl 1 rfl trivial ?_
  refine x_alenI d_Shelf_rowOf_1 h1 ?_
  refine x_bipush (v := 16) d_Shelf_rowOf_2 (by decide) ?_
  refine x_iadd d_Shelf_rowOf_4 ?_
  refine x_iconst (v := 1) d_Shelf_rowOf_5 (by decide) ?_
  refine x_isub d_Shelf_rowOf_6 ?_
  refine x_bipush (v := 16) d_Shelf_rowOf_7 (by decide) ?_
  refine x_idiv d_Shelf_rowOf_9 (by decide) ?_
  refine x_newq (k := 2) d_Shelf_rowOf_10 kn_Shelf_37 ka_2 e10 g10 hk1 hs1 ?_
  refine x_astore_n (i := 3) (L' := [(3, .ref M.length), (0, x0), (1, .ref x1), (2, x2)]) d_Shelf_rowOf_13 rfl (Nat.le_of_ble_eq_true rfl) trivial (by simp [xrf_cat h_x2]) ?_
  refine x_iconst (v := 0) d_Shelf_rowOf_14 (by decide) ?_
  refine x_istore (i := 4) (L' := [(4, .int 0), (3, .ref M.length), (0, x0), (1, .ref x1), (2, x2)]) d_Shelf_rowOf_15 (Nat.le_of_ble_eq_true rfl) rfl ?_
  exact x_pick [2, 3, 4, 1, 0] rfl k
theorem b_Shelf_rowOf_17 {x0 : Value} {x1 : Value} {x2 : Value} {x3 : Nat} {x4 : Int32} {a20 : List (Option Nat)} (h20 : M[x3]? = some (cR 2 a20)) (kt : (nI a20.length) ≤ x4 → Xw l D ρ m_Shelf_rowOf 114 [(3, .ref x3)] [] M d kc ks Q) (kf : ¬ (nI a20.length) ≤ x4 → Xw l D ρ m_Shelf_rowOf 24 [(0, x0), (1, x1), (2, x2), (3, .ref x3), (4, .int x4)] [] M d kc ks Q) : Xw l D ρ m_Shelf_rowOf 17 [(0, x0), (1, x1), (2, x2), (3, .ref x3), (4, .int x4)] [] M d kc ks Q := by
  refine x_iload d_Shelf_rowOf_17 4 rfl ?_
  refine x_aload_n d_Shelf_rowOf_19 rfl 3 rfl trivial ?_
  refine x_alenR d_Shelf_rowOf_20 h20 ?_
  exact x_icmp_ge d_Shelf_rowOf_21 (tgt := 114) (by decide) (fun c => x_pick [3] rfl (kt c)) (fun c => x_pick [0, 1, 2, 3, 4] rfl (kf c))
theorem b_Shelf_rowOf_24 {x0 : Value} {x1 : Value} {x2 : Nat} {x3 : Value} {x4 : Int32} {a34 : List (Option Nat)} (h34 : M[x2]? = some (cR 2 a34)) (kt : (nI a34.length) ≤ x4 → Xw l D ρ m_Shelf_rowOf 45 [(0, x0), (1, x1), (2, .ref x2), (3, x3), (4, .int x4), (5, .int (x4 * 16))] [] M d kc ks Q) (kf : ¬ (nI a34.length) ≤ x4 → Xw l D ρ m_Shelf_rowOf 38 [(0, x0), (1, x1), (2, .ref x2), (3, x3), (4, .int x4), (5, .int (x4 * 16))] [] M d kc ks Q) : Xw l D ρ m_Shelf_rowOf 24 [(0, x0), (1, x1), (2, .ref x2), (3, x3), (4, .int x4)] [] M d kc ks Q := by
  refine x_iload d_Shelf_rowOf_24 4 rfl ?_
  refine x_bipush (v := 16) d_Shelf_rowOf_26 (by decide) ?_
  refine x_imul d_Shelf_rowOf_28 ?_
  refine x_istore (i := 5) (L' := [(5, .int (x4 * 16)), (0, x0), (1, x1), (2, .ref x2), (3, x3), (4, .int x4)]) d_Shelf_rowOf_29 (Nat.le_of_ble_eq_true rfl) rfl ?_
  refine x_iload d_Shelf_rowOf_31 5 rfl ?_
  refine x_aload_n d_Shelf_rowOf_33 rfl 3 rfl trivial ?_
  refine x_alenR d_Shelf_rowOf_34 h34 ?_
  exact x_icmp_ge d_Shelf_rowOf_35 (tgt := 45) (by decide) (fun c => x_pick [1, 2, 3, 4, 5, 0] rfl (kt c)) (fun c => x_pick [1, 2, 3, 4, 5, 0] rfl (kf c))
theorem b_Shelf_rowOf_38 {x0 : Value} {x1 : Value} {x2 : Nat} {x3 : Value} {x4 : Int32} {x5 : Int32} {a41 : List (Option Nat)} {j41 : Nat} {o41 : Option Nat} (h41 : M[x2]? = some (cR 2 a41)) (e41 : x4 = nI j41) (b41 : a41.length ≤ 100000000) (g41 : a41[j41]? = some o41) (k : Xw l D ρ m_Shelf_rowOf 46 [(0, x0), (1, x1), (2, .ref x2), (3, x3), (4, .int x4), (5, .int x5)] [xrv o41] M d kc ks Q) : Xw l D ρ m_Shelf_rowOf 38 [(0, x0), (1, x1), (2, .ref x2), (3, x3), (4, .int x4), (5, .int x5)] [] M d kc ks Q := by
  refine x_aload_n d_Shelf_rowOf_38 rfl 2 rfl trivial ?_
  refine x_iload d_Shelf_rowOf_39 4 rfl ?_
  refine x_aald d_Shelf_rowOf_41 e41 h41 g41 b41 ?_
  exact x_goto d_Shelf_rowOf_42 (tgt := 46) (by decide) (x_pick [0, 1, 2, 3, 4, 5] rfl k)
theorem b_Shelf_rowOf_45 {x0 : Value} {x1 : Value} {x2 : Value} {x3 : Value} {x4 : Int32} {x5 : Int32}  (k : Xw l D ρ m_Shelf_rowOf 46 [(0, x0), (1, x1), (2, x2), (3, x3), (4, .int x4), (5, .int x5)] [.null] M d kc ks Q) : Xw l D ρ m_Shelf_rowOf 45 [(0, x0), (1, x1), (2, x2), (3, x3), (4, .int x4), (5, .int x5)] [] M d kc ks Q := by
  refine x_null d_Shelf_rowOf_45 ?_
  exact x_pick [0, 1, 2, 3, 4, 5] rfl k
theorem b_Shelf_rowOf_46 {x0 : Value} {x1 : Value} {x2 : Value} {x3 : Value} {x4 : Int32} {x5 : Int32} {s0 : Nat}  (k : Xw l D ρ m_Shelf_rowOf 53 [(0, x0), (1, x1), (2, x2), (3, x3), (4, .int x4), (5, .int x5), (6, .ref s0)] [] M d kc ks Q) : Xw l D ρ m_Shelf_rowOf 46 [(0, x0), (1, x1), (2, x2), (3, x3), (4, .int x4), (5, .int x5)] [.ref s0] M d kc ks Q := by
  refine x_astore (i := 6) (L' := [(6, .ref s0), (0, x0), (1, x1), (2, x2), (3, x3), (4, .int x4), (5, .int x5)]) d_Shelf_rowOf_46 (Nat.le_of_ble_eq_true rfl) trivial rfl ?_
  refine x_aload d_Shelf_rowOf_48 0 rfl trivial ?_
  exact x_ifnull_r d_Shelf_rowOf_50 (x_pick [1, 2, 3, 4, 5, 6, 0] rfl k)
theorem b_Shelf_rowOf_46_z {x0 : Value} {x1 : Value} {x2 : Value} {x3 : Value} {x4 : Int32} {x5 : Int32}  (k : Xw l D ρ m_Shelf_rowOf 68 [(0, x0), (1, x1), (2, x2), (3, x3), (4, .int x4), (5, .int x5)] [] M d kc ks Q) : Xw l D ρ m_Shelf_rowOf 46 [(0, x0), (1, x1), (2, x2), (3, x3), (4, .int x4), (5, .int x5)] [.null] M d kc ks Q := by
  refine x_astore (i := 6) (L' := [(6, .null), (0, x0), (1, x1), (2, x2), (3, x3), (4, .int x4), (5, .int x5)]) d_Shelf_rowOf_46 (Nat.le_of_ble_eq_true rfl) trivial rfl ?_
  refine x_aload d_Shelf_rowOf_48 0 rfl trivial ?_
  exact x_ifnull_z d_Shelf_rowOf_50 (tgt := 68) (by decide) (x_pick [1, 2, 3, 4, 5, 6] rfl k)
theorem b_Shelf_rowOf_53 {x0 : Value} {x1 : Value} {x2 : Value} {x3 : Value} {x4 : Int32} {x5 : Int32} {x6 : Nat} {f55_0 : Value} {f55_1 : Int32} {cd1 : Nat} {ckc1 : Nat} {cks1 : Nat} {ckc2 : Nat} {cks2 : Nat} {Q1 : Option Value → List xCl → Prop} (h_x1 : xrf x1) (h_f55_0 : xrf f55_0) (h55 : M[x6]? = some (cO 5 [f55_0, .int f55_1])) (hdp : cd1 + 1 ≤ d) (hkc : ckc1 + ckc2 ≤ kc) (hks : cks1 + cks2 ≤ ks) (kz : Xw l D ρ m_ContentStore_areAlike 0 [(0, f55_0), (1, .int 0), (2, x1), (3, .int x5)] [] M cd1 ckc1 cks1 Q1) (kk : ∀ r N, Q1 r N → Xw l D ρ m_Shelf_rowOf 65 [(0, x0), (1, x1), (2, x2), (3, x3), (4, .int x4), (5, .int x5), (6, .ref x6)] (r.toList ++ []) N d ckc2 cks2 Q) : Xw l D ρ m_Shelf_rowOf 53 [(0, x0), (1, x1), (2, x2), (3, x3), (4, .int x4), (5, .int x5), (6, .ref x6)] [] M d kc ks Q := by
  refine x_aload d_Shelf_rowOf_53 6 rfl trivial ?_
  refine x_getf (k := 0) d_Shelf_rowOf_55 ck_Part fk_Shelf_39 (by decide) h55 rfl ?_
  refine x_iconst (v := 0) d_Shelf_rowOf_58 (by decide) ?_
  refine x_aload_n d_Shelf_rowOf_59 rfl 1 rfl h_x1 ?_
  refine x_iload d_Shelf_rowOf_60 5 rfl ?_
  exact x_pick [0, 1, 2, 3, 4, 5, 6] rfl (x_callS (As := [f55_0, .int 0, x1, .int x5]) (st := []) (host := "ContentStore") d_Shelf_rowOf_62 rfl mk_ContentStore_areAlike ms_ContentStore_areAlike (Or.inr kl_Shelf_43) rfl (by simp [lg_sl, m_ContentStore_areAlike, xcat_i, xcat_l, xcat_r, xcat_n, xcat_o, xrf_cat h_f55_0, xrf_cat h_x1]) (Nat.le_of_ble_eq_true rfl) hdp hkc hks (by simp [lv_args, xcat_i, xcat_l, xcat_r, xcat_n, xcat_o, xrf_cat h_f55_0, xrf_cat h_x1]) kz kk)
theorem b_Shelf_rowOf_65 {x0 : Value} {x1 : Value} {x2 : Value} {x3 : Value} {x4 : Int32} {x5 : Int32} {x6 : Value} {s0 : Int32}  (kt : ¬ s0 = 0 → Xw l D ρ m_Shelf_rowOf 77 [(0, x0), (1, x1), (2, x2), (3, x3), (4, .int x4), (5, .int x5), (6, x6)] [] M d kc ks Q) (kf : s0 = 0 → Xw l D ρ m_Shelf_rowOf 68 [(0, x0), (1, x1), (2, x2), (3, x3), (4, .int x4), (5, .int x5)] [] M d kc ks Q) : Xw l D ρ m_Shelf_rowOf 65 [(0, x0), (1, x1), (2, x2), (3, x3), (4, .int x4), (5, .int x5), (6, x6)] [.int s0] M d kc ks Q := by
  exact x_if_ne d_Shelf_rowOf_65 (tgt := 77) (by decide) (fun c => x_pick [0, 1, 2, 3, 4, 5, 6] rfl (kt c)) (fun c => x_pick [0, 1, 2, 3, 4, 5] rfl (kf c))
theorem b_Shelf_rowOf_68 {x0 : Nat} {x1 : Value} {x2 : Value} {x3 : Value} {x4 : Int32} {x5 : Int32} {cd1 : Nat} {ckc1 : Nat} {cks1 : Nat} {ckc2 : Nat} {cks2 : Nat} {Q1 : Option Value → List xCl → Prop} {fr_0 : Int32} {fr_1 : Value} {fr_2 : Int32} (h_x1 : xrf x1) (hdp : cd1 + 1 ≤ d) (hkc : ckc1 + ckc2 ≤ kc) (hks : cks1 + cks2 ≤ ks) (hr : M[x0]? = some (cO 1 [.int fr_0, fr_1, .int fr_2])) (kz : Xw l D ρ m_Shelf_found 0 [(0, .ref x0), (1, x1), (2, .int x5)] [] M cd1 ckc1 cks1 Q1) (kk : ∀ r N, Q1 r N → Xw l D ρ m_Shelf_rowOf 75 [(0, .ref x0), (1, x1), (2, x2), (3, x3), (4, .int x4), (5, .int x5)] (r.toList ++ []) N d ckc2 cks2 Q) : Xw l D ρ m_Shelf_rowOf 68 [(0, .ref x0), (1, x1), (2, x2), (3, x3), (4, .int x4), (5, .int x5)] [] M d kc ks Q := by
  refine x_aload_n d_Shelf_rowOf_68 rfl 0 rfl trivial ?_
  refine x_aload_n d_Shelf_rowOf_69 rfl 1 rfl h_x1 ?_
  refine x_iload d_Shelf_rowOf_70 5 rfl ?_
  exact x_pick [0, 1, 2, 3, 4, 5] rfl (x_callV (As := [x1, .int x5]) (st := []) (host := "") d_Shelf_rowOf_72 rfl mk_Shelf_found mi_Shelf_found mv_Shelf_found (Or.inl kl_Shelf_22) rfl (by simp [lg_sl, m_Shelf_found, xcat_i, xcat_l, xcat_r, xcat_n, xcat_o, xrf_cat h_x1]) (Nat.le_of_ble_eq_true rfl) ck_Shelf hr hdp hkc hks (by simp [lv_args, xcat_i, xcat_l, xcat_r, xcat_n, xcat_o, xrf_cat h_x1]) kz kk)
theorem b_Shelf_rowOf_75 {x0 : Value} {x1 : Value} {x2 : Value} {x3 : Value} {x4 : Int32} {x5 : Int32} {s0 : Value} (h_s0 : xrf s0) (k : Xw l D ρ m_Shelf_rowOf 77 [(0, x0), (1, x1), (2, x2), (3, x3), (4, .int x4), (5, .int x5), (6, s0)] [] M d kc ks Q) : Xw l D ρ m_Shelf_rowOf 75 [(0, x0), (1, x1), (2, x2), (3, x3), (4, .int x4), (5, .int x5)] [s0] M d kc ks Q := by
  refine x_astore (i := 6) (L' := [(6, s0), (0, x0), (1, x1), (2, x2), (3, x3), (4, .int x4), (5, .int x5)]) d_Shelf_rowOf_75 (Nat.le_of_ble_eq_true rfl) h_s0 rfl ?_
  exact x_pick [1, 2, 3, 4, 5, 6, 0] rfl k
theorem b_Shelf_rowOf_77 {x0 : Value} {x1 : Value} {x2 : Value} {x3 : Value} {x4 : Int32} {x5 : Int32} {x6 : Nat}  (k : Xw l D ρ m_Shelf_rowOf 91 [(0, x0), (1, x1), (2, x2), (3, x3), (4, .int x4), (6, .ref x6)] [] M d kc ks Q) : Xw l D ρ m_Shelf_rowOf 77 [(0, x0), (1, x1), (2, x2), (3, x3), (4, .int x4), (5, .int x5), (6, .ref x6)] [] M d kc ks Q := by
  refine x_aload d_Shelf_rowOf_77 6 rfl trivial ?_
  exact x_ifnonnull_r d_Shelf_rowOf_79 (tgt := 91) (by decide) (x_pick [0, 1, 2, 3, 4, 6] rfl k)
theorem b_Shelf_rowOf_77_z {x0 : Value} {x1 : Value} {x2 : Value} {x3 : Value} {x4 : Int32} {x5 : Int32}  (k : Xw l D ρ m_Shelf_rowOf 82 [(0, x0), (1, x1), (2, x2), (3, x3), (4, .int x4), (5, .int x5)] [] M d kc ks Q) : Xw l D ρ m_Shelf_rowOf 77 [(0, x0), (1, x1), (2, x2), (3, x3), (4, .int x4), (5, .int x5), (6, .null)] [] M d kc ks Q := by
  refine x_aload d_Shelf_rowOf_77 6 rfl trivial ?_
  exact x_ifnonnull_z d_Shelf_rowOf_79 (x_pick [0, 1, 2, 3, 4, 5] rfl k)
theorem b_Shelf_rowOf_82 {x0 : Nat} {x1 : Value} {x2 : Value} {x3 : Value} {x4 : Int32} {x5 : Int32} {cd1 : Nat} {ckc1 : Nat} {cks1 : Nat} {ckc2 : Nat} {cks2 : Nat} {Q1 : Option Value → List xCl → Prop} {fr_0 : Int32} {fr_1 : Value} {fr_2 : Int32} (h_x1 : xrf x1) (hdp : cd1 + 1 ≤ d) (hkc : ckc1 + ckc2 ≤ kc) (hks : cks1 + cks2 ≤ ks) (hr : M[x0]? = some (cO 1 [.int fr_0, fr_1, .int fr_2])) (kz : Xw l D ρ m_Shelf_made 0 [(0, .ref x0), (1, x1), (2, .int x5)] [] M cd1 ckc1 cks1 Q1) (kk : ∀ r N, Q1 r N → Xw l D ρ m_Shelf_rowOf 89 [(0, .ref x0), (1, x1), (2, x2), (3, x3), (4, .int x4)] (r.toList ++ []) N d ckc2 cks2 Q) : Xw l D ρ m_Shelf_rowOf 82 [(0, .ref x0), (1, x1), (2, x2), (3, x3), (4, .int x4), (5, .int x5)] [] M d kc ks Q := by
  refine x_aload_n d_Shelf_rowOf_82 rfl 0 rfl trivial ?_
  refine x_aload_n d_Shelf_rowOf_83 rfl 1 rfl h_x1 ?_
  refine x_iload d_Shelf_rowOf_84 5 rfl ?_
  exact x_pick [0, 1, 2, 3, 4] rfl (x_callV (As := [x1, .int x5]) (st := []) (host := "") d_Shelf_rowOf_86 rfl mk_Shelf_made mi_Shelf_made mv_Shelf_made (Or.inl kl_Shelf_47) rfl (by simp [lg_sl, m_Shelf_made, xcat_i, xcat_l, xcat_r, xcat_n, xcat_o, xrf_cat h_x1]) (Nat.le_of_ble_eq_true rfl) ck_Shelf hr hdp hkc hks (by simp [lv_args, xcat_i, xcat_l, xcat_r, xcat_n, xcat_o, xrf_cat h_x1]) kz kk)
theorem b_Shelf_rowOf_89 {x0 : Value} {x1 : Value} {x2 : Value} {x3 : Value} {x4 : Int32} {s0 : Value} (h_s0 : xrf s0) (k : Xw l D ρ m_Shelf_rowOf 91 [(0, x0), (1, x1), (2, x2), (3, x3), (4, .int x4), (6, s0)] [] M d kc ks Q) : Xw l D ρ m_Shelf_rowOf 89 [(0, x0), (1, x1), (2, x2), (3, x3), (4, .int x4)] [s0] M d kc ks Q := by
  refine x_astore (i := 6) (L' := [(6, s0), (0, x0), (1, x1), (2, x2), (3, x3), (4, .int x4)]) d_Shelf_rowOf_89 (Nat.le_of_ble_eq_true rfl) h_s0 rfl ?_
  exact x_pick [1, 2, 3, 4, 5, 0] rfl k
theorem b_Shelf_rowOf_91 {x0 : Value} {x1 : Value} {x2 : Value} {x3 : Nat} {x4 : Int32} {x6 : Nat} {f94_0 : Value} {f94_1 : Int32} {a107 : List (Option Nat)} {j107 : Nat} (h94 : M[x6]? = some (cO 5 [f94_0, .int f94_1])) (h107 : (M.set x6 (cO 5 [f94_0, .int (f94_1 + 1)]))[x3]? = some (cR 2 a107)) (e107 : x4 = nI j107) (g107 : j107 < a107.length) (b107 : a107.length ≤ 100000000) (k : Xw l D ρ m_Shelf_rowOf 17 [(0, x0), (1, x1), (2, x2), (3, .ref x3), (4, .int (x4 + 1))] [] ((M.set x6 (cO 5 [f94_0, .int (f94_1 + 1)])).set x3 (cR 2 (a107.set j107 (some x6)))) d kc ks Q) : Xw l D ρ m_Shelf_rowOf 91 [(0, x0), (1, x1), (2, x2), (3, .ref x3), (4, .int x4), (6, .ref x6)] [] M d kc ks Q := by
  refine x_aload d_Shelf_rowOf_91 5 rfl trivial ?_
  refine x_dup d_Shelf_rowOf_93 rfl ?_
  refine x_getf (k := 1) d_Shelf_rowOf_94 ck_Part fk_Shelf_50 (by decide) h94 rfl ?_
  refine x_iconst (v := 1) d_Shelf_rowOf_97 (by decide) ?_
  refine x_iadd d_Shelf_rowOf_98 ?_
  refine x_putf (k := 1) (fs' := [f94_0, .int (f94_1 + 1)]) d_Shelf_rowOf_99 ck_Part fk_Shelf_50 (by decide) (Or.inl rfl) rfl h94 (Nat.le_of_ble_eq_true rfl) rfl ?_
  refine x_aload_n d_Shelf_rowOf_102 rfl 3 rfl trivial ?_
  refine x_iload d_Shelf_rowOf_103 4 rfl ?_
  refine x_aload d_Shelf_rowOf_105 5 rfl trivial ?_
  refine x_aast d_Shelf_rowOf_107 e107 h107 g107 b107 (xset_eq h94) ck_Part (Or.inl rfl) ?_
  refine x_iinc (v := x4 + 1) (L' := [(4, .int (x4 + 1)), (0, x0), (1, x1), (2, x2), (3, .ref x3), (6, .ref x6)]) d_Shelf_rowOf_108 4 rfl (by rfl) (Nat.le_of_ble_eq_true rfl) rfl ?_
  exact x_goto d_Shelf_rowOf_111 (tgt := 17) (by decide) (x_pick [1, 2, 3, 4, 0] rfl k)
theorem b_Shelf_rowOf_114 {x3 : Value} (h_x3 : xrf x3) (hQ : Q (some (x3)) M)  : Xw l D ρ m_Shelf_rowOf 114 [(3, x3)] [] M d kc ks Q := by
  refine x_aload_n d_Shelf_rowOf_114 rfl 0 rfl h_x3 ?_
  exact x_aret h_x3 d_Shelf_rowOf_115 rfl (Or.inr ⟨_, rfl⟩) hQ
theorem b_Shelf_made_0 {x0 : Value} {x1 : Value} {x2 : Int32} {kc1 : Nat} {ks1 : Nat} {cd1 : Nat} {ckc1 : Nat} {cks1 : Nat} {ckc2 : Nat} {cks2 : Nat} {Q1 : Option Value → List xCl → Prop} (h_x1 : xrf x1) (hk1 : kc1 + 1 ≤ kc) (hs1 : ks1 + 2 ≤ ks) (hdp : cd1 + 1 ≤ d) (hkc : ckc1 + ckc2 ≤ kc1) (hks : cks1 + cks2 ≤ ks1) (kz : Xw l D ρ m_Part_init 0 [(0, .ref M.length), (1, x1), (2, .int x2)] [] (M ++ [cO 5 [.null, .int 0]]) cd1 ckc1 cks1 Q1) (kk : ∀ r N, Q1 r N → Xw l D ρ m_Shelf_made 9 [(0, x0)] (r.toList ++ [.ref M.length]) N d ckc2 cks2 Q) : Xw l D ρ m_Shelf_made 0 [(0, x0), (1, x1), (2, .int x2)] [] M d kc ks Q := by
  refine x_new (fs := [.null, .int 0]) d_Shelf_made_0 ck_Part kn_Shelf_37 ki_Part kz_Part df_Part rfl hk1 hs1 ?_
  refine x_dup d_Shelf_made_3 rfl ?_
  refine x_aload_n d_Shelf_made_4 rfl 1 rfl h_x1 ?_
  refine x_iload_n d_Shelf_made_5 rfl 2 rfl ?_
  exact x_pick [0] rfl (x_callI (As := [x1, .int x2]) (st := [.ref M.length]) d_Shelf_made_6 rfl mk_Part_init rfl rfl mi_Part_init kl_Shelf_57 rfl (by simp [lg_sl, m_Part_init, xcat_i, xcat_l, xcat_r, xcat_n, xcat_o, xrf_cat h_x1]) (Nat.le_of_ble_eq_true rfl) hdp hkc hks (by simp [lv_args, xcat_i, xcat_l, xcat_r, xcat_n, xcat_o, xrf_cat h_x1]) kz kk)
theorem b_Shelf_made_9 {x0 : Nat} {s0 : Value} {f11_0 : Int32} {f11_1 : Nat} {f11_2 : Int32} {cd1 : Nat} {ckc1 : Nat} {cks1 : Nat} {ckc2 : Nat} {cks2 : Nat} {Q1 : Option Value → List xCl → Prop} {fr_0 : Value} {fr_1 : Int32} {fr_2 : Int32} (h_s0 : xrf s0) (h11 : M[x0]? = some (cO 1 [.int f11_0, .ref f11_1, .int f11_2])) (hdp : cd1 + 1 ≤ d) (hkc : ckc1 + ckc2 ≤ kc) (hks : cks1 + cks2 ≤ ks) (hr : M[f11_1]? = some (cO 2 [fr_0, .int fr_1, .int fr_2])) (kz : Xw l D ρ m_ArrayList_add 0 [(0, .ref f11_1), (1, s0)] [] M cd1 ckc1 cks1 Q1) (kk : ∀ r N, Q1 r N → Xw l D ρ m_Shelf_made 18 [(0, .ref x0), (3, s0)] (r.toList ++ []) N d ckc2 cks2 Q) : Xw l D ρ m_Shelf_made 9 [(0, .ref x0)] [s0] M d kc ks Q := by
  refine x_astore_n (i := 3) (L' := [(3, s0), (0, .ref x0)]) d_Shelf_made_9 rfl (Nat.le_of_ble_eq_true rfl) h_s0 rfl ?_
  refine x_aload_n d_Shelf_made_10 rfl 1 rfl trivial ?_
  refine x_getf (k := 1) d_Shelf_made_11 ck_Shelf fk_Shelf_18 (by decide) h11 rfl ?_
  refine x_aload_n d_Shelf_made_14 rfl 0 rfl h_s0 ?_
  exact x_pick [1, 0] rfl (x_callV (As := [s0]) (st := []) (host := "") d_Shelf_made_15 rfl mk_ArrayList_add mi_ArrayList_add mv_ArrayList_add (Or.inl kl_Shelf_60) rfl (by simp [lg_sl, m_ArrayList_add, xcat_i, xcat_l, xcat_r, xcat_n, xcat_o, xrf_cat h_s0]) (Nat.le_of_ble_eq_true rfl) ck_ArrayList hr hdp hkc hks (by simp [lv_args, xcat_i, xcat_l, xcat_r, xcat_n, xcat_o, xrf_cat h_s0]) kz kk)
theorem b_Shelf_made_18 {x0 : Nat} {x3 : Nat} {s0 : Int32} {f21_0 : Int32} {f21_1 : Value} {f21_2 : Int32} {f25_0 : Nat} {f25_1 : Int32} {a28 : List Int32} (h21 : M[x0]? = some (cO 1 [.int f21_0, f21_1, .int f21_2])) (h25 : M[x3]? = some (cO 5 [.ref f25_0, .int f25_1])) (h28 : M[f25_0]? = some (cI a28)) (hQ : Q (some (.ref x3)) (M.set x0 (cO 1 [.int f21_0, f21_1, .int (f21_2 + (nI a28.length))])))  : Xw l D ρ m_Shelf_made 18 [(0, .ref x0), (3, .ref x3)] [.int s0] M d kc ks Q := by
  refine x_pop d_Shelf_made_18 rfl ?_
  refine x_aload_n d_Shelf_made_19 rfl 0 rfl trivial ?_
  refine x_dup d_Shelf_made_20 rfl ?_
  refine x_getf (k := 2) d_Shelf_made_21 ck_Shelf fk_Shelf_34 (by decide) h21 rfl ?_
  refine x_aload_n d_Shelf_made_24 rfl 1 rfl trivial ?_
  refine x_getf (k := 0) d_Shelf_made_25 ck_Part fk_Shelf_39 (by decide) h25 rfl ?_
  refine x_alenI d_Shelf_made_28 h28 ?_
  refine x_iadd d_Shelf_made_29 ?_
  refine x_putf (k := 2) (fs' := [.int f21_0, f21_1, .int (f21_2 + (nI a28.length))]) d_Shelf_made_30 ck_Shelf fk_Shelf_34 (by decide) (Or.inl rfl) rfl h21 (Nat.le_of_ble_eq_true rfl) rfl ?_
  refine x_aload_n d_Shelf_made_33 rfl 1 rfl trivial ?_
  exact x_aret trivial d_Shelf_made_34 rfl (Or.inl ⟨_, rfl⟩) hQ
theorem b_Part_init_0 {x0 : Nat} {x1 : Value} {x2 : Int32} {cd1 : Nat} {ckc1 : Nat} {cks1 : Nat} {ckc2 : Nat} {cks2 : Nat} {Q1 : Option Value → List xCl → Prop} (h_x1 : xrf x1) (hd1 : 1 ≤ d) (hdp : cd1 + 1 ≤ d) (hkc : ckc1 + ckc2 ≤ kc) (hks : cks1 + cks2 ≤ ks) (kz : Xw l D ρ m_ContentStore_partLength 0 [(0, x1), (1, .int x2)] [] M cd1 ckc1 cks1 Q1) (kk : ∀ r N, Q1 r N → Xw l D ρ m_Part_init 9 [(0, .ref x0), (1, x1), (2, .int x2)] (r.toList ++ []) N d ckc2 cks2 Q) : Xw l D ρ m_Part_init 0 [(0, .ref x0), (1, x1), (2, .int x2)] [] M d kc ks Q := by
  refine x_aload_n d_Part_init_0 rfl 0 rfl trivial ?_
  refine x_objInit (y := m_Part_init) (st := []) d_Part_init_1 kl_Part_3 ko_ins ko_code (Nat.le_of_ble_eq_true rfl) hd1 ?_
  refine x_aload_n d_Part_init_4 rfl 1 rfl h_x1 ?_
  refine x_iload_n d_Part_init_5 rfl 2 rfl ?_
  exact x_pick [0, 1, 2] rfl (x_callS (As := [x1, .int x2]) (st := []) (host := "ContentStore") d_Part_init_6 rfl mk_ContentStore_partLength ms_ContentStore_partLength (Or.inr kl_Part_9) rfl (by simp [lg_sl, m_ContentStore_partLength, xcat_i, xcat_l, xcat_r, xcat_n, xcat_o, xrf_cat h_x1]) (Nat.le_of_ble_eq_true rfl) hdp hkc hks (by simp [lv_args, xcat_i, xcat_l, xcat_r, xcat_n, xcat_o, xrf_cat h_x1]) kz kk)
theorem b_Part_init_9 {x0 : Nat} {x1 : Value} {x2 : Int32} {s0 : Int32} {n12 : Nat} {kc1 : Nat} {ks1 : Nat} {f14_0 : Value} {f14_1 : Int32} (e12 : s0 = nI n12) (g12 : n12 ≤ 100000000) (hk1 : kc1 + 1 ≤ kc) (hs1 : ks1 + n12 ≤ ks) (h14 : (M ++ [cI (List.replicate n12 0)])[x0]? = some (cO 5 [f14_0, .int f14_1])) (k : Xw l D ρ m_Part_init 20 [(0, .ref x0), (1, x1), (2, .int x2), (3, .int s0), (4, .int 0)] [] ((M ++ [cI (List.replicate n12 0)]).set x0 (cO 5 [.ref M.length, .int f14_1])) d kc1 ks1 Q) : Xw l D ρ m_Part_init 9 [(0, .ref x0), (1, x1), (2, .int x2)] [.int s0] M d kc ks Q := by
  refine x_istore_n (i := 3) (L' := [(3, .int s0), (0, .ref x0), (1, x1), (2, .int x2)]) d_Part_init_9 rfl (Nat.le_of_ble_eq_true rfl) rfl ?_
  refine x_aload_n d_Part_init_10 rfl 1 rfl trivial ?_
  refine x_iload_n d_Part_init_11 rfl 0 rfl ?_
  refine x_newi d_Part_init_12 kw_int e12 g12 hk1 hs1 ?_
  refine x_putf (k := 0) (fs' := [.ref M.length, .int f14_1]) d_Part_init_14 ck_Part fk_Part_13 (by decide) (Or.inr ⟨rfl, rfl, rfl⟩) rfl h14 (Nat.le_of_ble_eq_true rfl) rfl ?_
  refine x_iconst (v := 0) d_Part_init_17 (by decide) ?_
  refine x_istore (i := 4) (L' := [(4, .int 0), (3, .int s0), (0, .ref x0), (1, x1), (2, .int x2)]) d_Part_init_18 (Nat.le_of_ble_eq_true rfl) rfl ?_
  exact x_pick [2, 3, 4, 1, 0] rfl k
theorem b_Part_init_20 {x0 : Value} {x1 : Value} {x2 : Int32} {x3 : Int32} {x4 : Int32}  (kt : x3 ≤ x4 → Xw l D ρ m_Part_init 45 [] [] M d kc ks Q) (kf : ¬ x3 ≤ x4 → Xw l D ρ m_Part_init 26 [(0, x0), (1, x1), (2, .int x2), (3, .int x3), (4, .int x4)] [] M d kc ks Q) : Xw l D ρ m_Part_init 20 [(0, x0), (1, x1), (2, .int x2), (3, .int x3), (4, .int x4)] [] M d kc ks Q := by
  refine x_iload d_Part_init_20 4 rfl ?_
  refine x_iload_n d_Part_init_22 rfl 3 rfl ?_
  exact x_icmp_ge d_Part_init_23 (tgt := 45) (by decide) (fun c => x_pick [] rfl (kt c)) (fun c => x_pick [0, 1, 2, 3, 4] rfl (kf c))
theorem b_Part_init_26 {x0 : Nat} {x1 : Nat} {x2 : Int32} {x3 : Int32} {x4 : Int32} {f27_0 : Nat} {f27_1 : Int32} {a37 : List Int32} {j37 : Nat} {v37 : Int32} {a38 : List Int32} {j38 : Nat} (h27 : M[x0]? = some (cO 5 [.ref f27_0, .int f27_1])) (h37 : M[x1]? = some (cI a37)) (e37 : x2 + x4 = nI j37) (g37 : a37[j37]? = some v37) (b37 : a37.length ≤ 100000000) (h38 : M[f27_0]? = some (cI a38)) (e38 : x4 = nI j38) (g38 : j38 < a38.length) (b38 : a38.length ≤ 100000000) (k : Xw l D ρ m_Part_init 20 [(0, .ref x0), (1, .ref x1), (2, .int x2), (3, .int x3), (4, .int (x4 + 1))] [] (M.set f27_0 (cI (a38.set j38 v37))) d kc ks Q) : Xw l D ρ m_Part_init 26 [(0, .ref x0), (1, .ref x1), (2, .int x2), (3, .int x3), (4, .int x4)] [] M d kc ks Q := by
  refine x_aload_n d_Part_init_26 rfl 0 rfl trivial ?_
  refine x_getf (k := 0) d_Part_init_27 ck_Part fk_Part_13 (by decide) h27 rfl ?_
  refine x_iload d_Part_init_30 4 rfl ?_
  refine x_aload_n d_Part_init_32 rfl 1 rfl trivial ?_
  refine x_iload_n d_Part_init_33 rfl 2 rfl ?_
  refine x_iload d_Part_init_34 4 rfl ?_
  refine x_iadd d_Part_init_36 ?_
  refine x_iald d_Part_init_37 e37 h37 g37 b37 ?_
  refine x_iast d_Part_init_38 e38 h38 g38 b38 ?_
  refine x_iinc (v := x4 + 1) (L' := [(4, .int (x4 + 1)), (0, .ref x0), (1, .ref x1), (2, .int x2), (3, .int x3)]) d_Part_init_39 4 rfl (by rfl) (Nat.le_of_ble_eq_true rfl) rfl ?_
  exact x_goto d_Part_init_42 (tgt := 20) (by decide) (x_pick [1, 2, 3, 4, 0] rfl k)
theorem b_Part_init_45  (hQ : Q none M)  : Xw l D ρ m_Part_init 45 [] [] M d kc ks Q := by
  exact x_vret d_Part_init_45 rfl hQ
theorem b_Blob_init_0 {x0 : Nat} {x1 : Nat} {x2 : Value} {a6 : List Int32} {f7_0 : Int32} {f7_1 : Int32} {f7_2 : Int64} {f7_3 : Value} {f7_4 : Value} {f7_5 : Int32} {f7_6 : Int32} {cd1 : Nat} {ckc1 : Nat} {cks1 : Nat} {ckc2 : Nat} {cks2 : Nat} {Q1 : Option Value → List xCl → Prop} (hd1 : 1 ≤ d) (h6 : M[x1]? = some (cI a6)) (h7 : M[x0]? = some (cO 4 [.int f7_0, .int f7_1, .long f7_2, f7_3, f7_4, .int f7_5, .int f7_6])) (hdp : cd1 + 1 ≤ d) (hkc : ckc1 + ckc2 ≤ kc) (hks : cks1 + cks2 ≤ ks) (kz : Xw l D ρ m_ContentStore_sumBehind 0 [(0, .int 0), (1, .ref x1)] [] (M.set x0 (cO 4 [.int (nI a6.length), .int f7_1, .long f7_2, f7_3, f7_4, .int f7_5, .int f7_6])) cd1 ckc1 cks1 Q1) (kk : ∀ r N, Q1 r N → Xw l D ρ m_Blob_init 16 [(0, .ref x0), (1, .ref x1), (2, x2)] (r.toList ++ [.ref x0]) N d ckc2 cks2 Q) : Xw l D ρ m_Blob_init 0 [(0, .ref x0), (1, .ref x1), (2, x2)] [] M d kc ks Q := by
  refine x_aload_n d_Blob_init_0 rfl 0 rfl trivial ?_
  refine x_objInit (y := m_Blob_init) (st := []) d_Blob_init_1 kl_Blob_3 ko_ins ko_code (Nat.le_of_ble_eq_true rfl) hd1 ?_
  refine x_aload_n d_Blob_init_4 rfl 0 rfl trivial ?_
  refine x_aload_n d_Blob_init_5 rfl 1 rfl trivial ?_
  refine x_alenI d_Blob_init_6 h6 ?_
  refine x_putf (k := 0) (fs' := [.int (nI a6.length), .int f7_1, .long f7_2, f7_3, f7_4, .int f7_5, .int f7_6]) d_Blob_init_7 ck_Blob fk_Blob_9 (by decide) (Or.inr ⟨rfl, rfl, rfl⟩) rfl h7 (Nat.le_of_ble_eq_true rfl) rfl ?_
  refine x_aload_n d_Blob_init_10 rfl 0 rfl trivial ?_
  refine x_iconst (v := 0) d_Blob_init_11 (by decide) ?_
  refine x_aload_n d_Blob_init_12 rfl 1 rfl trivial ?_
  exact x_pick [0, 1, 2] rfl (x_callS (As := [.int 0, .ref x1]) (st := [.ref x0]) (host := "ContentStore") d_Blob_init_13 rfl mk_ContentStore_sumBehind ms_ContentStore_sumBehind (Or.inr kl_Blob_15) rfl (Nat.le_of_ble_eq_true rfl) (Nat.le_of_ble_eq_true rfl) hdp hkc hks rfl kz kk)
theorem b_Blob_init_16 {x0 : Value} {x1 : Value} {x2 : Value} {s0 : Int32} {s1 : Nat} {f16_0 : Int32} {f16_1 : Int32} {f16_2 : Int64} {f16_3 : Value} {f16_4 : Value} {f16_5 : Int32} {f16_6 : Int32} {cd1 : Nat} {ckc1 : Nat} {cks1 : Nat} {ckc2 : Nat} {cks2 : Nat} {Q1 : Option Value → List xCl → Prop} (h_x0 : xrf x0) (h_x1 : xrf x1) (h16 : M[s1]? = some (cO 4 [.int f16_0, .int f16_1, .long f16_2, f16_3, f16_4, .int f16_5, .int f16_6])) (hdp : cd1 + 1 ≤ d) (hkc : ckc1 + ckc2 ≤ kc) (hks : cks1 + cks2 ≤ ks) (kz : Xw l D ρ m_ContentStore_digestOf 0 [(0, x1)] [] (M.set s1 (cO 4 [.int f16_0, .int s0, .long f16_2, f16_3, f16_4, .int f16_5, .int f16_6])) cd1 ckc1 cks1 Q1) (kk : ∀ r N, Q1 r N → Xw l D ρ m_Blob_init 24 [(0, x0), (2, x2)] (r.toList ++ [x0]) N d ckc2 cks2 Q) : Xw l D ρ m_Blob_init 16 [(0, x0), (1, x1), (2, x2)] [.int s0, .ref s1] M d kc ks Q := by
  refine x_putf (k := 1) (fs' := [.int f16_0, .int s0, .long f16_2, f16_3, f16_4, .int f16_5, .int f16_6]) d_Blob_init_16 ck_Blob fk_Blob_19 (by decide) (Or.inr ⟨rfl, rfl, rfl⟩) rfl h16 (Nat.le_of_ble_eq_true rfl) rfl ?_
  refine x_aload_n d_Blob_init_19 rfl 0 rfl h_x0 ?_
  refine x_aload_n d_Blob_init_20 rfl 1 rfl h_x1 ?_
  exact x_pick [0, 2] rfl (x_callS (As := [x1]) (st := [x0]) (host := "ContentStore") d_Blob_init_21 rfl mk_ContentStore_digestOf ms_ContentStore_digestOf (Or.inr kl_Blob_22) rfl (by simp [lg_sl, m_ContentStore_digestOf, xcat_i, xcat_l, xcat_r, xcat_n, xcat_o, xrf_cat h_x1]) (by simp [xcat_i, xcat_l, xcat_r, xcat_n, xcat_o, xrf_cat h_x0]) hdp hkc hks (by simp [lv_args, xcat_i, xcat_l, xcat_r, xcat_n, xcat_o, xrf_cat h_x1]) kz kk)
theorem b_Blob_init_24 {x0 : Nat} {x2 : Value} {s0 : Int64} {s1 : Nat} {f24_0 : Int32} {f24_1 : Int32} {f24_2 : Int64} {f24_3 : Value} {f24_4 : Value} {f24_5 : Int32} {f24_6 : Int32} {f29_0 : Int32} {f29_1 : Int32} {f29_2 : Int64} {f29_3 : Value} {f29_4 : Value} {f29_5 : Int32} {f29_6 : Int32} (h_x2 : xrf x2) (h24 : M[s1]? = some (cO 4 [.int f24_0, .int f24_1, .long f24_2, f24_3, f24_4, .int f24_5, .int f24_6])) (h29 : (M.set s1 (cO 4 [.int f24_0, .int f24_1, .long s0, f24_3, f24_4, .int f24_5, .int f24_6]))[x0]? = some (cO 4 [.int f29_0, .int f29_1, .long f29_2, f29_3, f29_4, .int f29_5, .int f29_6])) (hQ : Q none ((((M.set s1 (cO 4 [.int f24_0, .int f24_1, .long s0, f24_3, f24_4, .int f24_5, .int f24_6])).set x0 (cO 4 [.int f29_0, .int f29_1, .long f29_2, x2, f29_4, .int f29_5, .int f29_6])).set x0 (cO 4 [.int f29_0, .int f29_1, .long f29_2, x2, f29_4, .int ((-1)), .int f29_6])).set x0 (cO 4 [.int f29_0, .int f29_1, .long f29_2, x2, f29_4, .int ((-1)), .int 1])))  : Xw l D ρ m_Blob_init 24 [(0, .ref x0), (2, x2)] [.long s0, .ref s1] M d kc ks Q := by
  refine x_putf (k := 2) (fs' := [.int f24_0, .int f24_1, .long s0, f24_3, f24_4, .int f24_5, .int f24_6]) d_Blob_init_24 ck_Blob fk_Blob_26 (by decide) (Or.inr ⟨rfl, rfl, rfl⟩) rfl h24 (Nat.le_of_ble_eq_true rfl) rfl ?_
  refine x_aload_n d_Blob_init_27 rfl 0 rfl trivial ?_
  refine x_aload_n d_Blob_init_28 rfl 1 rfl h_x2 ?_
  refine x_putf (k := 3) (fs' := [.int f29_0, .int f29_1, .long f29_2, x2, f29_4, .int f29_5, .int f29_6]) d_Blob_init_29 ck_Blob fk_Blob_30 (by decide) (Or.inl rfl) (xft_arr h_x2) h29 (Nat.le_of_ble_eq_true rfl) rfl ?_
  refine x_aload_n d_Blob_init_32 rfl 0 rfl trivial ?_
  refine x_iconst (v := (-1)) d_Blob_init_33 (by decide) ?_
  refine x_putf (k := 5) (fs' := [.int f29_0, .int f29_1, .long f29_2, x2, f29_4, .int ((-1)), .int f29_6]) d_Blob_init_34 ck_Blob fk_Blob_34 (by decide) (Or.inl rfl) rfl (xset_eq h29) (Nat.le_of_ble_eq_true rfl) rfl ?_
  refine x_aload_n d_Blob_init_37 rfl 0 rfl trivial ?_
  refine x_iconst (v := 1) d_Blob_init_38 (by decide) ?_
  refine x_putf (k := 6) (fs' := [.int f29_0, .int f29_1, .long f29_2, x2, f29_4, .int ((-1)), .int 1]) d_Blob_init_39 ck_Blob fk_Blob_37 (by decide) (Or.inl rfl) rfl (xset_eq (xset_eq h29)) (Nat.le_of_ble_eq_true rfl) rfl ?_
  exact x_vret d_Blob_init_42 rfl hQ
theorem b_ContentStore_digestOf_0 {x0 : Nat} {a1 : List Int32} (h1 : M[x0]? = some (cI a1)) (k : Xw l D ρ m_ContentStore_digestOf 6 [(0, .ref x0), (1, .long ((nI a1.length).toInt64)), (3, .int 0)] [] M d kc ks Q) : Xw l D ρ m_ContentStore_digestOf 0 [(0, .ref x0)] [] M d kc ks Q := by
  refine x_aload_n d_ContentStore_digestOf_0 rfl 0 rfl trivial ?_
  refine x_alenI d_ContentStore_digestOf_1 h1 ?_
  refine x_i2l d_ContentStore_digestOf_2 ?_
  refine x_lstore_n (i := 1) (L' := [(1, .long ((nI a1.length).toInt64)), (0, .ref x0)]) d_ContentStore_digestOf_3 rfl (Nat.le_of_ble_eq_true rfl) rfl ?_
  refine x_iconst (v := 0) d_ContentStore_digestOf_4 (by decide) ?_
  refine x_istore_n (i := 3) (L' := [(3, .int 0), (1, .long ((nI a1.length).toInt64)), (0, .ref x0)]) d_ContentStore_digestOf_5 rfl (Nat.le_of_ble_eq_true rfl) rfl ?_
  exact x_pick [2, 1, 0] rfl k
theorem b_ContentStore_digestOf_6 {x0 : Nat} {x1 : Int64} {x3 : Int32} {a8 : List Int32} (h8 : M[x0]? = some (cI a8)) (kt : (nI a8.length) ≤ x3 → Xw l D ρ m_ContentStore_digestOf 36 [(1, .long x1)] [] M d kc ks Q) (kf : ¬ (nI a8.length) ≤ x3 → Xw l D ρ m_ContentStore_digestOf 12 [(0, .ref x0), (1, .long x1), (3, .int x3)] [] M d kc ks Q) : Xw l D ρ m_ContentStore_digestOf 6 [(0, .ref x0), (1, .long x1), (3, .int x3)] [] M d kc ks Q := by
  refine x_iload_n d_ContentStore_digestOf_6 rfl 2 rfl ?_
  refine x_aload_n d_ContentStore_digestOf_7 rfl 0 rfl trivial ?_
  refine x_alenI d_ContentStore_digestOf_8 h8 ?_
  exact x_icmp_ge d_ContentStore_digestOf_9 (tgt := 36) (by decide) (fun c => x_pick [1] rfl (kt c)) (fun c => x_pick [0, 1, 2] rfl (kf c))
theorem b_ContentStore_digestOf_12 {x0 : Nat} {x1 : Int64} {x3 : Int32} {a15 : List Int32} {j15 : Nat} {v15 : Int32} (h15 : M[x0]? = some (cI a15)) (e15 : x3 = nI j15) (g15 : a15[j15]? = some v15) (b15 : a15.length ≤ 100000000) (k : Xw l D ρ m_ContentStore_digestOf 6 [(0, .ref x0), (1, .long (((x1 ^^^ v15.toInt64) * 1099511628211) ^^^ ((((x1 ^^^ v15.toInt64) * 1099511628211).toUInt64 >>> ((29 : Int32).toInt64.toUInt64 &&& Int64.toUInt64 63)).toInt64))), (3, .int (x3 + 1))] [] M d kc ks Q) : Xw l D ρ m_ContentStore_digestOf 12 [(0, .ref x0), (1, .long x1), (3, .int x3)] [] M d kc ks Q := by
  refine x_lload_n d_ContentStore_digestOf_12 rfl 1 rfl ?_
  refine x_aload_n d_ContentStore_digestOf_13 rfl 0 rfl trivial ?_
  refine x_iload_n d_ContentStore_digestOf_14 rfl 2 rfl ?_
  refine x_iald d_ContentStore_digestOf_15 e15 h15 g15 b15 ?_
  refine x_i2l d_ContentStore_digestOf_16 ?_
  refine x_lxor d_ContentStore_digestOf_17 ?_
  refine x_ldc2 (v := 1099511628211) kc_ContentStore_190 d_ContentStore_digestOf_18 ?_
  refine x_lmul d_ContentStore_digestOf_21 ?_
  refine x_lstore_n (i := 1) (L' := [(1, .long ((x1 ^^^ v15.toInt64) * 1099511628211)), (0, .ref x0), (3, .int x3)]) d_ContentStore_digestOf_22 rfl (Nat.le_of_ble_eq_true rfl) rfl ?_
  refine x_lload_n d_ContentStore_digestOf_23 rfl 0 rfl ?_
  refine x_lload_n d_ContentStore_digestOf_24 rfl 0 rfl ?_
  refine x_bipush (v := 29) d_ContentStore_digestOf_25 (by decide) ?_
  refine x_lushr d_ContentStore_digestOf_27 ?_
  refine x_lxor d_ContentStore_digestOf_28 ?_
  refine x_lstore_n (i := 1) (L' := [(1, .long (((x1 ^^^ v15.toInt64) * 1099511628211) ^^^ ((((x1 ^^^ v15.toInt64) * 1099511628211).toUInt64 >>> ((29 : Int32).toInt64.toUInt64 &&& Int64.toUInt64 63)).toInt64))), (0, .ref x0), (3, .int x3)]) d_ContentStore_digestOf_29 rfl (Nat.le_of_ble_eq_true rfl) rfl ?_
  refine x_iinc (v := x3 + 1) (L' := [(3, .int (x3 + 1)), (1, .long (((x1 ^^^ v15.toInt64) * 1099511628211) ^^^ ((((x1 ^^^ v15.toInt64) * 1099511628211).toUInt64 >>> ((29 : Int32).toInt64.toUInt64 &&& Int64.toUInt64 63)).toInt64))), (0, .ref x0)]) d_ContentStore_digestOf_30 2 rfl (by rfl) (Nat.le_of_ble_eq_true rfl) rfl ?_
  exact x_goto d_ContentStore_digestOf_33 (tgt := 6) (by decide) (x_pick [2, 1, 0] rfl k)
theorem b_ContentStore_digestOf_36 {x1 : Int64} (hQ : Q (some (.long x1)) M)  : Xw l D ρ m_ContentStore_digestOf 36 [(1, .long x1)] [] M d kc ks Q := by
  refine x_lload_n d_ContentStore_digestOf_36 rfl 0 rfl ?_
  exact x_lret d_ContentStore_digestOf_37 rfl hQ
theorem b_ContentStore_there_0 {x0 : Nat} {x1 : Int32} {cd1 : Nat} {ckc1 : Nat} {cks1 : Nat} {ckc2 : Nat} {cks2 : Nat} {Q1 : Option Value → List xCl → Prop} {fr_0 : Value} {fr_1 : Value} {fr_2 : Value} {fr_3 : Value} {fr_4 : Int32} {fr_5 : Int32} {fr_6 : Int32} {fr_7 : Int32} (hdp : cd1 + 1 ≤ d) (hkc : ckc1 + ckc2 ≤ kc) (hks : cks1 + cks2 ≤ ks) (hr : M[x0]? = some (cO 0 [fr_0, fr_1, fr_2, fr_3, .int fr_4, .int fr_5, .int fr_6, .int fr_7])) (kz : Xw l D ρ m_ContentStore_blobAt 0 [(0, .ref x0), (1, .int x1)] [] M cd1 ckc1 cks1 Q1) (kk : ∀ r N, Q1 r N → Xw l D ρ m_ContentStore_there 5 [] (r.toList ++ []) N d ckc2 cks2 Q) : Xw l D ρ m_ContentStore_there 0 [(0, .ref x0), (1, .int x1)] [] M d kc ks Q := by
  refine x_aload_n d_ContentStore_there_0 rfl 0 rfl trivial ?_
  refine x_iload_n d_ContentStore_there_1 rfl 1 rfl ?_
  exact x_pick [] rfl (x_callV (As := [.int x1]) (st := []) (host := "") d_ContentStore_there_2 rfl mk_ContentStore_blobAt mi_ContentStore_blobAt mv_ContentStore_blobAt (Or.inl kl_ContentStore_86) rfl (Nat.le_of_ble_eq_true rfl) (Nat.le_of_ble_eq_true rfl) ck_ContentStore hr hdp hkc hks rfl kz kk)
theorem b_ContentStore_there_5 {s0 : Nat}  (k : Xw l D ρ m_ContentStore_there 8 [] [] M d kc ks Q) : Xw l D ρ m_ContentStore_there 5 [] [.ref s0] M d kc ks Q := by
  exact x_ifnull_r d_ContentStore_there_5 (x_pick [] rfl k)
theorem b_ContentStore_there_5_z   (k : Xw l D ρ m_ContentStore_there 12 [] [] M d kc ks Q) : Xw l D ρ m_ContentStore_there 5 [] [.null] M d kc ks Q := by
  exact x_ifnull_z d_ContentStore_there_5 (tgt := 12) (by decide) (x_pick [] rfl k)
theorem b_ContentStore_there_8   (k : Xw l D ρ m_ContentStore_there 13 [] [.int 1] M d kc ks Q) : Xw l D ρ m_ContentStore_there 8 [] [] M d kc ks Q := by
  refine x_iconst (v := 1) d_ContentStore_there_8 (by decide) ?_
  exact x_goto d_ContentStore_there_9 (tgt := 13) (by decide) (x_pick [] rfl k)
theorem b_ContentStore_there_12   (k : Xw l D ρ m_ContentStore_there 13 [] [.int 0] M d kc ks Q) : Xw l D ρ m_ContentStore_there 12 [] [] M d kc ks Q := by
  refine x_iconst (v := 0) d_ContentStore_there_12 (by decide) ?_
  exact x_pick [] rfl k
theorem b_ContentStore_there_13 {s0 : Int32} (hQ : Q (some (.int s0)) M) (hn : narrow .boolean (.int s0) = .int s0)  : Xw l D ρ m_ContentStore_there 13 [] [.int s0] M d kc ks Q := by
  exact x_iret d_ContentStore_there_13 rfl hn hQ
theorem b_ContentStore_digest_0 {x0 : Nat} {x1 : Int32} {cd1 : Nat} {ckc1 : Nat} {cks1 : Nat} {ckc2 : Nat} {cks2 : Nat} {Q1 : Option Value → List xCl → Prop} {fr_0 : Value} {fr_1 : Value} {fr_2 : Value} {fr_3 : Value} {fr_4 : Int32} {fr_5 : Int32} {fr_6 : Int32} {fr_7 : Int32} (hdp : cd1 + 1 ≤ d) (hkc : ckc1 + ckc2 ≤ kc) (hks : cks1 + cks2 ≤ ks) (hr : M[x0]? = some (cO 0 [fr_0, fr_1, fr_2, fr_3, .int fr_4, .int fr_5, .int fr_6, .int fr_7])) (kz : Xw l D ρ m_ContentStore_blobAt 0 [(0, .ref x0), (1, .int x1)] [] M cd1 ckc1 cks1 Q1) (kk : ∀ r N, Q1 r N → Xw l D ρ m_ContentStore_digest 5 [] (r.toList ++ []) N d ckc2 cks2 Q) : Xw l D ρ m_ContentStore_digest 0 [(0, .ref x0), (1, .int x1)] [] M d kc ks Q := by
  refine x_aload_n d_ContentStore_digest_0 rfl 0 rfl trivial ?_
  refine x_iload_n d_ContentStore_digest_1 rfl 1 rfl ?_
  exact x_pick [] rfl (x_callV (As := [.int x1]) (st := []) (host := "") d_ContentStore_digest_2 rfl mk_ContentStore_blobAt mi_ContentStore_blobAt mv_ContentStore_blobAt (Or.inl kl_ContentStore_86) rfl (Nat.le_of_ble_eq_true rfl) (Nat.le_of_ble_eq_true rfl) ck_ContentStore hr hdp hkc hks rfl kz kk)
theorem b_ContentStore_digest_5 {s0 : Nat}  (k : Xw l D ρ m_ContentStore_digest 14 [(2, .ref s0)] [] M d kc ks Q) : Xw l D ρ m_ContentStore_digest 5 [] [.ref s0] M d kc ks Q := by
  refine x_astore_n (i := 2) (L' := [(2, .ref s0)]) d_ContentStore_digest_5 rfl (Nat.le_of_ble_eq_true rfl) trivial rfl ?_
  refine x_aload_n d_ContentStore_digest_6 rfl 0 rfl trivial ?_
  exact x_ifnonnull_r d_ContentStore_digest_7 (tgt := 14) (by decide) (x_pick [0] rfl k)
theorem b_ContentStore_digest_5_z   (k : Xw l D ρ m_ContentStore_digest 10 [] [] M d kc ks Q) : Xw l D ρ m_ContentStore_digest 5 [] [.null] M d kc ks Q := by
  refine x_astore_n (i := 2) (L' := [(2, .null)]) d_ContentStore_digest_5 rfl (Nat.le_of_ble_eq_true rfl) trivial rfl ?_
  refine x_aload_n d_ContentStore_digest_6 rfl 0 rfl trivial ?_
  exact x_ifnonnull_z d_ContentStore_digest_7 (x_pick [] rfl k)
theorem b_ContentStore_digest_10   (k : Xw l D ρ m_ContentStore_digest 18 [] [.long 0] M d kc ks Q) : Xw l D ρ m_ContentStore_digest 10 [] [] M d kc ks Q := by
  refine x_lconst (v := 0) d_ContentStore_digest_10 (by decide) ?_
  exact x_goto d_ContentStore_digest_11 (tgt := 18) (by decide) (x_pick [] rfl k)
theorem b_ContentStore_digest_14 {x2 : Nat} {f15_0 : Int32} {f15_1 : Int32} {f15_2 : Int64} {f15_3 : Value} {f15_4 : Value} {f15_5 : Int32} {f15_6 : Int32} (h15 : M[x2]? = some (cO 4 [.int f15_0, .int f15_1, .long f15_2, f15_3, f15_4, .int f15_5, .int f15_6])) (k : Xw l D ρ m_ContentStore_digest 18 [] [.long f15_2] M d kc ks Q) : Xw l D ρ m_ContentStore_digest 14 [(2, .ref x2)] [] M d kc ks Q := by
  refine x_aload_n d_ContentStore_digest_14 rfl 0 rfl trivial ?_
  refine x_getf (k := 2) d_ContentStore_digest_15 ck_Blob fk_ContentStore_90 (by decide) h15 rfl ?_
  exact x_pick [] rfl k
theorem b_ContentStore_digest_18 {s0 : Int64} (hQ : Q (some (.long s0)) M)  : Xw l D ρ m_ContentStore_digest 18 [] [.long s0] M d kc ks Q := by
  exact x_lret d_ContentStore_digest_18 rfl hQ
theorem b_ContentStore_size_0 {x0 : Nat} {x1 : Int32} {cd1 : Nat} {ckc1 : Nat} {cks1 : Nat} {ckc2 : Nat} {cks2 : Nat} {Q1 : Option Value → List xCl → Prop} {fr_0 : Value} {fr_1 : Value} {fr_2 : Value} {fr_3 : Value} {fr_4 : Int32} {fr_5 : Int32} {fr_6 : Int32} {fr_7 : Int32} (hdp : cd1 + 1 ≤ d) (hkc : ckc1 + ckc2 ≤ kc) (hks : cks1 + cks2 ≤ ks) (hr : M[x0]? = some (cO 0 [fr_0, fr_1, fr_2, fr_3, .int fr_4, .int fr_5, .int fr_6, .int fr_7])) (kz : Xw l D ρ m_ContentStore_blobAt 0 [(0, .ref x0), (1, .int x1)] [] M cd1 ckc1 cks1 Q1) (kk : ∀ r N, Q1 r N → Xw l D ρ m_ContentStore_size 5 [] (r.toList ++ []) N d ckc2 cks2 Q) : Xw l D ρ m_ContentStore_size 0 [(0, .ref x0), (1, .int x1)] [] M d kc ks Q := by
  refine x_aload_n d_ContentStore_size_0 rfl 0 rfl trivial ?_
  refine x_iload_n d_ContentStore_size_1 rfl 1 rfl ?_
  exact x_pick [] rfl (x_callV (As := [.int x1]) (st := []) (host := "") d_ContentStore_size_2 rfl mk_ContentStore_blobAt mi_ContentStore_blobAt mv_ContentStore_blobAt (Or.inl kl_ContentStore_86) rfl (Nat.le_of_ble_eq_true rfl) (Nat.le_of_ble_eq_true rfl) ck_ContentStore hr hdp hkc hks rfl kz kk)
theorem b_ContentStore_size_5 {s0 : Nat}  (k : Xw l D ρ m_ContentStore_size 14 [(2, .ref s0)] [] M d kc ks Q) : Xw l D ρ m_ContentStore_size 5 [] [.ref s0] M d kc ks Q := by
  refine x_astore_n (i := 2) (L' := [(2, .ref s0)]) d_ContentStore_size_5 rfl (Nat.le_of_ble_eq_true rfl) trivial rfl ?_
  refine x_aload_n d_ContentStore_size_6 rfl 0 rfl trivial ?_
  exact x_ifnonnull_r d_ContentStore_size_7 (tgt := 14) (by decide) (x_pick [0] rfl k)
theorem b_ContentStore_size_5_z   (k : Xw l D ρ m_ContentStore_size 10 [] [] M d kc ks Q) : Xw l D ρ m_ContentStore_size 5 [] [.null] M d kc ks Q := by
  refine x_astore_n (i := 2) (L' := [(2, .null)]) d_ContentStore_size_5 rfl (Nat.le_of_ble_eq_true rfl) trivial rfl ?_
  refine x_aload_n d_ContentStore_size_6 rfl 0 rfl trivial ?_
  exact x_ifnonnull_z d_ContentStore_size_7 (x_pick [] rfl k)
theorem b_ContentStore_size_10   (k : Xw l D ρ m_ContentStore_size 18 [] [.int ((-1))] M d kc ks Q) : Xw l D ρ m_ContentStore_size 10 [] [] M d kc ks Q := by
  refine x_iconst (v := (-1)) d_ContentStore_size_10 (by decide) ?_
  exact x_goto d_ContentStore_size_11 (tgt := 18) (by decide) (x_pick [] rfl k)
theorem b_ContentStore_size_14 {x2 : Nat} {f15_0 : Int32} {f15_1 : Int32} {f15_2 : Int64} {f15_3 : Value} {f15_4 : Value} {f15_5 : Int32} {f15_6 : Int32} (h15 : M[x2]? = some (cO 4 [.int f15_0, .int f15_1, .long f15_2, f15_3, f15_4, .int f15_5, .int f15_6])) (k : Xw l D ρ m_ContentStore_size 18 [] [.int f15_0] M d kc ks Q) : Xw l D ρ m_ContentStore_size 14 [(2, .ref x2)] [] M d kc ks Q := by
  refine x_aload_n d_ContentStore_size_14 rfl 0 rfl trivial ?_
  refine x_getf (k := 0) d_ContentStore_size_15 ck_Blob fk_ContentStore_94 (by decide) h15 rfl ?_
  exact x_pick [] rfl k
theorem b_ContentStore_size_18 {s0 : Int32} (hQ : Q (some (.int s0)) M)  : Xw l D ρ m_ContentStore_size 18 [] [.int s0] M d kc ks Q := by
  exact x_iret d_ContentStore_size_18 rfl rfl hQ
theorem b_ContentStore_get_0 {x0 : Nat} {x1 : Int32} {x2 : Int32} {cd1 : Nat} {ckc1 : Nat} {cks1 : Nat} {ckc2 : Nat} {cks2 : Nat} {Q1 : Option Value → List xCl → Prop} {fr_0 : Value} {fr_1 : Value} {fr_2 : Value} {fr_3 : Value} {fr_4 : Int32} {fr_5 : Int32} {fr_6 : Int32} {fr_7 : Int32} (hdp : cd1 + 1 ≤ d) (hkc : ckc1 + ckc2 ≤ kc) (hks : cks1 + cks2 ≤ ks) (hr : M[x0]? = some (cO 0 [fr_0, fr_1, fr_2, fr_3, .int fr_4, .int fr_5, .int fr_6, .int fr_7])) (kz : Xw l D ρ m_ContentStore_blobAt 0 [(0, .ref x0), (1, .int x1)] [] M cd1 ckc1 cks1 Q1) (kk : ∀ r N, Q1 r N → Xw l D ρ m_ContentStore_get 5 [(2, .int x2)] (r.toList ++ []) N d ckc2 cks2 Q) : Xw l D ρ m_ContentStore_get 0 [(0, .ref x0), (1, .int x1), (2, .int x2)] [] M d kc ks Q := by
  refine x_aload_n d_ContentStore_get_0 rfl 0 rfl trivial ?_
  refine x_iload_n d_ContentStore_get_1 rfl 1 rfl ?_
  exact x_pick [2] rfl (x_callV (As := [.int x1]) (st := []) (host := "") d_ContentStore_get_2 rfl mk_ContentStore_blobAt mi_ContentStore_blobAt mv_ContentStore_blobAt (Or.inl kl_ContentStore_86) rfl (Nat.le_of_ble_eq_true rfl) (Nat.le_of_ble_eq_true rfl) ck_ContentStore hr hdp hkc hks rfl kz kk)
theorem b_ContentStore_get_5 {x2 : Int32} {s0 : Nat}  (k : Xw l D ρ m_ContentStore_get 14 [(2, .int x2), (3, .ref s0)] [] M d kc ks Q) : Xw l D ρ m_ContentStore_get 5 [(2, .int x2)] [.ref s0] M d kc ks Q := by
  refine x_astore_n (i := 3) (L' := [(3, .ref s0), (2, .int x2)]) d_ContentStore_get_5 rfl (Nat.le_of_ble_eq_true rfl) trivial rfl ?_
  refine x_aload_n d_ContentStore_get_6 rfl 0 rfl trivial ?_
  exact x_ifnonnull_r d_ContentStore_get_7 (tgt := 14) (by decide) (x_pick [1, 0] rfl k)
theorem b_ContentStore_get_5_z {x2 : Int32}  (k : Xw l D ρ m_ContentStore_get 10 [(2, .int x2), (3, .null)] [] M d kc ks Q) : Xw l D ρ m_ContentStore_get 5 [(2, .int x2)] [.null] M d kc ks Q := by
  refine x_astore_n (i := 3) (L' := [(3, .null), (2, .int x2)]) d_ContentStore_get_5 rfl (Nat.le_of_ble_eq_true rfl) trivial rfl ?_
  refine x_aload_n d_ContentStore_get_6 rfl 0 rfl trivial ?_
  exact x_ifnonnull_z d_ContentStore_get_7 (x_pick [1, 0] rfl k)
theorem b_ContentStore_get_10 {x2 : Int32} {x3 : Value}  (k : Xw l D ρ m_ContentStore_get 19 [(2, .int x2), (3, x3)] [.null] M d kc ks Q) : Xw l D ρ m_ContentStore_get 10 [(2, .int x2), (3, x3)] [] M d kc ks Q := by
  refine x_null d_ContentStore_get_10 ?_
  exact x_goto d_ContentStore_get_11 (tgt := 19) (by decide) (x_pick [0, 1] rfl k)
theorem b_ContentStore_get_14 {x2 : Int32} {x3 : Nat} {cd1 : Nat} {ckc1 : Nat} {cks1 : Nat} {ckc2 : Nat} {cks2 : Nat} {Q1 : Option Value → List xCl → Prop} {fr_0 : Int32} {fr_1 : Int32} {fr_2 : Int64} {fr_3 : Value} {fr_4 : Value} {fr_5 : Int32} {fr_6 : Int32} (hdp : cd1 + 1 ≤ d) (hkc : ckc1 + ckc2 ≤ kc) (hks : cks1 + cks2 ≤ ks) (hr : M[x3]? = some (cO 4 [.int fr_0, .int fr_1, .long fr_2, fr_3, fr_4, .int fr_5, .int fr_6])) (kz : Xw l D ρ m_Blob_partOf 0 [(0, .ref x3), (1, .int x2)] [] M cd1 ckc1 cks1 Q1) (kk : ∀ r N, Q1 r N → Xw l D ρ m_ContentStore_get 19 [(2, .int x2), (3, .ref x3)] (r.toList ++ []) N d ckc2 cks2 Q) : Xw l D ρ m_ContentStore_get 14 [(2, .int x2), (3, .ref x3)] [] M d kc ks Q := by
  refine x_aload_n d_ContentStore_get_14 rfl 1 rfl trivial ?_
  refine x_iload_n d_ContentStore_get_15 rfl 0 rfl ?_
  exact x_pick [0, 1] rfl (x_callV (As := [.int x2]) (st := []) (host := "") d_ContentStore_get_16 rfl mk_Blob_partOf mi_Blob_partOf mv_Blob_partOf (Or.inl kl_ContentStore_97) rfl (Nat.le_of_ble_eq_true rfl) (Nat.le_of_ble_eq_true rfl) ck_Blob hr hdp hkc hks rfl kz kk)
theorem b_ContentStore_get_19 {x2 : Int32} {x3 : Value} {s0 : Nat} (h_x3 : xrf x3) (k : Xw l D ρ m_ContentStore_get 28 [(2, .int x2), (3, x3), (4, .ref s0)] [] M d kc ks Q) : Xw l D ρ m_ContentStore_get 19 [(2, .int x2), (3, x3)] [.ref s0] M d kc ks Q := by
  refine x_astore (i := 4) (L' := [(4, .ref s0), (2, .int x2), (3, x3)]) d_ContentStore_get_19 (Nat.le_of_ble_eq_true rfl) trivial (by simp [xrf_cat h_x3]) ?_
  refine x_aload d_ContentStore_get_21 0 rfl trivial ?_
  exact x_ifnonnull_r d_ContentStore_get_23 (tgt := 28) (by decide) (x_pick [1, 2, 0] rfl k)
theorem b_ContentStore_get_19_z {x2 : Int32} {x3 : Value} (h_x3 : xrf x3) (k : Xw l D ρ m_ContentStore_get 26 [] [] M d kc ks Q) : Xw l D ρ m_ContentStore_get 19 [(2, .int x2), (3, x3)] [.null] M d kc ks Q := by
  refine x_astore (i := 4) (L' := [(4, .null), (2, .int x2), (3, x3)]) d_ContentStore_get_19 (Nat.le_of_ble_eq_true rfl) trivial (by simp [xrf_cat h_x3]) ?_
  refine x_aload d_ContentStore_get_21 0 rfl trivial ?_
  exact x_ifnonnull_z d_ContentStore_get_23 (x_pick [] rfl k)
theorem b_ContentStore_get_26  (hQ : Q (some (.int ((-1)))) M)  : Xw l D ρ m_ContentStore_get 26 [] [] M d kc ks Q := by
  refine x_iconst (v := (-1)) d_ContentStore_get_26 (by decide) ?_
  exact x_iret d_ContentStore_get_27 rfl rfl hQ
theorem b_ContentStore_get_28 {x2 : Int32} {x3 : Nat} {x4 : Value} {cd1 : Nat} {ckc1 : Nat} {cks1 : Nat} {ckc2 : Nat} {cks2 : Nat} {Q1 : Option Value → List xCl → Prop} {fr_0 : Int32} {fr_1 : Int32} {fr_2 : Int64} {fr_3 : Value} {fr_4 : Value} {fr_5 : Int32} {fr_6 : Int32} (hdp : cd1 + 1 ≤ d) (hkc : ckc1 + ckc2 ≤ kc) (hks : cks1 + cks2 ≤ ks) (hr : M[x3]? = some (cO 4 [.int fr_0, .int fr_1, .long fr_2, fr_3, fr_4, .int fr_5, .int fr_6])) (kz : Xw l D ρ m_Blob_isSound 0 [(0, .ref x3)] [] M cd1 ckc1 cks1 Q1) (kk : ∀ r N, Q1 r N → Xw l D ρ m_ContentStore_get 32 [(2, .int x2), (4, x4)] (r.toList ++ []) N d ckc2 cks2 Q) : Xw l D ρ m_ContentStore_get 28 [(2, .int x2), (3, .ref x3), (4, x4)] [] M d kc ks Q := by
  refine x_aload_n d_ContentStore_get_28 rfl 1 rfl trivial ?_
  exact x_pick [0, 2] rfl (x_callV (As := []) (st := []) (host := "") d_ContentStore_get_29 rfl mk_Blob_isSound mi_Blob_isSound mv_Blob_isSound (Or.inl kl_ContentStore_101) rfl (Nat.le_of_ble_eq_true rfl) (Nat.le_of_ble_eq_true rfl) ck_Blob hr hdp hkc hks rfl kz kk)
theorem b_ContentStore_get_32 {x2 : Int32} {x4 : Value} {s0 : Int32}  (kt : s0 = 0 → Xw l D ρ m_ContentStore_get 47 [] [] M d kc ks Q) (kf : ¬ s0 = 0 → Xw l D ρ m_ContentStore_get 35 [(2, .int x2), (4, x4)] [] M d kc ks Q) : Xw l D ρ m_ContentStore_get 32 [(2, .int x2), (4, x4)] [.int s0] M d kc ks Q := by
  exact x_if_eq d_ContentStore_get_32 (tgt := 47) (by decide) (fun c => x_pick [] rfl (kt c)) (fun c => x_pick [0, 1] rfl (kf c))
theorem b_ContentStore_get_35 {x2 : Int32} {x4 : Nat} {cd1 : Nat} {ckc1 : Nat} {cks1 : Nat} {ckc2 : Nat} {cks2 : Nat} {Q1 : Option Value → List xCl → Prop} {fr_0 : Value} {fr_1 : Int32} (hdp : cd1 + 1 ≤ d) (hkc : ckc1 + ckc2 ≤ kc) (hks : cks1 + cks2 ≤ ks) (hr : M[x4]? = some (cO 5 [fr_0, .int fr_1])) (kz : Xw l D ρ m_Part_byteAt 0 [(0, .ref x4), (1, .int (x2 - x2 / 16 * 16))] [] M cd1 ckc1 cks1 Q1) (kk : ∀ r N, Q1 r N → Xw l D ρ m_ContentStore_get 44 [] (r.toList ++ []) N d ckc2 cks2 Q) : Xw l D ρ m_ContentStore_get 35 [(2, .int x2), (4, .ref x4)] [] M d kc ks Q := by
  refine x_aload d_ContentStore_get_35 1 rfl trivial ?_
  refine x_iload_n d_ContentStore_get_37 rfl 0 rfl ?_
  refine x_bipush (v := 16) d_ContentStore_get_38 (by decide) ?_
  refine x_irem d_ContentStore_get_40 (by decide) ?_
  exact x_pick [] rfl (x_callV (As := [.int (x2 - x2 / 16 * 16)]) (st := []) (host := "") d_ContentStore_get_41 rfl mk_Part_byteAt mi_Part_byteAt mv_Part_byteAt (Or.inl kl_ContentStore_104) rfl (Nat.le_of_ble_eq_true rfl) (Nat.le_of_ble_eq_true rfl) ck_Part hr hdp hkc hks rfl kz kk)
theorem b_ContentStore_get_44 {s0 : Int32}  (k : Xw l D ρ m_ContentStore_get 49 [] [.int s0] M d kc ks Q) : Xw l D ρ m_ContentStore_get 44 [] [.int s0] M d kc ks Q := by
  exact x_goto d_ContentStore_get_44 (tgt := 49) (by decide) (x_pick [] rfl k)
theorem b_ContentStore_get_47   (k : Xw l D ρ m_ContentStore_get 49 [] [.int ((-2))] M d kc ks Q) : Xw l D ρ m_ContentStore_get 47 [] [] M d kc ks Q := by
  refine x_bipush (v := (-2)) d_ContentStore_get_47 (by decide) ?_
  exact x_pick [] rfl k
theorem b_ContentStore_get_49 {s0 : Int32} (hQ : Q (some (.int s0)) M)  : Xw l D ρ m_ContentStore_get 49 [] [.int s0] M d kc ks Q := by
  exact x_iret d_ContentStore_get_49 rfl rfl hQ
theorem b_Blob_partOf_0 {x0 : Value} {x1 : Int32}  (kt : x1 < 0 → Xw l D ρ m_Blob_partOf 26 [] [] M d kc ks Q) (kf : ¬ x1 < 0 → Xw l D ρ m_Blob_partOf 9 [(0, x0), (1, .int x1), (2, .int (x1 / 16))] [] M d kc ks Q) : Xw l D ρ m_Blob_partOf 0 [(0, x0), (1, .int x1)] [] M d kc ks Q := by
  refine x_iload_n d_Blob_partOf_0 rfl 1 rfl ?_
  refine x_bipush (v := 16) d_Blob_partOf_1 (by decide) ?_
  refine x_idiv d_Blob_partOf_3 (by decide) ?_
  refine x_istore_n (i := 2) (L' := [(2, .int (x1 / 16)), (0, x0), (1, .int x1)]) d_Blob_partOf_4 rfl (Nat.le_of_ble_eq_true rfl) rfl ?_
  refine x_iload_n d_Blob_partOf_5 rfl 2 rfl ?_
  exact x_if_lt d_Blob_partOf_6 (tgt := 26) (by decide) (fun c => x_pick [] rfl (kt c)) (fun c => x_pick [1, 2, 0] rfl (kf c))
theorem b_Blob_partOf_9 {x0 : Nat} {x1 : Int32} {x2 : Int32} {f11_0 : Int32} {f11_1 : Int32} {f11_2 : Int64} {f11_3 : Value} {f11_4 : Value} {f11_5 : Int32} {f11_6 : Int32} (h11 : M[x0]? = some (cO 4 [.int f11_0, .int f11_1, .long f11_2, f11_3, f11_4, .int f11_5, .int f11_6])) (kt : f11_0 ≤ x1 → Xw l D ρ m_Blob_partOf 26 [] [] M d kc ks Q) (kf : ¬ f11_0 ≤ x1 → Xw l D ρ m_Blob_partOf 17 [(0, .ref x0), (2, .int x2)] [] M d kc ks Q) : Xw l D ρ m_Blob_partOf 9 [(0, .ref x0), (1, .int x1), (2, .int x2)] [] M d kc ks Q := by
  refine x_iload_n d_Blob_partOf_9 rfl 1 rfl ?_
  refine x_aload_n d_Blob_partOf_10 rfl 0 rfl trivial ?_
  refine x_getf (k := 0) d_Blob_partOf_11 ck_Blob fk_Blob_9 (by decide) h11 rfl ?_
  exact x_icmp_ge d_Blob_partOf_14 (tgt := 26) (by decide) (fun c => x_pick [] rfl (kt c)) (fun c => x_pick [0, 2] rfl (kf c))
theorem b_Blob_partOf_17 {x0 : Nat} {x2 : Int32} {f19_0 : Int32} {f19_1 : Int32} {f19_2 : Int64} {f19_3 : Nat} {f19_4 : Value} {f19_5 : Int32} {f19_6 : Int32} {a22 : List (Option Nat)} (h19 : M[x0]? = some (cO 4 [.int f19_0, .int f19_1, .long f19_2, .ref f19_3, f19_4, .int f19_5, .int f19_6])) (h22 : M[f19_3]? = some (cR 2 a22)) (kt : x2 < (nI a22.length) → Xw l D ρ m_Blob_partOf 30 [(0, .ref x0), (2, .int x2)] [] M d kc ks Q) (kf : ¬ x2 < (nI a22.length) → Xw l D ρ m_Blob_partOf 26 [] [] M d kc ks Q) : Xw l D ρ m_Blob_partOf 17 [(0, .ref x0), (2, .int x2)] [] M d kc ks Q := by
  refine x_iload_n d_Blob_partOf_17 rfl 1 rfl ?_
  refine x_aload_n d_Blob_partOf_18 rfl 0 rfl trivial ?_
  refine x_getf (k := 3) d_Blob_partOf_19 ck_Blob fk_Blob_30 (by decide) h19 rfl ?_
  refine x_alenR d_Blob_partOf_22 h22 ?_
  exact x_icmp_lt d_Blob_partOf_23 (tgt := 30) (by decide) (fun c => x_pick [0, 1] rfl (kt c)) (fun c => x_pick [] rfl (kf c))
theorem b_Blob_partOf_26   (k : Xw l D ρ m_Blob_partOf 36 [] [.null] M d kc ks Q) : Xw l D ρ m_Blob_partOf 26 [] [] M d kc ks Q := by
  refine x_null d_Blob_partOf_26 ?_
  exact x_goto d_Blob_partOf_27 (tgt := 36) (by decide) (x_pick [] rfl k)
theorem b_Blob_partOf_30 {x0 : Nat} {x2 : Int32} {f31_0 : Int32} {f31_1 : Int32} {f31_2 : Int64} {f31_3 : Nat} {f31_4 : Value} {f31_5 : Int32} {f31_6 : Int32} {a35 : List (Option Nat)} {j35 : Nat} {o35 : Option Nat} (h31 : M[x0]? = some (cO 4 [.int f31_0, .int f31_1, .long f31_2, .ref f31_3, f31_4, .int f31_5, .int f31_6])) (h35 : M[f31_3]? = some (cR 2 a35)) (e35 : x2 = nI j35) (b35 : a35.length ≤ 100000000) (g35 : a35[j35]? = some o35) (k : Xw l D ρ m_Blob_partOf 36 [] [xrv o35] M d kc ks Q) : Xw l D ρ m_Blob_partOf 30 [(0, .ref x0), (2, .int x2)] [] M d kc ks Q := by
  refine x_aload_n d_Blob_partOf_30 rfl 0 rfl trivial ?_
  refine x_getf (k := 3) d_Blob_partOf_31 ck_Blob fk_Blob_30 (by decide) h31 rfl ?_
  refine x_iload_n d_Blob_partOf_34 rfl 1 rfl ?_
  refine x_aald d_Blob_partOf_35 e35 h35 g35 b35 ?_
  exact x_pick [] rfl k
theorem b_Blob_partOf_36 {s0 : Value} (h_s0 : xrf s0) (hQ : Q (some (s0)) M)  : Xw l D ρ m_Blob_partOf 36 [] [s0] M d kc ks Q := by
  exact x_aret h_s0 d_Blob_partOf_36 rfl (Or.inl ⟨_, rfl⟩) hQ
theorem b_Part_byteAt_0 {x0 : Value} {x1 : Int32}  (kt : x1 < 0 → Xw l D ρ m_Part_byteAt 13 [] [] M d kc ks Q) (kf : ¬ x1 < 0 → Xw l D ρ m_Part_byteAt 4 [(0, x0), (1, .int x1)] [] M d kc ks Q) : Xw l D ρ m_Part_byteAt 0 [(0, x0), (1, .int x1)] [] M d kc ks Q := by
  refine x_iload_n d_Part_byteAt_0 rfl 1 rfl ?_
  exact x_if_lt d_Part_byteAt_1 (tgt := 13) (by decide) (fun c => x_pick [] rfl (kt c)) (fun c => x_pick [0, 1] rfl (kf c))
theorem b_Part_byteAt_4 {x0 : Nat} {x1 : Int32} {f6_0 : Nat} {f6_1 : Int32} {a9 : List Int32} (h6 : M[x0]? = some (cO 5 [.ref f6_0, .int f6_1])) (h9 : M[f6_0]? = some (cI a9)) (kt : x1 < (nI a9.length) → Xw l D ρ m_Part_byteAt 17 [(0, .ref x0), (1, .int x1)] [] M d kc ks Q) (kf : ¬ x1 < (nI a9.length) → Xw l D ρ m_Part_byteAt 13 [] [] M d kc ks Q) : Xw l D ρ m_Part_byteAt 4 [(0, .ref x0), (1, .int x1)] [] M d kc ks Q := by
  refine x_iload_n d_Part_byteAt_4 rfl 1 rfl ?_
  refine x_aload_n d_Part_byteAt_5 rfl 0 rfl trivial ?_
  refine x_getf (k := 0) d_Part_byteAt_6 ck_Part fk_Part_13 (by decide) h6 rfl ?_
  refine x_alenI d_Part_byteAt_9 h9 ?_
  exact x_icmp_lt d_Part_byteAt_10 (tgt := 17) (by decide) (fun c => x_pick [0, 1] rfl (kt c)) (fun c => x_pick [] rfl (kf c))
theorem b_Part_byteAt_13   (k : Xw l D ρ m_Part_byteAt 23 [] [.int ((-1))] M d kc ks Q) : Xw l D ρ m_Part_byteAt 13 [] [] M d kc ks Q := by
  refine x_iconst (v := (-1)) d_Part_byteAt_13 (by decide) ?_
  exact x_goto d_Part_byteAt_14 (tgt := 23) (by decide) (x_pick [] rfl k)
theorem b_Part_byteAt_17 {x0 : Nat} {x1 : Int32} {f18_0 : Nat} {f18_1 : Int32} {a22 : List Int32} {j22 : Nat} {v22 : Int32} (h18 : M[x0]? = some (cO 5 [.ref f18_0, .int f18_1])) (h22 : M[f18_0]? = some (cI a22)) (e22 : x1 = nI j22) (g22 : a22[j22]? = some v22) (b22 : a22.length ≤ 100000000) (k : Xw l D ρ m_Part_byteAt 23 [] [.int v22] M d kc ks Q) : Xw l D ρ m_Part_byteAt 17 [(0, .ref x0), (1, .int x1)] [] M d kc ks Q := by
  refine x_aload_n d_Part_byteAt_17 rfl 0 rfl trivial ?_
  refine x_getf (k := 0) d_Part_byteAt_18 ck_Part fk_Part_13 (by decide) h18 rfl ?_
  refine x_iload_n d_Part_byteAt_21 rfl 1 rfl ?_
  refine x_iald d_Part_byteAt_22 e22 h22 g22 b22 ?_
  exact x_pick [] rfl k
theorem b_Part_byteAt_23 {s0 : Int32} (hQ : Q (some (.int s0)) M)  : Xw l D ρ m_Part_byteAt 23 [] [.int s0] M d kc ks Q := by
  exact x_iret d_Part_byteAt_23 rfl rfl hQ
theorem b_ContentStore_poison_0 {x0 : Nat} {x1 : Int32} {x2 : Int32} {x3 : Int32} {cd1 : Nat} {ckc1 : Nat} {cks1 : Nat} {ckc2 : Nat} {cks2 : Nat} {Q1 : Option Value → List xCl → Prop} {fr_0 : Value} {fr_1 : Value} {fr_2 : Value} {fr_3 : Value} {fr_4 : Int32} {fr_5 : Int32} {fr_6 : Int32} {fr_7 : Int32} (hdp : cd1 + 1 ≤ d) (hkc : ckc1 + ckc2 ≤ kc) (hks : cks1 + cks2 ≤ ks) (hr : M[x0]? = some (cO 0 [fr_0, fr_1, fr_2, fr_3, .int fr_4, .int fr_5, .int fr_6, .int fr_7])) (kz : Xw l D ρ m_ContentStore_blobAt 0 [(0, .ref x0), (1, .int x1)] [] M cd1 ckc1 cks1 Q1) (kk : ∀ r N, Q1 r N → Xw l D ρ m_ContentStore_poison 5 [(2, .int x2), (3, .int x3)] (r.toList ++ []) N d ckc2 cks2 Q) : Xw l D ρ m_ContentStore_poison 0 [(0, .ref x0), (1, .int x1), (2, .int x2), (3, .int x3)] [] M d kc ks Q := by
  refine x_aload_n d_ContentStore_poison_0 rfl 0 rfl trivial ?_
  refine x_iload_n d_ContentStore_poison_1 rfl 1 rfl ?_
  exact x_pick [2, 3] rfl (x_callV (As := [.int x1]) (st := []) (host := "") d_ContentStore_poison_2 rfl mk_ContentStore_blobAt mi_ContentStore_blobAt mv_ContentStore_blobAt (Or.inl kl_ContentStore_86) rfl (Nat.le_of_ble_eq_true rfl) (Nat.le_of_ble_eq_true rfl) ck_ContentStore hr hdp hkc hks rfl kz kk)
theorem b_ContentStore_poison_5 {x2 : Int32} {x3 : Int32} {s0 : Nat}  (k : Xw l D ρ m_ContentStore_poison 16 [(2, .int x2), (3, .int x3), (4, .ref s0)] [] M d kc ks Q) : Xw l D ρ m_ContentStore_poison 5 [(2, .int x2), (3, .int x3)] [.ref s0] M d kc ks Q := by
  refine x_astore (i := 4) (L' := [(4, .ref s0), (2, .int x2), (3, .int x3)]) d_ContentStore_poison_5 (Nat.le_of_ble_eq_true rfl) trivial rfl ?_
  refine x_aload d_ContentStore_poison_7 0 rfl trivial ?_
  exact x_ifnonnull_r d_ContentStore_poison_9 (tgt := 16) (by decide) (x_pick [1, 2, 0] rfl k)
theorem b_ContentStore_poison_5_z {x2 : Int32} {x3 : Int32}  (k : Xw l D ρ m_ContentStore_poison 12 [(2, .int x2), (3, .int x3)] [] M d kc ks Q) : Xw l D ρ m_ContentStore_poison 5 [(2, .int x2), (3, .int x3)] [.null] M d kc ks Q := by
  refine x_astore (i := 4) (L' := [(4, .null), (2, .int x2), (3, .int x3)]) d_ContentStore_poison_5 (Nat.le_of_ble_eq_true rfl) trivial rfl ?_
  refine x_aload d_ContentStore_poison_7 0 rfl trivial ?_
  exact x_ifnonnull_z d_ContentStore_poison_9 (x_pick [1, 2] rfl k)
theorem b_ContentStore_poison_12 {x2 : Int32} {x3 : Int32}  (k : Xw l D ρ m_ContentStore_poison 22 [(2, .int x2), (3, .int x3)] [.null] M d kc ks Q) : Xw l D ρ m_ContentStore_poison 12 [(2, .int x2), (3, .int x3)] [] M d kc ks Q := by
  refine x_null d_ContentStore_poison_12 ?_
  exact x_goto d_ContentStore_poison_13 (tgt := 22) (by decide) (x_pick [0, 1] rfl k)
theorem b_ContentStore_poison_16 {x2 : Int32} {x3 : Int32} {x4 : Nat} {cd1 : Nat} {ckc1 : Nat} {cks1 : Nat} {ckc2 : Nat} {cks2 : Nat} {Q1 : Option Value → List xCl → Prop} {fr_0 : Int32} {fr_1 : Int32} {fr_2 : Int64} {fr_3 : Value} {fr_4 : Value} {fr_5 : Int32} {fr_6 : Int32} (hdp : cd1 + 1 ≤ d) (hkc : ckc1 + ckc2 ≤ kc) (hks : cks1 + cks2 ≤ ks) (hr : M[x4]? = some (cO 4 [.int fr_0, .int fr_1, .long fr_2, fr_3, fr_4, .int fr_5, .int fr_6])) (kz : Xw l D ρ m_Blob_partOf 0 [(0, .ref x4), (1, .int x2)] [] M cd1 ckc1 cks1 Q1) (kk : ∀ r N, Q1 r N → Xw l D ρ m_ContentStore_poison 22 [(2, .int x2), (3, .int x3)] (r.toList ++ []) N d ckc2 cks2 Q) : Xw l D ρ m_ContentStore_poison 16 [(2, .int x2), (3, .int x3), (4, .ref x4)] [] M d kc ks Q := by
  refine x_aload d_ContentStore_poison_16 2 rfl trivial ?_
  refine x_iload_n d_ContentStore_poison_18 rfl 0 rfl ?_
  exact x_pick [0, 1] rfl (x_callV (As := [.int x2]) (st := []) (host := "") d_ContentStore_poison_19 rfl mk_Blob_partOf mi_Blob_partOf mv_Blob_partOf (Or.inl kl_ContentStore_97) rfl (Nat.le_of_ble_eq_true rfl) (Nat.le_of_ble_eq_true rfl) ck_Blob hr hdp hkc hks rfl kz kk)
theorem b_ContentStore_poison_22 {x2 : Int32} {x3 : Int32} {s0 : Nat}  (k : Xw l D ρ m_ContentStore_poison 36 [(2, .int x2), (5, .ref s0), (6, .int (x3 &&& 255))] [] M d kc ks Q) : Xw l D ρ m_ContentStore_poison 22 [(2, .int x2), (3, .int x3)] [.ref s0] M d kc ks Q := by
  refine x_astore (i := 5) (L' := [(5, .ref s0), (2, .int x2), (3, .int x3)]) d_ContentStore_poison_22 (Nat.le_of_ble_eq_true rfl) trivial rfl ?_
  refine x_iload_n d_ContentStore_poison_24 rfl 2 rfl ?_
  refine x_sipush (v := 255) d_ContentStore_poison_25 (by decide) ?_
  refine x_iand d_ContentStore_poison_28 ?_
  refine x_istore (i := 6) (L' := [(6, .int (x3 &&& 255)), (5, .ref s0), (2, .int x2), (3, .int x3)]) d_ContentStore_poison_29 (Nat.le_of_ble_eq_true rfl) rfl ?_
  refine x_aload d_ContentStore_poison_31 1 rfl trivial ?_
  exact x_ifnull_r d_ContentStore_poison_33 (x_pick [2, 1, 0] rfl k)
theorem b_ContentStore_poison_22_z {x2 : Int32} {x3 : Int32}  (k : Xw l D ρ m_ContentStore_poison 41 [] [] M d kc ks Q) : Xw l D ρ m_ContentStore_poison 22 [(2, .int x2), (3, .int x3)] [.null] M d kc ks Q := by
  refine x_astore (i := 5) (L' := [(5, .null), (2, .int x2), (3, .int x3)]) d_ContentStore_poison_22 (Nat.le_of_ble_eq_true rfl) trivial rfl ?_
  refine x_iload_n d_ContentStore_poison_24 rfl 2 rfl ?_
  refine x_sipush (v := 255) d_ContentStore_poison_25 (by decide) ?_
  refine x_iand d_ContentStore_poison_28 ?_
  refine x_istore (i := 6) (L' := [(6, .int (x3 &&& 255)), (5, .null), (2, .int x2), (3, .int x3)]) d_ContentStore_poison_29 (Nat.le_of_ble_eq_true rfl) rfl ?_
  refine x_aload d_ContentStore_poison_31 1 rfl trivial ?_
  exact x_ifnull_z d_ContentStore_poison_33 (tgt := 41) (by decide) (x_pick [] rfl k)
theorem b_ContentStore_poison_36 {x2 : Int32} {x5 : Value} {x6 : Int32}  (kt : ¬ x6 = 0 → Xw l D ρ m_ContentStore_poison 43 [(2, .int x2), (5, x5), (6, .int x6)] [] M d kc ks Q) (kf : x6 = 0 → Xw l D ρ m_ContentStore_poison 41 [] [] M d kc ks Q) : Xw l D ρ m_ContentStore_poison 36 [(2, .int x2), (5, x5), (6, .int x6)] [] M d kc ks Q := by
  refine x_iload d_ContentStore_poison_36 2 rfl ?_
  exact x_if_ne d_ContentStore_poison_38 (tgt := 43) (by decide) (fun c => x_pick [0, 1, 2] rfl (kt c)) (fun c => x_pick [] rfl (kf c))
theorem b_ContentStore_poison_41  (hQ : Q (some (.int 0)) M)  : Xw l D ρ m_ContentStore_poison 41 [] [] M d kc ks Q := by
  refine x_iconst (v := 0) d_ContentStore_poison_41 (by decide) ?_
  exact x_iret d_ContentStore_poison_42 rfl rfl hQ
theorem b_ContentStore_poison_43 {x2 : Int32} {x5 : Nat} {x6 : Int32} {cd1 : Nat} {ckc1 : Nat} {cks1 : Nat} {ckc2 : Nat} {cks2 : Nat} {Q1 : Option Value → List xCl → Prop} {fr_0 : Value} {fr_1 : Int32} (hdp : cd1 + 1 ≤ d) (hkc : ckc1 + ckc2 ≤ kc) (hks : cks1 + cks2 ≤ ks) (hr : M[x5]? = some (cO 5 [fr_0, .int fr_1])) (kz : Xw l D ρ m_Part_alter 0 [(0, .ref x5), (1, .int (x2 - x2 / 16 * 16)), (2, .int x6)] [] M cd1 ckc1 cks1 Q1) (kk : ∀ r N, Q1 r N → Xw l D ρ m_ContentStore_poison 54 [] (r.toList ++ []) N d ckc2 cks2 Q) : Xw l D ρ m_ContentStore_poison 43 [(2, .int x2), (5, .ref x5), (6, .int x6)] [] M d kc ks Q := by
  refine x_aload d_ContentStore_poison_43 1 rfl trivial ?_
  refine x_iload_n d_ContentStore_poison_45 rfl 0 rfl ?_
  refine x_bipush (v := 16) d_ContentStore_poison_46 (by decide) ?_
  refine x_irem d_ContentStore_poison_48 (by decide) ?_
  refine x_iload d_ContentStore_poison_49 2 rfl ?_
  exact x_pick [] rfl (x_callV (As := [.int (x2 - x2 / 16 * 16), .int x6]) (st := []) (host := "") d_ContentStore_poison_51 rfl mk_Part_alter mi_Part_alter mv_Part_alter (Or.inl kl_ContentStore_110) rfl (Nat.le_of_ble_eq_true rfl) (Nat.le_of_ble_eq_true rfl) ck_Part hr hdp hkc hks rfl kz kk)
theorem b_ContentStore_poison_54 {s0 : Int32} (hQ : Q (some (.int s0)) M) (hn : narrow .boolean (.int s0) = .int s0)  : Xw l D ρ m_ContentStore_poison 54 [] [.int s0] M d kc ks Q := by
  exact x_iret d_ContentStore_poison_54 rfl hn hQ
theorem b_Part_alter_0 {x0 : Value} {x1 : Int32} {x2 : Int32}  (kt : x1 < 0 → Xw l D ρ m_Part_alter 13 [] [] M d kc ks Q) (kf : ¬ x1 < 0 → Xw l D ρ m_Part_alter 4 [(0, x0), (1, .int x1), (2, .int x2)] [] M d kc ks Q) : Xw l D ρ m_Part_alter 0 [(0, x0), (1, .int x1), (2, .int x2)] [] M d kc ks Q := by
  refine x_iload_n d_Part_alter_0 rfl 1 rfl ?_
  exact x_if_lt d_Part_alter_1 (tgt := 13) (by decide) (fun c => x_pick [] rfl (kt c)) (fun c => x_pick [0, 1, 2] rfl (kf c))
theorem b_Part_alter_4 {x0 : Nat} {x1 : Int32} {x2 : Int32} {f6_0 : Nat} {f6_1 : Int32} {a9 : List Int32} (h6 : M[x0]? = some (cO 5 [.ref f6_0, .int f6_1])) (h9 : M[f6_0]? = some (cI a9)) (kt : x1 < (nI a9.length) → Xw l D ρ m_Part_alter 15 [(0, .ref x0), (1, .int x1), (2, .int x2)] [] M d kc ks Q) (kf : ¬ x1 < (nI a9.length) → Xw l D ρ m_Part_alter 13 [] [] M d kc ks Q) : Xw l D ρ m_Part_alter 4 [(0, .ref x0), (1, .int x1), (2, .int x2)] [] M d kc ks Q := by
  refine x_iload_n d_Part_alter_4 rfl 1 rfl ?_
  refine x_aload_n d_Part_alter_5 rfl 0 rfl trivial ?_
  refine x_getf (k := 0) d_Part_alter_6 ck_Part fk_Part_13 (by decide) h6 rfl ?_
  refine x_alenI d_Part_alter_9 h9 ?_
  exact x_icmp_lt d_Part_alter_10 (tgt := 15) (by decide) (fun c => x_pick [0, 1, 2] rfl (kt c)) (fun c => x_pick [] rfl (kf c))
theorem b_Part_alter_13  (hQ : Q (some (.int 0)) M)  : Xw l D ρ m_Part_alter 13 [] [] M d kc ks Q := by
  refine x_iconst (v := 0) d_Part_alter_13 (by decide) ?_
  exact x_iret d_Part_alter_14 rfl rfl hQ
theorem b_Part_alter_15 {x0 : Nat} {x1 : Int32} {x2 : Int32} {f16_0 : Nat} {f16_1 : Int32} {a21 : List Int32} {j21 : Nat} {v21 : Int32} {j24 : Nat} (h16 : M[x0]? = some (cO 5 [.ref f16_0, .int f16_1])) (h21 : M[f16_0]? = some (cI a21)) (e21 : x1 = nI j21) (g21 : a21[j21]? = some v21) (b21 : a21.length ≤ 100000000) (e24 : x1 = nI j24) (g24 : j24 < a21.length) (b24 : a21.length ≤ 100000000) (hQ : Q (some (.int 1)) (M.set f16_0 (cI (a21.set j24 (v21 ^^^ x2)))))  : Xw l D ρ m_Part_alter 15 [(0, .ref x0), (1, .int x1), (2, .int x2)] [] M d kc ks Q := by
  refine x_aload_n d_Part_alter_15 rfl 0 rfl trivial ?_
  refine x_getf (k := 0) d_Part_alter_16 ck_Part fk_Part_13 (by decide) h16 rfl ?_
  refine x_iload_n d_Part_alter_19 rfl 1 rfl ?_
  refine x_dup2 d_Part_alter_20 rfl rfl ?_
  refine x_iald d_Part_alter_21 e21 h21 g21 b21 ?_
  refine x_iload_n d_Part_alter_22 rfl 2 rfl ?_
  refine x_ixor d_Part_alter_23 ?_
  refine x_iast d_Part_alter_24 e24 h21 g24 b24 ?_
  refine x_iconst (v := 1) d_Part_alter_25 (by decide) ?_
  exact x_iret d_Part_alter_26 rfl rfl hQ
theorem b_ContentStore_sound_0 {x0 : Nat} {x1 : Int32} {cd1 : Nat} {ckc1 : Nat} {cks1 : Nat} {ckc2 : Nat} {cks2 : Nat} {Q1 : Option Value → List xCl → Prop} {fr_0 : Value} {fr_1 : Value} {fr_2 : Value} {fr_3 : Value} {fr_4 : Int32} {fr_5 : Int32} {fr_6 : Int32} {fr_7 : Int32} (hdp : cd1 + 1 ≤ d) (hkc : ckc1 + ckc2 ≤ kc) (hks : cks1 + cks2 ≤ ks) (hr : M[x0]? = some (cO 0 [fr_0, fr_1, fr_2, fr_3, .int fr_4, .int fr_5, .int fr_6, .int fr_7])) (kz : Xw l D ρ m_ContentStore_blobAt 0 [(0, .ref x0), (1, .int x1)] [] M cd1 ckc1 cks1 Q1) (kk : ∀ r N, Q1 r N → Xw l D ρ m_ContentStore_sound 5 [] (r.toList ++ []) N d ckc2 cks2 Q) : Xw l D ρ m_ContentStore_sound 0 [(0, .ref x0), (1, .int x1)] [] M d kc ks Q := by
  refine x_aload_n d_ContentStore_sound_0 rfl 0 rfl trivial ?_
  refine x_iload_n d_ContentStore_sound_1 rfl 1 rfl ?_
  exact x_pick [] rfl (x_callV (As := [.int x1]) (st := []) (host := "") d_ContentStore_sound_2 rfl mk_ContentStore_blobAt mi_ContentStore_blobAt mv_ContentStore_blobAt (Or.inl kl_ContentStore_86) rfl (Nat.le_of_ble_eq_true rfl) (Nat.le_of_ble_eq_true rfl) ck_ContentStore hr hdp hkc hks rfl kz kk)
theorem b_ContentStore_sound_5 {s0 : Nat}  (k : Xw l D ρ m_ContentStore_sound 10 [(2, .ref s0)] [] M d kc ks Q) : Xw l D ρ m_ContentStore_sound 5 [] [.ref s0] M d kc ks Q := by
  refine x_astore_n (i := 2) (L' := [(2, .ref s0)]) d_ContentStore_sound_5 rfl (Nat.le_of_ble_eq_true rfl) trivial rfl ?_
  refine x_aload_n d_ContentStore_sound_6 rfl 0 rfl trivial ?_
  exact x_ifnull_r d_ContentStore_sound_7 (x_pick [0] rfl k)
theorem b_ContentStore_sound_5_z   (k : Xw l D ρ m_ContentStore_sound 21 [] [] M d kc ks Q) : Xw l D ρ m_ContentStore_sound 5 [] [.null] M d kc ks Q := by
  refine x_astore_n (i := 2) (L' := [(2, .null)]) d_ContentStore_sound_5 rfl (Nat.le_of_ble_eq_true rfl) trivial rfl ?_
  refine x_aload_n d_ContentStore_sound_6 rfl 0 rfl trivial ?_
  exact x_ifnull_z d_ContentStore_sound_7 (tgt := 21) (by decide) (x_pick [] rfl k)
theorem b_ContentStore_sound_10 {x2 : Nat} {cd1 : Nat} {ckc1 : Nat} {cks1 : Nat} {ckc2 : Nat} {cks2 : Nat} {Q1 : Option Value → List xCl → Prop} {fr_0 : Int32} {fr_1 : Int32} {fr_2 : Int64} {fr_3 : Value} {fr_4 : Value} {fr_5 : Int32} {fr_6 : Int32} (hdp : cd1 + 1 ≤ d) (hkc : ckc1 + ckc2 ≤ kc) (hks : cks1 + cks2 ≤ ks) (hr : M[x2]? = some (cO 4 [.int fr_0, .int fr_1, .long fr_2, fr_3, fr_4, .int fr_5, .int fr_6])) (kz : Xw l D ρ m_Blob_isSound 0 [(0, .ref x2)] [] M cd1 ckc1 cks1 Q1) (kk : ∀ r N, Q1 r N → Xw l D ρ m_ContentStore_sound 14 [] (r.toList ++ []) N d ckc2 cks2 Q) : Xw l D ρ m_ContentStore_sound 10 [(2, .ref x2)] [] M d kc ks Q := by
  refine x_aload_n d_ContentStore_sound_10 rfl 0 rfl trivial ?_
  exact x_pick [] rfl (x_callV (As := []) (st := []) (host := "") d_ContentStore_sound_11 rfl mk_Blob_isSound mi_Blob_isSound mv_Blob_isSound (Or.inl kl_ContentStore_101) rfl (Nat.le_of_ble_eq_true rfl) (Nat.le_of_ble_eq_true rfl) ck_Blob hr hdp hkc hks rfl kz kk)
theorem b_ContentStore_sound_14 {s0 : Int32}  (kt : s0 = 0 → Xw l D ρ m_ContentStore_sound 21 [] [] M d kc ks Q) (kf : ¬ s0 = 0 → Xw l D ρ m_ContentStore_sound 17 [] [] M d kc ks Q) : Xw l D ρ m_ContentStore_sound 14 [] [.int s0] M d kc ks Q := by
  exact x_if_eq d_ContentStore_sound_14 (tgt := 21) (by decide) (fun c => x_pick [] rfl (kt c)) (fun c => x_pick [] rfl (kf c))
theorem b_ContentStore_sound_17   (k : Xw l D ρ m_ContentStore_sound 22 [] [.int 1] M d kc ks Q) : Xw l D ρ m_ContentStore_sound 17 [] [] M d kc ks Q := by
  refine x_iconst (v := 1) d_ContentStore_sound_17 (by decide) ?_
  exact x_goto d_ContentStore_sound_18 (tgt := 22) (by decide) (x_pick [] rfl k)
theorem b_ContentStore_sound_21   (k : Xw l D ρ m_ContentStore_sound 22 [] [.int 0] M d kc ks Q) : Xw l D ρ m_ContentStore_sound 21 [] [] M d kc ks Q := by
  refine x_iconst (v := 0) d_ContentStore_sound_21 (by decide) ?_
  exact x_pick [] rfl k
theorem b_ContentStore_sound_22 {s0 : Int32} (hQ : Q (some (.int s0)) M) (hn : narrow .boolean (.int s0) = .int s0)  : Xw l D ρ m_ContentStore_sound 22 [] [.int s0] M d kc ks Q := by
  exact x_iret d_ContentStore_sound_22 rfl hn hQ
theorem b_ContentStore_mirror_0 {x0 : Nat} {x1 : Int32} {cd1 : Nat} {ckc1 : Nat} {cks1 : Nat} {ckc2 : Nat} {cks2 : Nat} {Q1 : Option Value → List xCl → Prop} {fr_0 : Value} {fr_1 : Value} {fr_2 : Value} {fr_3 : Value} {fr_4 : Int32} {fr_5 : Int32} {fr_6 : Int32} {fr_7 : Int32} (hdp : cd1 + 1 ≤ d) (hkc : ckc1 + ckc2 ≤ kc) (hks : cks1 + cks2 ≤ ks) (hr : M[x0]? = some (cO 0 [fr_0, fr_1, fr_2, fr_3, .int fr_4, .int fr_5, .int fr_6, .int fr_7])) (kz : Xw l D ρ m_ContentStore_blobAt 0 [(0, .ref x0), (1, .int x1)] [] M cd1 ckc1 cks1 Q1) (kk : ∀ r N, Q1 r N → Xw l D ρ m_ContentStore_mirror 5 [] (r.toList ++ []) N d ckc2 cks2 Q) : Xw l D ρ m_ContentStore_mirror 0 [(0, .ref x0), (1, .int x1)] [] M d kc ks Q := by
  refine x_aload_n d_ContentStore_mirror_0 rfl 0 rfl trivial ?_
  refine x_iload_n d_ContentStore_mirror_1 rfl 1 rfl ?_
  exact x_pick [] rfl (x_callV (As := [.int x1]) (st := []) (host := "") d_ContentStore_mirror_2 rfl mk_ContentStore_blobAt mi_ContentStore_blobAt mv_ContentStore_blobAt (Or.inl kl_ContentStore_86) rfl (Nat.le_of_ble_eq_true rfl) (Nat.le_of_ble_eq_true rfl) ck_ContentStore hr hdp hkc hks rfl kz kk)
theorem b_ContentStore_mirror_5 {s0 : Nat}  (k : Xw l D ρ m_ContentStore_mirror 12 [(2, .ref s0)] [] M d kc ks Q) : Xw l D ρ m_ContentStore_mirror 5 [] [.ref s0] M d kc ks Q := by
  refine x_astore_n (i := 2) (L' := [(2, .ref s0)]) d_ContentStore_mirror_5 rfl (Nat.le_of_ble_eq_true rfl) trivial rfl ?_
  refine x_aload_n d_ContentStore_mirror_6 rfl 0 rfl trivial ?_
  exact x_ifnonnull_r d_ContentStore_mirror_7 (tgt := 12) (by decide) (x_pick [0] rfl k)
theorem b_ContentStore_mirror_5_z   (k : Xw l D ρ m_ContentStore_mirror 10 [] [] M d kc ks Q) : Xw l D ρ m_ContentStore_mirror 5 [] [.null] M d kc ks Q := by
  refine x_astore_n (i := 2) (L' := [(2, .null)]) d_ContentStore_mirror_5 rfl (Nat.le_of_ble_eq_true rfl) trivial rfl ?_
  refine x_aload_n d_ContentStore_mirror_6 rfl 0 rfl trivial ?_
  exact x_ifnonnull_z d_ContentStore_mirror_7 (x_pick [] rfl k)
theorem b_ContentStore_mirror_10  (hQ : Q (some (.int 0)) M)  : Xw l D ρ m_ContentStore_mirror 10 [] [] M d kc ks Q := by
  refine x_iconst (v := 0) d_ContentStore_mirror_10 (by decide) ?_
  exact x_iret d_ContentStore_mirror_11 rfl rfl hQ
theorem b_ContentStore_mirror_12 {x2 : Nat} {cd1 : Nat} {ckc1 : Nat} {cks1 : Nat} {ckc2 : Nat} {cks2 : Nat} {Q1 : Option Value → List xCl → Prop} {fr_0 : Int32} {fr_1 : Int32} {fr_2 : Int64} {fr_3 : Value} {fr_4 : Value} {fr_5 : Int32} {fr_6 : Int32} (hdp : cd1 + 1 ≤ d) (hkc : ckc1 + ckc2 ≤ kc) (hks : cks1 + cks2 ≤ ks) (hr : M[x2]? = some (cO 4 [.int fr_0, .int fr_1, .long fr_2, fr_3, fr_4, .int fr_5, .int fr_6])) (kz : Xw l D ρ m_Blob_copyBytes 0 [(0, .ref x2)] [] M cd1 ckc1 cks1 Q1) (kk : ∀ r N, Q1 r N → Xw l D ρ m_ContentStore_mirror 16 [] (r.toList ++ []) N d ckc2 cks2 Q) : Xw l D ρ m_ContentStore_mirror 12 [(2, .ref x2)] [] M d kc ks Q := by
  refine x_aload_n d_ContentStore_mirror_12 rfl 0 rfl trivial ?_
  exact x_pick [] rfl (x_callV (As := []) (st := []) (host := "") d_ContentStore_mirror_13 rfl mk_Blob_copyBytes mi_Blob_copyBytes mv_Blob_copyBytes (Or.inl kl_ContentStore_114) rfl (Nat.le_of_ble_eq_true rfl) (Nat.le_of_ble_eq_true rfl) ck_Blob hr hdp hkc hks rfl kz kk)
theorem b_ContentStore_mirror_16  (hQ : Q (some (.int 1)) M)  : Xw l D ρ m_ContentStore_mirror 16 [] [] M d kc ks Q := by
  refine x_iconst (v := 1) d_ContentStore_mirror_16 (by decide) ?_
  exact x_iret d_ContentStore_mirror_17 rfl rfl hQ
theorem b_Blob_copyBytes_0 {x0 : Nat} {f1_0 : Int32} {f1_1 : Int32} {f1_2 : Int64} {f1_3 : Value} {f1_4 : Nat} {f1_5 : Int32} {f1_6 : Int32} (h1 : M[x0]? = some (cO 4 [.int f1_0, .int f1_1, .long f1_2, f1_3, .ref f1_4, .int f1_5, .int f1_6])) (k : Xw l D ρ m_Blob_copyBytes 17 [(0, .ref x0)] [] M d kc ks Q) : Xw l D ρ m_Blob_copyBytes 0 [(0, .ref x0)] [] M d kc ks Q := by
  refine x_aload_n d_Blob_copyBytes_0 rfl 0 rfl trivial ?_
  refine x_getf (k := 4) d_Blob_copyBytes_1 ck_Blob fk_Blob_51 (by decide) h1 rfl ?_
  exact x_ifnonnull_r d_Blob_copyBytes_4 (tgt := 17) (by decide) (x_pick [0] rfl k)
theorem b_Blob_copyBytes_0_z {x0 : Nat} {f1_0 : Int32} {f1_1 : Int32} {f1_2 : Int64} {f1_3 : Value} {f1_5 : Int32} {f1_6 : Int32} (h1 : M[x0]? = some (cO 4 [.int f1_0, .int f1_1, .long f1_2, f1_3, .null, .int f1_5, .int f1_6])) (k : Xw l D ρ m_Blob_copyBytes 7 [(0, .ref x0)] [] M d kc ks Q) : Xw l D ρ m_Blob_copyBytes 0 [(0, .ref x0)] [] M d kc ks Q := by
  refine x_aload_n d_Blob_copyBytes_0 rfl 0 rfl trivial ?_
  refine x_getf (k := 4) d_Blob_copyBytes_1 ck_Blob fk_Blob_51 (by decide) h1 rfl ?_
  exact x_ifnonnull_z d_Blob_copyBytes_4 (x_pick [0] rfl k)
theorem b_Blob_copyBytes_7 {x0 : Nat} {f9_0 : Int32} {f9_1 : Int32} {f9_2 : Int64} {f9_3 : Value} {f9_4 : Value} {f9_5 : Int32} {f9_6 : Int32} {n12 : Nat} {kc1 : Nat} {ks1 : Nat} (h9 : M[x0]? = some (cO 4 [.int f9_0, .int f9_1, .long f9_2, f9_3, f9_4, .int f9_5, .int f9_6])) (e12 : f9_0 = nI n12) (g12 : n12 ≤ 100000000) (hk1 : kc1 + 1 ≤ kc) (hs1 : ks1 + n12 ≤ ks) (k : Xw l D ρ m_Blob_copyBytes 17 [(0, .ref x0)] [] ((M ++ [cI (List.replicate n12 0)]).set x0 (cO 4 [.int f9_0, .int f9_1, .long f9_2, f9_3, .ref M.length, .int f9_5, .int f9_6])) d kc1 ks1 Q) : Xw l D ρ m_Blob_copyBytes 7 [(0, .ref x0)] [] M d kc ks Q := by
  refine x_aload_n d_Blob_copyBytes_7 rfl 0 rfl trivial ?_
  refine x_aload_n d_Blob_copyBytes_8 rfl 0 rfl trivial ?_
  refine x_getf (k := 0) d_Blob_copyBytes_9 ck_Blob fk_Blob_9 (by decide) h9 rfl ?_
  refine x_newi d_Blob_copyBytes_12 kw_int e12 g12 hk1 hs1 ?_
  refine x_putf (k := 4) (fs' := [.int f9_0, .int f9_1, .long f9_2, f9_3, .ref M.length, .int f9_5, .int f9_6]) d_Blob_copyBytes_14 ck_Blob fk_Blob_51 (by decide) (Or.inl rfl) rfl (xpush_at h9) (Nat.le_of_ble_eq_true rfl) rfl ?_
  exact x_pick [0] rfl k
theorem b_Blob_copyBytes_17 {x0 : Value} (h_x0 : xrf x0) (k : Xw l D ρ m_Blob_copyBytes 19 [(0, x0), (1, .int 0)] [] M d kc ks Q) : Xw l D ρ m_Blob_copyBytes 17 [(0, x0)] [] M d kc ks Q := by
  refine x_iconst (v := 0) d_Blob_copyBytes_17 (by decide) ?_
  refine x_istore_n (i := 1) (L' := [(1, .int 0), (0, x0)]) d_Blob_copyBytes_18 rfl (Nat.le_of_ble_eq_true rfl) (by simp [xrf_cat h_x0]) ?_
  exact x_pick [1, 0] rfl k
theorem b_Blob_copyBytes_19 {x0 : Nat} {x1 : Int32} {f21_0 : Int32} {f21_1 : Int32} {f21_2 : Int64} {f21_3 : Value} {f21_4 : Value} {f21_5 : Int32} {f21_6 : Int32} (h21 : M[x0]? = some (cO 4 [.int f21_0, .int f21_1, .long f21_2, f21_3, f21_4, .int f21_5, .int f21_6])) (kt : f21_0 ≤ x1 → Xw l D ρ m_Blob_copyBytes 61 [] [] M d kc ks Q) (kf : ¬ f21_0 ≤ x1 → Xw l D ρ m_Blob_copyBytes 27 [(0, .ref x0), (1, .int x1)] [] M d kc ks Q) : Xw l D ρ m_Blob_copyBytes 19 [(0, .ref x0), (1, .int x1)] [] M d kc ks Q := by
  refine x_iload_n d_Blob_copyBytes_19 rfl 1 rfl ?_
  refine x_aload_n d_Blob_copyBytes_20 rfl 0 rfl trivial ?_
  refine x_getf (k := 0) d_Blob_copyBytes_21 ck_Blob fk_Blob_9 (by decide) h21 rfl ?_
  exact x_icmp_ge d_Blob_copyBytes_24 (tgt := 61) (by decide) (fun c => x_pick [] rfl (kt c)) (fun c => x_pick [0, 1] rfl (kf c))
theorem b_Blob_copyBytes_27 {x0 : Nat} {x1 : Int32} {cd1 : Nat} {ckc1 : Nat} {cks1 : Nat} {ckc2 : Nat} {cks2 : Nat} {Q1 : Option Value → List xCl → Prop} {fr_0 : Int32} {fr_1 : Int32} {fr_2 : Int64} {fr_3 : Value} {fr_4 : Value} {fr_5 : Int32} {fr_6 : Int32} (hdp : cd1 + 1 ≤ d) (hkc : ckc1 + ckc2 ≤ kc) (hks : cks1 + cks2 ≤ ks) (hr : M[x0]? = some (cO 4 [.int fr_0, .int fr_1, .long fr_2, fr_3, fr_4, .int fr_5, .int fr_6])) (kz : Xw l D ρ m_Blob_partOf 0 [(0, .ref x0), (1, .int x1)] [] M cd1 ckc1 cks1 Q1) (kk : ∀ r N, Q1 r N → Xw l D ρ m_Blob_copyBytes 32 [(0, .ref x0), (1, .int x1)] (r.toList ++ []) N d ckc2 cks2 Q) : Xw l D ρ m_Blob_copyBytes 27 [(0, .ref x0), (1, .int x1)] [] M d kc ks Q := by
  refine x_aload_n d_Blob_copyBytes_27 rfl 0 rfl trivial ?_
  refine x_iload_n d_Blob_copyBytes_28 rfl 1 rfl ?_
  exact x_pick [0, 1] rfl (x_callV (As := [.int x1]) (st := []) (host := "") d_Blob_copyBytes_29 rfl mk_Blob_partOf mi_Blob_partOf mv_Blob_partOf (Or.inl kl_Blob_54) rfl (Nat.le_of_ble_eq_true rfl) (Nat.le_of_ble_eq_true rfl) ck_Blob hr hdp hkc hks rfl kz kk)
theorem b_Blob_copyBytes_32 {x0 : Nat} {x1 : Int32} {s0 : Nat} {f34_0 : Int32} {f34_1 : Int32} {f34_2 : Int64} {f34_3 : Value} {f34_4 : Value} {f34_5 : Int32} {f34_6 : Int32} (h34 : M[x0]? = some (cO 4 [.int f34_0, .int f34_1, .long f34_2, f34_3, f34_4, .int f34_5, .int f34_6])) (k : Xw l D ρ m_Blob_copyBytes 46 [(0, .ref x0), (1, .int x1), (2, .ref s0)] [.int x1, f34_4] M d kc ks Q) : Xw l D ρ m_Blob_copyBytes 32 [(0, .ref x0), (1, .int x1)] [.ref s0] M d kc ks Q := by
  refine x_astore_n (i := 2) (L' := [(2, .ref s0), (0, .ref x0), (1, .int x1)]) d_Blob_copyBytes_32 rfl (Nat.le_of_ble_eq_true rfl) trivial rfl ?_
  refine x_aload_n d_Blob_copyBytes_33 rfl 1 rfl trivial ?_
  refine x_getf (k := 4) d_Blob_copyBytes_34 ck_Blob fk_Blob_51 (by decide) h34 rfl ?_
  refine x_iload_n d_Blob_copyBytes_37 rfl 2 rfl ?_
  refine x_aload_n d_Blob_copyBytes_38 rfl 0 rfl trivial ?_
  exact x_ifnonnull_r d_Blob_copyBytes_39 (tgt := 46) (by decide) (x_pick [1, 2, 0] rfl k)
theorem b_Blob_copyBytes_32_z {x0 : Nat} {x1 : Int32} {f34_0 : Int32} {f34_1 : Int32} {f34_2 : Int64} {f34_3 : Value} {f34_4 : Value} {f34_5 : Int32} {f34_6 : Int32} (h34 : M[x0]? = some (cO 4 [.int f34_0, .int f34_1, .long f34_2, f34_3, f34_4, .int f34_5, .int f34_6])) (k : Xw l D ρ m_Blob_copyBytes 42 [(0, .ref x0), (1, .int x1)] [.int x1, f34_4] M d kc ks Q) : Xw l D ρ m_Blob_copyBytes 32 [(0, .ref x0), (1, .int x1)] [.null] M d kc ks Q := by
  refine x_astore_n (i := 2) (L' := [(2, .null), (0, .ref x0), (1, .int x1)]) d_Blob_copyBytes_32 rfl (Nat.le_of_ble_eq_true rfl) trivial rfl ?_
  refine x_aload_n d_Blob_copyBytes_33 rfl 1 rfl trivial ?_
  refine x_getf (k := 4) d_Blob_copyBytes_34 ck_Blob fk_Blob_51 (by decide) h34 rfl ?_
  refine x_iload_n d_Blob_copyBytes_37 rfl 2 rfl ?_
  refine x_aload_n d_Blob_copyBytes_38 rfl 0 rfl trivial ?_
  exact x_ifnonnull_z d_Blob_copyBytes_39 (x_pick [1, 2] rfl k)
theorem b_Blob_copyBytes_42 {x0 : Value} {x1 : Int32} {s0 : Int32} {s1 : Value}  (k : Xw l D ρ m_Blob_copyBytes 54 [(0, x0), (1, .int x1)] [.int 0, .int s0, s1] M d kc ks Q) : Xw l D ρ m_Blob_copyBytes 42 [(0, x0), (1, .int x1)] [.int s0, s1] M d kc ks Q := by
  refine x_iconst (v := 0) d_Blob_copyBytes_42 (by decide) ?_
  exact x_goto d_Blob_copyBytes_43 (tgt := 54) (by decide) (x_pick [0, 1] rfl k)
theorem b_Blob_copyBytes_46 {x0 : Value} {x1 : Int32} {x2 : Nat} {s0 : Int32} {s1 : Value} {cd1 : Nat} {ckc1 : Nat} {cks1 : Nat} {ckc2 : Nat} {cks2 : Nat} {Q1 : Option Value → List xCl → Prop} {fr_0 : Value} {fr_1 : Int32} (h_s1 : xrf s1) (hdp : cd1 + 1 ≤ d) (hkc : ckc1 + ckc2 ≤ kc) (hks : cks1 + cks2 ≤ ks) (hr : M[x2]? = some (cO 5 [fr_0, .int fr_1])) (kz : Xw l D ρ m_Part_byteAt 0 [(0, .ref x2), (1, .int (x1 - x1 / 16 * 16))] [] M cd1 ckc1 cks1 Q1) (kk : ∀ r N, Q1 r N → Xw l D ρ m_Blob_copyBytes 54 [(0, x0), (1, .int x1)] (r.toList ++ [.int s0, s1]) N d ckc2 cks2 Q) : Xw l D ρ m_Blob_copyBytes 46 [(0, x0), (1, .int x1), (2, .ref x2)] [.int s0, s1] M d kc ks Q := by
  refine x_aload_n d_Blob_copyBytes_46 rfl 2 rfl trivial ?_
  refine x_iload_n d_Blob_copyBytes_47 rfl 1 rfl ?_
  refine x_bipush (v := 16) d_Blob_copyBytes_48 (by decide) ?_
  refine x_irem d_Blob_copyBytes_50 (by decide) ?_
  exact x_pick [0, 1] rfl (x_callV (As := [.int (x1 - x1 / 16 * 16)]) (st := [.int s0, s1]) (host := "") d_Blob_copyBytes_51 rfl mk_Part_byteAt mi_Part_byteAt mv_Part_byteAt (Or.inl kl_Blob_58) rfl (Nat.le_of_ble_eq_true rfl) (by simp [xcat_i, xcat_l, xcat_r, xcat_n, xcat_o, xrf_cat h_s1]) ck_Part hr hdp hkc hks rfl kz kk)
theorem b_Blob_copyBytes_54 {x0 : Value} {x1 : Int32} {s0 : Int32} {s1 : Int32} {s2 : Nat} {a54 : List Int32} {j54 : Nat} (h_x0 : xrf x0) (h54 : M[s2]? = some (cI a54)) (e54 : s1 = nI j54) (g54 : j54 < a54.length) (b54 : a54.length ≤ 100000000) (k : Xw l D ρ m_Blob_copyBytes 19 [(0, x0), (1, .int (x1 + 1))] [] (M.set s2 (cI (a54.set j54 s0))) d kc ks Q) : Xw l D ρ m_Blob_copyBytes 54 [(0, x0), (1, .int x1)] [.int s0, .int s1, .ref s2] M d kc ks Q := by
  refine x_iast d_Blob_copyBytes_54 e54 h54 g54 b54 ?_
  refine x_iinc (v := x1 + 1) (L' := [(1, .int (x1 + 1)), (0, x0)]) d_Blob_copyBytes_55 1 rfl (by rfl) (Nat.le_of_ble_eq_true rfl) (by simp [xrf_cat h_x0]) ?_
  exact x_goto d_Blob_copyBytes_58 (tgt := 19) (by decide) (x_pick [1, 0] rfl k)
theorem b_Blob_copyBytes_61  (hQ : Q none M)  : Xw l D ρ m_Blob_copyBytes 61 [] [] M d kc ks Q := by
  exact x_vret d_Blob_copyBytes_61 rfl hQ
theorem b_ContentStore_repair_0 {x0 : Nat} {x1 : Int32} {cd1 : Nat} {ckc1 : Nat} {cks1 : Nat} {ckc2 : Nat} {cks2 : Nat} {Q1 : Option Value → List xCl → Prop} {fr_0 : Value} {fr_1 : Value} {fr_2 : Value} {fr_3 : Value} {fr_4 : Int32} {fr_5 : Int32} {fr_6 : Int32} {fr_7 : Int32} (hdp : cd1 + 1 ≤ d) (hkc : ckc1 + ckc2 ≤ kc) (hks : cks1 + cks2 ≤ ks) (hr : M[x0]? = some (cO 0 [fr_0, fr_1, fr_2, fr_3, .int fr_4, .int fr_5, .int fr_6, .int fr_7])) (kz : Xw l D ρ m_ContentStore_blobAt 0 [(0, .ref x0), (1, .int x1)] [] M cd1 ckc1 cks1 Q1) (kk : ∀ r N, Q1 r N → Xw l D ρ m_ContentStore_repair 5 [(0, .ref x0)] (r.toList ++ []) N d ckc2 cks2 Q) : Xw l D ρ m_ContentStore_repair 0 [(0, .ref x0), (1, .int x1)] [] M d kc ks Q := by
  refine x_aload_n d_ContentStore_repair_0 rfl 0 rfl trivial ?_
  refine x_iload_n d_ContentStore_repair_1 rfl 1 rfl ?_
  exact x_pick [0] rfl (x_callV (As := [.int x1]) (st := []) (host := "") d_ContentStore_repair_2 rfl mk_ContentStore_blobAt mi_ContentStore_blobAt mv_ContentStore_blobAt (Or.inl kl_ContentStore_86) rfl (Nat.le_of_ble_eq_true rfl) (Nat.le_of_ble_eq_true rfl) ck_ContentStore hr hdp hkc hks rfl kz kk)
theorem b_ContentStore_repair_5 {x0 : Value} {s0 : Nat}  (k : Xw l D ρ m_ContentStore_repair 12 [(0, x0), (2, .ref s0)] [] M d kc ks Q) : Xw l D ρ m_ContentStore_repair 5 [(0, x0)] [.ref s0] M d kc ks Q := by
  refine x_astore_n (i := 2) (L' := [(2, .ref s0), (0, x0)]) d_ContentStore_repair_5 rfl (Nat.le_of_ble_eq_true rfl) trivial rfl ?_
  refine x_aload_n d_ContentStore_repair_6 rfl 0 rfl trivial ?_
  exact x_ifnonnull_r d_ContentStore_repair_7 (tgt := 12) (by decide) (x_pick [1, 0] rfl k)
theorem b_ContentStore_repair_5_z {x0 : Value}  (k : Xw l D ρ m_ContentStore_repair 10 [] [] M d kc ks Q) : Xw l D ρ m_ContentStore_repair 5 [(0, x0)] [.null] M d kc ks Q := by
  refine x_astore_n (i := 2) (L' := [(2, .null), (0, x0)]) d_ContentStore_repair_5 rfl (Nat.le_of_ble_eq_true rfl) trivial rfl ?_
  refine x_aload_n d_ContentStore_repair_6 rfl 0 rfl trivial ?_
  exact x_ifnonnull_z d_ContentStore_repair_7 (x_pick [] rfl k)
theorem b_ContentStore_repair_10  (hQ : Q (some (.int ((-1)))) M)  : Xw l D ρ m_ContentStore_repair 10 [] [] M d kc ks Q := by
  refine x_iconst (v := (-1)) d_ContentStore_repair_10 (by decide) ?_
  exact x_iret d_ContentStore_repair_11 rfl rfl hQ
theorem b_ContentStore_repair_12 {x0 : Value} {x2 : Nat} {cd1 : Nat} {ckc1 : Nat} {cks1 : Nat} {ckc2 : Nat} {cks2 : Nat} {Q1 : Option Value → List xCl → Prop} {fr_0 : Int32} {fr_1 : Int32} {fr_2 : Int64} {fr_3 : Value} {fr_4 : Value} {fr_5 : Int32} {fr_6 : Int32} (hdp : cd1 + 1 ≤ d) (hkc : ckc1 + ckc2 ≤ kc) (hks : cks1 + cks2 ≤ ks) (hr : M[x2]? = some (cO 4 [.int fr_0, .int fr_1, .long fr_2, fr_3, fr_4, .int fr_5, .int fr_6])) (kz : Xw l D ρ m_Blob_isSound 0 [(0, .ref x2)] [] M cd1 ckc1 cks1 Q1) (kk : ∀ r N, Q1 r N → Xw l D ρ m_ContentStore_repair 16 [(0, x0), (2, .ref x2)] (r.toList ++ []) N d ckc2 cks2 Q) : Xw l D ρ m_ContentStore_repair 12 [(0, x0), (2, .ref x2)] [] M d kc ks Q := by
  refine x_aload_n d_ContentStore_repair_12 rfl 1 rfl trivial ?_
  exact x_pick [0, 1] rfl (x_callV (As := []) (st := []) (host := "") d_ContentStore_repair_13 rfl mk_Blob_isSound mi_Blob_isSound mv_Blob_isSound (Or.inl kl_ContentStore_101) rfl (Nat.le_of_ble_eq_true rfl) (Nat.le_of_ble_eq_true rfl) ck_Blob hr hdp hkc hks rfl kz kk)
theorem b_ContentStore_repair_16 {x0 : Value} {x2 : Value} {s0 : Int32}  (kt : s0 = 0 → Xw l D ρ m_ContentStore_repair 21 [(0, x0), (2, x2)] [] M d kc ks Q) (kf : ¬ s0 = 0 → Xw l D ρ m_ContentStore_repair 19 [] [] M d kc ks Q) : Xw l D ρ m_ContentStore_repair 16 [(0, x0), (2, x2)] [.int s0] M d kc ks Q := by
  exact x_if_eq d_ContentStore_repair_16 (tgt := 21) (by decide) (fun c => x_pick [0, 1] rfl (kt c)) (fun c => x_pick [] rfl (kf c))
theorem b_ContentStore_repair_19  (hQ : Q (some (.int 0)) M)  : Xw l D ρ m_ContentStore_repair 19 [] [] M d kc ks Q := by
  refine x_iconst (v := 0) d_ContentStore_repair_19 (by decide) ?_
  exact x_iret d_ContentStore_repair_20 rfl rfl hQ
theorem b_ContentStore_repair_21 {x0 : Value} {x2 : Nat} {cd1 : Nat} {ckc1 : Nat} {cks1 : Nat} {ckc2 : Nat} {cks2 : Nat} {Q1 : Option Value → List xCl → Prop} {fr_0 : Int32} {fr_1 : Int32} {fr_2 : Int64} {fr_3 : Value} {fr_4 : Value} {fr_5 : Int32} {fr_6 : Int32} (hdp : cd1 + 1 ≤ d) (hkc : ckc1 + ckc2 ≤ kc) (hks : cks1 + cks2 ≤ ks) (hr : M[x2]? = some (cO 4 [.int fr_0, .int fr_1, .long fr_2, fr_3, fr_4, .int fr_5, .int fr_6])) (kz : Xw l D ρ m_Blob_hasRightCopy 0 [(0, .ref x2)] [] M cd1 ckc1 cks1 Q1) (kk : ∀ r N, Q1 r N → Xw l D ρ m_ContentStore_repair 25 [(0, x0), (2, .ref x2)] (r.toList ++ []) N d ckc2 cks2 Q) : Xw l D ρ m_ContentStore_repair 21 [(0, x0), (2, .ref x2)] [] M d kc ks Q := by
  refine x_aload_n d_ContentStore_repair_21 rfl 1 rfl trivial ?_
  exact x_pick [0, 1] rfl (x_callV (As := []) (st := []) (host := "") d_ContentStore_repair_22 rfl mk_Blob_hasRightCopy mi_Blob_hasRightCopy mv_Blob_hasRightCopy (Or.inl kl_ContentStore_117) rfl (Nat.le_of_ble_eq_true rfl) (Nat.le_of_ble_eq_true rfl) ck_Blob hr hdp hkc hks rfl kz kk)
theorem b_ContentStore_repair_25 {x0 : Value} {x2 : Value} {s0 : Int32}  (kt : ¬ s0 = 0 → Xw l D ρ m_ContentStore_repair 31 [(0, x0), (2, x2)] [] M d kc ks Q) (kf : s0 = 0 → Xw l D ρ m_ContentStore_repair 28 [] [] M d kc ks Q) : Xw l D ρ m_ContentStore_repair 25 [(0, x0), (2, x2)] [.int s0] M d kc ks Q := by
  exact x_if_ne d_ContentStore_repair_25 (tgt := 31) (by decide) (fun c => x_pick [0, 1] rfl (kt c)) (fun c => x_pick [] rfl (kf c))
theorem b_ContentStore_repair_28  (hQ : Q (some (.int ((-2)))) M)  : Xw l D ρ m_ContentStore_repair 28 [] [] M d kc ks Q := by
  refine x_bipush (v := (-2)) d_ContentStore_repair_28 (by decide) ?_
  exact x_iret d_ContentStore_repair_30 rfl rfl hQ
theorem b_ContentStore_repair_31 {x0 : Nat} {x2 : Nat} {f32_0 : Nat} {f32_1 : Value} {f32_2 : Value} {f32_3 : Value} {f32_4 : Int32} {f32_5 : Int32} {f32_6 : Int32} {f32_7 : Int32} {f36_0 : Int32} {f36_1 : Int32} {f36_2 : Int64} {f36_3 : Value} {f36_4 : Value} {f36_5 : Int32} {f36_6 : Int32} {cd1 : Nat} {ckc1 : Nat} {cks1 : Nat} {ckc2 : Nat} {cks2 : Nat} {Q1 : Option Value → List xCl → Prop} {fr_0 : Int32} {fr_1 : Value} {fr_2 : Int32} (h32 : M[x0]? = some (cO 0 [.ref f32_0, f32_1, f32_2, f32_3, .int f32_4, .int f32_5, .int f32_6, .int f32_7])) (h_f36_4 : xrf f36_4) (h36 : M[x2]? = some (cO 4 [.int f36_0, .int f36_1, .long f36_2, f36_3, f36_4, .int f36_5, .int f36_6])) (hdp : cd1 + 1 ≤ d) (hkc : ckc1 + ckc2 ≤ kc) (hks : cks1 + cks2 ≤ ks) (hr : M[f32_0]? = some (cO 1 [.int fr_0, fr_1, .int fr_2])) (kz : Xw l D ρ m_Shelf_hasRoomFor 0 [(0, .ref f32_0), (1, f36_4)] [] M cd1 ckc1 cks1 Q1) (kk : ∀ r N, Q1 r N → Xw l D ρ m_ContentStore_repair 42 [(0, .ref x0), (2, .ref x2)] (r.toList ++ []) N d ckc2 cks2 Q) : Xw l D ρ m_ContentStore_repair 31 [(0, .ref x0), (2, .ref x2)] [] M d kc ks Q := by
  refine x_aload_n d_ContentStore_repair_31 rfl 0 rfl trivial ?_
  refine x_getf (k := 0) d_ContentStore_repair_32 ck_ContentStore fk_ContentStore_23 (by decide) h32 rfl ?_
  refine x_aload_n d_ContentStore_repair_35 rfl 1 rfl trivial ?_
  refine x_getf (k := 4) d_ContentStore_repair_36 ck_Blob fk_ContentStore_120 (by decide) h36 rfl ?_
  exact x_pick [0, 1] rfl (x_callV (As := [f36_4]) (st := []) (host := "") d_ContentStore_repair_39 rfl mk_Shelf_hasRoomFor mi_Shelf_hasRoomFor mv_Shelf_hasRoomFor (Or.inl kl_ContentStore_123) rfl (by simp [lg_sl, m_Shelf_hasRoomFor, xcat_i, xcat_l, xcat_r, xcat_n, xcat_o, xrf_cat h_f36_4]) (Nat.le_of_ble_eq_true rfl) ck_Shelf hr hdp hkc hks (by simp [lv_args, xcat_i, xcat_l, xcat_r, xcat_n, xcat_o, xrf_cat h_f36_4]) kz kk)
theorem b_ContentStore_repair_42 {x0 : Value} {x2 : Value} {s0 : Int32}  (kt : ¬ s0 = 0 → Xw l D ρ m_ContentStore_repair 48 [(0, x0), (2, x2)] [] M d kc ks Q) (kf : s0 = 0 → Xw l D ρ m_ContentStore_repair 45 [] [] M d kc ks Q) : Xw l D ρ m_ContentStore_repair 42 [(0, x0), (2, x2)] [.int s0] M d kc ks Q := by
  exact x_if_ne d_ContentStore_repair_42 (tgt := 48) (by decide) (fun c => x_pick [0, 1] rfl (kt c)) (fun c => x_pick [] rfl (kf c))
theorem b_ContentStore_repair_45  (hQ : Q (some (.int ((-3)))) M)  : Xw l D ρ m_ContentStore_repair 45 [] [] M d kc ks Q := by
  refine x_bipush (v := (-3)) d_ContentStore_repair_45 (by decide) ?_
  exact x_iret d_ContentStore_repair_47 rfl rfl hQ
theorem b_ContentStore_repair_48 {x0 : Nat} {x2 : Nat} {f49_0 : Int32} {f49_1 : Int32} {f49_2 : Int64} {f49_3 : Value} {f49_4 : Value} {f49_5 : Int32} {f49_6 : Int32} {f55_0 : Nat} {f55_1 : Value} {f55_2 : Value} {f55_3 : Value} {f55_4 : Int32} {f55_5 : Int32} {f55_6 : Int32} {f55_7 : Int32} {cd1 : Nat} {ckc1 : Nat} {cks1 : Nat} {ckc2 : Nat} {cks2 : Nat} {Q1 : Option Value → List xCl → Prop} {fr_0 : Int32} {fr_1 : Value} {fr_2 : Int32} (h_f49_3 : xrf f49_3) (h_f49_4 : xrf f49_4) (h49 : M[x2]? = some (cO 4 [.int f49_0, .int f49_1, .long f49_2, f49_3, f49_4, .int f49_5, .int f49_6])) (h55 : M[x0]? = some (cO 0 [.ref f55_0, f55_1, f55_2, f55_3, .int f55_4, .int f55_5, .int f55_6, .int f55_7])) (hdp : cd1 + 1 ≤ d) (hkc : ckc1 + ckc2 ≤ kc) (hks : cks1 + cks2 ≤ ks) (hr : M[f55_0]? = some (cO 1 [.int fr_0, fr_1, .int fr_2])) (kz : Xw l D ρ m_Shelf_rowOf 0 [(0, .ref f55_0), (1, f49_4), (2, f49_3)] [] M cd1 ckc1 cks1 Q1) (kk : ∀ r N, Q1 r N → Xw l D ρ m_ContentStore_repair 66 [(0, .ref x0), (3, f49_3)] (r.toList ++ [.ref x2]) N d ckc2 cks2 Q) : Xw l D ρ m_ContentStore_repair 48 [(0, .ref x0), (2, .ref x2)] [] M d kc ks Q := by
  refine x_aload_n d_ContentStore_repair_48 rfl 1 rfl trivial ?_
  refine x_getf (k := 3) d_ContentStore_repair_49 ck_Blob fk_ContentStore_127 (by decide) h49 rfl ?_
  refine x_astore_n (i := 3) (L' := [(3, f49_3), (0, .ref x0), (2, .ref x2)]) d_ContentStore_repair_52 rfl (Nat.le_of_ble_eq_true rfl) h_f49_3 rfl ?_
  refine x_aload_n d_ContentStore_repair_53 rfl 2 rfl trivial ?_
  refine x_aload_n d_ContentStore_repair_54 rfl 1 rfl trivial ?_
  refine x_getf (k := 0) d_ContentStore_repair_55 ck_ContentStore fk_ContentStore_23 (by decide) h55 rfl ?_
  refine x_aload_n d_ContentStore_repair_58 rfl 2 rfl trivial ?_
  refine x_getf (k := 4) d_ContentStore_repair_59 ck_Blob fk_ContentStore_120 (by decide) h49 rfl ?_
  refine x_aload_n d_ContentStore_repair_62 rfl 0 rfl h_f49_3 ?_
  exact x_pick [1, 0] rfl (x_callV (As := [f49_4, f49_3]) (st := [.ref x2]) (host := "") d_ContentStore_repair_63 rfl mk_Shelf_rowOf mi_Shelf_rowOf mv_Shelf_rowOf (Or.inl kl_ContentStore_131) rfl (by simp [lg_sl, m_Shelf_rowOf, xcat_i, xcat_l, xcat_r, xcat_n, xcat_o, xrf_cat h_f49_4, xrf_cat h_f49_3]) (Nat.le_of_ble_eq_true rfl) ck_Shelf hr hdp hkc hks (by simp [lv_args, xcat_i, xcat_l, xcat_r, xcat_n, xcat_o, xrf_cat h_f49_4, xrf_cat h_f49_3]) kz kk)
theorem b_ContentStore_repair_66 {x0 : Nat} {x3 : Value} {s0 : Value} {s1 : Nat} {f66_0 : Int32} {f66_1 : Int32} {f66_2 : Int64} {f66_3 : Value} {f66_4 : Value} {f66_5 : Int32} {f66_6 : Int32} {f70_0 : Nat} {f70_1 : Value} {f70_2 : Value} {f70_3 : Value} {f70_4 : Int32} {f70_5 : Int32} {f70_6 : Int32} {f70_7 : Int32} {cd1 : Nat} {ckc1 : Nat} {cks1 : Nat} {ckc2 : Nat} {cks2 : Nat} {Q1 : Option Value → List xCl → Prop} {fr_0 : Int32} {fr_1 : Value} {fr_2 : Int32} (h_x3 : xrf x3) (h_s0 : xrf s0) (h66 : M[s1]? = some (cO 4 [.int f66_0, .int f66_1, .long f66_2, f66_3, f66_4, .int f66_5, .int f66_6])) (h70 : (M.set s1 (cO 4 [.int f66_0, .int f66_1, .long f66_2, s0, f66_4, .int f66_5, .int f66_6]))[x0]? = some (cO 0 [.ref f70_0, f70_1, f70_2, f70_3, .int f70_4, .int f70_5, .int f70_6, .int f70_7])) (hdp : cd1 + 1 ≤ d) (hkc : ckc1 + ckc2 ≤ kc) (hks : cks1 + cks2 ≤ ks) (hr : (M.set s1 (cO 4 [.int f66_0, .int f66_1, .long f66_2, s0, f66_4, .int f66_5, .int f66_6]))[f70_0]? = some (cO 1 [.int fr_0, fr_1, .int fr_2])) (kz : Xw l D ρ m_Shelf_leave 0 [(0, .ref f70_0), (1, x3)] [] (M.set s1 (cO 4 [.int f66_0, .int f66_1, .long f66_2, s0, f66_4, .int f66_5, .int f66_6])) cd1 ckc1 cks1 Q1) (kk : ∀ r N, Q1 r N → Xw l D ρ m_ContentStore_repair 77 [] (r.toList ++ []) N d ckc2 cks2 Q) : Xw l D ρ m_ContentStore_repair 66 [(0, .ref x0), (3, x3)] [s0, .ref s1] M d kc ks Q := by
  refine x_putf (k := 3) (fs' := [.int f66_0, .int f66_1, .long f66_2, s0, f66_4, .int f66_5, .int f66_6]) d_ContentStore_repair_66 ck_Blob fk_ContentStore_127 (by decide) (Or.inl rfl) (xft_arr h_s0) h66 (Nat.le_of_ble_eq_true rfl) rfl ?_
  refine x_aload_n d_ContentStore_repair_69 rfl 0 rfl trivial ?_
  refine x_getf (k := 0) d_ContentStore_repair_70 ck_ContentStore fk_ContentStore_23 (by decide) h70 rfl ?_
  refine x_aload_n d_ContentStore_repair_73 rfl 1 rfl h_x3 ?_
  exact x_pick [] rfl (x_callV (As := [x3]) (st := []) (host := "") d_ContentStore_repair_74 rfl mk_Shelf_leave mi_Shelf_leave mv_Shelf_leave (Or.inl kl_ContentStore_135) rfl (by simp [lg_sl, m_Shelf_leave, xcat_i, xcat_l, xcat_r, xcat_n, xcat_o, xrf_cat h_x3]) (Nat.le_of_ble_eq_true rfl) ck_Shelf hr hdp hkc hks (by simp [lv_args, xcat_i, xcat_l, xcat_r, xcat_n, xcat_o, xrf_cat h_x3]) kz kk)
theorem b_ContentStore_repair_77  (hQ : Q (some (.int 1)) M)  : Xw l D ρ m_ContentStore_repair 77 [] [] M d kc ks Q := by
  refine x_iconst (v := 1) d_ContentStore_repair_77 (by decide) ?_
  exact x_iret d_ContentStore_repair_78 rfl rfl hQ
theorem b_Blob_hasRightCopy_0 {x0 : Nat} {f1_0 : Int32} {f1_1 : Int32} {f1_2 : Int64} {f1_3 : Value} {f1_4 : Nat} {f1_5 : Int32} {f1_6 : Int32} (h1 : M[x0]? = some (cO 4 [.int f1_0, .int f1_1, .long f1_2, f1_3, .ref f1_4, .int f1_5, .int f1_6])) (k : Xw l D ρ m_Blob_hasRightCopy 7 [(0, .ref x0)] [] M d kc ks Q) : Xw l D ρ m_Blob_hasRightCopy 0 [(0, .ref x0)] [] M d kc ks Q := by
  refine x_aload_n d_Blob_hasRightCopy_0 rfl 0 rfl trivial ?_
  refine x_getf (k := 4) d_Blob_hasRightCopy_1 ck_Blob fk_Blob_51 (by decide) h1 rfl ?_
  exact x_ifnull_r d_Blob_hasRightCopy_4 (x_pick [0] rfl k)
theorem b_Blob_hasRightCopy_0_z {x0 : Nat} {f1_0 : Int32} {f1_1 : Int32} {f1_2 : Int64} {f1_3 : Value} {f1_5 : Int32} {f1_6 : Int32} (h1 : M[x0]? = some (cO 4 [.int f1_0, .int f1_1, .long f1_2, f1_3, .null, .int f1_5, .int f1_6])) (k : Xw l D ρ m_Blob_hasRightCopy 26 [] [] M d kc ks Q) : Xw l D ρ m_Blob_hasRightCopy 0 [(0, .ref x0)] [] M d kc ks Q := by
  refine x_aload_n d_Blob_hasRightCopy_0 rfl 0 rfl trivial ?_
  refine x_getf (k := 4) d_Blob_hasRightCopy_1 ck_Blob fk_Blob_51 (by decide) h1 rfl ?_
  exact x_ifnull_z d_Blob_hasRightCopy_4 (tgt := 26) (by decide) (x_pick [] rfl k)
theorem b_Blob_hasRightCopy_7 {x0 : Nat} {f9_0 : Int32} {f9_1 : Int32} {f9_2 : Int64} {f9_3 : Value} {f9_4 : Value} {f9_5 : Int32} {f9_6 : Int32} {cd1 : Nat} {ckc1 : Nat} {cks1 : Nat} {ckc2 : Nat} {cks2 : Nat} {Q1 : Option Value → List xCl → Prop} (h_f9_4 : xrf f9_4) (h9 : M[x0]? = some (cO 4 [.int f9_0, .int f9_1, .long f9_2, f9_3, f9_4, .int f9_5, .int f9_6])) (hdp : cd1 + 1 ≤ d) (hkc : ckc1 + ckc2 ≤ kc) (hks : cks1 + cks2 ≤ ks) (kz : Xw l D ρ m_ContentStore_sumBehind 0 [(0, .int 0), (1, f9_4)] [] M cd1 ckc1 cks1 Q1) (kk : ∀ r N, Q1 r N → Xw l D ρ m_Blob_hasRightCopy 15 [(0, .ref x0)] (r.toList ++ []) N d ckc2 cks2 Q) : Xw l D ρ m_Blob_hasRightCopy 7 [(0, .ref x0)] [] M d kc ks Q := by
  refine x_iconst (v := 0) d_Blob_hasRightCopy_7 (by decide) ?_
  refine x_aload_n d_Blob_hasRightCopy_8 rfl 0 rfl trivial ?_
  refine x_getf (k := 4) d_Blob_hasRightCopy_9 ck_Blob fk_Blob_51 (by decide) h9 rfl ?_
  exact x_pick [0] rfl (x_callS (As := [.int 0, f9_4]) (st := []) (host := "ContentStore") d_Blob_hasRightCopy_12 rfl mk_ContentStore_sumBehind ms_ContentStore_sumBehind (Or.inr kl_Blob_15) rfl (by simp [lg_sl, m_ContentStore_sumBehind, xcat_i, xcat_l, xcat_r, xcat_n, xcat_o, xrf_cat h_f9_4]) (Nat.le_of_ble_eq_true rfl) hdp hkc hks (by simp [lv_args, xcat_i, xcat_l, xcat_r, xcat_n, xcat_o, xrf_cat h_f9_4]) kz kk)
theorem b_Blob_hasRightCopy_15 {x0 : Nat} {s0 : Int32} {f16_0 : Int32} {f16_1 : Int32} {f16_2 : Int64} {f16_3 : Value} {f16_4 : Value} {f16_5 : Int32} {f16_6 : Int32} (h16 : M[x0]? = some (cO 4 [.int f16_0, .int f16_1, .long f16_2, f16_3, f16_4, .int f16_5, .int f16_6])) (kt : ¬ s0 = f16_1 → Xw l D ρ m_Blob_hasRightCopy 26 [] [] M d kc ks Q) (kf : s0 = f16_1 → Xw l D ρ m_Blob_hasRightCopy 22 [] [] M d kc ks Q) : Xw l D ρ m_Blob_hasRightCopy 15 [(0, .ref x0)] [.int s0] M d kc ks Q := by
  refine x_aload_n d_Blob_hasRightCopy_15 rfl 0 rfl trivial ?_
  refine x_getf (k := 1) d_Blob_hasRightCopy_16 ck_Blob fk_Blob_19 (by decide) h16 rfl ?_
  exact x_icmp_ne d_Blob_hasRightCopy_19 (tgt := 26) (by decide) (fun c => x_pick [] rfl (kt c)) (fun c => x_pick [] rfl (kf c))
end XB
