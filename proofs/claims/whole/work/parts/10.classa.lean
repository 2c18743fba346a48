section XB
variable {l : Launch} {D : va_G} {ρ : xR} {M : List xCl} {d kc ks : Nat} {Q : Option Value → List xCl → Prop}
theorem b_ContentStore_init_0 {x0 : Nat} {x1 : Int32} {kc1 : Nat} {ks1 : Nat} (hd1 : 1 ≤ d) (hk1 : kc1 + 1 ≤ kc) (hs1 : ks1 + 3 ≤ ks) (k : Xw l D ρ m_ContentStore_init 8 [(0, .ref x0), (1, .int x1)] [.ref M.length, .ref x0] (M ++ [cO 1 [.int 0, .null, .int 0]]) d kc1 ks1 Q) : Xw l D ρ m_ContentStore_init 0 [(0, .ref x0), (1, .int x1)] [] M d kc ks Q := by
  refine x_aload_n d_ContentStore_init_0 rfl 0 rfl trivial ?_
  refine x_objInit (y := m_ContentStore_init) (st := []) d_ContentStore_init_1 kl_ContentStore_1 ko_ins ko_code (Nat.le_of_ble_eq_true rfl) hd1 ?_
  refine x_aload_n d_ContentStore_init_4 rfl 0 rfl trivial ?_
  refine x_new (fs := [.int 0, .null, .int 0]) d_ContentStore_init_5 ck_Shelf kn_ContentStore_7 ki_Shelf kz_Shelf df_Shelf rfl hk1 hs1 ?_
  exact x_pick [0, 1] rfl k
theorem b_ContentStore_init_8 {x0 : Value} {x1 : Int32} {s0 : Value} {s1 : Value} {cd1 : Nat} {ckc1 : Nat} {cks1 : Nat} {ckc2 : Nat} {cks2 : Nat} {Q1 : Option Value → List xCl → Prop} (h_s0 : xrf s0) (h_s1 : xrf s1) (hdp : cd1 + 1 ≤ d) (hkc : ckc1 + ckc2 ≤ kc) (hks : cks1 + cks2 ≤ ks) (kz : Xw l D ρ m_Math_min 0 [(0, .int 2000), (1, .int x1)] [] M cd1 ckc1 cks1 Q1) (kk : ∀ r N, Q1 r N → Xw l D ρ m_ContentStore_init 17 [(0, x0)] (r.toList ++ [.int 0, s0, s0, s1]) N d ckc2 cks2 Q) : Xw l D ρ m_ContentStore_init 8 [(0, x0), (1, .int x1)] [s0, s1] M d kc ks Q := by
  refine x_dup d_ContentStore_init_8 (xrf_cat h_s0) ?_
  refine x_iconst (v := 0) d_ContentStore_init_9 (by decide) ?_
  refine x_sipush (v := 2000) d_ContentStore_init_10 (by decide) ?_
  refine x_iload_n d_ContentStore_init_13 rfl 1 rfl ?_
  exact x_pick [0] rfl (x_callS (As := [.int 2000, .int x1]) (st := [.int 0, s0, s0, s1]) (host := "") d_ContentStore_init_14 rfl mk_Math_min ms_Math_min (Or.inl kl_ContentStore_11) rfl (Nat.le_of_ble_eq_true rfl) (by simp [xcat_i, xcat_l, xcat_r, xcat_n, xcat_o, xrf_cat h_s0, xrf_cat h_s0, xrf_cat h_s1]) hdp hkc hks rfl kz kk)
theorem b_ContentStore_init_17 {x0 : Value} {s0 : Int32} {s1 : Int32} {s2 : Value} {s3 : Value} {s4 : Value} {cd1 : Nat} {ckc1 : Nat} {cks1 : Nat} {ckc2 : Nat} {cks2 : Nat} {Q1 : Option Value → List xCl → Prop} (h_s2 : xrf s2) (h_s3 : xrf s3) (h_s4 : xrf s4) (hdp : cd1 + 1 ≤ d) (hkc : ckc1 + ckc2 ≤ kc) (hks : cks1 + cks2 ≤ ks) (kz : Xw l D ρ m_Math_max 0 [(0, .int s1), (1, .int s0)] [] M cd1 ckc1 cks1 Q1) (kk : ∀ r N, Q1 r N → Xw l D ρ m_ContentStore_init 20 [(0, x0)] (r.toList ++ [s2, s3, s4]) N d ckc2 cks2 Q) : Xw l D ρ m_ContentStore_init 17 [(0, x0)] [.int s0, .int s1, s2, s3, s4] M d kc ks Q := by
  exact x_pick [0] rfl (x_callS (As := [.int s1, .int s0]) (st := [s2, s3, s4]) (host := "") d_ContentStore_init_17 rfl mk_Math_max ms_Math_max (Or.inl kl_ContentStore_17) rfl (Nat.le_of_ble_eq_true rfl) (by simp [xcat_i, xcat_l, xcat_r, xcat_n, xcat_o, xrf_cat h_s2, xrf_cat h_s3, xrf_cat h_s4]) hdp hkc hks rfl kz kk)
theorem b_ContentStore_init_20 {x0 : Value} {s0 : Int32} {s1 : Nat} {s2 : Value} {s3 : Value} {cd1 : Nat} {ckc1 : Nat} {cks1 : Nat} {ckc2 : Nat} {cks2 : Nat} {Q1 : Option Value → List xCl → Prop} (h_s2 : xrf s2) (h_s3 : xrf s3) (hdp : cd1 + 1 ≤ d) (hkc : ckc1 + ckc2 ≤ kc) (hks : cks1 + cks2 ≤ ks) (kz : Xw l D ρ m_Shelf_init 0 [(0, .ref s1), (1, .int s0)] [] M cd1 ckc1 cks1 Q1) (kk : ∀ r N, Q1 r N → Xw l D ρ m_ContentStore_init 23 [(0, x0)] (r.toList ++ [s2, s3]) N d ckc2 cks2 Q) : Xw l D ρ m_ContentStore_init 20 [(0, x0)] [.int s0, .ref s1, s2, s3] M d kc ks Q := by
  exact x_pick [0] rfl (x_callI (As := [.int s0]) (st := [s2, s3]) d_ContentStore_init_20 rfl mk_Shelf_init rfl rfl mi_Shelf_init kl_ContentStore_20 rfl (Nat.le_of_ble_eq_true rfl) (by simp [xcat_i, xcat_l, xcat_r, xcat_n, xcat_o, xrf_cat h_s2, xrf_cat h_s3]) hdp hkc hks rfl kz kk)
theorem b_ContentStore_init_23 {x0 : Value} {s0 : Value} {s1 : Nat} {f23_0 : Value} {f23_1 : Value} {f23_2 : Value} {f23_3 : Value} {f23_4 : Int32} {f23_5 : Int32} {f23_6 : Int32} {f23_7 : Int32} (h_s0 : xrf s0) (h23 : M[s1]? = some (cO 0 [f23_0, f23_1, f23_2, f23_3, .int f23_4, .int f23_5, .int f23_6, .int f23_7])) (k : Xw l D ρ m_ContentStore_init 26 [(0, x0)] [] (M.set s1 (cO 0 [s0, f23_1, f23_2, f23_3, .int f23_4, .int f23_5, .int f23_6, .int f23_7])) d kc ks Q) : Xw l D ρ m_ContentStore_init 23 [(0, x0)] [s0, .ref s1] M d kc ks Q := by
  refine x_putf (k := 0) (fs' := [s0, f23_1, f23_2, f23_3, .int f23_4, .int f23_5, .int f23_6, .int f23_7]) d_ContentStore_init_23 ck_ContentStore fk_ContentStore_23 (by decide) (Or.inr ⟨rfl, rfl, rfl⟩) (xft_obj h_s0) h23 (Nat.le_of_ble_eq_true rfl) rfl ?_
  exact x_pick [0] rfl k
theorem b_ContentStore_init_26 {x0 : Value} {n29 : Nat} {kc1 : Nat} {ks1 : Nat} (h_x0 : xrf x0) (e29 : 60 = nI n29) (g29 : n29 ≤ 100000000) (hk1 : kc1 + 1 ≤ kc) (hs1 : ks1 + n29 ≤ ks) (k : Xw l D ρ m_ContentStore_init 32 [(0, x0)] [.ref M.length, x0] (M ++ [cR 0 (List.replicate n29 none)]) d kc1 ks1 Q) : Xw l D ρ m_ContentStore_init 26 [(0, x0)] [] M d kc ks Q := by
  refine x_aload_n d_ContentStore_init_26 rfl 0 rfl h_x0 ?_
  refine x_bipush (v := 60) d_ContentStore_init_27 (by decide) ?_
  refine x_newq (k := 0) d_ContentStore_init_29 kn_ContentStore_27 ka_0 e29 g29 hk1 hs1 ?_
  exact x_pick [0] rfl k
theorem b_ContentStore_init_32 {x0 : Value} {s0 : Value} {s1 : Nat} {f32_0 : Value} {f32_1 : Value} {f32_2 : Value} {f32_3 : Value} {f32_4 : Int32} {f32_5 : Int32} {f32_6 : Int32} {f32_7 : Int32} (h_s0 : xrf s0) (h32 : M[s1]? = some (cO 0 [f32_0, f32_1, f32_2, f32_3, .int f32_4, .int f32_5, .int f32_6, .int f32_7])) (k : Xw l D ρ m_ContentStore_init 35 [(0, x0)] [] (M.set s1 (cO 0 [f32_0, s0, f32_2, f32_3, .int f32_4, .int f32_5, .int f32_6, .int f32_7])) d kc ks Q) : Xw l D ρ m_ContentStore_init 32 [(0, x0)] [s0, .ref s1] M d kc ks Q := by
  refine x_putf (k := 1) (fs' := [f32_0, s0, f32_2, f32_3, .int f32_4, .int f32_5, .int f32_6, .int f32_7]) d_ContentStore_init_32 ck_ContentStore fk_ContentStore_29 (by decide) (Or.inr ⟨rfl, rfl, rfl⟩) (xft_arr h_s0) h32 (Nat.le_of_ble_eq_true rfl) rfl ?_
  exact x_pick [0] rfl k
theorem b_ContentStore_init_35 {x0 : Value} {n38 : Nat} {kc1 : Nat} {ks1 : Nat} (h_x0 : xrf x0) (e38 : 60 = nI n38) (g38 : n38 ≤ 100000000) (hk1 : kc1 + 1 ≤ kc) (hs1 : ks1 + n38 ≤ ks) (k : Xw l D ρ m_ContentStore_init 41 [(0, x0)] [.ref M.length, x0] (M ++ [cR 1 (List.replicate n38 none)]) d kc1 ks1 Q) : Xw l D ρ m_ContentStore_init 35 [(0, x0)] [] M d kc ks Q := by
  refine x_aload_n d_ContentStore_init_35 rfl 0 rfl h_x0 ?_
  refine x_bipush (v := 60) d_ContentStore_init_36 (by decide) ?_
  refine x_newq (k := 1) d_ContentStore_init_38 kn_ContentStore_33 ka_1 e38 g38 hk1 hs1 ?_
  exact x_pick [0] rfl k
theorem b_ContentStore_init_41 {x0 : Value} {s0 : Value} {s1 : Nat} {f41_0 : Value} {f41_1 : Value} {f41_2 : Value} {f41_3 : Value} {f41_4 : Int32} {f41_5 : Int32} {f41_6 : Int32} {f41_7 : Int32} (h_s0 : xrf s0) (h41 : M[s1]? = some (cO 0 [f41_0, f41_1, f41_2, f41_3, .int f41_4, .int f41_5, .int f41_6, .int f41_7])) (k : Xw l D ρ m_ContentStore_init 44 [(0, x0)] [] (M.set s1 (cO 0 [f41_0, f41_1, s0, f41_3, .int f41_4, .int f41_5, .int f41_6, .int f41_7])) d kc ks Q) : Xw l D ρ m_ContentStore_init 41 [(0, x0)] [s0, .ref s1] M d kc ks Q := by
  refine x_putf (k := 2) (fs' := [f41_0, f41_1, s0, f41_3, .int f41_4, .int f41_5, .int f41_6, .int f41_7]) d_ContentStore_init_41 ck_ContentStore fk_ContentStore_35 (by decide) (Or.inr ⟨rfl, rfl, rfl⟩) (xft_arr h_s0) h41 (Nat.le_of_ble_eq_true rfl) rfl ?_
  exact x_pick [0] rfl k
theorem b_ContentStore_init_44 {x0 : Value} {n47 : Nat} {kc1 : Nat} {ks1 : Nat} (h_x0 : xrf x0) (e47 : 20 = nI n47) (g47 : n47 ≤ 100000000) (hk1 : kc1 + 1 ≤ kc) (hs1 : ks1 + n47 ≤ ks) (k : Xw l D ρ m_ContentStore_init 49 [(0, x0)] [.ref M.length, x0] (M ++ [cI (List.replicate n47 0)]) d kc1 ks1 Q) : Xw l D ρ m_ContentStore_init 44 [(0, x0)] [] M d kc ks Q := by
  refine x_aload_n d_ContentStore_init_44 rfl 0 rfl h_x0 ?_
  refine x_bipush (v := 20) d_ContentStore_init_45 (by decide) ?_
  refine x_newi d_ContentStore_init_47 kw_int e47 g47 hk1 hs1 ?_
  exact x_pick [0] rfl k
theorem b_ContentStore_init_49 {x0 : Value} {s0 : Value} {s1 : Nat} {f49_0 : Value} {f49_1 : Value} {f49_2 : Value} {f49_3 : Value} {f49_4 : Int32} {f49_5 : Int32} {f49_6 : Int32} {f49_7 : Int32} (h_s0 : xrf s0) (h49 : M[s1]? = some (cO 0 [f49_0, f49_1, f49_2, f49_3, .int f49_4, .int f49_5, .int f49_6, .int f49_7])) (k : Xw l D ρ m_ContentStore_init 52 [(0, x0)] [] (M.set s1 (cO 0 [f49_0, f49_1, f49_2, s0, .int f49_4, .int f49_5, .int f49_6, .int f49_7])) d kc ks Q) : Xw l D ρ m_ContentStore_init 49 [(0, x0)] [s0, .ref s1] M d kc ks Q := by
  refine x_putf (k := 3) (fs' := [f49_0, f49_1, f49_2, s0, .int f49_4, .int f49_5, .int f49_6, .int f49_7]) d_ContentStore_init_49 ck_ContentStore fk_ContentStore_39 (by decide) (Or.inr ⟨rfl, rfl, rfl⟩) (xft_arr h_s0) h49 (Nat.le_of_ble_eq_true rfl) rfl ?_
  exact x_pick [0] rfl k
theorem b_ContentStore_init_52 {x0 : Value}  (k : Xw l D ρ m_ContentStore_init 54 [(0, x0), (2, .int 0)] [] M d kc ks Q) : Xw l D ρ m_ContentStore_init 52 [(0, x0)] [] M d kc ks Q := by
  refine x_iconst (v := 0) d_ContentStore_init_52 (by decide) ?_
  refine x_istore_n (i := 2) (L' := [(2, .int 0), (0, x0)]) d_ContentStore_init_53 rfl (Nat.le_of_ble_eq_true rfl) rfl ?_
  exact x_pick [1, 0] rfl k
theorem b_ContentStore_init_54 {x0 : Nat} {x2 : Int32} {f56_0 : Value} {f56_1 : Value} {f56_2 : Value} {f56_3 : Nat} {f56_4 : Int32} {f56_5 : Int32} {f56_6 : Int32} {f56_7 : Int32} {a59 : List Int32} (h56 : M[x0]? = some (cO 0 [f56_0, f56_1, f56_2, .ref f56_3, .int f56_4, .int f56_5, .int f56_6, .int f56_7])) (h59 : M[f56_3]? = some (cI a59)) (kt : (nI a59.length) ≤ x2 → Xw l D ρ m_ContentStore_init 76 [] [] M d kc ks Q) (kf : ¬ (nI a59.length) ≤ x2 → Xw l D ρ m_ContentStore_init 63 [(0, .ref x0), (2, .int x2)] [] M d kc ks Q) : Xw l D ρ m_ContentStore_init 54 [(0, .ref x0), (2, .int x2)] [] M d kc ks Q := by
  refine x_iload_n d_ContentStore_init_54 rfl 1 rfl ?_
  refine x_aload_n d_ContentStore_init_55 rfl 0 rfl trivial ?_
  refine x_getf (k := 3) d_ContentStore_init_56 ck_ContentStore fk_ContentStore_39 (by decide) h56 rfl ?_
  refine x_alenI d_ContentStore_init_59 h59 ?_
  exact x_icmp_ge d_ContentStore_init_60 (tgt := 76) (by decide) (fun c => x_pick [] rfl (kt c)) (fun c => x_pick [0, 1] rfl (kf c))
theorem b_ContentStore_init_63 {x0 : Nat} {x2 : Int32} {f64_0 : Value} {f64_1 : Value} {f64_2 : Value} {f64_3 : Nat} {f64_4 : Int32} {f64_5 : Int32} {f64_6 : Int32} {f64_7 : Int32} {a69 : List Int32} {j69 : Nat} (h64 : M[x0]? = some (cO 0 [f64_0, f64_1, f64_2, .ref f64_3, .int f64_4, .int f64_5, .int f64_6, .int f64_7])) (h69 : M[f64_3]? = some (cI a69)) (e69 : x2 = nI j69) (g69 : j69 < a69.length) (b69 : a69.length ≤ 100000000) (k : Xw l D ρ m_ContentStore_init 54 [(0, .ref x0), (2, .int (x2 + 1))] [] (M.set f64_3 (cI (a69.set j69 ((-1))))) d kc ks Q) : Xw l D ρ m_ContentStore_init 63 [(0, .ref x0), (2, .int x2)] [] M d kc ks Q := by
  refine x_aload_n d_ContentStore_init_63 rfl 0 rfl trivial ?_
  refine x_getf (k := 3) d_ContentStore_init_64 ck_ContentStore fk_ContentStore_39 (by decide) h64 rfl ?_
  refine x_iload_n d_ContentStore_init_67 rfl 1 rfl ?_
  refine x_iconst (v := (-1)) d_ContentStore_init_68 (by decide) ?_
  refine x_iast d_ContentStore_init_69 e69 h69 g69 b69 ?_
  refine x_iinc (v := x2 + 1) (L' := [(2, .int (x2 + 1)), (0, .ref x0)]) d_ContentStore_init_70 1 rfl (by rfl) (Nat.le_of_ble_eq_true rfl) rfl ?_
  exact x_goto d_ContentStore_init_73 (tgt := 54) (by decide) (x_pick [1, 0] rfl k)
theorem b_ContentStore_init_76  (hQ : Q none M)  : Xw l D ρ m_ContentStore_init 76 [] [] M d kc ks Q := by
  exact x_vret d_ContentStore_init_76 rfl hQ
theorem b_Shelf_init_0 {x0 : Nat} {x1 : Int32} {f6_0 : Int32} {f6_1 : Value} {f6_2 : Int32} {kc1 : Nat} {ks1 : Nat} {cd1 : Nat} {ckc1 : Nat} {cks1 : Nat} {ckc2 : Nat} {cks2 : Nat} {Q1 : Option Value → List xCl → Prop} (hd1 : 1 ≤ d) (h6 : M[x0]? = some (cO 1 [.int f6_0, f6_1, .int f6_2])) (hk1 : kc1 + 1 ≤ kc) (hs1 : ks1 + 3 ≤ ks) (hdp : cd1 + 1 ≤ d) (hkc : ckc1 + ckc2 ≤ kc1) (hks : cks1 + cks2 ≤ ks1) (kz : Xw l D ρ m_ArrayList_init 0 [(0, .ref ((M.set x0 (cO 1 [.int x1, f6_1, .int f6_2])).length))] [] ((M.set x0 (cO 1 [.int x1, f6_1, .int f6_2])) ++ [cO 2 [.null, .int 0, .int 0]]) cd1 ckc1 cks1 Q1) (kk : ∀ r N, Q1 r N → Xw l D ρ m_Shelf_init 17 [] (r.toList ++ [.ref ((M.set x0 (cO 1 [.int x1, f6_1, .int f6_2])).length), .ref x0]) N d ckc2 cks2 Q) : Xw l D ρ m_Shelf_init 0 [(0, .ref x0), (1, .int x1)] [] M d kc ks Q := by
  refine x_aload_n d_Shelf_init_0 rfl 0 rfl trivial ?_
  refine x_objInit (y := m_Shelf_init) (st := []) d_Shelf_init_1 kl_Shelf_3 ko_ins ko_code (Nat.le_of_ble_eq_true rfl) hd1 ?_
  refine x_aload_n d_Shelf_init_4 rfl 0 rfl trivial ?_
  refine x_iload_n d_Shelf_init_5 rfl 1 rfl ?_
  refine x_putf (k := 0) (fs' := [.int x1, f6_1, .int f6_2]) d_Shelf_init_6 ck_Shelf fk_Shelf_9 (by decide) (Or.inr ⟨rfl, rfl, rfl⟩) rfl h6 (Nat.le_of_ble_eq_true rfl) rfl ?_
  refine x_aload_n d_Shelf_init_9 rfl 0 rfl trivial ?_
  refine x_new (fs := [.null, .int 0, .int 0]) d_Shelf_init_10 ck_ArrayList kn_Shelf_15 ki_ArrayList kz_ArrayList df_ArrayList rfl hk1 hs1 ?_
  refine x_dup d_Shelf_init_13 rfl ?_
  exact x_pick [] rfl (x_callI (As := []) (st := [.ref ((M.set x0 (cO 1 [.int x1, f6_1, .int f6_2])).length), .ref x0]) d_Shelf_init_14 rfl mk_ArrayList_init rfl rfl mi_ArrayList_init kl_Shelf_17 rfl (Nat.le_of_ble_eq_true rfl) (Nat.le_of_ble_eq_true rfl) hdp hkc hks rfl kz kk)
theorem b_Shelf_init_17 {s0 : Value} {s1 : Nat} {f17_0 : Int32} {f17_1 : Value} {f17_2 : Int32} (h_s0 : xrf s0) (h17 : M[s1]? = some (cO 1 [.int f17_0, f17_1, .int f17_2])) (hQ : Q none (M.set s1 (cO 1 [.int f17_0, s0, .int f17_2])))  : Xw l D ρ m_Shelf_init 17 [] [s0, .ref s1] M d kc ks Q := by
  refine x_putf (k := 1) (fs' := [.int f17_0, s0, .int f17_2]) d_Shelf_init_17 ck_Shelf fk_Shelf_18 (by decide) (Or.inr ⟨rfl, rfl, rfl⟩) (xft_obj h_s0) h17 (Nat.le_of_ble_eq_true rfl) rfl ?_
  exact x_vret d_Shelf_init_20 rfl hQ
theorem b_ContentStore_begin_0 {x0 : Value} {x1 : Int32} {x2 : Int64}  (kt : x1 < 0 → Xw l D ρ m_ContentStore_begin 30 [] [] M d kc ks Q) (kf : ¬ x1 < 0 → Xw l D ρ m_ContentStore_begin 4 [(0, x0), (1, .int x1), (2, .long x2)] [] M d kc ks Q) : Xw l D ρ m_ContentStore_begin 0 [(0, x0), (1, .int x1), (2, .long x2)] [] M d kc ks Q := by
  refine x_iload_n d_ContentStore_begin_0 rfl 1 rfl ?_
  exact x_if_lt d_ContentStore_begin_1 (tgt := 30) (by decide) (fun c => x_pick [] rfl (kt c)) (fun c => x_pick [0, 1, 2] rfl (kf c))
theorem b_ContentStore_begin_4 {x0 : Value} {x1 : Int32} {x2 : Int64}  (kt : 96 < x1 → Xw l D ρ m_ContentStore_begin 30 [] [] M d kc ks Q) (kf : ¬ 96 < x1 → Xw l D ρ m_ContentStore_begin 10 [(0, x0), (1, .int x1), (2, .long x2)] [] M d kc ks Q) : Xw l D ρ m_ContentStore_begin 4 [(0, x0), (1, .int x1), (2, .long x2)] [] M d kc ks Q := by
  refine x_iload_n d_ContentStore_begin_4 rfl 1 rfl ?_
  refine x_bipush (v := 96) d_ContentStore_begin_5 (by decide) ?_
  exact x_icmp_gt d_ContentStore_begin_7 (tgt := 30) (by decide) (fun c => x_pick [] rfl (kt c)) (fun c => x_pick [0, 1, 2] rfl (kf c))
theorem b_ContentStore_begin_10 {x0 : Nat} {x1 : Int32} {x2 : Int64} {f11_0 : Value} {f11_1 : Value} {f11_2 : Value} {f11_3 : Value} {f11_4 : Int32} {f11_5 : Int32} {f11_6 : Int32} {f11_7 : Int32} (h11 : M[x0]? = some (cO 0 [f11_0, f11_1, f11_2, f11_3, .int f11_4, .int f11_5, .int f11_6, .int f11_7])) (kt : 4 ≤ f11_5 → Xw l D ρ m_ContentStore_begin 30 [] [] M d kc ks Q) (kf : ¬ 4 ≤ f11_5 → Xw l D ρ m_ContentStore_begin 18 [(0, .ref x0), (1, .int x1), (2, .long x2)] [] M d kc ks Q) : Xw l D ρ m_ContentStore_begin 10 [(0, .ref x0), (1, .int x1), (2, .long x2)] [] M d kc ks Q := by
  refine x_aload_n d_ContentStore_begin_10 rfl 0 rfl trivial ?_
  refine x_getf (k := 5) d_ContentStore_begin_11 ck_ContentStore fk_ContentStore_43 (by decide) h11 rfl ?_
  refine x_iconst (v := 4) d_ContentStore_begin_14 (by decide) ?_
  exact x_icmp_ge d_ContentStore_begin_15 (tgt := 30) (by decide) (fun c => x_pick [] rfl (kt c)) (fun c => x_pick [0, 1, 2] rfl (kf c))
theorem b_ContentStore_begin_18 {x0 : Nat} {x1 : Int32} {x2 : Int64} {f19_0 : Value} {f19_1 : Nat} {f19_2 : Value} {f19_3 : Value} {f19_4 : Int32} {f19_5 : Int32} {f19_6 : Int32} {f19_7 : Int32} {a26 : List (Option Nat)} (h19 : M[x0]? = some (cO 0 [f19_0, .ref f19_1, f19_2, f19_3, .int f19_4, .int f19_5, .int f19_6, .int f19_7])) (h26 : M[f19_1]? = some (cR 0 a26)) (kt : f19_4 < (nI a26.length) → Xw l D ρ m_ContentStore_begin 32 [(0, .ref x0), (1, .int x1), (2, .long x2)] [] M d kc ks Q) (kf : ¬ f19_4 < (nI a26.length) → Xw l D ρ m_ContentStore_begin 30 [] [] M d kc ks Q) : Xw l D ρ m_ContentStore_begin 18 [(0, .ref x0), (1, .int x1), (2, .long x2)] [] M d kc ks Q := by
  refine x_aload_n d_ContentStore_begin_18 rfl 0 rfl trivial ?_
  refine x_getf (k := 4) d_ContentStore_begin_19 ck_ContentStore fk_ContentStore_47 (by decide) h19 rfl ?_
  refine x_aload_n d_ContentStore_begin_22 rfl 0 rfl trivial ?_
  refine x_getf (k := 1) d_ContentStore_begin_23 ck_ContentStore fk_ContentStore_29 (by decide) h19 rfl ?_
  refine x_alenR d_ContentStore_begin_26 h26 ?_
  exact x_icmp_lt d_ContentStore_begin_27 (tgt := 32) (by decide) (fun c => x_pick [0, 1, 2] rfl (kt c)) (fun c => x_pick [] rfl (kf c))
theorem b_ContentStore_begin_30  (hQ : Q (some (.int ((-1)))) M)  : Xw l D ρ m_ContentStore_begin 30 [] [] M d kc ks Q := by
  refine x_iconst (v := (-1)) d_ContentStore_begin_30 (by decide) ?_
  exact x_iret d_ContentStore_begin_31 rfl rfl hQ
theorem b_ContentStore_begin_32 {x0 : Nat} {x1 : Int32} {x2 : Int64} {f33_0 : Value} {f33_1 : Value} {f33_2 : Value} {f33_3 : Value} {f33_4 : Int32} {f33_5 : Int32} {f33_6 : Int32} {f33_7 : Int32} {kc1 : Nat} {ks1 : Nat} {cd1 : Nat} {ckc1 : Nat} {cks1 : Nat} {ckc2 : Nat} {cks2 : Nat} {Q1 : Option Value → List xCl → Prop} (h_f33_1 : xrf f33_1) (h33 : M[x0]? = some (cO 0 [f33_0, f33_1, f33_2, f33_3, .int f33_4, .int f33_5, .int f33_6, .int f33_7])) (hk1 : kc1 + 1 ≤ kc) (hs1 : ks1 + 4 ≤ ks) (hdp : cd1 + 1 ≤ d) (hkc : ckc1 + ckc2 ≤ kc1) (hks : cks1 + cks2 ≤ ks1) (kz : Xw l D ρ m_Put_init 0 [(0, .ref M.length), (1, .int x1), (2, .long x2)] [] (M ++ [cO 3 [.null, .long 0, .int 0, .int 0]]) cd1 ckc1 cks1 Q1) (kk : ∀ r N, Q1 r N → Xw l D ρ m_ContentStore_begin 53 [(0, .ref x0), (4, .int f33_4)] (r.toList ++ [.ref M.length, .int f33_4, f33_1]) N d ckc2 cks2 Q) : Xw l D ρ m_ContentStore_begin 32 [(0, .ref x0), (1, .int x1), (2, .long x2)] [] M d kc ks Q := by
  refine x_aload_n d_ContentStore_begin_32 rfl 0 rfl trivial ?_
  refine x_getf (k := 4) d_ContentStore_begin_33 ck_ContentStore fk_ContentStore_47 (by decide) h33 rfl ?_
  refine x_istore (i := 4) (L' := [(4, .int f33_4), (0, .ref x0), (1, .int x1), (2, .long x2)]) d_ContentStore_begin_36 (Nat.le_of_ble_eq_true rfl) rfl ?_
  refine x_aload_n d_ContentStore_begin_38 rfl 1 rfl trivial ?_
  refine x_getf (k := 1) d_ContentStore_begin_39 ck_ContentStore fk_ContentStore_29 (by decide) h33 rfl ?_
  refine x_iload d_ContentStore_begin_42 0 rfl ?_
  refine x_new (fs := [.null, .long 0, .int 0, .int 0]) d_ContentStore_begin_44 ck_Put kn_ContentStore_27 ki_Put kz_Put df_Put rfl hk1 hs1 ?_
  refine x_dup d_ContentStore_begin_47 rfl ?_
  refine x_iload_n d_ContentStore_begin_48 rfl 2 rfl ?_
  refine x_lload_n d_ContentStore_begin_49 rfl 3 rfl ?_
  exact x_pick [1, 0] rfl (x_callI (As := [.int x1, .long x2]) (st := [.ref M.length, .int f33_4, f33_1]) d_ContentStore_begin_50 rfl mk_Put_init rfl rfl mi_Put_init kl_ContentStore_50 rfl (Nat.le_of_ble_eq_true rfl) (by simp [xcat_i, xcat_l, xcat_r, xcat_n, xcat_o, xrf_cat h_f33_1]) hdp hkc hks rfl kz kk)
theorem b_ContentStore_begin_53 {x0 : Nat} {x4 : Int32} {s0 : Nat} {s1 : Int32} {s2 : Nat} {a53 : List (Option Nat)} {j53 : Nat} {ci53 : Nat} {N53 : Nat} {C53 : String} {T53 : u_T} {ty53 : Nat → FieldType} {fs53 : List Value} {f56_0 : Value} {f56_1 : Value} {f56_2 : Value} {f56_3 : Value} {f56_4 : Int32} {f56_5 : Int32} {f56_6 : Int32} {f56_7 : Int32} (h53 : M[s2]? = some (cR 0 a53)) (e53 : s1 = nI j53) (g53 : j53 < a53.length) (b53 : a53.length ≤ 100000000) (v53 : M[s0]? = some (cO ci53 fs53)) (ck53 : xCk ci53 C53 T53 N53 ty53) (z53 : C53 = xEl 0 ∨ Cond.castable C53 (xEl 0) ∈ Nw) (h56 : (M.set s2 (cR 0 (a53.set j53 (some s0))))[x0]? = some (cO 0 [f56_0, f56_1, f56_2, f56_3, .int f56_4, .int f56_5, .int f56_6, .int f56_7])) (hQ : Q (some (.int x4)) (((M.set s2 (cR 0 (a53.set j53 (some s0)))).set x0 (cO 0 [f56_0, f56_1, f56_2, f56_3, .int (f56_4 + 1), .int f56_5, .int f56_6, .int f56_7])).set x0 (cO 0 [f56_0, f56_1, f56_2, f56_3, .int (f56_4 + 1), .int (f56_5 + 1), .int f56_6, .int f56_7])))  : Xw l D ρ m_ContentStore_begin 53 [(0, .ref x0), (4, .int x4)] [.ref s0, .int s1, .ref s2] M d kc ks Q := by
  refine x_aast d_ContentStore_begin_53 e53 h53 g53 b53 v53 ck53 z53 ?_
  refine x_aload_n d_ContentStore_begin_54 rfl 0 rfl trivial ?_
  refine x_dup d_ContentStore_begin_55 rfl ?_
  refine x_getf (k := 4) d_ContentStore_begin_56 ck_ContentStore fk_ContentStore_47 (by decide) h56 rfl ?_
  refine x_iconst (v := 1) d_ContentStore_begin_59 (by decide) ?_
  refine x_iadd d_ContentStore_begin_60 ?_
  refine x_putf (k := 4) (fs' := [f56_0, f56_1, f56_2, f56_3, .int (f56_4 + 1), .int f56_5, .int f56_6, .int f56_7]) d_ContentStore_begin_61 ck_ContentStore fk_ContentStore_47 (by decide) (Or.inl rfl) rfl h56 (Nat.le_of_ble_eq_true rfl) rfl ?_
  refine x_aload_n d_ContentStore_begin_64 rfl 0 rfl trivial ?_
  refine x_dup d_ContentStore_begin_65 rfl ?_
  refine x_getf (k := 5) d_ContentStore_begin_66 ck_ContentStore fk_ContentStore_43 (by decide) (xset_eq h56) rfl ?_
  refine x_iconst (v := 1) d_ContentStore_begin_69 (by decide) ?_
  refine x_iadd d_ContentStore_begin_70 ?_
  refine x_putf (k := 5) (fs' := [f56_0, f56_1, f56_2, f56_3, .int (f56_4 + 1), .int (f56_5 + 1), .int f56_6, .int f56_7]) d_ContentStore_begin_71 ck_ContentStore fk_ContentStore_43 (by decide) (Or.inl rfl) rfl (xset_eq h56) (Nat.le_of_ble_eq_true rfl) rfl ?_
  refine x_iload d_ContentStore_begin_74 1 rfl ?_
  exact x_iret d_ContentStore_begin_76 rfl rfl hQ
theorem b_Put_init_0 {x0 : Nat} {x1 : Int32} {x2 : Int64} {cd1 : Nat} {ckc1 : Nat} {cks1 : Nat} {ckc2 : Nat} {cks2 : Nat} {Q1 : Option Value → List xCl → Prop} (hd1 : 1 ≤ d) (hdp : cd1 + 1 ≤ d) (hkc : ckc1 + ckc2 ≤ kc) (hks : cks1 + cks2 ≤ ks) (kz : Xw l D ρ m_Math_max 0 [(0, .int 0), (1, .int x1)] [] M cd1 ckc1 cks1 Q1) (kk : ∀ r N, Q1 r N → Xw l D ρ m_Put_init 10 [(0, .ref x0), (2, .long x2)] (r.toList ++ [.ref x0]) N d ckc2 cks2 Q) : Xw l D ρ m_Put_init 0 [(0, .ref x0), (1, .int x1), (2, .long x2)] [] M d kc ks Q := by
  refine x_aload_n d_Put_init_0 rfl 0 rfl trivial ?_
  refine x_objInit (y := m_Put_init) (st := []) d_Put_init_1 kl_Put_3 ko_ins ko_code (Nat.le_of_ble_eq_true rfl) hd1 ?_
  refine x_aload_n d_Put_init_4 rfl 0 rfl trivial ?_
  refine x_iconst (v := 0) d_Put_init_5 (by decide) ?_
  refine x_iload_n d_Put_init_6 rfl 1 rfl ?_
  exact x_pick [0, 2] rfl (x_callS (As := [.int 0, .int x1]) (st := [.ref x0]) (host := "") d_Put_init_7 rfl mk_Math_max ms_Math_max (Or.inl kl_Put_9) rfl (Nat.le_of_ble_eq_true rfl) (Nat.le_of_ble_eq_true rfl) hdp hkc hks rfl kz kk)
theorem b_Put_init_10 {x0 : Nat} {x2 : Int64} {s0 : Int32} {s1 : Nat} {n10 : Nat} {kc1 : Nat} {ks1 : Nat} {f12_0 : Value} {f12_1 : Int64} {f12_2 : Int32} {f12_3 : Int32} {f17_0 : Value} {f17_1 : Int64} {f17_2 : Int32} {f17_3 : Int32} (e10 : s0 = nI n10) (g10 : n10 ≤ 100000000) (hk1 : kc1 + 1 ≤ kc) (hs1 : ks1 + n10 ≤ ks) (h12 : (M ++ [cI (List.replicate n10 0)])[s1]? = some (cO 3 [f12_0, .long f12_1, .int f12_2, .int f12_3])) (h17 : ((M ++ [cI (List.replicate n10 0)]).set s1 (cO 3 [.ref M.length, .long f12_1, .int f12_2, .int f12_3]))[x0]? = some (cO 3 [f17_0, .long f17_1, .int f17_2, .int f17_3])) (hQ : Q none ((((M ++ [cI (List.replicate n10 0)]).set s1 (cO 3 [.ref M.length, .long f12_1, .int f12_2, .int f12_3])).set x0 (cO 3 [f17_0, .long x2, .int f17_2, .int f17_3])).set x0 (cO 3 [f17_0, .long x2, .int f17_2, .int 1])))  : Xw l D ρ m_Put_init 10 [(0, .ref x0), (2, .long x2)] [.int s0, .ref s1] M d kc ks Q := by
  refine x_newi d_Put_init_10 kw_int e10 g10 hk1 hs1 ?_
  refine x_putf (k := 0) (fs' := [.ref M.length, .long f12_1, .int f12_2, .int f12_3]) d_Put_init_12 ck_Put fk_Put_15 (by decide) (Or.inr ⟨rfl, rfl, rfl⟩) rfl h12 (Nat.le_of_ble_eq_true rfl) rfl ?_
  refine x_aload_n d_Put_init_15 rfl 0 rfl trivial ?_
  refine x_lload_n d_Put_init_16 rfl 1 rfl ?_
  refine x_putf (k := 1) (fs' := [f17_0, .long x2, .int f17_2, .int f17_3]) d_Put_init_17 ck_Put fk_Put_21 (by decide) (Or.inr ⟨rfl, rfl, rfl⟩) rfl h17 (Nat.le_of_ble_eq_true rfl) rfl ?_
  refine x_aload_n d_Put_init_20 rfl 0 rfl trivial ?_
  refine x_iconst (v := 1) d_Put_init_21 (by decide) ?_
  refine x_putf (k := 3) (fs' := [f17_0, .long x2, .int f17_2, .int 1]) d_Put_init_22 ck_Put fk_Put_25 (by decide) (Or.inl rfl) rfl (xset_eq h17) (Nat.le_of_ble_eq_true rfl) rfl ?_
  exact x_vret d_Put_init_25 rfl hQ
theorem b_ContentStore_add_0 {x0 : Nat} {x1 : Int32} {x2 : Int64} {x4 : Int32} {cd1 : Nat} {ckc1 : Nat} {cks1 : Nat} {ckc2 : Nat} {cks2 : Nat} {Q1 : Option Value → List xCl → Prop} {fr_0 : Value} {fr_1 : Value} {fr_2 : Value} {fr_3 : Value} {fr_4 : Int32} {fr_5 : Int32} {fr_6 : Int32} {fr_7 : Int32} (hdp : cd1 + 1 ≤ d) (hkc : ckc1 + ckc2 ≤ kc) (hks : cks1 + cks2 ≤ ks) (hr : M[x0]? = some (cO 0 [fr_0, fr_1, fr_2, fr_3, .int fr_4, .int fr_5, .int fr_6, .int fr_7])) (kz : Xw l D ρ m_ContentStore_openPut 0 [(0, .ref x0), (1, .int x1)] [] M cd1 ckc1 cks1 Q1) (kk : ∀ r N, Q1 r N → Xw l D ρ m_ContentStore_add 5 [(2, .long x2), (4, .int x4)] (r.toList ++ []) N d ckc2 cks2 Q) : Xw l D ρ m_ContentStore_add 0 [(0, .ref x0), (1, .int x1), (2, .long x2), (4, .int x4)] [] M d kc ks Q := by
  refine x_aload_n d_ContentStore_add_0 rfl 0 rfl trivial ?_
  refine x_iload_n d_ContentStore_add_1 rfl 1 rfl ?_
  exact x_pick [2, 3] rfl (x_callV (As := [.int x1]) (st := []) (host := "") d_ContentStore_add_2 rfl mk_ContentStore_openPut mi_ContentStore_openPut mv_ContentStore_openPut (Or.inl kl_ContentStore_53) rfl (Nat.le_of_ble_eq_true rfl) (Nat.le_of_ble_eq_true rfl) ck_ContentStore hr hdp hkc hks rfl kz kk)
theorem b_ContentStore_add_5 {x2 : Int64} {x4 : Int32} {s0 : Nat}  (k : Xw l D ρ m_ContentStore_add 12 [(2, .long x2), (4, .int x4), (5, .ref s0)] [] M d kc ks Q) : Xw l D ρ m_ContentStore_add 5 [(2, .long x2), (4, .int x4)] [.ref s0] M d kc ks Q := by
  refine x_astore (i := 5) (L' := [(5, .ref s0), (2, .long x2), (4, .int x4)]) d_ContentStore_add_5 (Nat.le_of_ble_eq_true rfl) trivial rfl ?_
  refine x_aload d_ContentStore_add_7 0 rfl trivial ?_
  exact x_ifnull_r d_ContentStore_add_9 (x_pick [1, 2, 0] rfl k)
theorem b_ContentStore_add_5_z {x2 : Int64} {x4 : Int32}  (k : Xw l D ρ m_ContentStore_add 35 [] [] M d kc ks Q) : Xw l D ρ m_ContentStore_add 5 [(2, .long x2), (4, .int x4)] [.null] M d kc ks Q := by
  refine x_astore (i := 5) (L' := [(5, .null), (2, .long x2), (4, .int x4)]) d_ContentStore_add_5 (Nat.le_of_ble_eq_true rfl) trivial rfl ?_
  refine x_aload d_ContentStore_add_7 0 rfl trivial ?_
  exact x_ifnull_z d_ContentStore_add_9 (tgt := 35) (by decide) (x_pick [] rfl k)
theorem b_ContentStore_add_12 {x2 : Int64} {x4 : Int32} {x5 : Value}  (kt : x4 < 1 → Xw l D ρ m_ContentStore_add 35 [] [] M d kc ks Q) (kf : ¬ x4 < 1 → Xw l D ρ m_ContentStore_add 18 [(2, .long x2), (4, .int x4), (5, x5)] [] M d kc ks Q) : Xw l D ρ m_ContentStore_add 12 [(2, .long x2), (4, .int x4), (5, x5)] [] M d kc ks Q := by
  refine x_iload d_ContentStore_add_12 1 rfl ?_
  refine x_iconst (v := 1) d_ContentStore_add_14 (by decide) ?_
  exact x_icmp_lt d_ContentStore_add_15 (tgt := 35) (by decide) (fun c => x_pick [] rfl (kt c)) (fun c => x_pick [0, 1, 2] rfl (kf c))
theorem b_ContentStore_add_18 {x2 : Int64} {x4 : Int32} {x5 : Value}  (kt : 8 < x4 → Xw l D ρ m_ContentStore_add 35 [] [] M d kc ks Q) (kf : ¬ 8 < x4 → Xw l D ρ m_ContentStore_add 25 [(2, .long x2), (4, .int x4), (5, x5)] [] M d kc ks Q) : Xw l D ρ m_ContentStore_add 18 [(2, .long x2), (4, .int x4), (5, x5)] [] M d kc ks Q := by
  refine x_iload d_ContentStore_add_18 1 rfl ?_
  refine x_bipush (v := 8) d_ContentStore_add_20 (by decide) ?_
  exact x_icmp_gt d_ContentStore_add_22 (tgt := 35) (by decide) (fun c => x_pick [] rfl (kt c)) (fun c => x_pick [0, 1, 2] rfl (kf c))
theorem b_ContentStore_add_25 {x2 : Int64} {x4 : Int32} {x5 : Nat} {cd1 : Nat} {ckc1 : Nat} {cks1 : Nat} {ckc2 : Nat} {cks2 : Nat} {Q1 : Option Value → List xCl → Prop} {fr_0 : Value} {fr_1 : Int64} {fr_2 : Int32} {fr_3 : Int32} (hdp : cd1 + 1 ≤ d) (hkc : ckc1 + ckc2 ≤ kc) (hks : cks1 + cks2 ≤ ks) (hr : M[x5]? = some (cO 3 [fr_0, .long fr_1, .int fr_2, .int fr_3])) (kz : Xw l D ρ m_Put_lacking 0 [(0, .ref x5)] [] M cd1 ckc1 cks1 Q1) (kk : ∀ r N, Q1 r N → Xw l D ρ m_ContentStore_add 32 [(2, .long x2), (4, .int x4), (5, .ref x5)] (r.toList ++ [.int x4]) N d ckc2 cks2 Q) : Xw l D ρ m_ContentStore_add 25 [(2, .long x2), (4, .int x4), (5, .ref x5)] [] M d kc ks Q := by
  refine x_iload d_ContentStore_add_25 1 rfl ?_
  refine x_aload d_ContentStore_add_27 2 rfl trivial ?_
  exact x_pick [0, 1, 2] rfl (x_callV (As := []) (st := [.int x4]) (host := "") d_ContentStore_add_29 rfl mk_Put_lacking mi_Put_lacking mv_Put_lacking (Or.inl kl_ContentStore_57) rfl (Nat.le_of_ble_eq_true rfl) (Nat.le_of_ble_eq_true rfl) ck_Put hr hdp hkc hks rfl kz kk)
theorem b_ContentStore_add_32 {x2 : Int64} {x4 : Int32} {x5 : Value} {s0 : Int32} {s1 : Int32}  (kt : s1 ≤ s0 → Xw l D ρ m_ContentStore_add 37 [(2, .long x2), (4, .int x4), (5, x5)] [] M d kc ks Q) (kf : ¬ s1 ≤ s0 → Xw l D ρ m_ContentStore_add 35 [] [] M d kc ks Q) : Xw l D ρ m_ContentStore_add 32 [(2, .long x2), (4, .int x4), (5, x5)] [.int s0, .int s1] M d kc ks Q := by
  exact x_icmp_le d_ContentStore_add_32 (tgt := 37) (by decide) (fun c => x_pick [0, 1, 2] rfl (kt c)) (fun c => x_pick [] rfl (kf c))
theorem b_ContentStore_add_35  (hQ : Q (some (.int ((-1)))) M)  : Xw l D ρ m_ContentStore_add 35 [] [] M d kc ks Q := by
  refine x_iconst (v := (-1)) d_ContentStore_add_35 (by decide) ?_
  exact x_iret d_ContentStore_add_36 rfl rfl hQ
theorem b_ContentStore_add_37 {x2 : Int64} {x4 : Int32} {x5 : Nat} {cd1 : Nat} {ckc1 : Nat} {cks1 : Nat} {ckc2 : Nat} {cks2 : Nat} {Q1 : Option Value → List xCl → Prop} {fr_0 : Value} {fr_1 : Int64} {fr_2 : Int32} {fr_3 : Int32} (hdp : cd1 + 1 ≤ d) (hkc : ckc1 + ckc2 ≤ kc) (hks : cks1 + cks2 ≤ ks) (hr : M[x5]? = some (cO 3 [fr_0, .long fr_1, .int fr_2, .int fr_3])) (kz : Xw l D ρ m_Put_take 0 [(0, .ref x5), (1, .long x2), (3, .int x4)] [] M cd1 ckc1 cks1 Q1) (kk : ∀ r N, Q1 r N → Xw l D ρ m_ContentStore_add 45 [(5, .ref x5)] (r.toList ++ []) N d ckc2 cks2 Q) : Xw l D ρ m_ContentStore_add 37 [(2, .long x2), (4, .int x4), (5, .ref x5)] [] M d kc ks Q := by
  refine x_aload d_ContentStore_add_37 2 rfl trivial ?_
  refine x_lload_n d_ContentStore_add_39 rfl 0 rfl ?_
  refine x_iload d_ContentStore_add_40 1 rfl ?_
  exact x_pick [2] rfl (x_callV (As := [.long x2, .int x4]) (st := []) (host := "") d_ContentStore_add_42 rfl mk_Put_take mi_Put_take mv_Put_take (Or.inl kl_ContentStore_61) rfl (Nat.le_of_ble_eq_true rfl) (Nat.le_of_ble_eq_true rfl) ck_Put hr hdp hkc hks rfl kz kk)
theorem b_ContentStore_add_45 {x5 : Nat} {f47_0 : Value} {f47_1 : Int64} {f47_2 : Int32} {f47_3 : Int32} (h47 : M[x5]? = some (cO 3 [f47_0, .long f47_1, .int f47_2, .int f47_3])) (hQ : Q (some (.int f47_2)) M)  : Xw l D ρ m_ContentStore_add 45 [(5, .ref x5)] [] M d kc ks Q := by
  refine x_aload d_ContentStore_add_45 0 rfl trivial ?_
  refine x_getf (k := 2) d_ContentStore_add_47 ck_Put fk_ContentStore_65 (by decide) h47 rfl ?_
  exact x_iret d_ContentStore_add_50 rfl rfl hQ
theorem b_ContentStore_openPut_0 {x0 : Value} {x1 : Int32}  (kt : x1 < 0 → Xw l D ρ m_ContentStore_openPut 21 [] [] M d kc ks Q) (kf : ¬ x1 < 0 → Xw l D ρ m_ContentStore_openPut 4 [(0, x0), (1, .int x1)] [] M d kc ks Q) : Xw l D ρ m_ContentStore_openPut 0 [(0, x0), (1, .int x1)] [] M d kc ks Q := by
  refine x_iload_n d_ContentStore_openPut_0 rfl 1 rfl ?_
  exact x_if_lt d_ContentStore_openPut_1 (tgt := 21) (by decide) (fun c => x_pick [] rfl (kt c)) (fun c => x_pick [0, 1] rfl (kf c))
theorem b_ContentStore_openPut_4 {x0 : Nat} {x1 : Int32} {f6_0 : Value} {f6_1 : Value} {f6_2 : Value} {f6_3 : Value} {f6_4 : Int32} {f6_5 : Int32} {f6_6 : Int32} {f6_7 : Int32} (h6 : M[x0]? = some (cO 0 [f6_0, f6_1, f6_2, f6_3, .int f6_4, .int f6_5, .int f6_6, .int f6_7])) (kt : f6_4 ≤ x1 → Xw l D ρ m_ContentStore_openPut 21 [] [] M d kc ks Q) (kf : ¬ f6_4 ≤ x1 → Xw l D ρ m_ContentStore_openPut 12 [(0, .ref x0), (1, .int x1)] [] M d kc ks Q) : Xw l D ρ m_ContentStore_openPut 4 [(0, .ref x0), (1, .int x1)] [] M d kc ks Q := by
  refine x_iload_n d_ContentStore_openPut_4 rfl 1 rfl ?_
  refine x_aload_n d_ContentStore_openPut_5 rfl 0 rfl trivial ?_
  refine x_getf (k := 4) d_ContentStore_openPut_6 ck_ContentStore fk_ContentStore_47 (by decide) h6 rfl ?_
  exact x_icmp_ge d_ContentStore_openPut_9 (tgt := 21) (by decide) (fun c => x_pick [] rfl (kt c)) (fun c => x_pick [0, 1] rfl (kf c))
theorem b_ContentStore_openPut_12 {x0 : Nat} {x1 : Int32} {f14_0 : Value} {f14_1 : Nat} {f14_2 : Value} {f14_3 : Value} {f14_4 : Int32} {f14_5 : Int32} {f14_6 : Int32} {f14_7 : Int32} {a17 : List (Option Nat)} (h14 : M[x0]? = some (cO 0 [f14_0, .ref f14_1, f14_2, f14_3, .int f14_4, .int f14_5, .int f14_6, .int f14_7])) (h17 : M[f14_1]? = some (cR 0 a17)) (kt : x1 < (nI a17.length) → Xw l D ρ m_ContentStore_openPut 23 [(0, .ref x0), (1, .int x1)] [] M d kc ks Q) (kf : ¬ x1 < (nI a17.length) → Xw l D ρ m_ContentStore_openPut 21 [] [] M d kc ks Q) : Xw l D ρ m_ContentStore_openPut 12 [(0, .ref x0), (1, .int x1)] [] M d kc ks Q := by
  refine x_iload_n d_ContentStore_openPut_12 rfl 1 rfl ?_
  refine x_aload_n d_ContentStore_openPut_13 rfl 0 rfl trivial ?_
  refine x_getf (k := 1) d_ContentStore_openPut_14 ck_ContentStore fk_ContentStore_29 (by decide) h14 rfl ?_
  refine x_alenR d_ContentStore_openPut_17 h17 ?_
  exact x_icmp_lt d_ContentStore_openPut_18 (tgt := 23) (by decide) (fun c => x_pick [0, 1] rfl (kt c)) (fun c => x_pick [] rfl (kf c))
theorem b_ContentStore_openPut_21  (hQ : Q (some (.null)) M)  : Xw l D ρ m_ContentStore_openPut 21 [] [] M d kc ks Q := by
  refine x_null d_ContentStore_openPut_21 ?_
  exact x_aret trivial d_ContentStore_openPut_22 rfl (Or.inl ⟨_, rfl⟩) hQ
theorem b_ContentStore_openPut_23 {x0 : Nat} {x1 : Int32} {f24_0 : Value} {f24_1 : Nat} {f24_2 : Value} {f24_3 : Value} {f24_4 : Int32} {f24_5 : Int32} {f24_6 : Int32} {f24_7 : Int32} {a28 : List (Option Nat)} {j28 : Nat} {o28 : Nat} (h24 : M[x0]? = some (cO 0 [f24_0, .ref f24_1, f24_2, f24_3, .int f24_4, .int f24_5, .int f24_6, .int f24_7])) (h28 : M[f24_1]? = some (cR 0 a28)) (e28 : x1 = nI j28) (b28 : a28.length ≤ 100000000) (g28 : a28[j28]? = some (some o28)) (k : Xw l D ρ m_ContentStore_openPut 34 [(2, .ref o28)] [] M d kc ks Q) : Xw l D ρ m_ContentStore_openPut 23 [(0, .ref x0), (1, .int x1)] [] M d kc ks Q := by
  refine x_aload_n d_ContentStore_openPut_23 rfl 0 rfl trivial ?_
  refine x_getf (k := 1) d_ContentStore_openPut_24 ck_ContentStore fk_ContentStore_29 (by decide) h24 rfl ?_
  refine x_iload_n d_ContentStore_openPut_27 rfl 1 rfl ?_
  refine x_aald d_ContentStore_openPut_28 e28 h28 g28 b28 ?_
  refine x_astore_n (i := 2) (L' := [(2, .ref o28), (0, .ref x0), (1, .int x1)]) d_ContentStore_openPut_29 rfl (Nat.le_of_ble_eq_true rfl) trivial rfl ?_
  refine x_aload_n d_ContentStore_openPut_30 rfl 0 rfl trivial ?_
  exact x_ifnull_r d_ContentStore_openPut_31 (x_pick [0] rfl k)
theorem b_ContentStore_openPut_23_z {x0 : Nat} {x1 : Int32} {f24_0 : Value} {f24_1 : Nat} {f24_2 : Value} {f24_3 : Value} {f24_4 : Int32} {f24_5 : Int32} {f24_6 : Int32} {f24_7 : Int32} {a28 : List (Option Nat)} {j28 : Nat} (h24 : M[x0]? = some (cO 0 [f24_0, .ref f24_1, f24_2, f24_3, .int f24_4, .int f24_5, .int f24_6, .int f24_7])) (h28 : M[f24_1]? = some (cR 0 a28)) (e28 : x1 = nI j28) (b28 : a28.length ≤ 100000000) (g28 : a28[j28]? = some none) (k : Xw l D ρ m_ContentStore_openPut 45 [] [] M d kc ks Q) : Xw l D ρ m_ContentStore_openPut 23 [(0, .ref x0), (1, .int x1)] [] M d kc ks Q := by
  refine x_aload_n d_ContentStore_openPut_23 rfl 0 rfl trivial ?_
  refine x_getf (k := 1) d_ContentStore_openPut_24 ck_ContentStore fk_ContentStore_29 (by decide) h24 rfl ?_
  refine x_iload_n d_ContentStore_openPut_27 rfl 1 rfl ?_
  refine x_aald d_ContentStore_openPut_28 e28 h28 g28 b28 ?_
  refine x_astore_n (i := 2) (L' := [(2, .null), (0, .ref x0), (1, .int x1)]) d_ContentStore_openPut_29 rfl (Nat.le_of_ble_eq_true rfl) trivial rfl ?_
  refine x_aload_n d_ContentStore_openPut_30 rfl 0 rfl trivial ?_
  exact x_ifnull_z d_ContentStore_openPut_31 (tgt := 45) (by decide) (x_pick [] rfl k)
theorem b_ContentStore_openPut_34 {x2 : Nat} {f35_0 : Value} {f35_1 : Int64} {f35_2 : Int32} {f35_3 : Int32} (h35 : M[x2]? = some (cO 3 [f35_0, .long f35_1, .int f35_2, .int f35_3])) (kt : f35_3 = 0 → Xw l D ρ m_ContentStore_openPut 45 [] [] M d kc ks Q) (kf : ¬ f35_3 = 0 → Xw l D ρ m_ContentStore_openPut 41 [(2, .ref x2)] [] M d kc ks Q) : Xw l D ρ m_ContentStore_openPut 34 [(2, .ref x2)] [] M d kc ks Q := by
  refine x_aload_n d_ContentStore_openPut_34 rfl 0 rfl trivial ?_
  refine x_getf (k := 3) d_ContentStore_openPut_35 ck_Put fk_ContentStore_68 (by decide) h35 rfl ?_
  exact x_if_eq d_ContentStore_openPut_38 (tgt := 45) (by decide) (fun c => x_pick [] rfl (kt c)) (fun c => x_pick [0] rfl (kf c))
theorem b_ContentStore_openPut_41 {x2 : Value} (h_x2 : xrf x2) (k : Xw l D ρ m_ContentStore_openPut 46 [] [x2] M d kc ks Q) : Xw l D ρ m_ContentStore_openPut 41 [(2, x2)] [] M d kc ks Q := by
  refine x_aload_n d_ContentStore_openPut_41 rfl 0 rfl h_x2 ?_
  exact x_goto d_ContentStore_openPut_42 (tgt := 46) (by decide) (x_pick [] rfl k)
theorem b_ContentStore_openPut_45   (k : Xw l D ρ m_ContentStore_openPut 46 [] [.null] M d kc ks Q) : Xw l D ρ m_ContentStore_openPut 45 [] [] M d kc ks Q := by
  refine x_null d_ContentStore_openPut_45 ?_
  exact x_pick [] rfl k
theorem b_ContentStore_openPut_46 {s0 : Value} (h_s0 : xrf s0) (hQ : Q (some (s0)) M)  : Xw l D ρ m_ContentStore_openPut 46 [] [s0] M d kc ks Q := by
  exact x_aret h_s0 d_ContentStore_openPut_46 rfl (Or.inl ⟨_, rfl⟩) hQ
theorem b_Put_lacking_0 {x0 : Nat} {f1_0 : Nat} {f1_1 : Int64} {f1_2 : Int32} {f1_3 : Int32} {a4 : List Int32} (h1 : M[x0]? = some (cO 3 [.ref f1_0, .long f1_1, .int f1_2, .int f1_3])) (h4 : M[f1_0]? = some (cI a4)) (hQ : Q (some (.int ((nI a4.length) - f1_2))) M)  : Xw l D ρ m_Put_lacking 0 [(0, .ref x0)] [] M d kc ks Q := by
  refine x_aload_n d_Put_lacking_0 rfl 0 rfl trivial ?_
  refine x_getf (k := 0) d_Put_lacking_1 ck_Put fk_Put_15 (by decide) h1 rfl ?_
  refine x_alenI d_Put_lacking_4 h4 ?_
  refine x_aload_n d_Put_lacking_5 rfl 0 rfl trivial ?_
  refine x_getf (k := 2) d_Put_lacking_6 ck_Put fk_Put_29 (by decide) h1 rfl ?_
  refine x_isub d_Put_lacking_9 ?_
  exact x_iret d_Put_lacking_10 rfl rfl hQ
theorem b_Put_take_0 {x0 : Value} {x1 : Int64} {x3 : Int32}  (k : Xw l D ρ m_Put_take 5 [(0, x0), (1, .long x1), (4, .int (x3 - 1))] [] M d kc ks Q) : Xw l D ρ m_Put_take 0 [(0, x0), (1, .long x1), (3, .int x3)] [] M d kc ks Q := by
  refine x_iload_n d_Put_take_0 rfl 2 rfl ?_
  refine x_iconst (v := 1) d_Put_take_1 (by decide) ?_
  refine x_isub d_Put_take_2 ?_
  refine x_istore (i := 4) (L' := [(4, .int (x3 - 1)), (0, x0), (1, .long x1), (3, .int x3)]) d_Put_take_3 (Nat.le_of_ble_eq_true rfl) rfl ?_
  exact x_pick [1, 2, 0] rfl k
theorem b_Put_take_5 {x0 : Value} {x1 : Int64} {x4 : Int32}  (kt : x4 < 0 → Xw l D ρ m_Put_take 59 [] [] M d kc ks Q) (kf : ¬ x4 < 0 → Xw l D ρ m_Put_take 10 [(0, x0), (1, .long x1), (4, .int x4)] [] M d kc ks Q) : Xw l D ρ m_Put_take 5 [(0, x0), (1, .long x1), (4, .int x4)] [] M d kc ks Q := by
  refine x_iload d_Put_take_5 2 rfl ?_
  exact x_if_lt d_Put_take_7 (tgt := 59) (by decide) (fun c => x_pick [] rfl (kt c)) (fun c => x_pick [0, 1, 2] rfl (kf c))
theorem b_Put_take_10 {x0 : Nat} {x1 : Int64} {x4 : Int32} {f11_0 : Nat} {f11_1 : Int64} {f11_2 : Int32} {f11_3 : Int32} {a18 : List Int32} (h11 : M[x0]? = some (cO 3 [.ref f11_0, .long f11_1, .int f11_2, .int f11_3])) (h18 : M[f11_0]? = some (cI a18)) (kt : (nI a18.length) ≤ f11_2 → Xw l D ρ m_Put_take 59 [] [] M d kc ks Q) (kf : ¬ (nI a18.length) ≤ f11_2 → Xw l D ρ m_Put_take 22 [(0, .ref x0), (1, .long x1), (4, .int x4)] [] M d kc ks Q) : Xw l D ρ m_Put_take 10 [(0, .ref x0), (1, .long x1), (4, .int x4)] [] M d kc ks Q := by
  refine x_aload_n d_Put_take_10 rfl 0 rfl trivial ?_
  refine x_getf (k := 2) d_Put_take_11 ck_Put fk_Put_29 (by decide) h11 rfl ?_
  refine x_aload_n d_Put_take_14 rfl 0 rfl trivial ?_
  refine x_getf (k := 0) d_Put_take_15 ck_Put fk_Put_15 (by decide) h11 rfl ?_
  refine x_alenI d_Put_take_18 h18 ?_
  exact x_icmp_ge d_Put_take_19 (tgt := 59) (by decide) (fun c => x_pick [] rfl (kt c)) (fun c => x_pick [0, 1, 2] rfl (kf c))
theorem b_Put_take_22 {x0 : Nat} {x1 : Int64} {x4 : Int32} {f23_0 : Nat} {f23_1 : Int64} {f23_2 : Int32} {f23_3 : Int32} {a42 : List Int32} {j42 : Nat} (h23 : M[x0]? = some (cO 3 [.ref f23_0, .long f23_1, .int f23_2, .int f23_3])) (h42 : M[f23_0]? = some (cI a42)) (e42 : f23_2 = nI j42) (g42 : j42 < a42.length) (b42 : a42.length ≤ 100000000) (k : Xw l D ρ m_Put_take 5 [(0, .ref x0), (1, .long x1), (4, .int (x4 + (-1)))] [] ((M.set f23_0 (cI (a42.set j42 ((((x1.toUInt64 >>> ((8 * x4).toInt64.toUInt64 &&& Int64.toUInt64 63)).toInt64).toInt32) &&& 255)))).set x0 (cO 3 [.ref f23_0, .long f23_1, .int (f23_2 + 1), .int f23_3])) d kc ks Q) : Xw l D ρ m_Put_take 22 [(0, .ref x0), (1, .long x1), (4, .int x4)] [] M d kc ks Q := by
  refine x_aload_n d_Put_take_22 rfl 0 rfl trivial ?_
  refine x_getf (k := 0) d_Put_take_23 ck_Put fk_Put_15 (by decide) h23 rfl ?_
  refine x_aload_n d_Put_take_26 rfl 0 rfl trivial ?_
  refine x_getf (k := 2) d_Put_take_27 ck_Put fk_Put_29 (by decide) h23 rfl ?_
  refine x_lload_n d_Put_take_30 rfl 1 rfl ?_
  refine x_bipush (v := 8) d_Put_take_31 (by decide) ?_
  refine x_iload d_Put_take_33 2 rfl ?_
  refine x_imul d_Put_take_35 ?_
  refine x_lushr d_Put_take_36 ?_
  refine x_l2i d_Put_take_37 ?_
  refine x_sipush (v := 255) d_Put_take_38 (by decide) ?_
  refine x_iand d_Put_take_41 ?_
  refine x_iast d_Put_take_42 e42 h42 g42 b42 ?_
  refine x_aload_n d_Put_take_43 rfl 0 rfl trivial ?_
  refine x_dup d_Put_take_44 rfl ?_
  refine x_getf (k := 2) d_Put_take_45 ck_Put fk_Put_29 (by decide) (xset_ne h23 h42 rfl) rfl ?_
  refine x_iconst (v := 1) d_Put_take_48 (by decide) ?_
  refine x_iadd d_Put_take_49 ?_
  refine x_putf (k := 2) (fs' := [.ref f23_0, .long f23_1, .int (f23_2 + 1), .int f23_3]) d_Put_take_50 ck_Put fk_Put_29 (by decide) (Or.inl rfl) rfl (xset_ne h23 h42 rfl) (Nat.le_of_ble_eq_true rfl) rfl ?_
  refine x_iinc (v := x4 + (-1)) (L' := [(4, .int (x4 + (-1))), (0, .ref x0), (1, .long x1)]) d_Put_take_53 2 rfl (by rfl) (Nat.le_of_ble_eq_true rfl) rfl ?_
  exact x_goto d_Put_take_56 (tgt := 5) (by decide) (x_pick [1, 2, 0] rfl k)
theorem b_Put_take_59  (hQ : Q none M)  : Xw l D ρ m_Put_take 59 [] [] M d kc ks Q := by
  exact x_vret d_Put_take_59 rfl hQ
theorem b_ContentStore_end_0 {x0 : Nat} {x1 : Int32} {cd1 : Nat} {ckc1 : Nat} {cks1 : Nat} {ckc2 : Nat} {cks2 : Nat} {Q1 : Option Value → List xCl → Prop} {fr_0 : Value} {fr_1 : Value} {fr_2 : Value} {fr_3 : Value} {fr_4 : Int32} {fr_5 : Int32} {fr_6 : Int32} {fr_7 : Int32} (hdp : cd1 + 1 ≤ d) (hkc : ckc1 + ckc2 ≤ kc) (hks : cks1 + cks2 ≤ ks) (hr : M[x0]? = some (cO 0 [fr_0, fr_1, fr_2, fr_3, .int fr_4, .int fr_5, .int fr_6, .int fr_7])) (kz : Xw l D ρ m_ContentStore_openPut 0 [(0, .ref x0), (1, .int x1)] [] M cd1 ckc1 cks1 Q1) (kk : ∀ r N, Q1 r N → Xw l D ρ m_ContentStore_end 5 [(0, .ref x0)] (r.toList ++ []) N d ckc2 cks2 Q) : Xw l D ρ m_ContentStore_end 0 [(0, .ref x0), (1, .int x1)] [] M d kc ks Q := by
  refine x_aload_n d_ContentStore_end_0 rfl 0 rfl trivial ?_
  refine x_iload_n d_ContentStore_end_1 rfl 1 rfl ?_
  exact x_pick [0] rfl (x_callV (As := [.int x1]) (st := []) (host := "") d_ContentStore_end_2 rfl mk_ContentStore_openPut mi_ContentStore_openPut mv_ContentStore_openPut (Or.inl kl_ContentStore_53) rfl (Nat.le_of_ble_eq_true rfl) (Nat.le_of_ble_eq_true rfl) ck_ContentStore hr hdp hkc hks rfl kz kk)
theorem b_ContentStore_end_5 {x0 : Value} {s0 : Nat}  (k : Xw l D ρ m_ContentStore_end 12 [(0, x0), (2, .ref s0)] [] M d kc ks Q) : Xw l D ρ m_ContentStore_end 5 [(0, x0)] [.ref s0] M d kc ks Q := by
  refine x_astore_n (i := 2) (L' := [(2, .ref s0), (0, x0)]) d_ContentStore_end_5 rfl (Nat.le_of_ble_eq_true rfl) trivial rfl ?_
  refine x_aload_n d_ContentStore_end_6 rfl 0 rfl trivial ?_
  exact x_ifnonnull_r d_ContentStore_end_7 (tgt := 12) (by decide) (x_pick [1, 0] rfl k)
theorem b_ContentStore_end_5_z {x0 : Value}  (k : Xw l D ρ m_ContentStore_end 10 [] [] M d kc ks Q) : Xw l D ρ m_ContentStore_end 5 [(0, x0)] [.null] M d kc ks Q := by
  refine x_astore_n (i := 2) (L' := [(2, .null), (0, x0)]) d_ContentStore_end_5 rfl (Nat.le_of_ble_eq_true rfl) trivial rfl ?_
  refine x_aload_n d_ContentStore_end_6 rfl 0 rfl trivial ?_
  exact x_ifnonnull_z d_ContentStore_end_7 (x_pick [] rfl k)
theorem b_ContentStore_end_10  (hQ : Q (some (.int ((-1)))) M)  : Xw l D ρ m_ContentStore_end 10 [] [] M d kc ks Q := by
  refine x_iconst (v := (-1)) d_ContentStore_end_10 (by decide) ?_
  exact x_iret d_ContentStore_end_11 rfl rfl hQ
theorem b_ContentStore_end_12 {x0 : Nat} {x2 : Nat} {f14_0 : Value} {f14_1 : Int64} {f14_2 : Int32} {f14_3 : Int32} {f19_0 : Value} {f19_1 : Value} {f19_2 : Value} {f19_3 : Value} {f19_4 : Int32} {f19_5 : Int32} {f19_6 : Int32} {f19_7 : Int32} {cd1 : Nat} {ckc1 : Nat} {cks1 : Nat} {ckc2 : Nat} {cks2 : Nat} {Q1 : Option Value → List xCl → Prop} (h14 : M[x2]? = some (cO 3 [f14_0, .long f14_1, .int f14_2, .int f14_3])) (h19 : (M.set x2 (cO 3 [f14_0, .long f14_1, .int f14_2, .int 0]))[x0]? = some (cO 0 [f19_0, f19_1, f19_2, f19_3, .int f19_4, .int f19_5, .int f19_6, .int f19_7])) (hdp : cd1 + 1 ≤ d) (hkc : ckc1 + ckc2 ≤ kc) (hks : cks1 + cks2 ≤ ks) (kz : Xw l D ρ m_Put_differs 0 [(0, .ref x2)] [] ((M.set x2 (cO 3 [f14_0, .long f14_1, .int f14_2, .int 0])).set x0 (cO 0 [f19_0, f19_1, f19_2, f19_3, .int f19_4, .int (f19_5 - 1), .int f19_6, .int f19_7])) cd1 ckc1 cks1 Q1) (kk : ∀ r N, Q1 r N → Xw l D ρ m_ContentStore_end 31 [(0, .ref x0), (2, .ref x2)] (r.toList ++ []) N d ckc2 cks2 Q) : Xw l D ρ m_ContentStore_end 12 [(0, .ref x0), (2, .ref x2)] [] M d kc ks Q := by
  refine x_aload_n d_ContentStore_end_12 rfl 1 rfl trivial ?_
  refine x_iconst (v := 0) d_ContentStore_end_13 (by decide) ?_
  refine x_putf (k := 3) (fs' := [f14_0, .long f14_1, .int f14_2, .int 0]) d_ContentStore_end_14 ck_Put fk_ContentStore_68 (by decide) (Or.inl rfl) rfl h14 (Nat.le_of_ble_eq_true rfl) rfl ?_
  refine x_aload_n d_ContentStore_end_17 rfl 0 rfl trivial ?_
  refine x_dup d_ContentStore_end_18 rfl ?_
  refine x_getf (k := 5) d_ContentStore_end_19 ck_ContentStore fk_ContentStore_43 (by decide) h19 rfl ?_
  refine x_iconst (v := 1) d_ContentStore_end_22 (by decide) ?_
  refine x_isub d_ContentStore_end_23 ?_
  refine x_putf (k := 5) (fs' := [f19_0, f19_1, f19_2, f19_3, .int f19_4, .int (f19_5 - 1), .int f19_6, .int f19_7]) d_ContentStore_end_24 ck_ContentStore fk_ContentStore_43 (by decide) (Or.inl rfl) rfl h19 (Nat.le_of_ble_eq_true rfl) rfl ?_
  refine x_aload_n d_ContentStore_end_27 rfl 1 rfl trivial ?_
  exact x_pick [0, 1] rfl (x_callV (As := []) (st := []) (host := "") d_ContentStore_end_28 rfl mk_Put_differs mi_Put_differs mv_Put_differs (Or.inl kl_ContentStore_72) rfl (Nat.le_of_ble_eq_true rfl) (Nat.le_of_ble_eq_true rfl) ck_Put (xset_ne (xset_eq h14) h19 rfl) hdp hkc hks rfl kz kk)
theorem b_ContentStore_end_31 {x0 : Value} {x2 : Value} {s0 : Int32}  (kt : s0 = 0 → Xw l D ρ m_ContentStore_end 37 [(0, x0), (2, x2)] [] M d kc ks Q) (kf : ¬ s0 = 0 → Xw l D ρ m_ContentStore_end 34 [] [] M d kc ks Q) : Xw l D ρ m_ContentStore_end 31 [(0, x0), (2, x2)] [.int s0] M d kc ks Q := by
  exact x_if_eq d_ContentStore_end_31 (tgt := 37) (by decide) (fun c => x_pick [0, 1] rfl (kt c)) (fun c => x_pick [] rfl (kf c))
theorem b_ContentStore_end_34  (hQ : Q (some (.int ((-2)))) M)  : Xw l D ρ m_ContentStore_end 34 [] [] M d kc ks Q := by
  refine x_bipush (v := (-2)) d_ContentStore_end_34 (by decide) ?_
  exact x_iret d_ContentStore_end_36 rfl rfl hQ
theorem b_ContentStore_end_37 {x0 : Nat} {x2 : Nat} {f39_0 : Value} {f39_1 : Int64} {f39_2 : Int32} {f39_3 : Int32} {cd1 : Nat} {ckc1 : Nat} {cks1 : Nat} {ckc2 : Nat} {cks2 : Nat} {Q1 : Option Value → List xCl → Prop} {fr_0 : Value} {fr_1 : Value} {fr_2 : Value} {fr_3 : Value} {fr_4 : Int32} {fr_5 : Int32} {fr_6 : Int32} {fr_7 : Int32} (h_f39_0 : xrf f39_0) (h39 : M[x2]? = some (cO 3 [f39_0, .long f39_1, .int f39_2, .int f39_3])) (hdp : cd1 + 1 ≤ d) (hkc : ckc1 + ckc2 ≤ kc) (hks : cks1 + cks2 ≤ ks) (hr : M[x0]? = some (cO 0 [fr_0, fr_1, fr_2, fr_3, .int fr_4, .int fr_5, .int fr_6, .int fr_7])) (kz : Xw l D ρ m_ContentStore_soundBlobWith 0 [(0, .ref x0), (1, f39_0)] [] M cd1 ckc1 cks1 Q1) (kk : ∀ r N, Q1 r N → Xw l D ρ m_ContentStore_end 45 [(0, .ref x0), (2, .ref x2)] (r.toList ++ []) N d ckc2 cks2 Q) : Xw l D ρ m_ContentStore_end 37 [(0, .ref x0), (2, .ref x2)] [] M d kc ks Q := by
  refine x_aload_n d_ContentStore_end_37 rfl 0 rfl trivial ?_
  refine x_aload_n d_ContentStore_end_38 rfl 1 rfl trivial ?_
  refine x_getf (k := 0) d_ContentStore_end_39 ck_Put fk_ContentStore_76 (by decide) h39 rfl ?_
  exact x_pick [0, 1] rfl (x_callV (As := [f39_0]) (st := []) (host := "") d_ContentStore_end_42 rfl mk_ContentStore_soundBlobWith mi_ContentStore_soundBlobWith mv_ContentStore_soundBlobWith (Or.inl kl_ContentStore_79) rfl (by simp [lg_sl, m_ContentStore_soundBlobWith, xcat_i, xcat_l, xcat_r, xcat_n, xcat_o, xrf_cat h_f39_0]) (Nat.le_of_ble_eq_true rfl) ck_ContentStore hr hdp hkc hks (by simp [lv_args, xcat_i, xcat_l, xcat_r, xcat_n, xcat_o, xrf_cat h_f39_0]) kz kk)
theorem b_ContentStore_end_45 {x0 : Value} {x2 : Value} {s0 : Int32} (h_x2 : xrf x2) (kt : s0 = ((-1)) → Xw l D ρ m_ContentStore_end 55 [(0, x0), (2, x2)] [] M d kc ks Q) (kf : ¬ s0 = ((-1)) → Xw l D ρ m_ContentStore_end 51 [(3, .int s0)] [] M d kc ks Q) : Xw l D ρ m_ContentStore_end 45 [(0, x0), (2, x2)] [.int s0] M d kc ks Q := by
  refine x_istore_n (i := 3) (L' := [(3, .int s0), (0, x0), (2, x2)]) d_ContentStore_end_45 rfl (Nat.le_of_ble_eq_true rfl) (by simp [xrf_cat h_x2]) ?_
  refine x_iload_n d_ContentStore_end_46 rfl 0 rfl ?_
  refine x_iconst (v := (-1)) d_ContentStore_end_47 (by decide) ?_
  exact x_icmp_eq d_ContentStore_end_48 (tgt := 55) (by decide) (fun c => x_pick [1, 2] rfl (kt c)) (fun c => x_pick [0] rfl (kf c))
theorem b_ContentStore_end_51 {x3 : Int32}  (k : Xw l D ρ m_ContentStore_end 63 [] [.int x3] M d kc ks Q) : Xw l D ρ m_ContentStore_end 51 [(3, .int x3)] [] M d kc ks Q := by
  refine x_iload_n d_ContentStore_end_51 rfl 0 rfl ?_
  exact x_goto d_ContentStore_end_52 (tgt := 63) (by decide) (x_pick [] rfl k)
theorem b_ContentStore_end_55 {x0 : Nat} {x2 : Nat} {f57_0 : Value} {f57_1 : Int64} {f57_2 : Int32} {f57_3 : Int32} {cd1 : Nat} {ckc1 : Nat} {cks1 : Nat} {ckc2 : Nat} {cks2 : Nat} {Q1 : Option Value → List xCl → Prop} {fr_0 : Value} {fr_1 : Value} {fr_2 : Value} {fr_3 : Value} {fr_4 : Int32} {fr_5 : Int32} {fr_6 : Int32} {fr_7 : Int32} (h_f57_0 : xrf f57_0) (h57 : M[x2]? = some (cO 3 [f57_0, .long f57_1, .int f57_2, .int f57_3])) (hdp : cd1 + 1 ≤ d) (hkc : ckc1 + ckc2 ≤ kc) (hks : cks1 + cks2 ≤ ks) (hr : M[x0]? = some (cO 0 [fr_0, fr_1, fr_2, fr_3, .int fr_4, .int fr_5, .int fr_6, .int fr_7])) (kz : Xw l D ρ m_ContentStore_newBlobWith 0 [(0, .ref x0), (1, f57_0)] [] M cd1 ckc1 cks1 Q1) (kk : ∀ r N, Q1 r N → Xw l D ρ m_ContentStore_end 63 [] (r.toList ++ []) N d ckc2 cks2 Q) : Xw l D ρ m_ContentStore_end 55 [(0, .ref x0), (2, .ref x2)] [] M d kc ks Q := by
  refine x_aload_n d_ContentStore_end_55 rfl 0 rfl trivial ?_
  refine x_aload_n d_ContentStore_end_56 rfl 1 rfl trivial ?_
  refine x_getf (k := 0) d_ContentStore_end_57 ck_Put fk_ContentStore_76 (by decide) h57 rfl ?_
  exact x_pick [] rfl (x_callV (As := [f57_0]) (st := []) (host := "") d_ContentStore_end_60 rfl mk_ContentStore_newBlobWith mi_ContentStore_newBlobWith mv_ContentStore_newBlobWith (Or.inl kl_ContentStore_83) rfl (by simp [lg_sl, m_ContentStore_newBlobWith, xcat_i, xcat_l, xcat_r, xcat_n, xcat_o, xrf_cat h_f57_0]) (Nat.le_of_ble_eq_true rfl) ck_ContentStore hr hdp hkc hks (by simp [lv_args, xcat_i, xcat_l, xcat_r, xcat_n, xcat_o, xrf_cat h_f57_0]) kz kk)
theorem b_ContentStore_end_63 {s0 : Int32} (hQ : Q (some (.int s0)) M)  : Xw l D ρ m_ContentStore_end 63 [] [.int s0] M d kc ks Q := by
  exact x_iret d_ContentStore_end_63 rfl rfl hQ
theorem b_Put_differs_0 {x0 : Nat} {f1_0 : Nat} {f1_1 : Int64} {f1_2 : Int32} {f1_3 : Int32} {a8 : List Int32} (h1 : M[x0]? = some (cO 3 [.ref f1_0, .long f1_1, .int f1_2, .int f1_3])) (h8 : M[f1_0]? = some (cI a8)) (kt : ¬ f1_2 = (nI a8.length) → Xw l D ρ m_Put_differs 21 [] [] M d kc ks Q) (kf : f1_2 = (nI a8.length) → Xw l D ρ m_Put_differs 12 [(0, .ref x0)] [] M d kc ks Q) : Xw l D ρ m_Put_differs 0 [(0, .ref x0)] [] M d kc ks Q := by
  refine x_aload_n d_Put_differs_0 rfl 0 rfl trivial ?_
  refine x_getf (k := 2) d_Put_differs_1 ck_Put fk_Put_29 (by decide) h1 rfl ?_
  refine x_aload_n d_Put_differs_4 rfl 0 rfl trivial ?_
  refine x_getf (k := 0) d_Put_differs_5 ck_Put fk_Put_15 (by decide) h1 rfl ?_
  refine x_alenI d_Put_differs_8 h8 ?_
  exact x_icmp_ne d_Put_differs_9 (tgt := 21) (by decide) (fun c => x_pick [] rfl (kt c)) (fun c => x_pick [0] rfl (kf c))
theorem b_Put_differs_12 {x0 : Nat} {f13_0 : Value} {f13_1 : Int64} {f13_2 : Int32} {f13_3 : Int32} (h13 : M[x0]? = some (cO 3 [f13_0, .long f13_1, .int f13_2, .int f13_3])) (kt : (lg_cmp f13_1 0) = 0 → Xw l D ρ m_Put_differs 25 [] [] M d kc ks Q) (kf : ¬ (lg_cmp f13_1 0) = 0 → Xw l D ρ m_Put_differs 21 [] [] M d kc ks Q) : Xw l D ρ m_Put_differs 12 [(0, .ref x0)] [] M d kc ks Q := by
  refine x_aload_n d_Put_differs_12 rfl 0 rfl trivial ?_
  refine x_getf (k := 1) d_Put_differs_13 ck_Put fk_Put_21 (by decide) h13 rfl ?_
  refine x_lconst (v := 0) d_Put_differs_16 (by decide) ?_
  refine x_lcmp d_Put_differs_17 ?_
  exact x_if_eq d_Put_differs_18 (tgt := 25) (by decide) (fun c => x_pick [] rfl (kt c)) (fun c => x_pick [] rfl (kf c))
theorem b_Put_differs_21   (k : Xw l D ρ m_Put_differs 26 [] [.int 1] M d kc ks Q) : Xw l D ρ m_Put_differs 21 [] [] M d kc ks Q := by
  refine x_iconst (v := 1) d_Put_differs_21 (by decide) ?_
  exact x_goto d_Put_differs_22 (tgt := 26) (by decide) (x_pick [] rfl k)
theorem b_Put_differs_25   (k : Xw l D ρ m_Put_differs 26 [] [.int 0] M d kc ks Q) : Xw l D ρ m_Put_differs 25 [] [] M d kc ks Q := by
  refine x_iconst (v := 0) d_Put_differs_25 (by decide) ?_
  exact x_pick [] rfl k
theorem b_Put_differs_26 {s0 : Int32} (hQ : Q (some (.int s0)) M) (hn : narrow .boolean (.int s0) = .int s0)  : Xw l D ρ m_Put_differs 26 [] [.int s0] M d kc ks Q := by
  exact x_iret d_Put_differs_26 rfl hn hQ
theorem b_ContentStore_soundBlobWith_0 {x0 : Value} {x1 : Value} (h_x1 : xrf x1) (k : Xw l D ρ m_ContentStore_soundBlobWith 2 [(0, x0), (1, x1), (2, .int 0)] [] M d kc ks Q) : Xw l D ρ m_ContentStore_soundBlobWith 0 [(0, x0), (1, x1)] [] M d kc ks Q := by
  refine x_iconst (v := 0) d_ContentStore_soundBlobWith_0 (by decide) ?_
  refine x_istore_n (i := 2) (L' := [(2, .int 0), (0, x0), (1, x1)]) d_ContentStore_soundBlobWith_1 rfl (Nat.le_of_ble_eq_true rfl) (by simp [xrf_cat h_x1]) ?_
  exact x_pick [1, 2, 0] rfl k
theorem b_ContentStore_soundBlobWith_2 {x0 : Nat} {x1 : Value} {x2 : Int32} {f4_0 : Value} {f4_1 : Value} {f4_2 : Value} {f4_3 : Value} {f4_4 : Int32} {f4_5 : Int32} {f4_6 : Int32} {f4_7 : Int32} (h4 : M[x0]? = some (cO 0 [f4_0, f4_1, f4_2, f4_3, .int f4_4, .int f4_5, .int f4_6, .int f4_7])) (kt : f4_6 ≤ x2 → Xw l D ρ m_ContentStore_soundBlobWith 43 [] [] M d kc ks Q) (kf : ¬ f4_6 ≤ x2 → Xw l D ρ m_ContentStore_soundBlobWith 10 [(0, .ref x0), (1, x1), (2, .int x2)] [] M d kc ks Q) : Xw l D ρ m_ContentStore_soundBlobWith 2 [(0, .ref x0), (1, x1), (2, .int x2)] [] M d kc ks Q := by
  refine x_iload_n d_ContentStore_soundBlobWith_2 rfl 2 rfl ?_
  refine x_aload_n d_ContentStore_soundBlobWith_3 rfl 0 rfl trivial ?_
  refine x_getf (k := 6) d_ContentStore_soundBlobWith_4 ck_ContentStore fk_ContentStore_139 (by decide) h4 rfl ?_
  exact x_icmp_ge d_ContentStore_soundBlobWith_7 (tgt := 43) (by decide) (fun c => x_pick [] rfl (kt c)) (fun c => x_pick [0, 1, 2] rfl (kf c))
theorem b_ContentStore_soundBlobWith_10 {x0 : Nat} {x1 : Value} {x2 : Int32} {cd1 : Nat} {ckc1 : Nat} {cks1 : Nat} {ckc2 : Nat} {cks2 : Nat} {Q1 : Option Value → List xCl → Prop} {fr_0 : Value} {fr_1 : Value} {fr_2 : Value} {fr_3 : Value} {fr_4 : Int32} {fr_5 : Int32} {fr_6 : Int32} {fr_7 : Int32} (hdp : cd1 + 1 ≤ d) (hkc : ckc1 + ckc2 ≤ kc) (hks : cks1 + cks2 ≤ ks) (hr : M[x0]? = some (cO 0 [fr_0, fr_1, fr_2, fr_3, .int fr_4, .int fr_5, .int fr_6, .int fr_7])) (kz : Xw l D ρ m_ContentStore_blobAt 0 [(0, .ref x0), (1, .int x2)] [] M cd1 ckc1 cks1 Q1) (kk : ∀ r N, Q1 r N → Xw l D ρ m_ContentStore_soundBlobWith 15 [(0, .ref x0), (1, x1), (2, .int x2)] (r.toList ++ []) N d ckc2 cks2 Q) : Xw l D ρ m_ContentStore_soundBlobWith 10 [(0, .ref x0), (1, x1), (2, .int x2)] [] M d kc ks Q := by
  refine x_aload_n d_ContentStore_soundBlobWith_10 rfl 0 rfl trivial ?_
  refine x_iload_n d_ContentStore_soundBlobWith_11 rfl 2 rfl ?_
  exact x_pick [0, 1, 2] rfl (x_callV (As := [.int x2]) (st := []) (host := "") d_ContentStore_soundBlobWith_12 rfl mk_ContentStore_blobAt mi_ContentStore_blobAt mv_ContentStore_blobAt (Or.inl kl_ContentStore_86) rfl (Nat.le_of_ble_eq_true rfl) (Nat.le_of_ble_eq_true rfl) ck_ContentStore hr hdp hkc hks rfl kz kk)
theorem b_ContentStore_soundBlobWith_15 {x0 : Value} {x1 : Value} {x2 : Int32} {s0 : Nat}  (k : Xw l D ρ m_ContentStore_soundBlobWith 20 [(0, x0), (1, x1), (2, .int x2), (3, .ref s0)] [] M d kc ks Q) : Xw l D ρ m_ContentStore_soundBlobWith 15 [(0, x0), (1, x1), (2, .int x2)] [.ref s0] M d kc ks Q := by
  refine x_astore_n (i := 3) (L' := [(3, .ref s0), (0, x0), (1, x1), (2, .int x2)]) d_ContentStore_soundBlobWith_15 rfl (Nat.le_of_ble_eq_true rfl) trivial rfl ?_
  refine x_aload_n d_ContentStore_soundBlobWith_16 rfl 0 rfl trivial ?_
  exact x_ifnull_r d_ContentStore_soundBlobWith_17 (x_pick [1, 2, 3, 0] rfl k)
theorem b_ContentStore_soundBlobWith_15_z {x0 : Value} {x1 : Value} {x2 : Int32}  (k : Xw l D ρ m_ContentStore_soundBlobWith 37 [(0, x0), (1, x1), (2, .int x2)] [] M d kc ks Q) : Xw l D ρ m_ContentStore_soundBlobWith 15 [(0, x0), (1, x1), (2, .int x2)] [.null] M d kc ks Q := by
  refine x_astore_n (i := 3) (L' := [(3, .null), (0, x0), (1, x1), (2, .int x2)]) d_ContentStore_soundBlobWith_15 rfl (Nat.le_of_ble_eq_true rfl) trivial rfl ?_
  refine x_aload_n d_ContentStore_soundBlobWith_16 rfl 0 rfl trivial ?_
  exact x_ifnull_z d_ContentStore_soundBlobWith_17 (tgt := 37) (by decide) (x_pick [1, 2, 3] rfl k)
theorem b_ContentStore_soundBlobWith_20 {x0 : Value} {x1 : Value} {x2 : Int32} {x3 : Nat} {cd1 : Nat} {ckc1 : Nat} {cks1 : Nat} {ckc2 : Nat} {cks2 : Nat} {Q1 : Option Value → List xCl → Prop} {fr_0 : Int32} {fr_1 : Int32} {fr_2 : Int64} {fr_3 : Value} {fr_4 : Value} {fr_5 : Int32} {fr_6 : Int32} (h_x1 : xrf x1) (hdp : cd1 + 1 ≤ d) (hkc : ckc1 + ckc2 ≤ kc) (hks : cks1 + cks2 ≤ ks) (hr : M[x3]? = some (cO 4 [.int fr_0, .int fr_1, .long fr_2, fr_3, fr_4, .int fr_5, .int fr_6])) (kz : Xw l D ρ m_Blob_hasBytes 0 [(0, .ref x3), (1, x1)] [] M cd1 ckc1 cks1 Q1) (kk : ∀ r N, Q1 r N → Xw l D ρ m_ContentStore_soundBlobWith 25 [(0, x0), (1, x1), (2, .int x2), (3, .ref x3)] (r.toList ++ []) N d ckc2 cks2 Q) : Xw l D ρ m_ContentStore_soundBlobWith 20 [(0, x0), (1, x1), (2, .int x2), (3, .ref x3)] [] M d kc ks Q := by
  refine x_aload_n d_ContentStore_soundBlobWith_20 rfl 3 rfl trivial ?_
  refine x_aload_n d_ContentStore_soundBlobWith_21 rfl 1 rfl h_x1 ?_
  exact x_pick [0, 1, 2, 3] rfl (x_callV (As := [x1]) (st := []) (host := "") d_ContentStore_soundBlobWith_22 rfl mk_Blob_hasBytes mi_Blob_hasBytes mv_Blob_hasBytes (Or.inl kl_ContentStore_179) rfl (by simp [lg_sl, m_Blob_hasBytes, xcat_i, xcat_l, xcat_r, xcat_n, xcat_o, xrf_cat h_x1]) (Nat.le_of_ble_eq_true rfl) ck_Blob hr hdp hkc hks (by simp [lv_args, xcat_i, xcat_l, xcat_r, xcat_n, xcat_o, xrf_cat h_x1]) kz kk)
theorem b_ContentStore_soundBlobWith_25 {x0 : Value} {x1 : Value} {x2 : Int32} {x3 : Value} {s0 : Int32}  (kt : s0 = 0 → Xw l D ρ m_ContentStore_soundBlobWith 37 [(0, x0), (1, x1), (2, .int x2)] [] M d kc ks Q) (kf : ¬ s0 = 0 → Xw l D ρ m_ContentStore_soundBlobWith 28 [(0, x0), (1, x1), (2, .int x2), (3, x3)] [] M d kc ks Q) : Xw l D ρ m_ContentStore_soundBlobWith 25 [(0, x0), (1, x1), (2, .int x2), (3, x3)] [.int s0] M d kc ks Q := by
  exact x_if_eq d_ContentStore_soundBlobWith_25 (tgt := 37) (by decide) (fun c => x_pick [0, 1, 2] rfl (kt c)) (fun c => x_pick [0, 1, 2, 3] rfl (kf c))
theorem b_ContentStore_soundBlobWith_28 {x0 : Value} {x1 : Value} {x2 : Int32} {x3 : Nat} {cd1 : Nat} {ckc1 : Nat} {cks1 : Nat} {ckc2 : Nat} {cks2 : Nat} {Q1 : Option Value → List xCl → Prop} {fr_0 : Int32} {fr_1 : Int32} {fr_2 : Int64} {fr_3 : Value} {fr_4 : Value} {fr_5 : Int32} {fr_6 : Int32} (hdp : cd1 + 1 ≤ d) (hkc : ckc1 + ckc2 ≤ kc) (hks : cks1 + cks2 ≤ ks) (hr : M[x3]? = some (cO 4 [.int fr_0, .int fr_1, .long fr_2, fr_3, fr_4, .int fr_5, .int fr_6])) (kz : Xw l D ρ m_Blob_isSound 0 [(0, .ref x3)] [] M cd1 ckc1 cks1 Q1) (kk : ∀ r N, Q1 r N → Xw l D ρ m_ContentStore_soundBlobWith 32 [(0, x0), (1, x1), (2, .int x2)] (r.toList ++ []) N d ckc2 cks2 Q) : Xw l D ρ m_ContentStore_soundBlobWith 28 [(0, x0), (1, x1), (2, .int x2), (3, .ref x3)] [] M d kc ks Q := by
  refine x_aload_n d_ContentStore_soundBlobWith_28 rfl 3 rfl trivial ?_
  exact x_pick [0, 1, 2] rfl (x_callV (As := []) (st := []) (host := "") d_ContentStore_soundBlobWith_29 rfl mk_Blob_isSound mi_Blob_isSound mv_Blob_isSound (Or.inl kl_ContentStore_101) rfl (Nat.le_of_ble_eq_true rfl) (Nat.le_of_ble_eq_true rfl) ck_Blob hr hdp hkc hks rfl kz kk)
theorem b_ContentStore_soundBlobWith_32 {x0 : Value} {x1 : Value} {x2 : Int32} {s0 : Int32}  (kt : s0 = 0 → Xw l D ρ m_ContentStore_soundBlobWith 37 [(0, x0), (1, x1), (2, .int x2)] [] M d kc ks Q) (kf : ¬ s0 = 0 → Xw l D ρ m_ContentStore_soundBlobWith 35 [(2, .int x2)] [] M d kc ks Q) : Xw l D ρ m_ContentStore_soundBlobWith 32 [(0, x0), (1, x1), (2, .int x2)] [.int s0] M d kc ks Q := by
  exact x_if_eq d_ContentStore_soundBlobWith_32 (tgt := 37) (by decide) (fun c => x_pick [0, 1, 2] rfl (kt c)) (fun c => x_pick [2] rfl (kf c))
theorem b_ContentStore_soundBlobWith_35 {x2 : Int32} (hQ : Q (some (.int x2)) M)  : Xw l D ρ m_ContentStore_soundBlobWith 35 [(2, .int x2)] [] M d kc ks Q := by
  refine x_iload_n d_ContentStore_soundBlobWith_35 rfl 0 rfl ?_
  exact x_iret d_ContentStore_soundBlobWith_36 rfl rfl hQ
theorem b_ContentStore_soundBlobWith_37 {x0 : Value} {x1 : Value} {x2 : Int32} (h_x1 : xrf x1) (k : Xw l D ρ m_ContentStore_soundBlobWith 2 [(0, x0), (1, x1), (2, .int (x2 + 1))] [] M d kc ks Q) : Xw l D ρ m_ContentStore_soundBlobWith 37 [(0, x0), (1, x1), (2, .int x2)] [] M d kc ks Q := by
  refine x_iinc (v := x2 + 1) (L' := [(2, .int (x2 + 1)), (0, x0), (1, x1)]) d_ContentStore_soundBlobWith_37 2 rfl (by rfl) (Nat.le_of_ble_eq_true rfl) (by simp [xrf_cat h_x1]) ?_
  exact x_goto d_ContentStore_soundBlobWith_40 (tgt := 2) (by decide) (x_pick [1, 2, 0] rfl k)
theorem b_ContentStore_soundBlobWith_43  (hQ : Q (some (.int ((-1)))) M)  : Xw l D ρ m_ContentStore_soundBlobWith 43 [] [] M d kc ks Q := by
  refine x_iconst (v := (-1)) d_ContentStore_soundBlobWith_43 (by decide) ?_
  exact x_iret d_ContentStore_soundBlobWith_44 rfl rfl hQ
theorem b_ContentStore_blobAt_0 {x0 : Value} {x1 : Int32}  (kt : x1 < 0 → Xw l D ρ m_ContentStore_blobAt 21 [] [] M d kc ks Q) (kf : ¬ x1 < 0 → Xw l D ρ m_ContentStore_blobAt 4 [(0, x0), (1, .int x1)] [] M d kc ks Q) : Xw l D ρ m_ContentStore_blobAt 0 [(0, x0), (1, .int x1)] [] M d kc ks Q := by
  refine x_iload_n d_ContentStore_blobAt_0 rfl 1 rfl ?_
  exact x_if_lt d_ContentStore_blobAt_1 (tgt := 21) (by decide) (fun c => x_pick [] rfl (kt c)) (fun c => x_pick [0, 1] rfl (kf c))
theorem b_ContentStore_blobAt_4 {x0 : Nat} {x1 : Int32} {f6_0 : Value} {f6_1 : Value} {f6_2 : Value} {f6_3 : Value} {f6_4 : Int32} {f6_5 : Int32} {f6_6 : Int32} {f6_7 : Int32} (h6 : M[x0]? = some (cO 0 [f6_0, f6_1, f6_2, f6_3, .int f6_4, .int f6_5, .int f6_6, .int f6_7])) (kt : f6_6 ≤ x1 → Xw l D ρ m_ContentStore_blobAt 21 [] [] M d kc ks Q) (kf : ¬ f6_6 ≤ x1 → Xw l D ρ m_ContentStore_blobAt 12 [(0, .ref x0), (1, .int x1)] [] M d kc ks Q) : Xw l D ρ m_ContentStore_blobAt 4 [(0, .ref x0), (1, .int x1)] [] M d kc ks Q := by
  refine x_iload_n d_ContentStore_blobAt_4 rfl 1 rfl ?_
  refine x_aload_n d_ContentStore_blobAt_5 rfl 0 rfl trivial ?_
  refine x_getf (k := 6) d_ContentStore_blobAt_6 ck_ContentStore fk_ContentStore_139 (by decide) h6 rfl ?_
  exact x_icmp_ge d_ContentStore_blobAt_9 (tgt := 21) (by decide) (fun c => x_pick [] rfl (kt c)) (fun c => x_pick [0, 1] rfl (kf c))
theorem b_ContentStore_blobAt_12 {x0 : Nat} {x1 : Int32} {f14_0 : Value} {f14_1 : Value} {f14_2 : Nat} {f14_3 : Value} {f14_4 : Int32} {f14_5 : Int32} {f14_6 : Int32} {f14_7 : Int32} {a17 : List (Option Nat)} (h14 : M[x0]? = some (cO 0 [f14_0, f14_1, .ref f14_2, f14_3, .int f14_4, .int f14_5, .int f14_6, .int f14_7])) (h17 : M[f14_2]? = some (cR 1 a17)) (kt : x1 < (nI a17.length) → Xw l D ρ m_ContentStore_blobAt 23 [(0, .ref x0), (1, .int x1)] [] M d kc ks Q) (kf : ¬ x1 < (nI a17.length) → Xw l D ρ m_ContentStore_blobAt 21 [] [] M d kc ks Q) : Xw l D ρ m_ContentStore_blobAt 12 [(0, .ref x0), (1, .int x1)] [] M d kc ks Q := by
  refine x_iload_n d_ContentStore_blobAt_12 rfl 1 rfl ?_
  refine x_aload_n d_ContentStore_blobAt_13 rfl 0 rfl trivial ?_
  refine x_getf (k := 2) d_ContentStore_blobAt_14 ck_ContentStore fk_ContentStore_35 (by decide) h14 rfl ?_
  refine x_alenR d_ContentStore_blobAt_17 h17 ?_
  exact x_icmp_lt d_ContentStore_blobAt_18 (tgt := 23) (by decide) (fun c => x_pick [0, 1] rfl (kt c)) (fun c => x_pick [] rfl (kf c))
theorem b_ContentStore_blobAt_21  (hQ : Q (some (.null)) M)  : Xw l D ρ m_ContentStore_blobAt 21 [] [] M d kc ks Q := by
  refine x_null d_ContentStore_blobAt_21 ?_
  exact x_aret trivial d_ContentStore_blobAt_22 rfl (Or.inl ⟨_, rfl⟩) hQ
theorem b_ContentStore_blobAt_23 {x0 : Nat} {x1 : Int32} {f24_0 : Value} {f24_1 : Value} {f24_2 : Nat} {f24_3 : Value} {f24_4 : Int32} {f24_5 : Int32} {f24_6 : Int32} {f24_7 : Int32} {a28 : List (Option Nat)} {j28 : Nat} {o28 : Nat} (h24 : M[x0]? = some (cO 0 [f24_0, f24_1, .ref f24_2, f24_3, .int f24_4, .int f24_5, .int f24_6, .int f24_7])) (h28 : M[f24_2]? = some (cR 1 a28)) (e28 : x1 = nI j28) (b28 : a28.length ≤ 100000000) (g28 : a28[j28]? = some (some o28)) (k : Xw l D ρ m_ContentStore_blobAt 34 [(2, .ref o28)] [] M d kc ks Q) : Xw l D ρ m_ContentStore_blobAt 23 [(0, .ref x0), (1, .int x1)] [] M d kc ks Q := by
  refine x_aload_n d_ContentStore_blobAt_23 rfl 0 rfl trivial ?_
  refine x_getf (k := 2) d_ContentStore_blobAt_24 ck_ContentStore fk_ContentStore_35 (by decide) h24 rfl ?_
  refine x_iload_n d_ContentStore_blobAt_27 rfl 1 rfl ?_
  refine x_aald d_ContentStore_blobAt_28 e28 h28 g28 b28 ?_
  refine x_astore_n (i := 2) (L' := [(2, .ref o28), (0, .ref x0), (1, .int x1)]) d_ContentStore_blobAt_29 rfl (Nat.le_of_ble_eq_true rfl) trivial rfl ?_
  refine x_aload_n d_ContentStore_blobAt_30 rfl 0 rfl trivial ?_
  exact x_ifnull_r d_ContentStore_blobAt_31 (x_pick [0] rfl k)
theorem b_ContentStore_blobAt_23_z {x0 : Nat} {x1 : Int32} {f24_0 : Value} {f24_1 : Value} {f24_2 : Nat} {f24_3 : Value} {f24_4 : Int32} {f24_5 : Int32} {f24_6 : Int32} {f24_7 : Int32} {a28 : List (Option Nat)} {j28 : Nat} (h24 : M[x0]? = some (cO 0 [f24_0, f24_1, .ref f24_2, f24_3, .int f24_4, .int f24_5, .int f24_6, .int f24_7])) (h28 : M[f24_2]? = some (cR 1 a28)) (e28 : x1 = nI j28) (b28 : a28.length ≤ 100000000) (g28 : a28[j28]? = some none) (k : Xw l D ρ m_ContentStore_blobAt 45 [] [] M d kc ks Q) : Xw l D ρ m_ContentStore_blobAt 23 [(0, .ref x0), (1, .int x1)] [] M d kc ks Q := by
  refine x_aload_n d_ContentStore_blobAt_23 rfl 0 rfl trivial ?_
  refine x_getf (k := 2) d_ContentStore_blobAt_24 ck_ContentStore fk_ContentStore_35 (by decide) h24 rfl ?_
  refine x_iload_n d_ContentStore_blobAt_27 rfl 1 rfl ?_
  refine x_aald d_ContentStore_blobAt_28 e28 h28 g28 b28 ?_
  refine x_astore_n (i := 2) (L' := [(2, .null), (0, .ref x0), (1, .int x1)]) d_ContentStore_blobAt_29 rfl (Nat.le_of_ble_eq_true rfl) trivial rfl ?_
  refine x_aload_n d_ContentStore_blobAt_30 rfl 0 rfl trivial ?_
  exact x_ifnull_z d_ContentStore_blobAt_31 (tgt := 45) (by decide) (x_pick [] rfl k)
theorem b_ContentStore_blobAt_34 {x2 : Nat} {f35_0 : Int32} {f35_1 : Int32} {f35_2 : Int64} {f35_3 : Value} {f35_4 : Value} {f35_5 : Int32} {f35_6 : Int32} (h35 : M[x2]? = some (cO 4 [.int f35_0, .int f35_1, .long f35_2, f35_3, f35_4, .int f35_5, .int f35_6])) (kt : f35_6 = 0 → Xw l D ρ m_ContentStore_blobAt 45 [] [] M d kc ks Q) (kf : ¬ f35_6 = 0 → Xw l D ρ m_ContentStore_blobAt 41 [(2, .ref x2)] [] M d kc ks Q) : Xw l D ρ m_ContentStore_blobAt 34 [(2, .ref x2)] [] M d kc ks Q := by
  refine x_aload_n d_ContentStore_blobAt_34 rfl 0 rfl trivial ?_
  refine x_getf (k := 6) d_ContentStore_blobAt_35 ck_Blob fk_ContentStore_176 (by decide) h35 rfl ?_
  exact x_if_eq d_ContentStore_blobAt_38 (tgt := 45) (by decide) (fun c => x_pick [] rfl (kt c)) (fun c => x_pick [0] rfl (kf c))
theorem b_ContentStore_blobAt_41 {x2 : Value} (h_x2 : xrf x2) (k : Xw l D ρ m_ContentStore_blobAt 46 [] [x2] M d kc ks Q) : Xw l D ρ m_ContentStore_blobAt 41 [(2, x2)] [] M d kc ks Q := by
  refine x_aload_n d_ContentStore_blobAt_41 rfl 0 rfl h_x2 ?_
  exact x_goto d_ContentStore_blobAt_42 (tgt := 46) (by decide) (x_pick [] rfl k)
theorem b_ContentStore_blobAt_45   (k : Xw l D ρ m_ContentStore_blobAt 46 [] [.null] M d kc ks Q) : Xw l D ρ m_ContentStore_blobAt 45 [] [] M d kc ks Q := by
  refine x_null d_ContentStore_blobAt_45 ?_
  exact x_pick [] rfl k
theorem b_ContentStore_blobAt_46 {s0 : Value} (h_s0 : xrf s0) (hQ : Q (some (s0)) M)  : Xw l D ρ m_ContentStore_blobAt 46 [] [s0] M d kc ks Q := by
  exact x_aret h_s0 d_ContentStore_blobAt_46 rfl (Or.inl ⟨_, rfl⟩) hQ
theorem b_Blob_hasBytes_0 {x0 : Nat} {x1 : Nat} {a1 : List Int32} {f3_0 : Int32} {f3_1 : Int32} {f3_2 : Int64} {f3_3 : Value} {f3_4 : Value} {f3_5 : Int32} {f3_6 : Int32} (h1 : M[x1]? = some (cI a1)) (h3 : M[x0]? = some (cO 4 [.int f3_0, .int f3_1, .long f3_2, f3_3, f3_4, .int f3_5, .int f3_6])) (kt : (nI a1.length) = f3_0 → Xw l D ρ m_Blob_hasBytes 11 [(0, .ref x0), (1, .ref x1)] [] M d kc ks Q) (kf : ¬ (nI a1.length) = f3_0 → Xw l D ρ m_Blob_hasBytes 9 [] [] M d kc ks Q) : Xw l D ρ m_Blob_hasBytes 0 [(0, .ref x0), (1, .ref x1)] [] M d kc ks Q := by
  refine x_aload_n d_Blob_hasBytes_0 rfl 1 rfl trivial ?_
  refine x_alenI d_Blob_hasBytes_1 h1 ?_
  refine x_aload_n d_Blob_hasBytes_2 rfl 0 rfl trivial ?_
  refine x_getf (k := 0) d_Blob_hasBytes_3 ck_Blob fk_Blob_9 (by decide) h3 rfl ?_
  exact x_icmp_eq d_Blob_hasBytes_6 (tgt := 11) (by decide) (fun c => x_pick [0, 1] rfl (kt c)) (fun c => x_pick [] rfl (kf c))
theorem b_Blob_hasBytes_9  (hQ : Q (some (.int 0)) M)  : Xw l D ρ m_Blob_hasBytes 9 [] [] M d kc ks Q := by
  refine x_iconst (v := 0) d_Blob_hasBytes_9 (by decide) ?_
  exact x_iret d_Blob_hasBytes_10 rfl rfl hQ
theorem b_Blob_hasBytes_11 {x0 : Value} {x1 : Value} (h_x1 : xrf x1) (k : Xw l D ρ m_Blob_hasBytes 13 [(0, x0), (1, x1), (2, .int 0)] [] M d kc ks Q) : Xw l D ρ m_Blob_hasBytes 11 [(0, x0), (1, x1)] [] M d kc ks Q := by
  refine x_iconst (v := 0) d_Blob_hasBytes_11 (by decide) ?_
  refine x_istore_n (i := 2) (L' := [(2, .int 0), (0, x0), (1, x1)]) d_Blob_hasBytes_12 rfl (Nat.le_of_ble_eq_true rfl) (by simp [xrf_cat h_x1]) ?_
  exact x_pick [1, 2, 0] rfl k
theorem b_Blob_hasBytes_13 {x0 : Nat} {x1 : Value} {x2 : Int32} {f15_0 : Int32} {f15_1 : Int32} {f15_2 : Int64} {f15_3 : Nat} {f15_4 : Value} {f15_5 : Int32} {f15_6 : Int32} {a18 : List (Option Nat)} (h15 : M[x0]? = some (cO 4 [.int f15_0, .int f15_1, .long f15_2, .ref f15_3, f15_4, .int f15_5, .int f15_6])) (h18 : M[f15_3]? = some (cR 2 a18)) (kt : (nI a18.length) ≤ x2 → Xw l D ρ m_Blob_hasBytes 51 [] [] M d kc ks Q) (kf : ¬ (nI a18.length) ≤ x2 → Xw l D ρ m_Blob_hasBytes 22 [(0, .ref x0), (1, x1), (2, .int x2)] [] M d kc ks Q) : Xw l D ρ m_Blob_hasBytes 13 [(0, .ref x0), (1, x1), (2, .int x2)] [] M d kc ks Q := by
  refine x_iload_n d_Blob_hasBytes_13 rfl 2 rfl ?_
  refine x_aload_n d_Blob_hasBytes_14 rfl 0 rfl trivial ?_
  refine x_getf (k := 3) d_Blob_hasBytes_15 ck_Blob fk_Blob_30 (by decide) h15 rfl ?_
  refine x_alenR d_Blob_hasBytes_18 h18 ?_
  exact x_icmp_ge d_Blob_hasBytes_19 (tgt := 51) (by decide) (fun c => x_pick [] rfl (kt c)) (fun c => x_pick [0, 1, 2] rfl (kf c))
theorem b_Blob_hasBytes_22 {x0 : Nat} {x1 : Value} {x2 : Int32} {f23_0 : Int32} {f23_1 : Int32} {f23_2 : Int64} {f23_3 : Nat} {f23_4 : Value} {f23_5 : Int32} {f23_6 : Int32} {a27 : List (Option Nat)} {j27 : Nat} {o27 : Nat} {f28_0 : Value} {f28_1 : Int32} {cd1 : Nat} {ckc1 : Nat} {cks1 : Nat} {ckc2 : Nat} {cks2 : Nat} {Q1 : Option Value → List xCl → Prop} (h_x1 : xrf x1) (h23 : M[x0]? = some (cO 4 [.int f23_0, .int f23_1, .long f23_2, .ref f23_3, f23_4, .int f23_5, .int f23_6])) (h27 : M[f23_3]? = some (cR 2 a27)) (e27 : x2 = nI j27) (b27 : a27.length ≤ 100000000) (g27 : a27[j27]? = some (some o27)) (h_f28_0 : xrf f28_0) (h28 : M[o27]? = some (cO 5 [f28_0, .int f28_1])) (hdp : cd1 + 1 ≤ d) (hkc : ckc1 + ckc2 ≤ kc) (hks : cks1 + cks2 ≤ ks) (kz : Xw l D ρ m_ContentStore_areAlike 0 [(0, f28_0), (1, .int 0), (2, x1), (3, .int (x2 * 16))] [] M cd1 ckc1 cks1 Q1) (kk : ∀ r N, Q1 r N → Xw l D ρ m_Blob_hasBytes 40 [(0, .ref x0), (1, x1), (2, .int x2)] (r.toList ++ []) N d ckc2 cks2 Q) : Xw l D ρ m_Blob_hasBytes 22 [(0, .ref x0), (1, x1), (2, .int x2)] [] M d kc ks Q := by
  refine x_aload_n d_Blob_hasBytes_22 rfl 0 rfl trivial ?_
  refine x_getf (k := 3) d_Blob_hasBytes_23 ck_Blob fk_Blob_30 (by decide) h23 rfl ?_
  refine x_iload_n d_Blob_hasBytes_26 rfl 2 rfl ?_
  refine x_aald d_Blob_hasBytes_27 e27 h27 g27 b27 ?_
  refine x_getf (k := 0) d_Blob_hasBytes_28 ck_Part fk_Blob_41 (by decide) h28 rfl ?_
  refine x_iconst (v := 0) d_Blob_hasBytes_31 (by decide) ?_
  refine x_aload_n d_Blob_hasBytes_32 rfl 1 rfl h_x1 ?_
  refine x_iload_n d_Blob_hasBytes_33 rfl 2 rfl ?_
  refine x_bipush (v := 16) d_Blob_hasBytes_34 (by decide) ?_
  refine x_imul d_Blob_hasBytes_36 ?_
  exact x_pick [0, 1, 2] rfl (x_callS (As := [f28_0, .int 0, x1, .int (x2 * 16)]) (st := []) (host := "ContentStore") d_Blob_hasBytes_37 rfl mk_ContentStore_areAlike ms_ContentStore_areAlike (Or.inr kl_Blob_47) rfl (by simp [lg_sl, m_ContentStore_areAlike, xcat_i, xcat_l, xcat_r, xcat_n, xcat_o, xrf_cat h_f28_0, xrf_cat h_x1]) (Nat.le_of_ble_eq_true rfl) hdp hkc hks (by simp [lv_args, xcat_i, xcat_l, xcat_r, xcat_n, xcat_o, xrf_cat h_f28_0, xrf_cat h_x1]) kz kk)
theorem b_Blob_hasBytes_40 {x0 : Value} {x1 : Value} {x2 : Int32} {s0 : Int32}  (kt : ¬ s0 = 0 → Xw l D ρ m_Blob_hasBytes 45 [(0, x0), (1, x1), (2, .int x2)] [] M d kc ks Q) (kf : s0 = 0 → Xw l D ρ m_Blob_hasBytes 43 [] [] M d kc ks Q) : Xw l D ρ m_Blob_hasBytes 40 [(0, x0), (1, x1), (2, .int x2)] [.int s0] M d kc ks Q := by
  exact x_if_ne d_Blob_hasBytes_40 (tgt := 45) (by decide) (fun c => x_pick [0, 1, 2] rfl (kt c)) (fun c => x_pick [] rfl (kf c))
theorem b_Blob_hasBytes_43  (hQ : Q (some (.int 0)) M)  : Xw l D ρ m_Blob_hasBytes 43 [] [] M d kc ks Q := by
  refine x_iconst (v := 0) d_Blob_hasBytes_43 (by decide) ?_
  exact x_iret d_Blob_hasBytes_44 rfl rfl hQ
theorem b_Blob_hasBytes_45 {x0 : Value} {x1 : Value} {x2 : Int32} (h_x1 : xrf x1) (k : Xw l D ρ m_Blob_hasBytes 13 [(0, x0), (1, x1), (2, .int (x2 + 1))] [] M d kc ks Q) : Xw l D ρ m_Blob_hasBytes 45 [(0, x0), (1, x1), (2, .int x2)] [] M d kc ks Q := by
  refine x_iinc (v := x2 + 1) (L' := [(2, .int (x2 + 1)), (0, x0), (1, x1)]) d_Blob_hasBytes_45 2 rfl (by rfl) (Nat.le_of_ble_eq_true rfl) (by simp [xrf_cat h_x1]) ?_
  exact x_goto d_Blob_hasBytes_48 (tgt := 13) (by decide) (x_pick [1, 2, 0] rfl k)
theorem b_Blob_hasBytes_51  (hQ : Q (some (.int 1)) M)  : Xw l D ρ m_Blob_hasBytes 51 [] [] M d kc ks Q := by
  refine x_iconst (v := 1) d_Blob_hasBytes_51 (by decide) ?_
  exact x_iret d_Blob_hasBytes_52 rfl rfl hQ
theorem b_ContentStore_areAlike_0 {x0 : Value} {x1 : Int32} {x2 : Value} {x3 : Int32} {cd1 : Nat} {ckc1 : Nat} {cks1 : Nat} {ckc2 : Nat} {cks2 : Nat} {Q1 : Option Value → List xCl → Prop} (h_x0 : xrf x0) (hdp : cd1 + 1 ≤ d) (hkc : ckc1 + ckc2 ≤ kc) (hks : cks1 + cks2 ≤ ks) (kz : Xw l D ρ m_ContentStore_partLength 0 [(0, x0), (1, .int x1)] [] M cd1 ckc1 cks1 Q1) (kk : ∀ r N, Q1 r N → Xw l D ρ m_ContentStore_areAlike 5 [(0, x0), (1, .int x1), (2, x2), (3, .int x3)] (r.toList ++ []) N d ckc2 cks2 Q) : Xw l D ρ m_ContentStore_areAlike 0 [(0, x0), (1, .int x1), (2, x2), (3, .int x3)] [] M d kc ks Q := by
  refine x_aload_n d_ContentStore_areAlike_0 rfl 0 rfl h_x0 ?_
  refine x_iload_n d_ContentStore_areAlike_1 rfl 1 rfl ?_
  exact x_pick [0, 1, 2, 3] rfl (x_callS (As := [x0, .int x1]) (st := []) (host := "") d_ContentStore_areAlike_2 rfl mk_ContentStore_partLength ms_ContentStore_partLength (Or.inl kl_ContentStore_192) rfl (by simp [lg_sl, m_ContentStore_partLength, xcat_i, xcat_l, xcat_r, xcat_n, xcat_o, xrf_cat h_x0]) (Nat.le_of_ble_eq_true rfl) hdp hkc hks (by simp [lv_args, xcat_i, xcat_l, xcat_r, xcat_n, xcat_o, xrf_cat h_x0]) kz kk)
theorem b_ContentStore_areAlike_5 {x0 : Value} {x1 : Int32} {x2 : Value} {x3 : Int32} {s0 : Int32} {cd1 : Nat} {ckc1 : Nat} {cks1 : Nat} {ckc2 : Nat} {cks2 : Nat} {Q1 : Option Value → List xCl → Prop} (h_x2 : xrf x2) (hdp : cd1 + 1 ≤ d) (hkc : ckc1 + ckc2 ≤ kc) (hks : cks1 + cks2 ≤ ks) (kz : Xw l D ρ m_ContentStore_partLength 0 [(0, x2), (1, .int x3)] [] M cd1 ckc1 cks1 Q1) (kk : ∀ r N, Q1 r N → Xw l D ρ m_ContentStore_areAlike 14 [(0, x0), (1, .int x1), (2, x2), (3, .int x3), (4, .int s0)] (r.toList ++ [.int s0]) N d ckc2 cks2 Q) : Xw l D ρ m_ContentStore_areAlike 5 [(0, x0), (1, .int x1), (2, x2), (3, .int x3)] [.int s0] M d kc ks Q := by
  refine x_istore (i := 4) (L' := [(4, .int s0), (0, x0), (1, .int x1), (2, x2), (3, .int x3)]) d_ContentStore_areAlike_5 (Nat.le_of_ble_eq_true rfl) rfl ?_
  refine x_iload d_ContentStore_areAlike_7 0 rfl ?_
  refine x_aload_n d_ContentStore_areAlike_9 rfl 3 rfl h_x2 ?_
  refine x_iload_n d_ContentStore_areAlike_10 rfl 4 rfl ?_
  exact x_pick [1, 2, 3, 4, 0] rfl (x_callS (As := [x2, .int x3]) (st := [.int s0]) (host := "") d_ContentStore_areAlike_11 rfl mk_ContentStore_partLength ms_ContentStore_partLength (Or.inl kl_ContentStore_192) rfl (by simp [lg_sl, m_ContentStore_partLength, xcat_i, xcat_l, xcat_r, xcat_n, xcat_o, xrf_cat h_x2]) (Nat.le_of_ble_eq_true rfl) hdp hkc hks (by simp [lv_args, xcat_i, xcat_l, xcat_r, xcat_n, xcat_o, xrf_cat h_x2]) kz kk)
theorem b_ContentStore_areAlike_14 {x0 : Value} {x1 : Int32} {x2 : Value} {x3 : Int32} {x4 : Int32} {s0 : Int32} {s1 : Int32}  (kt : s1 = s0 → Xw l D ρ m_ContentStore_areAlike 19 [(0, x0), (1, .int x1), (2, x2), (3, .int x3), (4, .int x4)] [] M d kc ks Q) (kf : ¬ s1 = s0 → Xw l D ρ m_ContentStore_areAlike 17 [] [] M d kc ks Q) : Xw l D ρ m_ContentStore_areAlike 14 [(0, x0), (1, .int x1), (2, x2), (3, .int x3), (4, .int x4)] [.int s0, .int s1] M d kc ks Q := by
  exact x_icmp_eq d_ContentStore_areAlike_14 (tgt := 19) (by decide) (fun c => x_pick [0, 1, 2, 3, 4] rfl (kt c)) (fun c => x_pick [] rfl (kf c))
theorem b_ContentStore_areAlike_17  (hQ : Q (some (.int 0)) M)  : Xw l D ρ m_ContentStore_areAlike 17 [] [] M d kc ks Q := by
  refine x_iconst (v := 0) d_ContentStore_areAlike_17 (by decide) ?_
  exact x_iret d_ContentStore_areAlike_18 rfl rfl hQ
theorem b_ContentStore_areAlike_19 {x0 : Value} {x1 : Int32} {x2 : Value} {x3 : Int32} {x4 : Int32}  (k : Xw l D ρ m_ContentStore_areAlike 22 [(0, x0), (1, .int x1), (2, x2), (3, .int x3), (4, .int x4), (5, .int 0)] [] M d kc ks Q) : Xw l D ρ m_ContentStore_areAlike 19 [(0, x0), (1, .int x1), (2, x2), (3, .int x3), (4, .int x4)] [] M d kc ks Q := by
  refine x_iconst (v := 0) d_ContentStore_areAlike_19 (by decide) ?_
  refine x_istore (i := 5) (L' := [(5, .int 0), (0, x0), (1, .int x1), (2, x2), (3, .int x3), (4, .int x4)]) d_ContentStore_areAlike_20 (Nat.le_of_ble_eq_true rfl) rfl ?_
  exact x_pick [1, 2, 3, 4, 5, 0] rfl k
theorem b_ContentStore_areAlike_22 {x0 : Value} {x1 : Int32} {x2 : Value} {x3 : Int32} {x4 : Int32} {x5 : Int32}  (kt : x4 ≤ x5 → Xw l D ρ m_ContentStore_areAlike 52 [] [] M d kc ks Q) (kf : ¬ x4 ≤ x5 → Xw l D ρ m_ContentStore_areAlike 29 [(0, x0), (1, .int x1), (2, x2), (3, .int x3), (4, .int x4), (5, .int x5)] [] M d kc ks Q) : Xw l D ρ m_ContentStore_areAlike 22 [(0, x0), (1, .int x1), (2, x2), (3, .int x3), (4, .int x4), (5, .int x5)] [] M d kc ks Q := by
  refine x_iload d_ContentStore_areAlike_22 5 rfl ?_
  refine x_iload d_ContentStore_areAlike_24 4 rfl ?_
  exact x_icmp_ge d_ContentStore_areAlike_26 (tgt := 52) (by decide) (fun c => x_pick [] rfl (kt c)) (fun c => x_pick [0, 1, 2, 3, 4, 5] rfl (kf c))
theorem b_ContentStore_areAlike_29 {x0 : Nat} {x1 : Int32} {x2 : Nat} {x3 : Int32} {x4 : Int32} {x5 : Int32} {a34 : List Int32} {j34 : Nat} {v34 : Int32} {a40 : List Int32} {j40 : Nat} {v40 : Int32} (h34 : M[x0]? = some (cI a34)) (e34 : x1 + x5 = nI j34) (g34 : a34[j34]? = some v34) (b34 : a34.length ≤ 100000000) (h40 : M[x2]? = some (cI a40)) (e40 : x3 + x5 = nI j40) (g40 : a40[j40]? = some v40) (b40 : a40.length ≤ 100000000) (kt : v34 = v40 → Xw l D ρ m_ContentStore_areAlike 46 [(0, .ref x0), (1, .int x1), (2, .ref x2), (3, .int x3), (4, .int x4), (5, .int x5)] [] M d kc ks Q) (kf : ¬ v34 = v40 → Xw l D ρ m_ContentStore_areAlike 44 [] [] M d kc ks Q) : Xw l D ρ m_ContentStore_areAlike 29 [(0, .ref x0), (1, .int x1), (2, .ref x2), (3, .int x3), (4, .int x4), (5, .int x5)] [] M d kc ks Q := by
  refine x_aload_n d_ContentStore_areAlike_29 rfl 0 rfl trivial ?_
  refine x_iload_n d_ContentStore_areAlike_30 rfl 1 rfl ?_
  refine x_iload d_ContentStore_areAlike_31 5 rfl ?_
  refine x_iadd d_ContentStore_areAlike_33 ?_
  refine x_iald d_ContentStore_areAlike_34 e34 h34 g34 b34 ?_
  refine x_aload_n d_ContentStore_areAlike_35 rfl 2 rfl trivial ?_
  refine x_iload_n d_ContentStore_areAlike_36 rfl 3 rfl ?_
  refine x_iload d_ContentStore_areAlike_37 5 rfl ?_
  refine x_iadd d_ContentStore_areAlike_39 ?_
  refine x_iald d_ContentStore_areAlike_40 e40 h40 g40 b40 ?_
  exact x_icmp_eq d_ContentStore_areAlike_41 (tgt := 46) (by decide) (fun c => x_pick [0, 1, 2, 3, 4, 5] rfl (kt c)) (fun c => x_pick [] rfl (kf c))
theorem b_ContentStore_areAlike_44  (hQ : Q (some (.int 0)) M)  : Xw l D ρ m_ContentStore_areAlike 44 [] [] M d kc ks Q := by
  refine x_iconst (v := 0) d_ContentStore_areAlike_44 (by decide) ?_
  exact x_iret d_ContentStore_areAlike_45 rfl rfl hQ
theorem b_ContentStore_areAlike_46 {x0 : Value} {x1 : Int32} {x2 : Value} {x3 : Int32} {x4 : Int32} {x5 : Int32}  (k : Xw l D ρ m_ContentStore_areAlike 22 [(0, x0), (1, .int x1), (2, x2), (3, .int x3), (4, .int x4), (5, .int (x5 + 1))] [] M d kc ks Q) : Xw l D ρ m_ContentStore_areAlike 46 [(0, x0), (1, .int x1), (2, x2), (3, .int x3), (4, .int x4), (5, .int x5)] [] M d kc ks Q := by
  refine x_iinc (v := x5 + 1) (L' := [(5, .int (x5 + 1)), (0, x0), (1, .int x1), (2, x2), (3, .int x3), (4, .int x4)]) d_ContentStore_areAlike_46 5 rfl (by rfl) (Nat.le_of_ble_eq_true rfl) rfl ?_
  exact x_goto d_ContentStore_areAlike_49 (tgt := 22) (by decide) (x_pick [1, 2, 3, 4, 5, 0] rfl k)
theorem b_ContentStore_areAlike_52  (hQ : Q (some (.int 1)) M)  : Xw l D ρ m_ContentStore_areAlike 52 [] [] M d kc ks Q := by
  refine x_iconst (v := 1) d_ContentStore_areAlike_52 (by decide) ?_
  exact x_iret d_ContentStore_areAlike_53 rfl rfl hQ
theorem b_ContentStore_partLength_0 {x0 : Value} {x1 : Int32}  (kt : x1 < 0 → Xw l D ρ m_ContentStore_partLength 10 [] [] M d kc ks Q) (kf : ¬ x1 < 0 → Xw l D ρ m_ContentStore_partLength 4 [(0, x0), (1, .int x1)] [] M d kc ks Q) : Xw l D ρ m_ContentStore_partLength 0 [(0, x0), (1, .int x1)] [] M d kc ks Q := by
  refine x_iload_n d_ContentStore_partLength_0 rfl 1 rfl ?_
  exact x_if_lt d_ContentStore_partLength_1 (tgt := 10) (by decide) (fun c => x_pick [] rfl (kt c)) (fun c => x_pick [0, 1] rfl (kf c))
theorem b_ContentStore_partLength_4 {x0 : Nat} {x1 : Int32} {a6 : List Int32} (h6 : M[x0]? = some (cI a6)) (kt : x1 < (nI a6.length) → Xw l D ρ m_ContentStore_partLength 14 [(0, .ref x0), (1, .int x1)] [] M d kc ks Q) (kf : ¬ x1 < (nI a6.length) → Xw l D ρ m_ContentStore_partLength 10 [] [] M d kc ks Q) : Xw l D ρ m_ContentStore_partLength 4 [(0, .ref x0), (1, .int x1)] [] M d kc ks Q := by
  refine x_iload_n d_ContentStore_partLength_4 rfl 1 rfl ?_
  refine x_aload_n d_ContentStore_partLength_5 rfl 0 rfl trivial ?_
  refine x_alenI d_ContentStore_partLength_6 h6 ?_
  exact x_icmp_lt d_ContentStore_partLength_7 (tgt := 14) (by decide) (fun c => x_pick [0, 1] rfl (kt c)) (fun c => x_pick [] rfl (kf c))
theorem b_ContentStore_partLength_10   (k : Xw l D ρ m_ContentStore_partLength 23 [] [.int 0] M d kc ks Q) : Xw l D ρ m_ContentStore_partLength 10 [] [] M d kc ks Q := by
  refine x_iconst (v := 0) d_ContentStore_partLength_10 (by decide) ?_
  exact x_goto d_ContentStore_partLength_11 (tgt := 23) (by decide) (x_pick [] rfl k)
theorem b_ContentStore_partLength_14 {x0 : Nat} {x1 : Int32} {a17 : List Int32} {cd1 : Nat} {ckc1 : Nat} {cks1 : Nat} {ckc2 : Nat} {cks2 : Nat} {Q1 : Option Value → List xCl → Prop} (h17 : M[x0]? = some (cI a17)) (hdp : cd1 + 1 ≤ d) (hkc : ckc1 + ckc2 ≤ kc) (hks : cks1 + cks2 ≤ ks) (kz : Xw l D ρ m_Math_min 0 [(0, .int 16), (1, .int ((nI a17.length) - x1))] [] M cd1 ckc1 cks1 Q1) (kk : ∀ r N, Q1 r N → Xw l D ρ m_ContentStore_partLength 23 [] (r.toList ++ []) N d ckc2 cks2 Q) : Xw l D ρ m_ContentStore_partLength 14 [(0, .ref x0), (1, .int x1)] [] M d kc ks Q := by
  refine x_bipush (v := 16) d_ContentStore_partLength_14 (by decide) ?_
  refine x_aload_n d_ContentStore_partLength_16 rfl 0 rfl trivial ?_
  refine x_alenI d_ContentStore_partLength_17 h17 ?_
  refine x_iload_n d_ContentStore_partLength_18 rfl 1 rfl ?_
  refine x_isub d_ContentStore_partLength_19 ?_
  exact x_pick [] rfl (x_callS (As := [.int 16, .int ((nI a17.length) - x1)]) (st := []) (host := "") d_ContentStore_partLength_20 rfl mk_Math_min ms_Math_min (Or.inl kl_ContentStore_11) rfl (Nat.le_of_ble_eq_true rfl) (Nat.le_of_ble_eq_true rfl) hdp hkc hks rfl kz kk)
theorem b_ContentStore_partLength_23 {s0 : Int32} (hQ : Q (some (.int s0)) M)  : Xw l D ρ m_ContentStore_partLength 23 [] [.int s0] M d kc ks Q := by
  exact x_iret d_ContentStore_partLength_23 rfl rfl hQ
theorem b_Blob_isSound_0 {x0 : Value} (h_x0 : xrf x0) (k : Xw l D ρ m_Blob_isSound 4 [(0, x0), (1, .int 0), (2, .int 0)] [] M d kc ks Q) : Xw l D ρ m_Blob_isSound 0 [(0, x0)] [] M d kc ks Q := by
  refine x_iconst (v := 0) d_Blob_isSound_0 (by decide) ?_
  refine x_istore_n (i := 1) (L' := [(1, .int 0), (0, x0)]) d_Blob_isSound_1 rfl (Nat.le_of_ble_eq_true rfl) (by simp [xrf_cat h_x0]) ?_
  refine x_iconst (v := 0) d_Blob_isSound_2 (by decide) ?_
  refine x_istore_n (i := 2) (L' := [(2, .int 0), (1, .int 0), (0, x0)]) d_Blob_isSound_3 rfl (Nat.le_of_ble_eq_true rfl) rfl ?_
  exact x_pick [2, 1, 0] rfl k
theorem b_Blob_isSound_4 {x0 : Nat} {x1 : Int32} {x2 : Int32} {f6_0 : Int32} {f6_1 : Int32} {f6_2 : Int64} {f6_3 : Nat} {f6_4 : Value} {f6_5 : Int32} {f6_6 : Int32} {a9 : List (Option Nat)} (h6 : M[x0]? = some (cO 4 [.int f6_0, .int f6_1, .long f6_2, .ref f6_3, f6_4, .int f6_5, .int f6_6])) (h9 : M[f6_3]? = some (cR 2 a9)) (kt : (nI a9.length) ≤ x2 → Xw l D ρ m_Blob_isSound 33 [(0, .ref x0), (1, .int x1)] [] M d kc ks Q) (kf : ¬ (nI a9.length) ≤ x2 → Xw l D ρ m_Blob_isSound 13 [(0, .ref x0), (1, .int x1), (2, .int x2)] [] M d kc ks Q) : Xw l D ρ m_Blob_isSound 4 [(0, .ref x0), (1, .int x1), (2, .int x2)] [] M d kc ks Q := by
  refine x_iload_n d_Blob_isSound_4 rfl 2 rfl ?_
  refine x_aload_n d_Blob_isSound_5 rfl 0 rfl trivial ?_
  refine x_getf (k := 3) d_Blob_isSound_6 ck_Blob fk_Blob_30 (by decide) h6 rfl ?_
  refine x_alenR d_Blob_isSound_9 h9 ?_
  exact x_icmp_ge d_Blob_isSound_10 (tgt := 33) (by decide) (fun c => x_pick [0, 1] rfl (kt c)) (fun c => x_pick [0, 1, 2] rfl (kf c))
theorem b_Blob_isSound_13 {x0 : Nat} {x1 : Int32} {x2 : Int32} {f15_0 : Int32} {f15_1 : Int32} {f15_2 : Int64} {f15_3 : Nat} {f15_4 : Value} {f15_5 : Int32} {f15_6 : Int32} {a19 : List (Option Nat)} {j19 : Nat} {o19 : Nat} {f20_0 : Value} {f20_1 : Int32} {cd1 : Nat} {ckc1 : Nat} {cks1 : Nat} {ckc2 : Nat} {cks2 : Nat} {Q1 : Option Value → List xCl → Prop} (h15 : M[x0]? = some (cO 4 [.int f15_0, .int f15_1, .long f15_2, .ref f15_3, f15_4, .int f15_5, .int f15_6])) (h19 : M[f15_3]? = some (cR 2 a19)) (e19 : x2 = nI j19) (b19 : a19.length ≤ 100000000) (g19 : a19[j19]? = some (some o19)) (h_f20_0 : xrf f20_0) (h20 : M[o19]? = some (cO 5 [f20_0, .int f20_1])) (hdp : cd1 + 1 ≤ d) (hkc : ckc1 + ckc2 ≤ kc) (hks : cks1 + cks2 ≤ ks) (kz : Xw l D ρ m_ContentStore_sumBehind 0 [(0, .int x1), (1, f20_0)] [] M cd1 ckc1 cks1 Q1) (kk : ∀ r N, Q1 r N → Xw l D ρ m_Blob_isSound 26 [(0, .ref x0), (2, .int x2)] (r.toList ++ []) N d ckc2 cks2 Q) : Xw l D ρ m_Blob_isSound 13 [(0, .ref x0), (1, .int x1), (2, .int x2)] [] M d kc ks Q := by
  refine x_iload_n d_Blob_isSound_13 rfl 1 rfl ?_
  refine x_aload_n d_Blob_isSound_14 rfl 0 rfl trivial ?_
  refine x_getf (k := 3) d_Blob_isSound_15 ck_Blob fk_Blob_30 (by decide) h15 rfl ?_
  refine x_iload_n d_Blob_isSound_18 rfl 2 rfl ?_
  refine x_aald d_Blob_isSound_19 e19 h19 g19 b19 ?_
  refine x_getf (k := 0) d_Blob_isSound_20 ck_Part fk_Blob_41 (by decide) h20 rfl ?_
  exact x_pick [0, 2] rfl (x_callS (As := [.int x1, f20_0]) (st := []) (host := "ContentStore") d_Blob_isSound_23 rfl mk_ContentStore_sumBehind ms_ContentStore_sumBehind (Or.inr kl_Blob_15) rfl (by simp [lg_sl, m_ContentStore_sumBehind, xcat_i, xcat_l, xcat_r, xcat_n, xcat_o, xrf_cat h_f20_0]) (Nat.le_of_ble_eq_true rfl) hdp hkc hks (by simp [lv_args, xcat_i, xcat_l, xcat_r, xcat_n, xcat_o, xrf_cat h_f20_0]) kz kk)
theorem b_Blob_isSound_26 {x0 : Value} {x2 : Int32} {s0 : Int32} (h_x0 : xrf x0) (k : Xw l D ρ m_Blob_isSound 4 [(0, x0), (1, .int s0), (2, .int (x2 + 1))] [] M d kc ks Q) : Xw l D ρ m_Blob_isSound 26 [(0, x0), (2, .int x2)] [.int s0] M d kc ks Q := by
  refine x_istore_n (i := 1) (L' := [(1, .int s0), (0, x0), (2, .int x2)]) d_Blob_isSound_26 rfl (Nat.le_of_ble_eq_true rfl) (by simp [xrf_cat h_x0]) ?_
  refine x_iinc (v := x2 + 1) (L' := [(2, .int (x2 + 1)), (1, .int s0), (0, x0)]) d_Blob_isSound_27 2 rfl (by rfl) (Nat.le_of_ble_eq_true rfl) rfl ?_
  exact x_goto d_Blob_isSound_30 (tgt := 4) (by decide) (x_pick [2, 1, 0] rfl k)
theorem b_Blob_isSound_33 {x0 : Nat} {x1 : Int32} {f35_0 : Int32} {f35_1 : Int32} {f35_2 : Int64} {f35_3 : Value} {f35_4 : Value} {f35_5 : Int32} {f35_6 : Int32} (h35 : M[x0]? = some (cO 4 [.int f35_0, .int f35_1, .long f35_2, f35_3, f35_4, .int f35_5, .int f35_6])) (kt : ¬ x1 = f35_1 → Xw l D ρ m_Blob_isSound 45 [] [] M d kc ks Q) (kf : x1 = f35_1 → Xw l D ρ m_Blob_isSound 41 [] [] M d kc ks Q) : Xw l D ρ m_Blob_isSound 33 [(0, .ref x0), (1, .int x1)] [] M d kc ks Q := by
  refine x_iload_n d_Blob_isSound_33 rfl 1 rfl ?_
  refine x_aload_n d_Blob_isSound_34 rfl 0 rfl trivial ?_
  refine x_getf (k := 1) d_Blob_isSound_35 ck_Blob fk_Blob_19 (by decide) h35 rfl ?_
  exact x_icmp_ne d_Blob_isSound_38 (tgt := 45) (by decide) (fun c => x_pick [] rfl (kt c)) (fun c => x_pick [] rfl (kf c))
theorem b_Blob_isSound_41   (k : Xw l D ρ m_Blob_isSound 46 [] [.int 1] M d kc ks Q) : Xw l D ρ m_Blob_isSound 41 [] [] M d kc ks Q := by
  refine x_iconst (v := 1) d_Blob_isSound_41 (by decide) ?_
  exact x_goto d_Blob_isSound_42 (tgt := 46) (by decide) (x_pick [] rfl k)
theorem b_Blob_isSound_45   (k : Xw l D ρ m_Blob_isSound 46 [] [.int 0] M d kc ks Q) : Xw l D ρ m_Blob_isSound 45 [] [] M d kc ks Q := by
  refine x_iconst (v := 0) d_Blob_isSound_45 (by decide) ?_
  exact x_pick [] rfl k
theorem b_Blob_isSound_46 {s0 : Int32} (hQ : Q (some (.int s0)) M) (hn : narrow .boolean (.int s0) = .int s0)  : Xw l D ρ m_Blob_isSound 46 [] [.int s0] M d kc ks Q := by
  exact x_iret d_Blob_isSound_46 rfl hn hQ
theorem b_ContentStore_sumBehind_0 {x0 : Int32} {x1 : Value} (h_x1 : xrf x1) (k : Xw l D ρ m_ContentStore_sumBehind 4 [(1, x1), (2, .int x0), (3, .int 0)] [] M d kc ks Q) : Xw l D ρ m_ContentStore_sumBehind 0 [(0, .int x0), (1, x1)] [] M d kc ks Q := by
  refine x_iload_n d_ContentStore_sumBehind_0 rfl 0 rfl ?_
  refine x_istore_n (i := 2) (L' := [(2, .int x0), (0, .int x0), (1, x1)]) d_ContentStore_sumBehind_1 rfl (Nat.le_of_ble_eq_true rfl) (by simp [xrf_cat h_x1]) ?_
  refine x_iconst (v := 0) d_ContentStore_sumBehind_2 (by decide) ?_
  refine x_istore_n (i := 3) (L' := [(3, .int 0), (2, .int x0), (0, .int x0), (1, x1)]) d_ContentStore_sumBehind_3 rfl (Nat.le_of_ble_eq_true rfl) rfl ?_
  exact x_pick [3, 1, 0] rfl k
theorem b_ContentStore_sumBehind_4 {x1 : Nat} {x2 : Int32} {x3 : Int32} {a6 : List Int32} (h6 : M[x1]? = some (cI a6)) (kt : (nI a6.length) ≤ x3 → Xw l D ρ m_ContentStore_sumBehind 37 [(2, .int x2)] [] M d kc ks Q) (kf : ¬ (nI a6.length) ≤ x3 → Xw l D ρ m_ContentStore_sumBehind 10 [(1, .ref x1), (2, .int x2), (3, .int x3)] [] M d kc ks Q) : Xw l D ρ m_ContentStore_sumBehind 4 [(1, .ref x1), (2, .int x2), (3, .int x3)] [] M d kc ks Q := by
  refine x_iload_n d_ContentStore_sumBehind_4 rfl 2 rfl ?_
  refine x_aload_n d_ContentStore_sumBehind_5 rfl 0 rfl trivial ?_
  refine x_alenI d_ContentStore_sumBehind_6 h6 ?_
  exact x_icmp_ge d_ContentStore_sumBehind_7 (tgt := 37) (by decide) (fun c => x_pick [1] rfl (kt c)) (fun c => x_pick [0, 1, 2] rfl (kf c))
theorem b_ContentStore_sumBehind_10 {x1 : Nat} {x2 : Int32} {x3 : Int32} {a13 : List Int32} {j13 : Nat} {v13 : Int32} (h13 : M[x1]? = some (cI a13)) (e13 : x3 = nI j13) (g13 : a13[j13]? = some v13) (b13 : a13.length ≤ 100000000) (k : Xw l D ρ m_ContentStore_sumBehind 4 [(1, .ref x1), (2, .int ((((x2 ^^^ v13) <<< (5 &&& 31)) ||| (((x2 ^^^ v13).toUInt32 >>> ((27 : Int32).toUInt32 &&& Int32.toUInt32 31)).toInt32)) * ((-2048144777)))), (3, .int (x3 + 1))] [] M d kc ks Q) : Xw l D ρ m_ContentStore_sumBehind 10 [(1, .ref x1), (2, .int x2), (3, .int x3)] [] M d kc ks Q := by
  refine x_iload_n d_ContentStore_sumBehind_10 rfl 1 rfl ?_
  refine x_aload_n d_ContentStore_sumBehind_11 rfl 0 rfl trivial ?_
  refine x_iload_n d_ContentStore_sumBehind_12 rfl 2 rfl ?_
  refine x_iald d_ContentStore_sumBehind_13 e13 h13 g13 b13 ?_
  refine x_ixor d_ContentStore_sumBehind_14 ?_
  refine x_istore (i := 4) (L' := [(4, .int (x2 ^^^ v13)), (1, .ref x1), (2, .int x2), (3, .int x3)]) d_ContentStore_sumBehind_15 (Nat.le_of_ble_eq_true rfl) rfl ?_
  refine x_iload d_ContentStore_sumBehind_17 0 rfl ?_
  refine x_iconst (v := 5) d_ContentStore_sumBehind_19 (by decide) ?_
  refine x_ishl d_ContentStore_sumBehind_20 ?_
  refine x_iload d_ContentStore_sumBehind_21 0 rfl ?_
  refine x_bipush (v := 27) d_ContentStore_sumBehind_23 (by decide) ?_
  refine x_iushr d_ContentStore_sumBehind_25 ?_
  refine x_ior d_ContentStore_sumBehind_26 ?_
  refine x_ldc (v := (-2048144777)) kc_ContentStore_189 d_ContentStore_sumBehind_27 ?_
  refine x_imul d_ContentStore_sumBehind_29 ?_
  refine x_istore_n (i := 2) (L' := [(2, .int ((((x2 ^^^ v13) <<< (5 &&& 31)) ||| (((x2 ^^^ v13).toUInt32 >>> ((27 : Int32).toUInt32 &&& Int32.toUInt32 31)).toInt32)) * ((-2048144777)))), (4, .int (x2 ^^^ v13)), (1, .ref x1), (3, .int x3)]) d_ContentStore_sumBehind_30 rfl (Nat.le_of_ble_eq_true rfl) rfl ?_
  refine x_iinc (v := x3 + 1) (L' := [(3, .int (x3 + 1)), (2, .int ((((x2 ^^^ v13) <<< (5 &&& 31)) ||| (((x2 ^^^ v13).toUInt32 >>> ((27 : Int32).toUInt32 &&& Int32.toUInt32 31)).toInt32)) * ((-2048144777)))), (4, .int (x2 ^^^ v13)), (1, .ref x1)]) d_ContentStore_sumBehind_31 3 rfl (by rfl) (Nat.le_of_ble_eq_true rfl) rfl ?_
  exact x_goto d_ContentStore_sumBehind_34 (tgt := 4) (by decide) (x_pick [3, 1, 0] rfl k)
theorem b_ContentStore_sumBehind_37 {x2 : Int32} (hQ : Q (some (.int x2)) M)  : Xw l D ρ m_ContentStore_sumBehind 37 [(2, .int x2)] [] M d kc ks Q := by
  refine x_iload_n d_ContentStore_sumBehind_37 rfl 0 rfl ?_
  exact x_iret d_ContentStore_sumBehind_38 rfl rfl hQ
theorem b_ContentStore_newBlobWith_0 {x0 : Nat} {x1 : Value} {f1_0 : Value} {f1_1 : Value} {f1_2 : Nat} {f1_3 : Value} {f1_4 : Int32} {f1_5 : Int32} {f1_6 : Int32} {f1_7 : Int32} {a8 : List (Option Nat)} (h1 : M[x0]? = some (cO 0 [f1_0, f1_1, .ref f1_2, f1_3, .int f1_4, .int f1_5, .int f1_6, .int f1_7])) (h8 : M[f1_2]? = some (cR 1 a8)) (kt : (nI a8.length) ≤ f1_6 → Xw l D ρ m_ContentStore_newBlobWith 23 [] [] M d kc ks Q) (kf : ¬ (nI a8.length) ≤ f1_6 → Xw l D ρ m_ContentStore_newBlobWith 12 [(0, .ref x0), (1, x1)] [] M d kc ks Q) : Xw l D ρ m_ContentStore_newBlobWith 0 [(0, .ref x0), (1, x1)] [] M d kc ks Q := by
  refine x_aload_n d_ContentStore_newBlobWith_0 rfl 0 rfl trivial ?_
  refine x_getf (k := 6) d_ContentStore_newBlobWith_1 ck_ContentStore fk_ContentStore_139 (by decide) h1 rfl ?_
  refine x_aload_n d_ContentStore_newBlobWith_4 rfl 0 rfl trivial ?_
  refine x_getf (k := 2) d_ContentStore_newBlobWith_5 ck_ContentStore fk_ContentStore_35 (by decide) h1 rfl ?_
  refine x_alenR d_ContentStore_newBlobWith_8 h8 ?_
  exact x_icmp_ge d_ContentStore_newBlobWith_9 (tgt := 23) (by decide) (fun c => x_pick [] rfl (kt c)) (fun c => x_pick [0, 1] rfl (kf c))
theorem b_ContentStore_newBlobWith_12 {x0 : Nat} {x1 : Value} {f13_0 : Nat} {f13_1 : Value} {f13_2 : Value} {f13_3 : Value} {f13_4 : Int32} {f13_5 : Int32} {f13_6 : Int32} {f13_7 : Int32} {cd1 : Nat} {ckc1 : Nat} {cks1 : Nat} {ckc2 : Nat} {cks2 : Nat} {Q1 : Option Value → List xCl → Prop} {fr_0 : Int32} {fr_1 : Value} {fr_2 : Int32} (h_x1 : xrf x1) (h13 : M[x0]? = some (cO 0 [.ref f13_0, f13_1, f13_2, f13_3, .int f13_4, .int f13_5, .int f13_6, .int f13_7])) (hdp : cd1 + 1 ≤ d) (hkc : ckc1 + ckc2 ≤ kc) (hks : cks1 + cks2 ≤ ks) (hr : M[f13_0]? = some (cO 1 [.int fr_0, fr_1, .int fr_2])) (kz : Xw l D ρ m_Shelf_hasRoomFor 0 [(0, .ref f13_0), (1, x1)] [] M cd1 ckc1 cks1 Q1) (kk : ∀ r N, Q1 r N → Xw l D ρ m_ContentStore_newBlobWith 20 [(0, .ref x0), (1, x1)] (r.toList ++ []) N d ckc2 cks2 Q) : Xw l D ρ m_ContentStore_newBlobWith 12 [(0, .ref x0), (1, x1)] [] M d kc ks Q := by
  refine x_aload_n d_ContentStore_newBlobWith_12 rfl 0 rfl trivial ?_
  refine x_getf (k := 0) d_ContentStore_newBlobWith_13 ck_ContentStore fk_ContentStore_23 (by decide) h13 rfl ?_
  refine x_aload_n d_ContentStore_newBlobWith_16 rfl 1 rfl h_x1 ?_
  exact x_pick [0, 1] rfl (x_callV (As := [x1]) (st := []) (host := "") d_ContentStore_newBlobWith_17 rfl mk_Shelf_hasRoomFor mi_Shelf_hasRoomFor mv_Shelf_hasRoomFor (Or.inl kl_ContentStore_123) rfl (by simp [lg_sl, m_Shelf_hasRoomFor, xcat_i, xcat_l, xcat_r, xcat_n, xcat_o, xrf_cat h_x1]) (Nat.le_of_ble_eq_true rfl) ck_Shelf hr hdp hkc hks (by simp [lv_args, xcat_i, xcat_l, xcat_r, xcat_n, xcat_o, xrf_cat h_x1]) kz kk)
theorem b_ContentStore_newBlobWith_20 {x0 : Value} {x1 : Value} {s0 : Int32}  (kt : ¬ s0 = 0 → Xw l D ρ m_ContentStore_newBlobWith 26 [(0, x0), (1, x1)] [] M d kc ks Q) (kf : s0 = 0 → Xw l D ρ m_ContentStore_newBlobWith 23 [] [] M d kc ks Q) : Xw l D ρ m_ContentStore_newBlobWith 20 [(0, x0), (1, x1)] [.int s0] M d kc ks Q := by
  exact x_if_ne d_ContentStore_newBlobWith_20 (tgt := 26) (by decide) (fun c => x_pick [0, 1] rfl (kt c)) (fun c => x_pick [] rfl (kf c))
theorem b_ContentStore_newBlobWith_23  (hQ : Q (some (.int ((-3)))) M)  : Xw l D ρ m_ContentStore_newBlobWith 23 [] [] M d kc ks Q := by
  refine x_bipush (v := (-3)) d_ContentStore_newBlobWith_23 (by decide) ?_
  exact x_iret d_ContentStore_newBlobWith_25 rfl rfl hQ
theorem b_ContentStore_newBlobWith_26 {x0 : Nat} {x1 : Value} {f27_0 : Nat} {f27_1 : Value} {f27_2 : Value} {f27_3 : Value} {f27_4 : Int32} {f27_5 : Int32} {f27_6 : Int32} {f27_7 : Int32} {kc1 : Nat} {ks1 : Nat} {n47 : Nat} {kc2 : Nat} {ks2 : Nat} {cd1 : Nat} {ckc1 : Nat} {cks1 : Nat} {ckc2 : Nat} {cks2 : Nat} {Q1 : Option Value → List xCl → Prop} {fr_0 : Int32} {fr_1 : Value} {fr_2 : Int32} (h_x1 : xrf x1) (h_f27_2 : xrf f27_2) (h27 : M[x0]? = some (cO 0 [.ref f27_0, f27_1, f27_2, f27_3, .int f27_4, .int f27_5, .int f27_6, .int f27_7])) (hk1 : kc1 + 1 ≤ kc) (hs1 : ks1 + 7 ≤ ks) (e47 : 0 = nI n47) (g47 : n47 ≤ 100000000) (hk2 : kc2 + 1 ≤ kc1) (hs2 : ks2 + n47 ≤ ks1) (hdp : cd1 + 1 ≤ d) (hkc : ckc1 + ckc2 ≤ kc2) (hks : cks1 + cks2 ≤ ks2) (hr : ((M ++ [cO 4 [.int 0, .int 0, .long 0, .null, .null, .int 0, .int 0]]) ++ [cR 2 (List.replicate n47 none)])[f27_0]? = some (cO 1 [.int fr_0, fr_1, .int fr_2])) (kz : Xw l D ρ m_Shelf_rowOf 0 [(0, .ref f27_0), (1, x1), (2, .ref ((M ++ [cO 4 [.int 0, .int 0, .long 0, .null, .null, .int 0, .int 0]]).length))] [] ((M ++ [cO 4 [.int 0, .int 0, .long 0, .null, .null, .int 0, .int 0]]) ++ [cR 2 (List.replicate n47 none)]) cd1 ckc1 cks1 Q1) (kk : ∀ r N, Q1 r N → Xw l D ρ m_ContentStore_newBlobWith 53 [(0, .ref x0), (2, .int f27_6)] (r.toList ++ [x1, .ref M.length, .ref M.length, .int f27_6, f27_2]) N d ckc2 cks2 Q) : Xw l D ρ m_ContentStore_newBlobWith 26 [(0, .ref x0), (1, x1)] [] M d kc ks Q := by
  refine x_aload_n d_ContentStore_newBlobWith_26 rfl 0 rfl trivial ?_
  refine x_getf (k := 6) d_ContentStore_newBlobWith_27 ck_ContentStore fk_ContentStore_139 (by decide) h27 rfl ?_
  refine x_istore_n (i := 2) (L' := [(2, .int f27_6), (0, .ref x0), (1, x1)]) d_ContentStore_newBlobWith_30 rfl (Nat.le_of_ble_eq_true rfl) (by simp [xrf_cat h_x1]) ?_
  refine x_aload_n d_ContentStore_newBlobWith_31 rfl 1 rfl trivial ?_
  refine x_getf (k := 2) d_ContentStore_newBlobWith_32 ck_ContentStore fk_ContentStore_35 (by decide) h27 rfl ?_
  refine x_iload_n d_ContentStore_newBlobWith_35 rfl 0 rfl ?_
  refine x_new (fs := [.int 0, .int 0, .long 0, .null, .null, .int 0, .int 0]) d_ContentStore_newBlobWith_36 ck_Blob kn_ContentStore_33 ki_Blob kz_Blob df_Blob rfl hk1 hs1 ?_
  refine x_dup d_ContentStore_newBlobWith_39 rfl ?_
  refine x_aload_n d_ContentStore_newBlobWith_40 rfl 2 rfl h_x1 ?_
  refine x_aload_n d_ContentStore_newBlobWith_41 rfl 1 rfl trivial ?_
  refine x_getf (k := 0) d_ContentStore_newBlobWith_42 ck_ContentStore fk_ContentStore_23 (by decide) (xpush_at h27) rfl ?_
  refine x_aload_n d_ContentStore_newBlobWith_45 rfl 2 rfl h_x1 ?_
  refine x_iconst (v := 0) d_ContentStore_newBlobWith_46 (by decide) ?_
  refine x_newq (k := 2) d_ContentStore_newBlobWith_47 kn_ContentStore_105 ka_2 e47 g47 hk2 hs2 ?_
  exact x_pick [1, 0] rfl (x_callV (As := [x1, .ref ((M ++ [cO 4 [.int 0, .int 0, .long 0, .null, .null, .int 0, .int 0]]).length)]) (st := [x1, .ref M.length, .ref M.length, .int f27_6, f27_2]) (host := "") d_ContentStore_newBlobWith_50 rfl mk_Shelf_rowOf mi_Shelf_rowOf mv_Shelf_rowOf (Or.inl kl_ContentStore_131) rfl (by simp [lg_sl, m_Shelf_rowOf, xcat_i, xcat_l, xcat_r, xcat_n, xcat_o, xrf_cat h_x1]) (by simp [xcat_i, xcat_l, xcat_r, xcat_n, xcat_o, xrf_cat h_x1, xrf_cat h_f27_2]) ck_Shelf hr hdp hkc hks (by simp [lv_args, xcat_i, xcat_l, xcat_r, xcat_n, xcat_o, xrf_cat h_x1]) kz kk)
theorem b_ContentStore_newBlobWith_53 {x0 : Value} {x2 : Int32} {s0 : Value} {s1 : Value} {s2 : Nat} {s3 : Value} {s4 : Int32} {s5 : Value} {cd1 : Nat} {ckc1 : Nat} {cks1 : Nat} {ckc2 : Nat} {cks2 : Nat} {Q1 : Option Value → List xCl → Prop} (h_s0 : xrf s0) (h_s1 : xrf s1) (h_s3 : xrf s3) (h_s5 : xrf s5) (hdp : cd1 + 1 ≤ d) (hkc : ckc1 + ckc2 ≤ kc) (hks : cks1 + cks2 ≤ ks) (kz : Xw l D ρ m_Blob_init 0 [(0, .ref s2), (1, s1), (2, s0)] [] M cd1 ckc1 cks1 Q1) (kk : ∀ r N, Q1 r N → Xw l D ρ m_ContentStore_newBlobWith 56 [(0, x0), (2, .int x2)] (r.toList ++ [s3, .int s4, s5]) N d ckc2 cks2 Q) : Xw l D ρ m_ContentStore_newBlobWith 53 [(0, x0), (2, .int x2)] [s0, s1, .ref s2, s3, .int s4, s5] M d kc ks Q := by
  exact x_pick [0, 1] rfl (x_callI (As := [s1, s0]) (st := [s3, .int s4, s5]) d_ContentStore_newBlobWith_53 rfl mk_Blob_init rfl rfl mi_Blob_init kl_ContentStore_182 rfl (by simp [lg_sl, m_Blob_init, xcat_i, xcat_l, xcat_r, xcat_n, xcat_o, xrf_cat h_s1, xrf_cat h_s0]) (by simp [xcat_i, xcat_l, xcat_r, xcat_n, xcat_o, xrf_cat h_s3, xrf_cat h_s5]) hdp hkc hks (by simp [lv_args, xcat_i, xcat_l, xcat_r, xcat_n, xcat_o, xrf_cat h_s1, xrf_cat h_s0]) kz kk)
theorem b_ContentStore_newBlobWith_56 {x0 : Nat} {x2 : Int32} {s0 : Nat} {s1 : Int32} {s2 : Nat} {a56 : List (Option Nat)} {j56 : Nat} {ci56 : Nat} {N56 : Nat} {C56 : String} {T56 : u_T} {ty56 : Nat → FieldType} {fs56 : List Value} {f59_0 : Value} {f59_1 : Value} {f59_2 : Value} {f59_3 : Value} {f59_4 : Int32} {f59_5 : Int32} {f59_6 : Int32} {f59_7 : Int32} (h56 : M[s2]? = some (cR 1 a56)) (e56 : s1 = nI j56) (g56 : j56 < a56.length) (b56 : a56.length ≤ 100000000) (v56 : M[s0]? = some (cO ci56 fs56)) (ck56 : xCk ci56 C56 T56 N56 ty56) (z56 : C56 = xEl 1 ∨ Cond.castable C56 (xEl 1) ∈ Nw) (h59 : (M.set s2 (cR 1 (a56.set j56 (some s0))))[x0]? = some (cO 0 [f59_0, f59_1, f59_2, f59_3, .int f59_4, .int f59_5, .int f59_6, .int f59_7])) (hQ : Q (some (.int x2)) ((M.set s2 (cR 1 (a56.set j56 (some s0)))).set x0 (cO 0 [f59_0, f59_1, f59_2, f59_3, .int f59_4, .int f59_5, .int (f59_6 + 1), .int f59_7])))  : Xw l D ρ m_ContentStore_newBlobWith 56 [(0, .ref x0), (2, .int x2)] [.ref s0, .int s1, .ref s2] M d kc ks Q := by
  refine x_aast d_ContentStore_newBlobWith_56 e56 h56 g56 b56 v56 ck56 z56 ?_
  refine x_aload_n d_ContentStore_newBlobWith_57 rfl 0 rfl trivial ?_
  refine x_dup d_ContentStore_newBlobWith_58 rfl ?_
  refine x_getf (k := 6) d_ContentStore_newBlobWith_59 ck_ContentStore fk_ContentStore_139 (by decide) h59 rfl ?_
  refine x_iconst (v := 1) d_ContentStore_newBlobWith_62 (by decide) ?_
  refine x_iadd d_ContentStore_newBlobWith_63 ?_
  refine x_putf (k := 6) (fs' := [f59_0, f59_1, f59_2, f59_3, .int f59_4, .int f59_5, .int (f59_6 + 1), .int f59_7]) d_ContentStore_newBlobWith_64 ck_ContentStore fk_ContentStore_139 (by decide) (Or.inl rfl) rfl h59 (Nat.le_of_ble_eq_true rfl) rfl ?_
  refine x_iload_n d_ContentStore_newBlobWith_67 rfl 1 rfl ?_
  exact x_iret d_ContentStore_newBlobWith_68 rfl rfl hQ
theorem b_Shelf_hasRoomFor_0 {x0 : Value} {x1 : Value} (h_x1 : xrf x1) (k : Xw l D ρ m_Shelf_hasRoomFor 4 [(0, x0), (1, x1), (2, .int 0), (3, .int 0)] [] M d kc ks Q) : Xw l D ρ m_Shelf_hasRoomFor 0 [(0, x0), (1, x1)] [] M d kc ks Q := by
  refine x_iconst (v := 0) d_Shelf_hasRoomFor_0 (by decide) ?_
  refine x_istore_n (i := 2) (L' := [(2, .int 0), (0, x0), (1, x1)]) d_Shelf_hasRoomFor_1 rfl (Nat.le_of_ble_eq_true rfl) (by simp [xrf_cat h_x1]) ?_
  refine x_iconst (v := 0) d_Shelf_hasRoomFor_2 (by decide) ?_
  refine x_istore_n (i := 3) (L' := [(3, .int 0), (2, .int 0), (0, x0), (1, x1)]) d_Shelf_hasRoomFor_3 rfl (Nat.le_of_ble_eq_true rfl) rfl ?_
  exact x_pick [2, 3, 1, 0] rfl k
theorem b_Shelf_hasRoomFor_4 {x0 : Value} {x1 : Nat} {x2 : Int32} {x3 : Int32} {a6 : List Int32} (h6 : M[x1]? = some (cI a6)) (kt : (nI a6.length) ≤ x3 → Xw l D ρ m_Shelf_hasRoomFor 42 [(0, x0), (2, .int x2)] [] M d kc ks Q) (kf : ¬ (nI a6.length) ≤ x3 → Xw l D ρ m_Shelf_hasRoomFor 10 [(0, x0), (1, .ref x1), (2, .int x2), (3, .int x3)] [] M d kc ks Q) : Xw l D ρ m_Shelf_hasRoomFor 4 [(0, x0), (1, .ref x1), (2, .int x2), (3, .int x3)] [] M d kc ks Q := by
  refine x_iload_n d_Shelf_hasRoomFor_4 rfl 3 rfl ?_
  refine x_aload_n d_Shelf_hasRoomFor_5 rfl 1 rfl trivial ?_
  refine x_alenI d_Shelf_hasRoomFor_6 h6 ?_
  exact x_icmp_ge d_Shelf_hasRoomFor_7 (tgt := 42) (by decide) (fun c => x_pick [0, 2] rfl (kt c)) (fun c => x_pick [0, 1, 2, 3] rfl (kf c))
theorem b_Shelf_hasRoomFor_10 {x0 : Nat} {x1 : Value} {x2 : Int32} {x3 : Int32} {cd1 : Nat} {ckc1 : Nat} {cks1 : Nat} {ckc2 : Nat} {cks2 : Nat} {Q1 : Option Value → List xCl → Prop} {fr_0 : Int32} {fr_1 : Value} {fr_2 : Int32} (h_x1 : xrf x1) (hdp : cd1 + 1 ≤ d) (hkc : ckc1 + ckc2 ≤ kc) (hks : cks1 + cks2 ≤ ks) (hr : M[x0]? = some (cO 1 [.int fr_0, fr_1, .int fr_2])) (kz : Xw l D ρ m_Shelf_found 0 [(0, .ref x0), (1, x1), (2, .int x3)] [] M cd1 ckc1 cks1 Q1) (kk : ∀ r N, Q1 r N → Xw l D ρ m_Shelf_hasRoomFor 16 [(0, .ref x0), (1, x1), (2, .int x2), (3, .int x3)] (r.toList ++ []) N d ckc2 cks2 Q) : Xw l D ρ m_Shelf_hasRoomFor 10 [(0, .ref x0), (1, x1), (2, .int x2), (3, .int x3)] [] M d kc ks Q := by
  refine x_aload_n d_Shelf_hasRoomFor_10 rfl 0 rfl trivial ?_
  refine x_aload_n d_Shelf_hasRoomFor_11 rfl 1 rfl h_x1 ?_
  refine x_iload_n d_Shelf_hasRoomFor_12 rfl 3 rfl ?_
  exact x_pick [0, 1, 2, 3] rfl (x_callV (As := [x1, .int x3]) (st := []) (host := "") d_Shelf_hasRoomFor_13 rfl mk_Shelf_found mi_Shelf_found mv_Shelf_found (Or.inl kl_Shelf_22) rfl (by simp [lg_sl, m_Shelf_found, xcat_i, xcat_l, xcat_r, xcat_n, xcat_o, xrf_cat h_x1]) (Nat.le_of_ble_eq_true rfl) ck_Shelf hr hdp hkc hks (by simp [lv_args, xcat_i, xcat_l, xcat_r, xcat_n, xcat_o, xrf_cat h_x1]) kz kk)
theorem b_Shelf_hasRoomFor_16 {x0 : Value} {x1 : Value} {x2 : Int32} {x3 : Int32} {s0 : Nat}  (k : Xw l D ρ m_Shelf_hasRoomFor 36 [(0, x0), (1, x1), (2, .int x2), (3, .int x3)] [] M d kc ks Q) : Xw l D ρ m_Shelf_hasRoomFor 16 [(0, x0), (1, x1), (2, .int x2), (3, .int x3)] [.ref s0] M d kc ks Q := by
  exact x_ifnonnull_r d_Shelf_hasRoomFor_16 (tgt := 36) (by decide) (x_pick [0, 1, 2, 3] rfl k)
theorem b_Shelf_hasRoomFor_16_z {x0 : Value} {x1 : Value} {x2 : Int32} {x3 : Int32}  (k : Xw l D ρ m_Shelf_hasRoomFor 19 [(0, x0), (1, x1), (2, .int x2), (3, .int x3)] [] M d kc ks Q) : Xw l D ρ m_Shelf_hasRoomFor 16 [(0, x0), (1, x1), (2, .int x2), (3, .int x3)] [.null] M d kc ks Q := by
  exact x_ifnonnull_z d_Shelf_hasRoomFor_16 (x_pick [0, 1, 2, 3] rfl k)
theorem b_Shelf_hasRoomFor_19 {x0 : Nat} {x1 : Value} {x2 : Int32} {x3 : Int32} {cd1 : Nat} {ckc1 : Nat} {cks1 : Nat} {ckc2 : Nat} {cks2 : Nat} {Q1 : Option Value → List xCl → Prop} {fr_0 : Int32} {fr_1 : Value} {fr_2 : Int32} (h_x1 : xrf x1) (hdp : cd1 + 1 ≤ d) (hkc : ckc1 + ckc2 ≤ kc) (hks : cks1 + cks2 ≤ ks) (hr : M[x0]? = some (cO 1 [.int fr_0, fr_1, .int fr_2])) (kz : Xw l D ρ m_Shelf_comesEarlier 0 [(0, .ref x0), (1, x1), (2, .int x3)] [] M cd1 ckc1 cks1 Q1) (kk : ∀ r N, Q1 r N → Xw l D ρ m_Shelf_hasRoomFor 25 [(0, .ref x0), (1, x1), (2, .int x2), (3, .int x3)] (r.toList ++ []) N d ckc2 cks2 Q) : Xw l D ρ m_Shelf_hasRoomFor 19 [(0, .ref x0), (1, x1), (2, .int x2), (3, .int x3)] [] M d kc ks Q := by
  refine x_aload_n d_Shelf_hasRoomFor_19 rfl 0 rfl trivial ?_
  refine x_aload_n d_Shelf_hasRoomFor_20 rfl 1 rfl h_x1 ?_
  refine x_iload_n d_Shelf_hasRoomFor_21 rfl 3 rfl ?_
  exact x_pick [0, 1, 2, 3] rfl (x_callV (As := [x1, .int x3]) (st := []) (host := "") d_Shelf_hasRoomFor_22 rfl mk_Shelf_comesEarlier mi_Shelf_comesEarlier mv_Shelf_comesEarlier (Or.inl kl_Shelf_26) rfl (by simp [lg_sl, m_Shelf_comesEarlier, xcat_i, xcat_l, xcat_r, xcat_n, xcat_o, xrf_cat h_x1]) (Nat.le_of_ble_eq_true rfl) ck_Shelf hr hdp hkc hks (by simp [lv_args, xcat_i, xcat_l, xcat_r, xcat_n, xcat_o, xrf_cat h_x1]) kz kk)
theorem b_Shelf_hasRoomFor_25 {x0 : Value} {x1 : Value} {x2 : Int32} {x3 : Int32} {s0 : Int32}  (kt : ¬ s0 = 0 → Xw l D ρ m_Shelf_hasRoomFor 36 [(0, x0), (1, x1), (2, .int x2), (3, .int x3)] [] M d kc ks Q) (kf : s0 = 0 → Xw l D ρ m_Shelf_hasRoomFor 28 [(0, x0), (1, x1), (2, .int x2), (3, .int x3)] [] M d kc ks Q) : Xw l D ρ m_Shelf_hasRoomFor 25 [(0, x0), (1, x1), (2, .int x2), (3, .int x3)] [.int s0] M d kc ks Q := by
  exact x_if_ne d_Shelf_hasRoomFor_25 (tgt := 36) (by decide) (fun c => x_pick [0, 1, 2, 3] rfl (kt c)) (fun c => x_pick [0, 1, 2, 3] rfl (kf c))
theorem b_Shelf_hasRoomFor_28 {x0 : Value} {x1 : Value} {x2 : Int32} {x3 : Int32} {cd1 : Nat} {ckc1 : Nat} {cks1 : Nat} {ckc2 : Nat} {cks2 : Nat} {Q1 : Option Value → List xCl → Prop} (h_x1 : xrf x1) (hdp : cd1 + 1 ≤ d) (hkc : ckc1 + ckc2 ≤ kc) (hks : cks1 + cks2 ≤ ks) (kz : Xw l D ρ m_ContentStore_partLength 0 [(0, x1), (1, .int x3)] [] M cd1 ckc1 cks1 Q1) (kk : ∀ r N, Q1 r N → Xw l D ρ m_Shelf_hasRoomFor 34 [(0, x0), (1, x1), (3, .int x3)] (r.toList ++ [.int x2]) N d ckc2 cks2 Q) : Xw l D ρ m_Shelf_hasRoomFor 28 [(0, x0), (1, x1), (2, .int x2), (3, .int x3)] [] M d kc ks Q := by
  refine x_iload_n d_Shelf_hasRoomFor_28 rfl 2 rfl ?_
  refine x_aload_n d_Shelf_hasRoomFor_29 rfl 1 rfl h_x1 ?_
  refine x_iload_n d_Shelf_hasRoomFor_30 rfl 3 rfl ?_
  exact x_pick [0, 1, 3] rfl (x_callS (As := [x1, .int x3]) (st := [.int x2]) (host := "ContentStore") d_Shelf_hasRoomFor_31 rfl mk_ContentStore_partLength ms_ContentStore_partLength (Or.inr kl_Shelf_30) rfl (by simp [lg_sl, m_ContentStore_partLength, xcat_i, xcat_l, xcat_r, xcat_n, xcat_o, xrf_cat h_x1]) (Nat.le_of_ble_eq_true rfl) hdp hkc hks (by simp [lv_args, xcat_i, xcat_l, xcat_r, xcat_n, xcat_o, xrf_cat h_x1]) kz kk)
theorem b_Shelf_hasRoomFor_34 {x0 : Value} {x1 : Value} {x3 : Int32} {s0 : Int32} {s1 : Int32} (h_x1 : xrf x1) (k : Xw l D ρ m_Shelf_hasRoomFor 36 [(0, x0), (1, x1), (2, .int (s1 + s0)), (3, .int x3)] [] M d kc ks Q) : Xw l D ρ m_Shelf_hasRoomFor 34 [(0, x0), (1, x1), (3, .int x3)] [.int s0, .int s1] M d kc ks Q := by
  refine x_iadd d_Shelf_hasRoomFor_34 ?_
  refine x_istore_n (i := 2) (L' := [(2, .int (s1 + s0)), (0, x0), (1, x1), (3, .int x3)]) d_Shelf_hasRoomFor_35 rfl (Nat.le_of_ble_eq_true rfl) (by simp [xrf_cat h_x1]) ?_
  exact x_pick [1, 2, 0, 3] rfl k
theorem b_Shelf_hasRoomFor_36 {x0 : Value} {x1 : Value} {x2 : Int32} {x3 : Int32}  (k : Xw l D ρ m_Shelf_hasRoomFor 4 [(0, x0), (1, x1), (2, .int x2), (3, .int (x3 + 16))] [] M d kc ks Q) : Xw l D ρ m_Shelf_hasRoomFor 36 [(0, x0), (1, x1), (2, .int x2), (3, .int x3)] [] M d kc ks Q := by
  refine x_iinc (v := x3 + 16) (L' := [(3, .int (x3 + 16)), (0, x0), (1, x1), (2, .int x2)]) d_Shelf_hasRoomFor_36 3 rfl (by rfl) (Nat.le_of_ble_eq_true rfl) rfl ?_
  exact x_goto d_Shelf_hasRoomFor_39 (tgt := 4) (by decide) (x_pick [1, 2, 3, 0] rfl k)
theorem b_Shelf_hasRoomFor_42 {x0 : Nat} {x2 : Int32} {f44_0 : Int32} {f44_1 : Value} {f44_2 : Int32} (h44 : M[x0]? = some (cO 1 [.int f44_0, f44_1, .int f44_2])) (kt : (f44_0 - f44_2) < x2 → Xw l D ρ m_Shelf_hasRoomFor 59 [] [] M d kc ks Q) (kf : ¬ (f44_0 - f44_2) < x2 → Xw l D ρ m_Shelf_hasRoomFor 55 [] [] M d kc ks Q) : Xw l D ρ m_Shelf_hasRoomFor 42 [(0, .ref x0), (2, .int x2)] [] M d kc ks Q := by
  refine x_iload_n d_Shelf_hasRoomFor_42 rfl 1 rfl ?_
  refine x_aload_n d_Shelf_hasRoomFor_43 rfl 0 rfl trivial ?_
  refine x_getf (k := 0) d_Shelf_hasRoomFor_44 ck_Shelf fk_Shelf_9 (by decide) h44 rfl ?_
  refine x_aload_n d_Shelf_hasRoomFor_47 rfl 0 rfl trivial ?_
  refine x_getf (k := 2) d_Shelf_hasRoomFor_48 ck_Shelf fk_Shelf_34 (by decide) h44 rfl ?_
  refine x_isub d_Shelf_hasRoomFor_51 ?_
  exact x_icmp_gt d_Shelf_hasRoomFor_52 (tgt := 59) (by decide) (fun c => x_pick [] rfl (kt c)) (fun c => x_pick [] rfl (kf c))
theorem b_Shelf_hasRoomFor_55   (k : Xw l D ρ m_Shelf_hasRoomFor 60 [] [.int 1] M d kc ks Q) : Xw l D ρ m_Shelf_hasRoomFor 55 [] [] M d kc ks Q := by
  refine x_iconst (v := 1) d_Shelf_hasRoomFor_55 (by decide) ?_
  exact x_goto d_Shelf_hasRoomFor_56 (tgt := 60) (by decide) (x_pick [] rfl k)
theorem b_Shelf_hasRoomFor_59   (k : Xw l D ρ m_Shelf_hasRoomFor 60 [] [.int 0] M d kc ks Q) : Xw l D ρ m_Shelf_hasRoomFor 59 [] [] M d kc ks Q := by
  refine x_iconst (v := 0) d_Shelf_hasRoomFor_59 (by decide) ?_
  exact x_pick [] rfl k
theorem b_Shelf_hasRoomFor_60 {s0 : Int32} (hQ : Q (some (.int s0)) M) (hn : narrow .boolean (.int s0) = .int s0)  : Xw l D ρ m_Shelf_hasRoomFor 60 [] [.int s0] M d kc ks Q := by
  exact x_iret d_Shelf_hasRoomFor_60 rfl hn hQ
theorem b_Shelf_found_0 {x0 : Value} {x1 : Value} {x2 : Int32}  (k : Xw l D ρ m_Shelf_found 2 [(0, x0), (1, x1), (2, .int x2), (3, .int 0)] [] M d kc ks Q) : Xw l D ρ m_Shelf_found 0 [(0, x0), (1, x1), (2, .int x2)] [] M d kc ks Q := by
  refine x_iconst (v := 0) d_Shelf_found_0 (by decide) ?_
  refine x_istore_n (i := 3) (L' := [(3, .int 0), (0, x0), (1, x1), (2, .int x2)]) d_Shelf_found_1 rfl (Nat.le_of_ble_eq_true rfl) rfl ?_
  exact x_pick [1, 2, 3, 0] rfl k
theorem b_Shelf_found_2 {x0 : Nat} {x1 : Value} {x2 : Int32} {x3 : Int32} {f4_0 : Int32} {f4_1 : Nat} {f4_2 : Int32} {cd1 : Nat} {ckc1 : Nat} {cks1 : Nat} {ckc2 : Nat} {cks2 : Nat} {Q1 : Option Value → List xCl → Prop} {fr_0 : Value} {fr_1 : Int32} {fr_2 : Int32} (h4 : M[x0]? = some (cO 1 [.int f4_0, .ref f4_1, .int f4_2])) (hdp : cd1 + 1 ≤ d) (hkc : ckc1 + ckc2 ≤ kc) (hks : cks1 + cks2 ≤ ks) (hr : M[f4_1]? = some (cO 2 [fr_0, .int fr_1, .int fr_2])) (kz : Xw l D ρ m_ArrayList_size 0 [(0, .ref f4_1)] [] M cd1 ckc1 cks1 Q1) (kk : ∀ r N, Q1 r N → Xw l D ρ m_Shelf_found 10 [(0, .ref x0), (1, x1), (2, .int x2), (3, .int x3)] (r.toList ++ [.int x3]) N d ckc2 cks2 Q) : Xw l D ρ m_Shelf_found 2 [(0, .ref x0), (1, x1), (2, .int x2), (3, .int x3)] [] M d kc ks Q := by
  refine x_iload_n d_Shelf_found_2 rfl 3 rfl ?_
  refine x_aload_n d_Shelf_found_3 rfl 0 rfl trivial ?_
  refine x_getf (k := 1) d_Shelf_found_4 ck_Shelf fk_Shelf_18 (by decide) h4 rfl ?_
  exact x_pick [0, 1, 2, 3] rfl (x_callV (As := []) (st := [.int x3]) (host := "") d_Shelf_found_7 rfl mk_ArrayList_size mi_ArrayList_size mv_ArrayList_size (Or.inl kl_Shelf_64) rfl (Nat.le_of_ble_eq_true rfl) (Nat.le_of_ble_eq_true rfl) ck_ArrayList hr hdp hkc hks rfl kz kk)
end XB
