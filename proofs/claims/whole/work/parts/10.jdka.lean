section XB
variable {l : Launch} {D : va_G} {ρ : xR} {M : List xCl} {d kc ks : Nat} {Q : Option Value → List xCl → Prop}
theorem b_Math_min_0 {x0 : Int32} {x1 : Int32}  (kt : x1 < x0 → Xw l D ρ m_Math_min 9 [(1, .int x1)] [] M d kc ks Q) (kf : ¬ x1 < x0 → Xw l D ρ m_Math_min 5 [(0, .int x0)] [] M d kc ks Q) : Xw l D ρ m_Math_min 0 [(0, .int x0), (1, .int x1)] [] M d kc ks Q := by
  refine x_iload_n d_Math_min_0 rfl 0 rfl ?_
  refine x_iload_n d_Math_min_1 rfl 1 rfl ?_
  exact x_icmp_gt d_Math_min_2 (tgt := 9) (by decide) (fun c => x_pick [1] rfl (kt c)) (fun c => x_pick [0] rfl (kf c))
theorem b_Math_min_5 {x0 : Int32}  (k : Xw l D ρ m_Math_min 10 [] [.int x0] M d kc ks Q) : Xw l D ρ m_Math_min 5 [(0, .int x0)] [] M d kc ks Q := by
  refine x_iload_n d_Math_min_5 rfl 0 rfl ?_
  exact x_goto d_Math_min_6 (tgt := 10) (by decide) (x_pick [] rfl k)
theorem b_Math_min_9 {x1 : Int32}  (k : Xw l D ρ m_Math_min 10 [] [.int x1] M d kc ks Q) : Xw l D ρ m_Math_min 9 [(1, .int x1)] [] M d kc ks Q := by
  refine x_iload_n d_Math_min_9 rfl 0 rfl ?_
  exact x_pick [] rfl k
theorem b_Math_min_10 {s0 : Int32} (hQ : Q (some (.int s0)) M)  : Xw l D ρ m_Math_min 10 [] [.int s0] M d kc ks Q := by
  exact x_iret d_Math_min_10 rfl rfl hQ
theorem b_Math_max_0 {x0 : Int32} {x1 : Int32}  (kt : x0 < x1 → Xw l D ρ m_Math_max 9 [(1, .int x1)] [] M d kc ks Q) (kf : ¬ x0 < x1 → Xw l D ρ m_Math_max 5 [(0, .int x0)] [] M d kc ks Q) : Xw l D ρ m_Math_max 0 [(0, .int x0), (1, .int x1)] [] M d kc ks Q := by
  refine x_iload_n d_Math_max_0 rfl 0 rfl ?_
  refine x_iload_n d_Math_max_1 rfl 1 rfl ?_
  exact x_icmp_lt d_Math_max_2 (tgt := 9) (by decide) (fun c => x_pick [1] rfl (kt c)) (fun c => x_pick [0] rfl (kf c))
theorem b_Math_max_5 {x0 : Int32}  (k : Xw l D ρ m_Math_max 10 [] [.int x0] M d kc ks Q) : Xw l D ρ m_Math_max 5 [(0, .int x0)] [] M d kc ks Q := by
  refine x_iload_n d_Math_max_5 rfl 0 rfl ?_
  exact x_goto d_Math_max_6 (tgt := 10) (by decide) (x_pick [] rfl k)
theorem b_Math_max_9 {x1 : Int32}  (k : Xw l D ρ m_Math_max 10 [] [.int x1] M d kc ks Q) : Xw l D ρ m_Math_max 9 [(1, .int x1)] [] M d kc ks Q := by
  refine x_iload_n d_Math_max_9 rfl 0 rfl ?_
  exact x_pick [] rfl k
theorem b_Math_max_10 {s0 : Int32} (hQ : Q (some (.int s0)) M)  : Xw l D ρ m_Math_max 10 [] [.int s0] M d kc ks Q := by
  exact x_iret d_Math_max_10 rfl rfl hQ
theorem b_ArrayList_init_0 {x0 : Nat} {cd1 : Nat} {ckc1 : Nat} {cks1 : Nat} {ckc2 : Nat} {cks2 : Nat} {Q1 : Option Value → List xCl → Prop} (hdp : cd1 + 1 ≤ d) (hkc : ckc1 + ckc2 ≤ kc) (hks : cks1 + cks2 ≤ ks) (kz : Xw l D ρ m_AbstractList_init 0 [(0, .ref x0)] [] M cd1 ckc1 cks1 Q1) (kk : ∀ r N, Q1 r N → Xw l D ρ m_ArrayList_init 4 [(0, .ref x0)] (r.toList ++ []) N d ckc2 cks2 Q) : Xw l D ρ m_ArrayList_init 0 [(0, .ref x0)] [] M d kc ks Q := by
  refine x_aload_n d_ArrayList_init_0 rfl 0 rfl trivial ?_
  exact x_pick [0] rfl (x_callI (As := []) (st := []) d_ArrayList_init_1 rfl mk_AbstractList_init rfl rfl mi_AbstractList_init kl_ArrayList_1 rfl (Nat.le_of_ble_eq_true rfl) (Nat.le_of_ble_eq_true rfl) hdp hkc hks rfl kz kk)
theorem b_ArrayList_init_4 {x0 : Nat} {f8_0 : Value} {f8_1 : Int32} {f8_2 : Int32} (h8 : M[x0]? = some (cO 2 [f8_0, .int f8_1, .int f8_2])) (hQ : Q none (M.set x0 (cO 2 [.retAddr 1, .int f8_1, .int f8_2])))  : Xw l D ρ m_ArrayList_init 4 [(0, .ref x0)] [] M d kc ks Q := by
  refine x_aload_n d_ArrayList_init_4 rfl 0 rfl trivial ?_
  refine x_gets d_ArrayList_init_5 ks_ArrayList_39 ?_
  refine x_putf (k := 0) (fs' := [.retAddr 1, .int f8_1, .int f8_2]) d_ArrayList_init_8 ck_ArrayList fk_ArrayList_9 (by decide) (Or.inl rfl) rfl h8 (Nat.le_of_ble_eq_true rfl) rfl ?_
  exact x_vret d_ArrayList_init_11 rfl hQ
theorem b_AbstractList_init_0 {x0 : Nat} {cd1 : Nat} {ckc1 : Nat} {cks1 : Nat} {ckc2 : Nat} {cks2 : Nat} {Q1 : Option Value → List xCl → Prop} (hdp : cd1 + 1 ≤ d) (hkc : ckc1 + ckc2 ≤ kc) (hks : cks1 + cks2 ≤ ks) (kz : Xw l D ρ m_AbstractCollection_init 0 [(0, .ref x0)] [] M cd1 ckc1 cks1 Q1) (kk : ∀ r N, Q1 r N → Xw l D ρ m_AbstractList_init 4 [(0, .ref x0)] (r.toList ++ []) N d ckc2 cks2 Q) : Xw l D ρ m_AbstractList_init 0 [(0, .ref x0)] [] M d kc ks Q := by
  refine x_aload_n d_AbstractList_init_0 rfl 0 rfl trivial ?_
  exact x_pick [0] rfl (x_callI (As := []) (st := []) d_AbstractList_init_1 rfl mk_AbstractCollection_init rfl rfl mi_AbstractCollection_init kl_AbstractList_1 rfl (Nat.le_of_ble_eq_true rfl) (Nat.le_of_ble_eq_true rfl) hdp hkc hks rfl kz kk)
theorem b_AbstractList_init_4 {x0 : Nat} {f6_0 : Value} {f6_1 : Int32} {f6_2 : Int32} (h6 : M[x0]? = some (cO 2 [f6_0, .int f6_1, .int f6_2])) (hQ : Q none (M.set x0 (cO 2 [f6_0, .int f6_1, .int 0])))  : Xw l D ρ m_AbstractList_init 4 [(0, .ref x0)] [] M d kc ks Q := by
  refine x_aload_n d_AbstractList_init_4 rfl 0 rfl trivial ?_
  refine x_iconst (v := 0) d_AbstractList_init_5 (by decide) ?_
  refine x_putf (k := 2) (fs' := [f6_0, .int f6_1, .int 0]) d_AbstractList_init_6 ck_ArrayList fk_AbstractList_7 (by decide) (Or.inl rfl) rfl h6 (Nat.le_of_ble_eq_true rfl) rfl ?_
  exact x_vret d_AbstractList_init_9 rfl hQ
theorem b_AbstractCollection_init_0 {x0 : Nat} (hd1 : 1 ≤ d) (hQ : Q none M)  : Xw l D ρ m_AbstractCollection_init 0 [(0, .ref x0)] [] M d kc ks Q := by
  refine x_aload_n d_AbstractCollection_init_0 rfl 0 rfl trivial ?_
  refine x_objInit (y := m_AbstractCollection_init) (st := []) d_AbstractCollection_init_1 kl_AbstractCollection_1 ko_ins ko_code (Nat.le_of_ble_eq_true rfl) hd1 ?_
  exact x_vret d_AbstractCollection_init_4 rfl hQ
theorem b_ArrayList_size_0 {x0 : Nat} {f1_0 : Value} {f1_1 : Int32} {f1_2 : Int32} (h1 : M[x0]? = some (cO 2 [f1_0, .int f1_1, .int f1_2])) (hQ : Q (some (.int f1_1)) M)  : Xw l D ρ m_ArrayList_size 0 [(0, .ref x0)] [] M d kc ks Q := by
  refine x_aload_n d_ArrayList_size_0 rfl 0 rfl trivial ?_
  refine x_getf (k := 1) d_ArrayList_size_1 ck_ArrayList fk_ArrayList_48 (by decide) h1 rfl ?_
  exact x_iret d_ArrayList_size_4 rfl rfl hQ
theorem b_ArrayList_get_0 {x0 : Nat} {x1 : Int32} {f2_0 : Value} {f2_1 : Int32} {f2_2 : Int32} {cd1 : Nat} {ckc1 : Nat} {cks1 : Nat} {ckc2 : Nat} {cks2 : Nat} {Q1 : Option Value → List xCl → Prop} (h2 : M[x0]? = some (cO 2 [f2_0, .int f2_1, .int f2_2])) (hdp : cd1 + 1 ≤ d) (hkc : ckc1 + ckc2 ≤ kc) (hks : cks1 + cks2 ≤ ks) (kz : Xw l D ρ m_Objects_checkIndex 0 [(0, .int x1), (1, .int f2_1)] [] M cd1 ckc1 cks1 Q1) (kk : ∀ r N, Q1 r N → Xw l D ρ m_ArrayList_get 8 [(0, .ref x0), (1, .int x1)] (r.toList ++ []) N d ckc2 cks2 Q) : Xw l D ρ m_ArrayList_get 0 [(0, .ref x0), (1, .int x1)] [] M d kc ks Q := by
  refine x_iload_n d_ArrayList_get_0 rfl 1 rfl ?_
  refine x_aload_n d_ArrayList_get_1 rfl 0 rfl trivial ?_
  refine x_getf (k := 1) d_ArrayList_get_2 ck_ArrayList fk_ArrayList_48 (by decide) h2 rfl ?_
  exact x_pick [0, 1] rfl (x_callS (As := [.int x1, .int f2_1]) (st := []) (host := "") d_ArrayList_get_5 rfl mk_Objects_checkIndex ms_Objects_checkIndex (Or.inl kl_ArrayList_118) rfl (Nat.le_of_ble_eq_true rfl) (Nat.le_of_ble_eq_true rfl) hdp hkc hks rfl kz kk)
theorem b_ArrayList_get_8 {x0 : Nat} {x1 : Int32} {s0 : Int32} {cd1 : Nat} {ckc1 : Nat} {cks1 : Nat} {ckc2 : Nat} {cks2 : Nat} {Q1 : Option Value → List xCl → Prop} {fr_0 : Value} {fr_1 : Int32} {fr_2 : Int32} (hdp : cd1 + 1 ≤ d) (hkc : ckc1 + ckc2 ≤ kc) (hks : cks1 + cks2 ≤ ks) (hr : M[x0]? = some (cO 2 [fr_0, .int fr_1, .int fr_2])) (kz : Xw l D ρ m_ArrayList_elementData 0 [(0, .ref x0), (1, .int x1)] [] M cd1 ckc1 cks1 Q1) (kk : ∀ r N, Q1 r N → Xw l D ρ m_ArrayList_get 14 [] (r.toList ++ []) N d ckc2 cks2 Q) : Xw l D ρ m_ArrayList_get 8 [(0, .ref x0), (1, .int x1)] [.int s0] M d kc ks Q := by
  refine x_pop d_ArrayList_get_8 rfl ?_
  refine x_aload_n d_ArrayList_get_9 rfl 0 rfl trivial ?_
  refine x_iload_n d_ArrayList_get_10 rfl 1 rfl ?_
  exact x_pick [] rfl (x_callV (As := [.int x1]) (st := []) (host := "") d_ArrayList_get_11 rfl mk_ArrayList_elementData mi_ArrayList_elementData mv_ArrayList_elementData (Or.inl kl_ArrayList_123) rfl (Nat.le_of_ble_eq_true rfl) (Nat.le_of_ble_eq_true rfl) ck_ArrayList hr hdp hkc hks rfl kz kk)
theorem b_ArrayList_get_14 {s0 : Value} (h_s0 : xrf s0) (hQ : Q (some (s0)) M)  : Xw l D ρ m_ArrayList_get 14 [] [s0] M d kc ks Q := by
  exact x_aret h_s0 d_ArrayList_get_14 rfl (Or.inl ⟨_, rfl⟩) hQ
theorem b_Objects_checkIndex_0 {x0 : Int32} {x1 : Int32} {cd1 : Nat} {ckc1 : Nat} {cks1 : Nat} {ckc2 : Nat} {cks2 : Nat} {Q1 : Option Value → List xCl → Prop} (hdp : cd1 + 1 ≤ d) (hkc : ckc1 + ckc2 ≤ kc) (hks : cks1 + cks2 ≤ ks) (kz : Xw l D ρ m_Preconditions_checkIndex 0 [(0, .int x0), (1, .int x1), (2, .null)] [] M cd1 ckc1 cks1 Q1) (kk : ∀ r N, Q1 r N → Xw l D ρ m_Objects_checkIndex 6 [] (r.toList ++ []) N d ckc2 cks2 Q) : Xw l D ρ m_Objects_checkIndex 0 [(0, .int x0), (1, .int x1)] [] M d kc ks Q := by
  refine x_iload_n d_Objects_checkIndex_0 rfl 0 rfl ?_
  refine x_iload_n d_Objects_checkIndex_1 rfl 1 rfl ?_
  refine x_null d_Objects_checkIndex_2 ?_
  exact x_pick [] rfl (x_callS (As := [.int x0, .int x1, .null]) (st := []) (host := "") d_Objects_checkIndex_3 rfl mk_Preconditions_checkIndex ms_Preconditions_checkIndex (Or.inl kl_Objects_105) rfl (Nat.le_of_ble_eq_true rfl) (Nat.le_of_ble_eq_true rfl) hdp hkc hks rfl kz kk)
theorem b_Objects_checkIndex_6 {s0 : Int32} (hQ : Q (some (.int s0)) M)  : Xw l D ρ m_Objects_checkIndex 6 [] [.int s0] M d kc ks Q := by
  exact x_iret d_Objects_checkIndex_6 rfl rfl hQ
theorem b_Preconditions_checkIndex_0 {x0 : Int32} {x1 : Int32} {x2 : Value}  (kt : x0 < 0 → Xw l D ρ m_Preconditions_checkIndex 9 [(0, .int x0), (1, .int x1), (2, x2)] [] M d kc ks Q) (kf : ¬ x0 < 0 → Xw l D ρ m_Preconditions_checkIndex 4 [(0, .int x0), (1, .int x1), (2, x2)] [] M d kc ks Q) : Xw l D ρ m_Preconditions_checkIndex 0 [(0, .int x0), (1, .int x1), (2, x2)] [] M d kc ks Q := by
  refine x_iload_n d_Preconditions_checkIndex_0 rfl 0 rfl ?_
  exact x_if_lt d_Preconditions_checkIndex_1 (tgt := 9) (by decide) (fun c => x_pick [0, 1, 2] rfl (kt c)) (fun c => x_pick [0, 1, 2] rfl (kf c))
theorem b_Preconditions_checkIndex_4 {x0 : Int32} {x1 : Int32} {x2 : Value}  (kt : x0 < x1 → Xw l D ρ m_Preconditions_checkIndex 16 [(0, .int x0)] [] M d kc ks Q) (kf : ¬ x0 < x1 → Xw l D ρ m_Preconditions_checkIndex 9 [(0, .int x0), (1, .int x1), (2, x2)] [] M d kc ks Q) : Xw l D ρ m_Preconditions_checkIndex 4 [(0, .int x0), (1, .int x1), (2, x2)] [] M d kc ks Q := by
  refine x_iload_n d_Preconditions_checkIndex_4 rfl 0 rfl ?_
  refine x_iload_n d_Preconditions_checkIndex_5 rfl 1 rfl ?_
  exact x_icmp_lt d_Preconditions_checkIndex_6 (tgt := 16) (by decide) (fun c => x_pick [0] rfl (kt c)) (fun c => x_pick [0, 1, 2] rfl (kf c))
theorem b_Preconditions_checkIndex_16 {x0 : Int32} (hQ : Q (some (.int x0)) M)  : Xw l D ρ m_Preconditions_checkIndex 16 [(0, .int x0)] [] M d kc ks Q := by
  refine x_iload_n d_Preconditions_checkIndex_16 rfl 0 rfl ?_
  exact x_iret d_Preconditions_checkIndex_17 rfl rfl hQ
theorem b_ArrayList_elementData_0 {x0 : Nat} {x1 : Int32} {f1_0 : Nat} {f1_1 : Int32} {f1_2 : Int32} {a5 : List (Option Nat)} {j5 : Nat} {o5 : Option Nat} (h1 : M[x0]? = some (cO 2 [.ref f1_0, .int f1_1, .int f1_2])) (h5 : M[f1_0]? = some (cR 3 a5)) (e5 : x1 = nI j5) (b5 : a5.length ≤ 100000000) (g5 : a5[j5]? = some o5) (hQ : Q (some (xrv o5)) M)  : Xw l D ρ m_ArrayList_elementData 0 [(0, .ref x0), (1, .int x1)] [] M d kc ks Q := by
  refine x_aload_n d_ArrayList_elementData_0 rfl 0 rfl trivial ?_
  refine x_getf (k := 0) d_ArrayList_elementData_1 ck_ArrayList fk_ArrayList_9 (by decide) h1 rfl ?_
  refine x_iload_n d_ArrayList_elementData_4 rfl 1 rfl ?_
  refine x_aald d_ArrayList_elementData_5 e5 h5 g5 b5 ?_
  exact x_aret (xrf_opt o5) d_ArrayList_elementData_6 rfl (Or.inl ⟨_, rfl⟩) hQ
theorem b_ArrayList_add_0 {x0 : Nat} {x1 : Value} {f2_0 : Value} {f2_1 : Int32} {f2_2 : Int32} {cd1 : Nat} {ckc1 : Nat} {cks1 : Nat} {ckc2 : Nat} {cks2 : Nat} {Q1 : Option Value → List xCl → Prop} (h_x1 : xrf x1) (h_f2_0 : xrf f2_0) (h2 : M[x0]? = some (cO 2 [f2_0, .int f2_1, .int f2_2])) (hdp : cd1 + 1 ≤ d) (hkc : ckc1 + ckc2 ≤ kc) (hks : cks1 + cks2 ≤ ks) (kz : Xw l D ρ m_ArrayList_add2 0 [(0, .ref x0), (1, x1), (2, f2_0), (3, .int f2_1)] [] (M.set x0 (cO 2 [f2_0, .int f2_1, .int (f2_2 + 1)])) cd1 ckc1 cks1 Q1) (kk : ∀ r N, Q1 r N → Xw l D ρ m_ArrayList_add 23 [] (r.toList ++ []) N d ckc2 cks2 Q) : Xw l D ρ m_ArrayList_add 0 [(0, .ref x0), (1, x1)] [] M d kc ks Q := by
  refine x_aload_n d_ArrayList_add_0 rfl 0 rfl trivial ?_
  refine x_dup d_ArrayList_add_1 rfl ?_
  refine x_getf (k := 2) d_ArrayList_add_2 ck_ArrayList fk_ArrayList_63 (by decide) h2 rfl ?_
  refine x_iconst (v := 1) d_ArrayList_add_5 (by decide) ?_
  refine x_iadd d_ArrayList_add_6 ?_
  refine x_putf (k := 2) (fs' := [f2_0, .int f2_1, .int (f2_2 + 1)]) d_ArrayList_add_7 ck_ArrayList fk_ArrayList_63 (by decide) (Or.inl rfl) rfl h2 (Nat.le_of_ble_eq_true rfl) rfl ?_
  refine x_aload_n d_ArrayList_add_10 rfl 0 rfl trivial ?_
  refine x_aload_n d_ArrayList_add_11 rfl 1 rfl h_x1 ?_
  refine x_aload_n d_ArrayList_add_12 rfl 0 rfl trivial ?_
  refine x_getf (k := 0) d_ArrayList_add_13 ck_ArrayList fk_ArrayList_9 (by decide) (xset_eq h2) rfl ?_
  refine x_aload_n d_ArrayList_add_16 rfl 0 rfl trivial ?_
  refine x_getf (k := 1) d_ArrayList_add_17 ck_ArrayList fk_ArrayList_48 (by decide) (xset_eq h2) rfl ?_
  exact x_pick [] rfl (x_callV (As := [x1, f2_0, .int f2_1]) (st := []) (host := "") d_ArrayList_add_20 rfl mk_ArrayList_add2 mi_ArrayList_add2 mv_ArrayList_add2 (Or.inl kl_ArrayList_131) rfl (by simp [lg_sl, m_ArrayList_add2, xcat_i, xcat_l, xcat_r, xcat_n, xcat_o, xrf_cat h_x1, xrf_cat h_f2_0]) (Nat.le_of_ble_eq_true rfl) ck_ArrayList (xset_eq h2) hdp hkc hks (by simp [lv_args, xcat_i, xcat_l, xcat_r, xcat_n, xcat_o, xrf_cat h_x1, xrf_cat h_f2_0]) kz kk)
theorem b_ArrayList_add_23  (hQ : Q (some (.int 1)) M)  : Xw l D ρ m_ArrayList_add 23 [] [] M d kc ks Q := by
  refine x_iconst (v := 1) d_ArrayList_add_23 (by decide) ?_
  exact x_iret d_ArrayList_add_24 rfl rfl hQ
theorem b_ArrayList_add2_0 {x0 : Value} {x1 : Value} {x2 : Nat} {x3 : Int32} {a2 : List (Option Nat)} (h2 : M[x2]? = some (cR 3 a2)) (kt : ¬ x3 = (nI a2.length) → Xw l D ρ m_ArrayList_add2 11 [(0, x0), (1, x1), (2, .ref x2), (3, .int x3)] [] M d kc ks Q) (kf : x3 = (nI a2.length) → Xw l D ρ m_ArrayList_add2 6 [(0, x0), (1, x1), (3, .int x3)] [] M d kc ks Q) : Xw l D ρ m_ArrayList_add2 0 [(0, x0), (1, x1), (2, .ref x2), (3, .int x3)] [] M d kc ks Q := by
  refine x_iload_n d_ArrayList_add2_0 rfl 3 rfl ?_
  refine x_aload_n d_ArrayList_add2_1 rfl 2 rfl trivial ?_
  refine x_alenR d_ArrayList_add2_2 h2 ?_
  exact x_icmp_ne d_ArrayList_add2_3 (tgt := 11) (by decide) (fun c => x_pick [0, 1, 2, 3] rfl (kt c)) (fun c => x_pick [0, 1, 3] rfl (kf c))
theorem b_ArrayList_add2_0_o {x0 : Value} {x1 : Value} {x3 : Int32}  (kt : ¬ x3 = 0 → Xw l D ρ m_ArrayList_add2 11 [(0, x0), (1, x1), (2, .retAddr 1), (3, .int x3)] [] M d kc ks Q) (kf : x3 = 0 → Xw l D ρ m_ArrayList_add2 6 [(0, x0), (1, x1), (3, .int x3)] [] M d kc ks Q) : Xw l D ρ m_ArrayList_add2 0 [(0, x0), (1, x1), (2, .retAddr 1), (3, .int x3)] [] M d kc ks Q := by
  refine x_iload_n d_ArrayList_add2_0 rfl 3 rfl ?_
  refine x_aload_n d_ArrayList_add2_1 rfl 2 rfl trivial ?_
  refine x_alenE d_ArrayList_add2_2 ?_
  exact x_icmp_ne d_ArrayList_add2_3 (tgt := 11) (by decide) (fun c => x_pick [0, 1, 2, 3] rfl (kt c)) (fun c => x_pick [0, 1, 3] rfl (kf c))
theorem b_ArrayList_add2_6 {x0 : Nat} {x1 : Value} {x3 : Int32} {cd1 : Nat} {ckc1 : Nat} {cks1 : Nat} {ckc2 : Nat} {cks2 : Nat} {Q1 : Option Value → List xCl → Prop} {fr_0 : Value} {fr_1 : Int32} {fr_2 : Int32} (hdp : cd1 + 1 ≤ d) (hkc : ckc1 + ckc2 ≤ kc) (hks : cks1 + cks2 ≤ ks) (hr : M[x0]? = some (cO 2 [fr_0, .int fr_1, .int fr_2])) (kz : Xw l D ρ m_ArrayList_grow 0 [(0, .ref x0)] [] M cd1 ckc1 cks1 Q1) (kk : ∀ r N, Q1 r N → Xw l D ρ m_ArrayList_add2 10 [(0, .ref x0), (1, x1), (3, .int x3)] (r.toList ++ []) N d ckc2 cks2 Q) : Xw l D ρ m_ArrayList_add2 6 [(0, .ref x0), (1, x1), (3, .int x3)] [] M d kc ks Q := by
  refine x_aload_n d_ArrayList_add2_6 rfl 0 rfl trivial ?_
  exact x_pick [0, 1, 2] rfl (x_callV (As := []) (st := []) (host := "") d_ArrayList_add2_7 rfl mk_ArrayList_grow mi_ArrayList_grow mv_ArrayList_grow (Or.inl kl_ArrayList_129) rfl (Nat.le_of_ble_eq_true rfl) (Nat.le_of_ble_eq_true rfl) ck_ArrayList hr hdp hkc hks rfl kz kk)
theorem b_ArrayList_add2_10 {x0 : Value} {x1 : Value} {x3 : Int32} {s0 : Value} (h_x1 : xrf x1) (h_s0 : xrf s0) (k : Xw l D ρ m_ArrayList_add2 11 [(0, x0), (1, x1), (2, s0), (3, .int x3)] [] M d kc ks Q) : Xw l D ρ m_ArrayList_add2 10 [(0, x0), (1, x1), (3, .int x3)] [s0] M d kc ks Q := by
  refine x_astore_n (i := 2) (L' := [(2, s0), (0, x0), (1, x1), (3, .int x3)]) d_ArrayList_add2_10 rfl (Nat.le_of_ble_eq_true rfl) h_s0 (by simp [xrf_cat h_x1]) ?_
  exact x_pick [1, 2, 0, 3] rfl k
theorem b_ArrayList_add2_11 {x0 : Nat} {x1 : Nat} {x2 : Nat} {x3 : Int32} {a14 : List (Option Nat)} {j14 : Nat} {ci14 : Nat} {N14 : Nat} {C14 : String} {T14 : u_T} {ty14 : Nat → FieldType} {fs14 : List Value} {f19_0 : Value} {f19_1 : Int32} {f19_2 : Int32} (h14 : M[x2]? = some (cR 3 a14)) (e14 : x3 = nI j14) (g14 : j14 < a14.length) (b14 : a14.length ≤ 100000000) (v14 : M[x1]? = some (cO ci14 fs14)) (ck14 : xCk ci14 C14 T14 N14 ty14) (z14 : C14 = xEl 3 ∨ Cond.castable C14 (xEl 3) ∈ Nw) (h19 : (M.set x2 (cR 3 (a14.set j14 (some x1))))[x0]? = some (cO 2 [f19_0, .int f19_1, .int f19_2])) (hQ : Q none ((M.set x2 (cR 3 (a14.set j14 (some x1)))).set x0 (cO 2 [f19_0, .int (x3 + 1), .int f19_2])))  : Xw l D ρ m_ArrayList_add2 11 [(0, .ref x0), (1, .ref x1), (2, .ref x2), (3, .int x3)] [] M d kc ks Q := by
  refine x_aload_n d_ArrayList_add2_11 rfl 2 rfl trivial ?_
  refine x_iload_n d_ArrayList_add2_12 rfl 3 rfl ?_
  refine x_aload_n d_ArrayList_add2_13 rfl 1 rfl trivial ?_
  refine x_aast d_ArrayList_add2_14 e14 h14 g14 b14 v14 ck14 z14 ?_
  refine x_aload_n d_ArrayList_add2_15 rfl 0 rfl trivial ?_
  refine x_iload_n d_ArrayList_add2_16 rfl 3 rfl ?_
  refine x_iconst (v := 1) d_ArrayList_add2_17 (by decide) ?_
  refine x_iadd d_ArrayList_add2_18 ?_
  refine x_putf (k := 1) (fs' := [f19_0, .int (x3 + 1), .int f19_2]) d_ArrayList_add2_19 ck_ArrayList fk_ArrayList_48 (by decide) (Or.inl rfl) rfl h19 (Nat.le_of_ble_eq_true rfl) rfl ?_
  exact x_vret d_ArrayList_add2_22 rfl hQ
theorem b_ArrayList_grow_0 {x0 : Nat} {f2_0 : Value} {f2_1 : Int32} {f2_2 : Int32} {cd1 : Nat} {ckc1 : Nat} {cks1 : Nat} {ckc2 : Nat} {cks2 : Nat} {Q1 : Option Value → List xCl → Prop} (h2 : M[x0]? = some (cO 2 [f2_0, .int f2_1, .int f2_2])) (hdp : cd1 + 1 ≤ d) (hkc : ckc1 + ckc2 ≤ kc) (hks : cks1 + cks2 ≤ ks) (kz : Xw l D ρ m_ArrayList_grow2 0 [(0, .ref x0), (1, .int (f2_1 + 1))] [] M cd1 ckc1 cks1 Q1) (kk : ∀ r N, Q1 r N → Xw l D ρ m_ArrayList_grow 10 [] (r.toList ++ []) N d ckc2 cks2 Q) : Xw l D ρ m_ArrayList_grow 0 [(0, .ref x0)] [] M d kc ks Q := by
  refine x_aload_n d_ArrayList_grow_0 rfl 0 rfl trivial ?_
  refine x_aload_n d_ArrayList_grow_1 rfl 0 rfl trivial ?_
  refine x_getf (k := 1) d_ArrayList_grow_2 ck_ArrayList fk_ArrayList_48 (by decide) h2 rfl ?_
  refine x_iconst (v := 1) d_ArrayList_grow_5 (by decide) ?_
  refine x_iadd d_ArrayList_grow_6 ?_
  exact x_pick [] rfl (x_callV (As := [.int (f2_1 + 1)]) (st := []) (host := "") d_ArrayList_grow_7 rfl mk_ArrayList_grow2 mi_ArrayList_grow2 mv_ArrayList_grow2 (Or.inl kl_ArrayList_69) rfl (Nat.le_of_ble_eq_true rfl) (Nat.le_of_ble_eq_true rfl) ck_ArrayList h2 hdp hkc hks rfl kz kk)
theorem b_ArrayList_grow_10 {s0 : Value} (h_s0 : xrf s0) (hQ : Q (some (s0)) M)  : Xw l D ρ m_ArrayList_grow 10 [] [s0] M d kc ks Q := by
  exact x_aret h_s0 d_ArrayList_grow_10 rfl (Or.inr ⟨_, rfl⟩) hQ
theorem b_ArrayList_grow2_0 {x0 : Nat} {x1 : Int32} {f1_0 : Nat} {f1_1 : Int32} {f1_2 : Int32} {a4 : List (Option Nat)} (h1 : M[x0]? = some (cO 2 [.ref f1_0, .int f1_1, .int f1_2])) (h4 : M[f1_0]? = some (cR 3 a4)) (kt : 0 < (nI a4.length) → Xw l D ρ m_ArrayList_grow2 20 [(0, .ref x0), (1, .int x1), (2, .int (nI a4.length))] [] M d kc ks Q) (kf : ¬ 0 < (nI a4.length) → Xw l D ρ m_ArrayList_grow2 10 [(0, .ref x0), (1, .int x1), (2, .int (nI a4.length))] [] M d kc ks Q) : Xw l D ρ m_ArrayList_grow2 0 [(0, .ref x0), (1, .int x1)] [] M d kc ks Q := by
  refine x_aload_n d_ArrayList_grow2_0 rfl 0 rfl trivial ?_
  refine x_getf (k := 0) d_ArrayList_grow2_1 ck_ArrayList fk_ArrayList_9 (by decide) h1 rfl ?_
  refine x_alenR d_ArrayList_grow2_4 h4 ?_
  refine x_istore_n (i := 2) (L' := [(2, .int (nI a4.length)), (0, .ref x0), (1, .int x1)]) d_ArrayList_grow2_5 rfl (Nat.le_of_ble_eq_true rfl) rfl ?_
  refine x_iload_n d_ArrayList_grow2_6 rfl 0 rfl ?_
  exact x_if_gt d_ArrayList_grow2_7 (tgt := 20) (by decide) (fun c => x_pick [1, 2, 0] rfl (kt c)) (fun c => x_pick [1, 2, 0] rfl (kf c))
theorem b_ArrayList_grow2_0_o {x0 : Nat} {x1 : Int32} {f1_1 : Int32} {f1_2 : Int32} (h1 : M[x0]? = some (cO 2 [.retAddr 1, .int f1_1, .int f1_2])) (kt : 0 < (0 : Int32) → Xw l D ρ m_ArrayList_grow2 20 [(0, .ref x0), (1, .int x1), (2, .int 0)] [] M d kc ks Q) (kf : ¬ 0 < (0 : Int32) → Xw l D ρ m_ArrayList_grow2 10 [(0, .ref x0), (1, .int x1), (2, .int 0)] [] M d kc ks Q) : Xw l D ρ m_ArrayList_grow2 0 [(0, .ref x0), (1, .int x1)] [] M d kc ks Q := by
  refine x_aload_n d_ArrayList_grow2_0 rfl 0 rfl trivial ?_
  refine x_getf (k := 0) d_ArrayList_grow2_1 ck_ArrayList fk_ArrayList_9 (by decide) h1 rfl ?_
  refine x_alenE d_ArrayList_grow2_4 ?_
  refine x_istore_n (i := 2) (L' := [(2, .int 0), (0, .ref x0), (1, .int x1)]) d_ArrayList_grow2_5 rfl (Nat.le_of_ble_eq_true rfl) rfl ?_
  refine x_iload_n d_ArrayList_grow2_6 rfl 0 rfl ?_
  exact x_if_gt d_ArrayList_grow2_7 (tgt := 20) (by decide) (fun c => x_pick [1, 2, 0] rfl (kt c)) (fun c => x_pick [1, 2, 0] rfl (kf c))
theorem b_ArrayList_grow2_10_o {x0 : Nat} {x1 : Int32} {x2 : Int32} {f11_1 : Int32} {f11_2 : Int32} (h11 : M[x0]? = some (cO 2 [.retAddr 1, .int f11_1, .int f11_2])) (k : Xw l D ρ m_ArrayList_grow2 45 [(0, .ref x0), (1, .int x1)] [] M d kc ks Q) : Xw l D ρ m_ArrayList_grow2 10 [(0, .ref x0), (1, .int x1), (2, .int x2)] [] M d kc ks Q := by
  refine x_aload_n d_ArrayList_grow2_10 rfl 0 rfl trivial ?_
  refine x_getf (k := 0) d_ArrayList_grow2_11 ck_ArrayList fk_ArrayList_9 (by decide) h11 rfl ?_
  refine x_gets d_ArrayList_grow2_14 ks_ArrayList_39 ?_
  exact x_acmpO_eq d_ArrayList_grow2_17 (tgt := 45) (by decide) (x_pick [0, 1] rfl k)
theorem b_ArrayList_grow2_20 {x0 : Value} {x1 : Int32} {x2 : Int32} {cd1 : Nat} {ckc1 : Nat} {cks1 : Nat} {ckc2 : Nat} {cks2 : Nat} {Q1 : Option Value → List xCl → Prop} (hdp : cd1 + 1 ≤ d) (hkc : ckc1 + ckc2 ≤ kc) (hks : cks1 + cks2 ≤ ks) (kz : Xw l D ρ m_ArraysSupport_newLength 0 [(0, .int x2), (1, .int (x1 - x2)), (2, .int (x2 >>> (1 &&& 31)))] [] M cd1 ckc1 cks1 Q1) (kk : ∀ r N, Q1 r N → Xw l D ρ m_ArrayList_grow2 30 [(0, x0)] (r.toList ++ []) N d ckc2 cks2 Q) : Xw l D ρ m_ArrayList_grow2 20 [(0, x0), (1, .int x1), (2, .int x2)] [] M d kc ks Q := by
  refine x_iload_n d_ArrayList_grow2_20 rfl 2 rfl ?_
  refine x_iload_n d_ArrayList_grow2_21 rfl 1 rfl ?_
  refine x_iload_n d_ArrayList_grow2_22 rfl 2 rfl ?_
  refine x_isub d_ArrayList_grow2_23 ?_
  refine x_iload_n d_ArrayList_grow2_24 rfl 2 rfl ?_
  refine x_iconst (v := 1) d_ArrayList_grow2_25 (by decide) ?_
  refine x_ishr d_ArrayList_grow2_26 ?_
  exact x_pick [0] rfl (x_callS (As := [.int x2, .int (x1 - x2), .int (x2 >>> (1 &&& 31))]) (st := []) (host := "") d_ArrayList_grow2_27 rfl mk_ArraysSupport_newLength ms_ArraysSupport_newLength (Or.inl kl_ArrayList_73) rfl (Nat.le_of_ble_eq_true rfl) (Nat.le_of_ble_eq_true rfl) hdp hkc hks rfl kz kk)
theorem b_ArrayList_grow2_30 {x0 : Nat} {s0 : Int32} {f33_0 : Value} {f33_1 : Int32} {f33_2 : Int32} {cd1 : Nat} {ckc1 : Nat} {cks1 : Nat} {ckc2 : Nat} {cks2 : Nat} {Q1 : Option Value → List xCl → Prop} (h_f33_0 : xrf f33_0) (h33 : M[x0]? = some (cO 2 [f33_0, .int f33_1, .int f33_2])) (hdp : cd1 + 1 ≤ d) (hkc : ckc1 + ckc2 ≤ kc) (hks : cks1 + cks2 ≤ ks) (kz : Xw l D ρ m_Arrays_copyOf 0 [(0, f33_0), (1, .int s0)] [] M cd1 ckc1 cks1 Q1) (kk : ∀ r N, Q1 r N → Xw l D ρ m_ArrayList_grow2 40 [] (r.toList ++ [.ref x0]) N d ckc2 cks2 Q) : Xw l D ρ m_ArrayList_grow2 30 [(0, .ref x0)] [.int s0] M d kc ks Q := by
  refine x_istore_n (i := 3) (L' := [(3, .int s0), (0, .ref x0)]) d_ArrayList_grow2_30 rfl (Nat.le_of_ble_eq_true rfl) rfl ?_
  refine x_aload_n d_ArrayList_grow2_31 rfl 1 rfl trivial ?_
  refine x_aload_n d_ArrayList_grow2_32 rfl 1 rfl trivial ?_
  refine x_getf (k := 0) d_ArrayList_grow2_33 ck_ArrayList fk_ArrayList_9 (by decide) h33 rfl ?_
  refine x_iload_n d_ArrayList_grow2_36 rfl 0 rfl ?_
  exact x_pick [] rfl (x_callS (As := [f33_0, .int s0]) (st := [.ref x0]) (host := "") d_ArrayList_grow2_37 rfl mk_Arrays_copyOf ms_Arrays_copyOf (Or.inl kl_ArrayList_66) rfl (by simp [lg_sl, m_Arrays_copyOf, xcat_i, xcat_l, xcat_r, xcat_n, xcat_o, xrf_cat h_f33_0]) (Nat.le_of_ble_eq_true rfl) hdp hkc hks (by simp [lv_args, xcat_i, xcat_l, xcat_r, xcat_n, xcat_o, xrf_cat h_f33_0]) kz kk)
theorem b_ArrayList_grow2_40 {s0 : Value} {s1 : Nat} {f41_0 : Value} {f41_1 : Int32} {f41_2 : Int32} (h_s0 : xrf s0) (h41 : M[s1]? = some (cO 2 [f41_0, .int f41_1, .int f41_2])) (hQ : Q (some (s0)) (M.set s1 (cO 2 [s0, .int f41_1, .int f41_2])))  : Xw l D ρ m_ArrayList_grow2 40 [] [s0, .ref s1] M d kc ks Q := by
  refine x_dup_x1 d_ArrayList_grow2_40 (xrf_cat h_s0) rfl ?_
  refine x_putf (k := 0) (fs' := [s0, .int f41_1, .int f41_2]) d_ArrayList_grow2_41 ck_ArrayList fk_ArrayList_9 (by decide) (Or.inl rfl) (xft_arr h_s0) h41 (Nat.le_of_ble_eq_true rfl) rfl ?_
  exact x_aret h_s0 d_ArrayList_grow2_44 rfl (Or.inr ⟨_, rfl⟩) hQ
theorem b_ArrayList_grow2_45 {x0 : Value} {x1 : Int32} {cd1 : Nat} {ckc1 : Nat} {cks1 : Nat} {ckc2 : Nat} {cks2 : Nat} {Q1 : Option Value → List xCl → Prop} (h_x0 : xrf x0) (hdp : cd1 + 1 ≤ d) (hkc : ckc1 + ckc2 ≤ kc) (hks : cks1 + cks2 ≤ ks) (kz : Xw l D ρ m_Math_max 0 [(0, .int 10), (1, .int x1)] [] M cd1 ckc1 cks1 Q1) (kk : ∀ r N, Q1 r N → Xw l D ρ m_ArrayList_grow2 52 [] (r.toList ++ [x0]) N d ckc2 cks2 Q) : Xw l D ρ m_ArrayList_grow2 45 [(0, x0), (1, .int x1)] [] M d kc ks Q := by
  refine x_aload_n d_ArrayList_grow2_45 rfl 0 rfl h_x0 ?_
  refine x_bipush (v := 10) d_ArrayList_grow2_46 (by decide) ?_
  refine x_iload_n d_ArrayList_grow2_48 rfl 1 rfl ?_
  exact x_pick [] rfl (x_callS (As := [.int 10, .int x1]) (st := [x0]) (host := "") d_ArrayList_grow2_49 rfl mk_Math_max ms_Math_max (Or.inl kl_ArrayList_79) rfl (Nat.le_of_ble_eq_true rfl) (by simp [xcat_i, xcat_l, xcat_r, xcat_n, xcat_o, xrf_cat h_x0]) hdp hkc hks rfl kz kk)
theorem b_ArrayList_grow2_52 {s0 : Int32} {s1 : Nat} {n52 : Nat} {kc1 : Nat} {ks1 : Nat} {f56_0 : Value} {f56_1 : Int32} {f56_2 : Int32} (e52 : s0 = nI n52) (g52 : n52 ≤ 100000000) (hk1 : kc1 + 1 ≤ kc) (hs1 : ks1 + n52 ≤ ks) (h56 : (M ++ [cR 3 (List.replicate n52 none)])[s1]? = some (cO 2 [f56_0, .int f56_1, .int f56_2])) (hQ : Q (some (.ref M.length)) ((M ++ [cR 3 (List.replicate n52 none)]).set s1 (cO 2 [.ref M.length, .int f56_1, .int f56_2])))  : Xw l D ρ m_ArrayList_grow2 52 [] [.int s0, .ref s1] M d kc ks Q := by
  refine x_newq (k := 3) d_ArrayList_grow2_52 kn_ArrayList_7 ka_3 e52 g52 hk1 hs1 ?_
  refine x_dup_x1 d_ArrayList_grow2_55 rfl rfl ?_
  refine x_putf (k := 0) (fs' := [.ref M.length, .int f56_1, .int f56_2]) d_ArrayList_grow2_56 ck_ArrayList fk_ArrayList_9 (by decide) (Or.inl rfl) rfl h56 (Nat.le_of_ble_eq_true rfl) rfl ?_
  exact x_aret trivial d_ArrayList_grow2_59 rfl (Or.inr ⟨_, rfl⟩) hQ
theorem b_ArraysSupport_newLength_0 {x0 : Int32} {x1 : Int32} {x2 : Int32} {cd1 : Nat} {ckc1 : Nat} {cks1 : Nat} {ckc2 : Nat} {cks2 : Nat} {Q1 : Option Value → List xCl → Prop} (hdp : cd1 + 1 ≤ d) (hkc : ckc1 + ckc2 ≤ kc) (hks : cks1 + cks2 ≤ ks) (kz : Xw l D ρ m_Math_max 0 [(0, .int x1), (1, .int x2)] [] M cd1 ckc1 cks1 Q1) (kk : ∀ r N, Q1 r N → Xw l D ρ m_ArraysSupport_newLength 6 [(0, .int x0), (1, .int x1)] (r.toList ++ [.int x0]) N d ckc2 cks2 Q) : Xw l D ρ m_ArraysSupport_newLength 0 [(0, .int x0), (1, .int x1), (2, .int x2)] [] M d kc ks Q := by
  refine x_iload_n d_ArraysSupport_newLength_0 rfl 0 rfl ?_
  refine x_iload_n d_ArraysSupport_newLength_1 rfl 1 rfl ?_
  refine x_iload_n d_ArraysSupport_newLength_2 rfl 2 rfl ?_
  exact x_pick [0, 1] rfl (x_callS (As := [.int x1, .int x2]) (st := [.int x0]) (host := "") d_ArraysSupport_newLength_3 rfl mk_Math_max ms_Math_max (Or.inl kl_ArraysSupport_194) rfl (Nat.le_of_ble_eq_true rfl) (Nat.le_of_ble_eq_true rfl) hdp hkc hks rfl kz kk)
theorem b_ArraysSupport_newLength_6 {x0 : Int32} {x1 : Int32} {s0 : Int32} {s1 : Int32}  (kt : (s1 + s0) ≤ (0 : Int32) → Xw l D ρ m_ArraysSupport_newLength 21 [(0, .int x0), (1, .int x1)] [] M d kc ks Q) (kf : ¬ (s1 + s0) ≤ (0 : Int32) → Xw l D ρ m_ArraysSupport_newLength 13 [(0, .int x0), (1, .int x1), (3, .int (s1 + s0))] [] M d kc ks Q) : Xw l D ρ m_ArraysSupport_newLength 6 [(0, .int x0), (1, .int x1)] [.int s0, .int s1] M d kc ks Q := by
  refine x_iadd d_ArraysSupport_newLength_6 ?_
  refine x_istore_n (i := 3) (L' := [(3, .int (s1 + s0)), (0, .int x0), (1, .int x1)]) d_ArraysSupport_newLength_7 rfl (Nat.le_of_ble_eq_true rfl) rfl ?_
  refine x_iconst (v := 0) d_ArraysSupport_newLength_8 (by decide) ?_
  refine x_iload_n d_ArraysSupport_newLength_9 rfl 0 rfl ?_
  exact x_icmp_ge d_ArraysSupport_newLength_10 (tgt := 21) (by decide) (fun c => x_pick [1, 2] rfl (kt c)) (fun c => x_pick [1, 2, 0] rfl (kf c))
theorem b_ArraysSupport_newLength_13 {x0 : Int32} {x1 : Int32} {x3 : Int32}  (kt : 2147483639 < x3 → Xw l D ρ m_ArraysSupport_newLength 21 [(0, .int x0), (1, .int x1)] [] M d kc ks Q) (kf : ¬ 2147483639 < x3 → Xw l D ρ m_ArraysSupport_newLength 19 [(3, .int x3)] [] M d kc ks Q) : Xw l D ρ m_ArraysSupport_newLength 13 [(0, .int x0), (1, .int x1), (3, .int x3)] [] M d kc ks Q := by
  refine x_iload_n d_ArraysSupport_newLength_13 rfl 2 rfl ?_
  refine x_ldc (v := 2147483639) kc_ArraysSupport_200 d_ArraysSupport_newLength_14 ?_
  exact x_icmp_gt d_ArraysSupport_newLength_16 (tgt := 21) (by decide) (fun c => x_pick [0, 1] rfl (kt c)) (fun c => x_pick [2] rfl (kf c))
theorem b_ArraysSupport_newLength_19 {x3 : Int32} (hQ : Q (some (.int x3)) M)  : Xw l D ρ m_ArraysSupport_newLength 19 [(3, .int x3)] [] M d kc ks Q := by
  refine x_iload_n d_ArraysSupport_newLength_19 rfl 0 rfl ?_
  exact x_iret d_ArraysSupport_newLength_20 rfl rfl hQ
theorem b_ArraysSupport_newLength_21 {x0 : Int32} {x1 : Int32} {cd1 : Nat} {ckc1 : Nat} {cks1 : Nat} {ckc2 : Nat} {cks2 : Nat} {Q1 : Option Value → List xCl → Prop} (hdp : cd1 + 1 ≤ d) (hkc : ckc1 + ckc2 ≤ kc) (hks : cks1 + cks2 ≤ ks) (kz : Xw l D ρ m_ArraysSupport_hugeLength 0 [(0, .int x0), (1, .int x1)] [] M cd1 ckc1 cks1 Q1) (kk : ∀ r N, Q1 r N → Xw l D ρ m_ArraysSupport_newLength 26 [] (r.toList ++ []) N d ckc2 cks2 Q) : Xw l D ρ m_ArraysSupport_newLength 21 [(0, .int x0), (1, .int x1)] [] M d kc ks Q := by
  refine x_iload_n d_ArraysSupport_newLength_21 rfl 0 rfl ?_
  refine x_iload_n d_ArraysSupport_newLength_22 rfl 1 rfl ?_
  exact x_pick [] rfl (x_callS (As := [.int x0, .int x1]) (st := []) (host := "") d_ArraysSupport_newLength_23 rfl mk_ArraysSupport_hugeLength ms_ArraysSupport_hugeLength (Or.inl kl_ArraysSupport_201) rfl (Nat.le_of_ble_eq_true rfl) (Nat.le_of_ble_eq_true rfl) hdp hkc hks rfl kz kk)
theorem b_ArraysSupport_newLength_26 {s0 : Int32} (hQ : Q (some (.int s0)) M)  : Xw l D ρ m_ArraysSupport_newLength 26 [] [.int s0] M d kc ks Q := by
  exact x_iret d_ArraysSupport_newLength_26 rfl rfl hQ
theorem b_ArraysSupport_hugeLength_0 {x0 : Int32} {x1 : Int32}  (kt : 0 ≤ (x0 + x1) → Xw l D ρ m_ArraysSupport_hugeLength 49 [(2, .int (x0 + x1))] [] M d kc ks Q) (kf : ¬ 0 ≤ (x0 + x1) → Xw l D ρ m_ArraysSupport_hugeLength 8 [(0, .int x0), (1, .int x1)] [] M d kc ks Q) : Xw l D ρ m_ArraysSupport_hugeLength 0 [(0, .int x0), (1, .int x1)] [] M d kc ks Q := by
  refine x_iload_n d_ArraysSupport_hugeLength_0 rfl 0 rfl ?_
  refine x_iload_n d_ArraysSupport_hugeLength_1 rfl 1 rfl ?_
  refine x_iadd d_ArraysSupport_hugeLength_2 ?_
  refine x_istore_n (i := 2) (L' := [(2, .int (x0 + x1)), (0, .int x0), (1, .int x1)]) d_ArraysSupport_hugeLength_3 rfl (Nat.le_of_ble_eq_true rfl) rfl ?_
  refine x_iload_n d_ArraysSupport_hugeLength_4 rfl 0 rfl ?_
  exact x_if_ge d_ArraysSupport_hugeLength_5 (tgt := 49) (by decide) (fun c => x_pick [0] rfl (kt c)) (fun c => x_pick [1, 2] rfl (kf c))
theorem b_ArraysSupport_hugeLength_49 {x2 : Int32}  (kt : 2147483639 < x2 → Xw l D ρ m_ArraysSupport_hugeLength 58 [(2, .int x2)] [] M d kc ks Q) (kf : ¬ 2147483639 < x2 → Xw l D ρ m_ArraysSupport_hugeLength 55 [] [] M d kc ks Q) : Xw l D ρ m_ArraysSupport_hugeLength 49 [(2, .int x2)] [] M d kc ks Q := by
  refine x_iload_n d_ArraysSupport_hugeLength_49 rfl 0 rfl ?_
  refine x_ldc (v := 2147483639) kc_ArraysSupport_200 d_ArraysSupport_hugeLength_50 ?_
  exact x_icmp_gt d_ArraysSupport_hugeLength_52 (tgt := 58) (by decide) (fun c => x_pick [0] rfl (kt c)) (fun c => x_pick [] rfl (kf c))
theorem b_ArraysSupport_hugeLength_55  (hQ : Q (some (.int 2147483639)) M)  : Xw l D ρ m_ArraysSupport_hugeLength 55 [] [] M d kc ks Q := by
  refine x_ldc (v := 2147483639) kc_ArraysSupport_200 d_ArraysSupport_hugeLength_55 ?_
  exact x_iret d_ArraysSupport_hugeLength_57 rfl rfl hQ
theorem b_ArraysSupport_hugeLength_58 {x2 : Int32} (hQ : Q (some (.int x2)) M)  : Xw l D ρ m_ArraysSupport_hugeLength 58 [(2, .int x2)] [] M d kc ks Q := by
  refine x_iload_n d_ArraysSupport_hugeLength_58 rfl 0 rfl ?_
  exact x_iret d_ArraysSupport_hugeLength_59 rfl rfl hQ
theorem b_Arrays_copyOf_0 {x0 : Nat} {x1 : Int32} {a3 : List (Option Nat)} {cd1 : Nat} {ckc1 : Nat} {cks1 : Nat} {ckc2 : Nat} {cks2 : Nat} {Q1 : Option Value → List xCl → Prop} (h3 : M[x0]? = some (cR 3 a3)) (hd1 : 1 ≤ d) (hdp : cd1 + 1 ≤ d) (hkc : ckc1 + ckc2 ≤ kc) (hks : cks1 + cks2 ≤ ks) (kz : Xw l D ρ m_Arrays_copyOf2 0 [(0, .ref x0), (1, .int x1), (2, .retAddr 2)] [] M cd1 ckc1 cks1 Q1) (kk : ∀ r N, Q1 r N → Xw l D ρ m_Arrays_copyOf 9 [] (r.toList ++ []) N d ckc2 cks2 Q) : Xw l D ρ m_Arrays_copyOf 0 [(0, .ref x0), (1, .int x1)] [] M d kc ks Q := by
  refine x_aload_n d_Arrays_copyOf_0 rfl 0 rfl trivial ?_
  refine x_iload_n d_Arrays_copyOf_1 rfl 1 rfl ?_
  refine x_aload_n d_Arrays_copyOf_2 rfl 0 rfl trivial ?_
  refine x_getC (y := m_Arrays_copyOf) (st := [.int x1, .ref x0]) d_Arrays_copyOf_3 kl_Arrays_86 kg_sel kg_im kg_nat rfl h3 (Nat.le_of_ble_eq_true rfl) hd1 ?_
  exact x_pick [] rfl (x_callS (As := [.ref x0, .int x1, .retAddr 2]) (st := []) (host := "") d_Arrays_copyOf_6 rfl mk_Arrays_copyOf2 ms_Arrays_copyOf2 (Or.inl kl_Arrays_300) rfl (Nat.le_of_ble_eq_true rfl) (Nat.le_of_ble_eq_true rfl) hdp hkc hks rfl kz kk)
theorem b_Arrays_copyOf_9 {s0 : Value} (h_s0 : xrf s0) (hQ : Q (some (s0)) M)  : Xw l D ρ m_Arrays_copyOf 9 [] [s0] M d kc ks Q := by
  exact x_aret h_s0 d_Arrays_copyOf_9 rfl (Or.inr ⟨_, rfl⟩) hQ
theorem b_Arrays_copyOf2_0 {x0 : Value} {x1 : Int32}  (k : Xw l D ρ m_Arrays_copyOf2 6 [(0, x0), (1, .int x1)] [] M d kc ks Q) : Xw l D ρ m_Arrays_copyOf2 0 [(0, x0), (1, .int x1), (2, .retAddr 2)] [] M d kc ks Q := by
  refine x_aload_n d_Arrays_copyOf2_0 rfl 2 rfl trivial ?_
  refine x_ldcM d_Arrays_copyOf2_1 kn_Arrays_110 ?_
  exact x_acmpO_ne d_Arrays_copyOf2_3 (tgt := 13) (by decide) (x_pick [0, 1] rfl k)
theorem b_Arrays_copyOf2_6 {x0 : Value} {x1 : Int32} {n7 : Nat} {kc1 : Nat} {ks1 : Nat} (e7 : x1 = nI n7) (g7 : n7 ≤ 100000000) (hk1 : kc1 + 1 ≤ kc) (hs1 : ks1 + n7 ≤ ks) (k : Xw l D ρ m_Arrays_copyOf2 24 [(0, x0), (1, .int x1)] [.ref M.length] (M ++ [cR 3 (List.replicate n7 none)]) d kc1 ks1 Q) : Xw l D ρ m_Arrays_copyOf2 6 [(0, x0), (1, .int x1)] [] M d kc ks Q := by
  refine x_iload_n d_Arrays_copyOf2_6 rfl 1 rfl ?_
  refine x_newq (k := 3) d_Arrays_copyOf2_7 kn_Arrays_2 ka_3 e7 g7 hk1 hs1 ?_
  exact x_goto d_Arrays_copyOf2_10 (tgt := 24) (by decide) (x_pick [0, 1] rfl k)
theorem b_Arrays_copyOf2_24 {x0 : Nat} {x1 : Int32} {s0 : Value} {a30 : List (Option Nat)} {cd1 : Nat} {ckc1 : Nat} {cks1 : Nat} {ckc2 : Nat} {cks2 : Nat} {Q1 : Option Value → List xCl → Prop} (h_s0 : xrf s0) (h30 : M[x0]? = some (cR 3 a30)) (hdp : cd1 + 1 ≤ d) (hkc : ckc1 + ckc2 ≤ kc) (hks : cks1 + cks2 ≤ ks) (kz : Xw l D ρ m_Math_min 0 [(0, .int (nI a30.length)), (1, .int x1)] [] M cd1 ckc1 cks1 Q1) (kk : ∀ r N, Q1 r N → Xw l D ρ m_Arrays_copyOf2 35 [(3, s0)] (r.toList ++ [.int 0, s0, .int 0, .ref x0]) N d ckc2 cks2 Q) : Xw l D ρ m_Arrays_copyOf2 24 [(0, .ref x0), (1, .int x1)] [s0] M d kc ks Q := by
  refine x_astore_n (i := 3) (L' := [(3, s0), (0, .ref x0), (1, .int x1)]) d_Arrays_copyOf2_24 rfl (Nat.le_of_ble_eq_true rfl) h_s0 rfl ?_
  refine x_aload_n d_Arrays_copyOf2_25 rfl 1 rfl trivial ?_
  refine x_iconst (v := 0) d_Arrays_copyOf2_26 (by decide) ?_
  refine x_aload_n d_Arrays_copyOf2_27 rfl 0 rfl h_s0 ?_
  refine x_iconst (v := 0) d_Arrays_copyOf2_28 (by decide) ?_
  refine x_aload_n d_Arrays_copyOf2_29 rfl 1 rfl trivial ?_
  refine x_alenR d_Arrays_copyOf2_30 h30 ?_
  refine x_iload_n d_Arrays_copyOf2_31 rfl 2 rfl ?_
  exact x_pick [0] rfl (x_callS (As := [.int (nI a30.length), .int x1]) (st := [.int 0, s0, .int 0, .ref x0]) (host := "") d_Arrays_copyOf2_32 rfl mk_Math_min ms_Math_min (Or.inl kl_Arrays_304) rfl (Nat.le_of_ble_eq_true rfl) (by simp [xcat_i, xcat_l, xcat_r, xcat_n, xcat_o, xrf_cat h_s0]) hdp hkc hks rfl kz kk)
theorem b_Arrays_copyOf2_35 {x3 : Value} {s0 : Int32} {s1 : Int32} {s2 : Nat} {s3 : Int32} {s4 : Nat} {a35 : List (Option Nat)} {a35d : List (Option Nat)} {p35 : Nat} {q35 : Nat} {n35 : Nat} (h_x3 : xrf x3) (h35 : M[s4]? = some (cR 3 a35)) (h35d : M[s2]? = some (cR 3 a35d)) (hd1 : 1 ≤ d) (ep35 : s3 = nI p35) (eq35 : s1 = nI q35) (en35 : s0 = nI n35) (la35 : p35 + n35 ≤ a35.length) (lb35 : q35 + n35 ≤ a35d.length) (lc35 : a35.length ≤ 100000000) (ld35 : a35d.length ≤ 100000000) (hl35 : ∀ k v, k < n35 → a35[p35 + k]? = some (some v) → ∃ ci C T N ty fs, M[v]? = some (cO ci fs) ∧ xCk ci C T N ty ∧ Cond.castable C (xEl 3) ∈ Nw) (hQ : Q (some (x3)) (M.set s2 (cR 3 (xcp a35 a35d p35 q35 n35))))  : Xw l D ρ m_Arrays_copyOf2 35 [(3, x3)] [.int s0, .int s1, .ref s2, .int s3, .ref s4] M d kc ks Q := by
  refine x_copy (y := m_Arrays_copyOf2) (st := []) d_Arrays_copyOf2_35 kl_Arrays_150 kg_cnat kg_cst kg_cin h35 h35d ep35 eq35 en35 la35 lb35 lc35 ld35 hl35 (Nat.le_of_ble_eq_true rfl) hd1 ?_
  refine x_aload_n d_Arrays_copyOf2_38 rfl 0 rfl h_x3 ?_
  exact x_aret h_x3 d_Arrays_copyOf2_39 rfl (Or.inr ⟨_, rfl⟩) hQ
theorem b_ArrayList_remove_0 {x0 : Nat} {x1 : Int32} {f2_0 : Value} {f2_1 : Int32} {f2_2 : Int32} {cd1 : Nat} {ckc1 : Nat} {cks1 : Nat} {ckc2 : Nat} {cks2 : Nat} {Q1 : Option Value → List xCl → Prop} (h2 : M[x0]? = some (cO 2 [f2_0, .int f2_1, .int f2_2])) (hdp : cd1 + 1 ≤ d) (hkc : ckc1 + ckc2 ≤ kc) (hks : cks1 + cks2 ≤ ks) (kz : Xw l D ρ m_Objects_checkIndex 0 [(0, .int x1), (1, .int f2_1)] [] M cd1 ckc1 cks1 Q1) (kk : ∀ r N, Q1 r N → Xw l D ρ m_ArrayList_remove 8 [(0, .ref x0), (1, .int x1)] (r.toList ++ []) N d ckc2 cks2 Q) : Xw l D ρ m_ArrayList_remove 0 [(0, .ref x0), (1, .int x1)] [] M d kc ks Q := by
  refine x_iload_n d_ArrayList_remove_0 rfl 1 rfl ?_
  refine x_aload_n d_ArrayList_remove_1 rfl 0 rfl trivial ?_
  refine x_getf (k := 1) d_ArrayList_remove_2 ck_ArrayList fk_ArrayList_48 (by decide) h2 rfl ?_
  exact x_pick [0, 1] rfl (x_callS (As := [.int x1, .int f2_1]) (st := []) (host := "") d_ArrayList_remove_5 rfl mk_Objects_checkIndex ms_Objects_checkIndex (Or.inl kl_ArrayList_118) rfl (Nat.le_of_ble_eq_true rfl) (Nat.le_of_ble_eq_true rfl) hdp hkc hks rfl kz kk)
theorem b_ArrayList_remove_8 {x0 : Nat} {x1 : Int32} {s0 : Int32} {f10_0 : Nat} {f10_1 : Int32} {f10_2 : Int32} {a16 : List (Option Nat)} {j16 : Nat} {o16 : Option Nat} {cd1 : Nat} {ckc1 : Nat} {cks1 : Nat} {ckc2 : Nat} {cks2 : Nat} {Q1 : Option Value → List xCl → Prop} (h10 : M[x0]? = some (cO 2 [.ref f10_0, .int f10_1, .int f10_2])) (h16 : M[f10_0]? = some (cR 3 a16)) (e16 : x1 = nI j16) (b16 : a16.length ≤ 100000000) (g16 : a16[j16]? = some o16) (hdp : cd1 + 1 ≤ d) (hkc : ckc1 + ckc2 ≤ kc) (hks : cks1 + cks2 ≤ ks) (kz : Xw l D ρ m_ArrayList_fastRemove 0 [(0, .ref x0), (1, .ref f10_0), (2, .int x1)] [] M cd1 ckc1 cks1 Q1) (kk : ∀ r N, Q1 r N → Xw l D ρ m_ArrayList_remove 24 [(3, xrv o16)] (r.toList ++ []) N d ckc2 cks2 Q) : Xw l D ρ m_ArrayList_remove 8 [(0, .ref x0), (1, .int x1)] [.int s0] M d kc ks Q := by
  refine x_pop d_ArrayList_remove_8 rfl ?_
  refine x_aload_n d_ArrayList_remove_9 rfl 0 rfl trivial ?_
  refine x_getf (k := 0) d_ArrayList_remove_10 ck_ArrayList fk_ArrayList_9 (by decide) h10 rfl ?_
  refine x_astore_n (i := 2) (L' := [(2, .ref f10_0), (0, .ref x0), (1, .int x1)]) d_ArrayList_remove_13 rfl (Nat.le_of_ble_eq_true rfl) trivial rfl ?_
  refine x_aload_n d_ArrayList_remove_14 rfl 0 rfl trivial ?_
  refine x_iload_n d_ArrayList_remove_15 rfl 2 rfl ?_
  refine x_aald d_ArrayList_remove_16 e16 h16 g16 b16 ?_
  refine x_astore_n (i := 3) (L' := [(3, xrv o16), (2, .ref f10_0), (0, .ref x0), (1, .int x1)]) d_ArrayList_remove_17 rfl (Nat.le_of_ble_eq_true rfl) (xrf_opt o16) rfl ?_
  refine x_aload_n d_ArrayList_remove_18 rfl 2 rfl trivial ?_
  refine x_aload_n d_ArrayList_remove_19 rfl 1 rfl trivial ?_
  refine x_iload_n d_ArrayList_remove_20 rfl 3 rfl ?_
  exact x_pick [0] rfl (x_callV (As := [.ref f10_0, .int x1]) (st := []) (host := "") d_ArrayList_remove_21 rfl mk_ArrayList_fastRemove mi_ArrayList_fastRemove mv_ArrayList_fastRemove (Or.inl kl_ArrayList_144) rfl (Nat.le_of_ble_eq_true rfl) (Nat.le_of_ble_eq_true rfl) ck_ArrayList h10 hdp hkc hks rfl kz kk)
theorem b_ArrayList_remove_24 {x3 : Value} (h_x3 : xrf x3) (hQ : Q (some (x3)) M)  : Xw l D ρ m_ArrayList_remove 24 [(3, x3)] [] M d kc ks Q := by
  refine x_aload_n d_ArrayList_remove_24 rfl 0 rfl h_x3 ?_
  exact x_aret h_x3 d_ArrayList_remove_25 rfl (Or.inl ⟨_, rfl⟩) hQ
theorem b_ArrayList_fastRemove_0 {x0 : Nat} {x1 : Value} {x2 : Int32} {f2_0 : Value} {f2_1 : Int32} {f2_2 : Int32} (h2 : M[x0]? = some (cO 2 [f2_0, .int f2_1, .int f2_2])) (kt : (f2_1 - 1) ≤ x2 → Xw l D ρ m_ArrayList_fastRemove 34 [(0, .ref x0), (1, x1), (3, .int (f2_1 - 1))] [] (M.set x0 (cO 2 [f2_0, .int f2_1, .int (f2_2 + 1)])) d kc ks Q) (kf : ¬ (f2_1 - 1) ≤ x2 → Xw l D ρ m_ArrayList_fastRemove 22 [(0, .ref x0), (1, x1), (2, .int x2), (3, .int (f2_1 - 1))] [] (M.set x0 (cO 2 [f2_0, .int f2_1, .int (f2_2 + 1)])) d kc ks Q) : Xw l D ρ m_ArrayList_fastRemove 0 [(0, .ref x0), (1, x1), (2, .int x2)] [] M d kc ks Q := by
  refine x_aload_n d_ArrayList_fastRemove_0 rfl 0 rfl trivial ?_
  refine x_dup d_ArrayList_fastRemove_1 rfl ?_
  refine x_getf (k := 2) d_ArrayList_fastRemove_2 ck_ArrayList fk_ArrayList_63 (by decide) h2 rfl ?_
  refine x_iconst (v := 1) d_ArrayList_fastRemove_5 (by decide) ?_
  refine x_iadd d_ArrayList_fastRemove_6 ?_
  refine x_putf (k := 2) (fs' := [f2_0, .int f2_1, .int (f2_2 + 1)]) d_ArrayList_fastRemove_7 ck_ArrayList fk_ArrayList_63 (by decide) (Or.inl rfl) rfl h2 (Nat.le_of_ble_eq_true rfl) rfl ?_
  refine x_aload_n d_ArrayList_fastRemove_10 rfl 0 rfl trivial ?_
  refine x_getf (k := 1) d_ArrayList_fastRemove_11 ck_ArrayList fk_ArrayList_48 (by decide) (xset_eq h2) rfl ?_
  refine x_iconst (v := 1) d_ArrayList_fastRemove_14 (by decide) ?_
  refine x_isub d_ArrayList_fastRemove_15 ?_
  refine x_dup d_ArrayList_fastRemove_16 rfl ?_
  refine x_istore_n (i := 3) (L' := [(3, .int (f2_1 - 1)), (0, .ref x0), (1, x1), (2, .int x2)]) d_ArrayList_fastRemove_17 rfl (Nat.le_of_ble_eq_true rfl) rfl ?_
  refine x_iload_n d_ArrayList_fastRemove_18 rfl 3 rfl ?_
  exact x_icmp_le d_ArrayList_fastRemove_19 (tgt := 34) (by decide) (fun c => x_pick [1, 2, 0] rfl (kt c)) (fun c => x_pick [1, 2, 3, 0] rfl (kf c))
theorem b_ArrayList_fastRemove_22 {x0 : Value} {x1 : Nat} {x2 : Int32} {x3 : Int32} {a31 : List (Option Nat)} {p31 : Nat} {q31 : Nat} {n31 : Nat} (h31 : M[x1]? = some (cR 3 a31)) (hd1 : 1 ≤ d) (ep31 : x2 + 1 = nI p31) (eq31 : x2 = nI q31) (en31 : x3 - x2 = nI n31) (la31 : p31 + n31 ≤ a31.length) (lb31 : q31 + n31 ≤ a31.length) (lc31 : a31.length ≤ 100000000) (ld31 : a31.length ≤ 100000000) (hl31 : ∀ k v, k < n31 → a31[p31 + k]? = some (some v) → ∃ ci C T N ty fs, M[v]? = some (cO ci fs) ∧ xCk ci C T N ty ∧ Cond.castable C (xEl 3) ∈ Nw) (k : Xw l D ρ m_ArrayList_fastRemove 34 [(0, x0), (1, .ref x1), (3, .int x3)] [] (M.set x1 (cR 3 (xcp a31 a31 p31 q31 n31))) d kc ks Q) : Xw l D ρ m_ArrayList_fastRemove 22 [(0, x0), (1, .ref x1), (2, .int x2), (3, .int x3)] [] M d kc ks Q := by
  refine x_aload_n d_ArrayList_fastRemove_22 rfl 1 rfl trivial ?_
  refine x_iload_n d_ArrayList_fastRemove_23 rfl 2 rfl ?_
  refine x_iconst (v := 1) d_ArrayList_fastRemove_24 (by decide) ?_
  refine x_iadd d_ArrayList_fastRemove_25 ?_
  refine x_aload_n d_ArrayList_fastRemove_26 rfl 1 rfl trivial ?_
  refine x_iload_n d_ArrayList_fastRemove_27 rfl 2 rfl ?_
  refine x_iload_n d_ArrayList_fastRemove_28 rfl 3 rfl ?_
  refine x_iload_n d_ArrayList_fastRemove_29 rfl 2 rfl ?_
  refine x_isub d_ArrayList_fastRemove_30 ?_
  refine x_copy (y := m_ArrayList_fastRemove) (st := []) d_ArrayList_fastRemove_31 kl_ArrayList_112 kg_cnat kg_cst kg_cin h31 h31 ep31 eq31 en31 la31 lb31 lc31 ld31 hl31 (Nat.le_of_ble_eq_true rfl) hd1 ?_
  exact x_pick [0, 1, 3] rfl k
theorem b_ArrayList_fastRemove_34 {x0 : Nat} {x1 : Nat} {x3 : Int32} {f38_0 : Value} {f38_1 : Int32} {f38_2 : Int32} {a42 : List (Option Nat)} {j42 : Nat} (h38 : M[x0]? = some (cO 2 [f38_0, .int f38_1, .int f38_2])) (h42 : (M.set x0 (cO 2 [f38_0, .int x3, .int f38_2]))[x1]? = some (cR 3 a42)) (e42 : x3 = nI j42) (g42 : j42 < a42.length) (b42 : a42.length ≤ 100000000) (hQ : Q none ((M.set x0 (cO 2 [f38_0, .int x3, .int f38_2])).set x1 (cR 3 (a42.set j42 none))))  : Xw l D ρ m_ArrayList_fastRemove 34 [(0, .ref x0), (1, .ref x1), (3, .int x3)] [] M d kc ks Q := by
  refine x_aload_n d_ArrayList_fastRemove_34 rfl 1 rfl trivial ?_
  refine x_aload_n d_ArrayList_fastRemove_35 rfl 0 rfl trivial ?_
  refine x_iload_n d_ArrayList_fastRemove_36 rfl 2 rfl ?_
  refine x_dup_x1 d_ArrayList_fastRemove_37 rfl rfl ?_
  refine x_putf (k := 1) (fs' := [f38_0, .int x3, .int f38_2]) d_ArrayList_fastRemove_38 ck_ArrayList fk_ArrayList_48 (by decide) (Or.inl rfl) rfl h38 (Nat.le_of_ble_eq_true rfl) rfl ?_
  refine x_null d_ArrayList_fastRemove_41 ?_
  refine x_aastN d_ArrayList_fastRemove_42 e42 h42 g42 b42 ?_
  exact x_vret d_ArrayList_fastRemove_43 rfl hQ
end XB
