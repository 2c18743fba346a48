section XB
variable {l : Launch} {D : va_G} {ρ : xR} {M : List xCl} {d kc ks : Nat} {Q : Option Value → List xCl → Prop}
theorem b_Blob_hasRightCopy_22   (k : Xw l D ρ m_Blob_hasRightCopy 27 [] [.int 1] M d kc ks Q) : Xw l D ρ m_Blob_hasRightCopy 22 [] [] M d kc ks Q := by
  refine x_iconst (v := 1) d_Blob_hasRightCopy_22 (by decide) ?_
  exact x_goto d_Blob_hasRightCopy_23 (tgt := 27) (by decide) (x_pick [] rfl k)
theorem b_Blob_hasRightCopy_26   (k : Xw l D ρ m_Blob_hasRightCopy 27 [] [.int 0] M d kc ks Q) : Xw l D ρ m_Blob_hasRightCopy 26 [] [] M d kc ks Q := by
  refine x_iconst (v := 0) d_Blob_hasRightCopy_26 (by decide) ?_
  exact x_pick [] rfl k
theorem b_Blob_hasRightCopy_27 {s0 : Int32} (hQ : Q (some (.int s0)) M) (hn : narrow .boolean (.int s0) = .int s0)  : Xw l D ρ m_Blob_hasRightCopy 27 [] [.int s0] M d kc ks Q := by
  exact x_iret d_Blob_hasRightCopy_27 rfl hn hQ
theorem b_Shelf_leave_0 {x0 : Value} {x1 : Value} (h_x1 : xrf x1) (k : Xw l D ρ m_Shelf_leave 2 [(0, x0), (1, x1), (2, .int 0)] [] M d kc ks Q) : Xw l D ρ m_Shelf_leave 0 [(0, x0), (1, x1)] [] M d kc ks Q := by
  refine x_iconst (v := 0) d_Shelf_leave_0 (by decide) ?_
  refine x_istore_n (i := 2) (L' := [(2, .int 0), (0, x0), (1, x1)]) d_Shelf_leave_1 rfl (Nat.le_of_ble_eq_true rfl) (by simp [xrf_cat h_x1]) ?_
  exact x_pick [1, 2, 0] rfl k
theorem b_Shelf_leave_2 {x0 : Value} {x1 : Nat} {x2 : Int32} {a4 : List (Option Nat)} (h4 : M[x1]? = some (cR 2 a4)) (kt : (nI a4.length) ≤ x2 → Xw l D ρ m_Shelf_leave 40 [] [] M d kc ks Q) (kf : ¬ (nI a4.length) ≤ x2 → Xw l D ρ m_Shelf_leave 8 [(0, x0), (1, .ref x1), (2, .int x2)] [] M d kc ks Q) : Xw l D ρ m_Shelf_leave 2 [(0, x0), (1, .ref x1), (2, .int x2)] [] M d kc ks Q := by
  refine x_iload_n d_Shelf_leave_2 rfl 2 rfl ?_
  refine x_aload_n d_Shelf_leave_3 rfl 1 rfl trivial ?_
  refine x_alenR d_Shelf_leave_4 h4 ?_
  exact x_icmp_ge d_Shelf_leave_5 (tgt := 40) (by decide) (fun c => x_pick [] rfl (kt c)) (fun c => x_pick [0, 1, 2] rfl (kf c))
theorem b_Shelf_leave_8 {x0 : Value} {x1 : Nat} {x2 : Int32} {a10 : List (Option Nat)} {j10 : Nat} {o10 : Nat} {f14_0 : Value} {f14_1 : Int32} (h10 : M[x1]? = some (cR 2 a10)) (e10 : x2 = nI j10) (b10 : a10.length ≤ 100000000) (g10 : a10[j10]? = some (some o10)) (h14 : M[o10]? = some (cO 5 [f14_0, .int f14_1])) (kt : ¬ (f14_1 - 1) = 0 → Xw l D ρ m_Shelf_leave 34 [(0, x0), (1, .ref x1), (2, .int x2)] [] (M.set o10 (cO 5 [f14_0, .int (f14_1 - 1)])) d kc ks Q) (kf : (f14_1 - 1) = 0 → Xw l D ρ m_Shelf_leave 29 [(0, x0), (1, .ref x1), (2, .int x2), (3, .ref o10)] [] (M.set o10 (cO 5 [f14_0, .int (f14_1 - 1)])) d kc ks Q) : Xw l D ρ m_Shelf_leave 8 [(0, x0), (1, .ref x1), (2, .int x2)] [] M d kc ks Q := by
  refine x_aload_n d_Shelf_leave_8 rfl 1 rfl trivial ?_
  refine x_iload_n d_Shelf_leave_9 rfl 2 rfl ?_
  refine x_aald d_Shelf_leave_10 e10 h10 g10 b10 ?_
  refine x_astore_n (i := 3) (L' := [(3, .ref o10), (0, x0), (1, .ref x1), (2, .int x2)]) d_Shelf_leave_11 rfl (Nat.le_of_ble_eq_true rfl) trivial rfl ?_
  refine x_aload_n d_Shelf_leave_12 rfl 0 rfl trivial ?_
  refine x_dup d_Shelf_leave_13 rfl ?_
  refine x_getf (k := 1) d_Shelf_leave_14 ck_Part fk_Shelf_50 (by decide) h14 rfl ?_
  refine x_iconst (v := 1) d_Shelf_leave_17 (by decide) ?_
  refine x_isub d_Shelf_leave_18 ?_
  refine x_putf (k := 1) (fs' := [f14_0, .int (f14_1 - 1)]) d_Shelf_leave_19 ck_Part fk_Shelf_50 (by decide) (Or.inl rfl) rfl h14 (Nat.le_of_ble_eq_true rfl) rfl ?_
  refine x_aload_n d_Shelf_leave_22 rfl 0 rfl trivial ?_
  refine x_getf (k := 1) d_Shelf_leave_23 ck_Part fk_Shelf_50 (by decide) (xset_eq h14) rfl ?_
  exact x_if_ne d_Shelf_leave_26 (tgt := 34) (by decide) (fun c => x_pick [1, 2, 3] rfl (kt c)) (fun c => x_pick [1, 2, 3, 0] rfl (kf c))
theorem b_Shelf_leave_29 {x0 : Nat} {x1 : Value} {x2 : Int32} {x3 : Value} {cd1 : Nat} {ckc1 : Nat} {cks1 : Nat} {ckc2 : Nat} {cks2 : Nat} {Q1 : Option Value → List xCl → Prop} {fr_0 : Int32} {fr_1 : Value} {fr_2 : Int32} (h_x3 : xrf x3) (hdp : cd1 + 1 ≤ d) (hkc : ckc1 + ckc2 ≤ kc) (hks : cks1 + cks2 ≤ ks) (hr : M[x0]? = some (cO 1 [.int fr_0, fr_1, .int fr_2])) (kz : Xw l D ρ m_Shelf_drop 0 [(0, .ref x0), (1, x3)] [] M cd1 ckc1 cks1 Q1) (kk : ∀ r N, Q1 r N → Xw l D ρ m_Shelf_leave 34 [(0, .ref x0), (1, x1), (2, .int x2)] (r.toList ++ []) N d ckc2 cks2 Q) : Xw l D ρ m_Shelf_leave 29 [(0, .ref x0), (1, x1), (2, .int x2), (3, x3)] [] M d kc ks Q := by
  refine x_aload_n d_Shelf_leave_29 rfl 0 rfl trivial ?_
  refine x_aload_n d_Shelf_leave_30 rfl 3 rfl h_x3 ?_
  exact x_pick [0, 1, 2] rfl (x_callV (As := [x3]) (st := []) (host := "") d_Shelf_leave_31 rfl mk_Shelf_drop mi_Shelf_drop mv_Shelf_drop (Or.inl kl_Shelf_53) rfl (by simp [lg_sl, m_Shelf_drop, xcat_i, xcat_l, xcat_r, xcat_n, xcat_o, xrf_cat h_x3]) (Nat.le_of_ble_eq_true rfl) ck_Shelf hr hdp hkc hks (by simp [lv_args, xcat_i, xcat_l, xcat_r, xcat_n, xcat_o, xrf_cat h_x3]) kz kk)
theorem b_Shelf_leave_34 {x0 : Value} {x1 : Value} {x2 : Int32} (h_x1 : xrf x1) (k : Xw l D ρ m_Shelf_leave 2 [(0, x0), (1, x1), (2, .int (x2 + 1))] [] M d kc ks Q) : Xw l D ρ m_Shelf_leave 34 [(0, x0), (1, x1), (2, .int x2)] [] M d kc ks Q := by
  refine x_iinc (v := x2 + 1) (L' := [(2, .int (x2 + 1)), (0, x0), (1, x1)]) d_Shelf_leave_34 2 rfl (by rfl) (Nat.le_of_ble_eq_true rfl) (by simp [xrf_cat h_x1]) ?_
  exact x_goto d_Shelf_leave_37 (tgt := 2) (by decide) (x_pick [1, 2, 0] rfl k)
theorem b_Shelf_leave_40  (hQ : Q none M)  : Xw l D ρ m_Shelf_leave 40 [] [] M d kc ks Q := by
  exact x_vret d_Shelf_leave_40 rfl hQ
theorem b_Shelf_drop_0 {x0 : Value} {x1 : Value} (h_x1 : xrf x1) (k : Xw l D ρ m_Shelf_drop 2 [(0, x0), (1, x1), (2, .int 0)] [] M d kc ks Q) : Xw l D ρ m_Shelf_drop 0 [(0, x0), (1, x1)] [] M d kc ks Q := by
  refine x_iconst (v := 0) d_Shelf_drop_0 (by decide) ?_
  refine x_istore_n (i := 2) (L' := [(2, .int 0), (0, x0), (1, x1)]) d_Shelf_drop_1 rfl (Nat.le_of_ble_eq_true rfl) (by simp [xrf_cat h_x1]) ?_
  exact x_pick [1, 2, 0] rfl k
theorem b_Shelf_drop_2 {x0 : Nat} {x1 : Value} {x2 : Int32} {f4_0 : Int32} {f4_1 : Nat} {f4_2 : Int32} {cd1 : Nat} {ckc1 : Nat} {cks1 : Nat} {ckc2 : Nat} {cks2 : Nat} {Q1 : Option Value → List xCl → Prop} {fr_0 : Value} {fr_1 : Int32} {fr_2 : Int32} (h4 : M[x0]? = some (cO 1 [.int f4_0, .ref f4_1, .int f4_2])) (hdp : cd1 + 1 ≤ d) (hkc : ckc1 + ckc2 ≤ kc) (hks : cks1 + cks2 ≤ ks) (hr : M[f4_1]? = some (cO 2 [fr_0, .int fr_1, .int fr_2])) (kz : Xw l D ρ m_ArrayList_size 0 [(0, .ref f4_1)] [] M cd1 ckc1 cks1 Q1) (kk : ∀ r N, Q1 r N → Xw l D ρ m_Shelf_drop 10 [(0, .ref x0), (1, x1), (2, .int x2)] (r.toList ++ [.int x2]) N d ckc2 cks2 Q) : Xw l D ρ m_Shelf_drop 2 [(0, .ref x0), (1, x1), (2, .int x2)] [] M d kc ks Q := by
  refine x_iload_n d_Shelf_drop_2 rfl 2 rfl ?_
  refine x_aload_n d_Shelf_drop_3 rfl 0 rfl trivial ?_
  refine x_getf (k := 1) d_Shelf_drop_4 ck_Shelf fk_Shelf_18 (by decide) h4 rfl ?_
  exact x_pick [0, 1, 2] rfl (x_callV (As := []) (st := [.int x2]) (host := "") d_Shelf_drop_7 rfl mk_ArrayList_size mi_ArrayList_size mv_ArrayList_size (Or.inl kl_Shelf_64) rfl (Nat.le_of_ble_eq_true rfl) (Nat.le_of_ble_eq_true rfl) ck_ArrayList hr hdp hkc hks rfl kz kk)
theorem b_Shelf_drop_10 {x0 : Value} {x1 : Value} {x2 : Int32} {s0 : Int32} {s1 : Int32}  (kt : s0 ≤ s1 → Xw l D ρ m_Shelf_drop 55 [] [] M d kc ks Q) (kf : ¬ s0 ≤ s1 → Xw l D ρ m_Shelf_drop 13 [(0, x0), (1, x1), (2, .int x2)] [] M d kc ks Q) : Xw l D ρ m_Shelf_drop 10 [(0, x0), (1, x1), (2, .int x2)] [.int s0, .int s1] M d kc ks Q := by
  exact x_icmp_ge d_Shelf_drop_10 (tgt := 55) (by decide) (fun c => x_pick [] rfl (kt c)) (fun c => x_pick [0, 1, 2] rfl (kf c))
theorem b_Shelf_drop_13 {x0 : Nat} {x1 : Value} {x2 : Int32} {f14_0 : Int32} {f14_1 : Nat} {f14_2 : Int32} {cd1 : Nat} {ckc1 : Nat} {cks1 : Nat} {ckc2 : Nat} {cks2 : Nat} {Q1 : Option Value → List xCl → Prop} {fr_0 : Value} {fr_1 : Int32} {fr_2 : Int32} (h14 : M[x0]? = some (cO 1 [.int f14_0, .ref f14_1, .int f14_2])) (hdp : cd1 + 1 ≤ d) (hkc : ckc1 + ckc2 ≤ kc) (hks : cks1 + cks2 ≤ ks) (hr : M[f14_1]? = some (cO 2 [fr_0, .int fr_1, .int fr_2])) (kz : Xw l D ρ m_ArrayList_get 0 [(0, .ref f14_1), (1, .int x2)] [] M cd1 ckc1 cks1 Q1) (kk : ∀ r N, Q1 r N → Xw l D ρ m_Shelf_drop 21 [(0, .ref x0), (1, x1), (2, .int x2)] (r.toList ++ []) N d ckc2 cks2 Q) : Xw l D ρ m_Shelf_drop 13 [(0, .ref x0), (1, x1), (2, .int x2)] [] M d kc ks Q := by
  refine x_aload_n d_Shelf_drop_13 rfl 0 rfl trivial ?_
  refine x_getf (k := 1) d_Shelf_drop_14 ck_Shelf fk_Shelf_18 (by decide) h14 rfl ?_
  refine x_iload_n d_Shelf_drop_17 rfl 2 rfl ?_
  exact x_pick [0, 1, 2] rfl (x_callV (As := [.int x2]) (st := []) (host := "") d_Shelf_drop_18 rfl mk_ArrayList_get mi_ArrayList_get mv_ArrayList_get (Or.inl kl_Shelf_68) rfl (Nat.le_of_ble_eq_true rfl) (Nat.le_of_ble_eq_true rfl) ck_ArrayList hr hdp hkc hks rfl kz kk)
theorem b_Shelf_drop_21 {x0 : Value} {x1 : Nat} {x2 : Int32} {s0 : Nat}  (kt : ¬ s0 = x1 → Xw l D ρ m_Shelf_drop 49 [(0, x0), (1, .ref x1), (2, .int x2)] [] M d kc ks Q) (kf : s0 = x1 → Xw l D ρ m_Shelf_drop 25 [(0, x0), (1, .ref x1), (2, .int x2)] [] M d kc ks Q) : Xw l D ρ m_Shelf_drop 21 [(0, x0), (1, .ref x1), (2, .int x2)] [.ref s0] M d kc ks Q := by
  refine x_aload_n d_Shelf_drop_21 rfl 1 rfl trivial ?_
  exact x_acmp_ne d_Shelf_drop_22 (tgt := 49) (by decide) (fun c => x_pick [0, 1, 2] rfl (kt c)) (fun c => x_pick [0, 1, 2] rfl (kf c))
theorem b_Shelf_drop_25 {x0 : Nat} {x1 : Value} {x2 : Int32} {f26_0 : Int32} {f26_1 : Nat} {f26_2 : Int32} {cd1 : Nat} {ckc1 : Nat} {cks1 : Nat} {ckc2 : Nat} {cks2 : Nat} {Q1 : Option Value → List xCl → Prop} {fr_0 : Value} {fr_1 : Int32} {fr_2 : Int32} (h26 : M[x0]? = some (cO 1 [.int f26_0, .ref f26_1, .int f26_2])) (hdp : cd1 + 1 ≤ d) (hkc : ckc1 + ckc2 ≤ kc) (hks : cks1 + cks2 ≤ ks) (hr : M[f26_1]? = some (cO 2 [fr_0, .int fr_1, .int fr_2])) (kz : Xw l D ρ m_ArrayList_remove 0 [(0, .ref f26_1), (1, .int x2)] [] M cd1 ckc1 cks1 Q1) (kk : ∀ r N, Q1 r N → Xw l D ρ m_Shelf_drop 33 [(0, .ref x0), (1, x1)] (r.toList ++ []) N d ckc2 cks2 Q) : Xw l D ρ m_Shelf_drop 25 [(0, .ref x0), (1, x1), (2, .int x2)] [] M d kc ks Q := by
  refine x_aload_n d_Shelf_drop_25 rfl 0 rfl trivial ?_
  refine x_getf (k := 1) d_Shelf_drop_26 ck_Shelf fk_Shelf_18 (by decide) h26 rfl ?_
  refine x_iload_n d_Shelf_drop_29 rfl 2 rfl ?_
  exact x_pick [0, 1] rfl (x_callV (As := [.int x2]) (st := []) (host := "") d_Shelf_drop_30 rfl mk_ArrayList_remove mi_ArrayList_remove mv_ArrayList_remove (Or.inl kl_Shelf_72) rfl (Nat.le_of_ble_eq_true rfl) (Nat.le_of_ble_eq_true rfl) ck_ArrayList hr hdp hkc hks rfl kz kk)
theorem b_Shelf_drop_33 {x0 : Nat} {x1 : Nat} {s0 : Value} {f36_0 : Int32} {f36_1 : Value} {f36_2 : Int32} {f40_0 : Nat} {f40_1 : Int32} {a43 : List Int32} (h_s0 : xrf s0) (h36 : M[x0]? = some (cO 1 [.int f36_0, f36_1, .int f36_2])) (h40 : M[x1]? = some (cO 5 [.ref f40_0, .int f40_1])) (h43 : M[f40_0]? = some (cI a43)) (hQ : Q none (M.set x0 (cO 1 [.int f36_0, f36_1, .int (f36_2 - (nI a43.length))])))  : Xw l D ρ m_Shelf_drop 33 [(0, .ref x0), (1, .ref x1)] [s0] M d kc ks Q := by
  refine x_pop d_Shelf_drop_33 (xrf_cat h_s0) ?_
  refine x_aload_n d_Shelf_drop_34 rfl 0 rfl trivial ?_
  refine x_dup d_Shelf_drop_35 rfl ?_
  refine x_getf (k := 2) d_Shelf_drop_36 ck_Shelf fk_Shelf_34 (by decide) h36 rfl ?_
  refine x_aload_n d_Shelf_drop_39 rfl 1 rfl trivial ?_
  refine x_getf (k := 0) d_Shelf_drop_40 ck_Part fk_Shelf_39 (by decide) h40 rfl ?_
  refine x_alenI d_Shelf_drop_43 h43 ?_
  refine x_isub d_Shelf_drop_44 ?_
  refine x_putf (k := 2) (fs' := [.int f36_0, f36_1, .int (f36_2 - (nI a43.length))]) d_Shelf_drop_45 ck_Shelf fk_Shelf_34 (by decide) (Or.inl rfl) rfl h36 (Nat.le_of_ble_eq_true rfl) rfl ?_
  exact x_vret d_Shelf_drop_48 rfl hQ
theorem b_Shelf_drop_49 {x0 : Value} {x1 : Value} {x2 : Int32} (h_x1 : xrf x1) (k : Xw l D ρ m_Shelf_drop 2 [(0, x0), (1, x1), (2, .int (x2 + 1))] [] M d kc ks Q) : Xw l D ρ m_Shelf_drop 49 [(0, x0), (1, x1), (2, .int x2)] [] M d kc ks Q := by
  refine x_iinc (v := x2 + 1) (L' := [(2, .int (x2 + 1)), (0, x0), (1, x1)]) d_Shelf_drop_49 2 rfl (by rfl) (Nat.le_of_ble_eq_true rfl) (by simp [xrf_cat h_x1]) ?_
  exact x_goto d_Shelf_drop_52 (tgt := 2) (by decide) (x_pick [1, 2, 0] rfl k)
theorem b_Shelf_drop_55  (hQ : Q none M)  : Xw l D ρ m_Shelf_drop 55 [] [] M d kc ks Q := by
  exact x_vret d_Shelf_drop_55 rfl hQ
theorem b_ContentStore_refer_0 {x0 : Value} {x1 : Int32} {x2 : Int32}  (kt : x1 < 0 → Xw l D ρ m_ContentStore_refer 26 [] [] M d kc ks Q) (kf : ¬ x1 < 0 → Xw l D ρ m_ContentStore_refer 4 [(0, x0), (1, .int x1), (2, .int x2)] [] M d kc ks Q) : Xw l D ρ m_ContentStore_refer 0 [(0, x0), (1, .int x1), (2, .int x2)] [] M d kc ks Q := by
  refine x_iload_n d_ContentStore_refer_0 rfl 1 rfl ?_
  exact x_if_lt d_ContentStore_refer_1 (tgt := 26) (by decide) (fun c => x_pick [] rfl (kt c)) (fun c => x_pick [0, 1, 2] rfl (kf c))
theorem b_ContentStore_refer_4 {x0 : Nat} {x1 : Int32} {x2 : Int32} {f6_0 : Value} {f6_1 : Value} {f6_2 : Value} {f6_3 : Nat} {f6_4 : Int32} {f6_5 : Int32} {f6_6 : Int32} {f6_7 : Int32} {a9 : List Int32} (h6 : M[x0]? = some (cO 0 [f6_0, f6_1, f6_2, .ref f6_3, .int f6_4, .int f6_5, .int f6_6, .int f6_7])) (h9 : M[f6_3]? = some (cI a9)) (kt : (nI a9.length) ≤ x1 → Xw l D ρ m_ContentStore_refer 26 [] [] M d kc ks Q) (kf : ¬ (nI a9.length) ≤ x1 → Xw l D ρ m_ContentStore_refer 13 [(0, .ref x0), (1, .int x1), (2, .int x2)] [] M d kc ks Q) : Xw l D ρ m_ContentStore_refer 4 [(0, .ref x0), (1, .int x1), (2, .int x2)] [] M d kc ks Q := by
  refine x_iload_n d_ContentStore_refer_4 rfl 1 rfl ?_
  refine x_aload_n d_ContentStore_refer_5 rfl 0 rfl trivial ?_
  refine x_getf (k := 3) d_ContentStore_refer_6 ck_ContentStore fk_ContentStore_39 (by decide) h6 rfl ?_
  refine x_alenI d_ContentStore_refer_9 h9 ?_
  exact x_icmp_ge d_ContentStore_refer_10 (tgt := 26) (by decide) (fun c => x_pick [] rfl (kt c)) (fun c => x_pick [0, 1, 2] rfl (kf c))
theorem b_ContentStore_refer_13 {x0 : Value} {x1 : Int32} {x2 : Int32}  (kt : x2 = ((-1)) → Xw l D ρ m_ContentStore_refer 28 [(0, x0), (1, .int x1), (2, .int x2)] [] M d kc ks Q) (kf : ¬ x2 = ((-1)) → Xw l D ρ m_ContentStore_refer 18 [(0, x0), (1, .int x1), (2, .int x2)] [] M d kc ks Q) : Xw l D ρ m_ContentStore_refer 13 [(0, x0), (1, .int x1), (2, .int x2)] [] M d kc ks Q := by
  refine x_iload_n d_ContentStore_refer_13 rfl 2 rfl ?_
  refine x_iconst (v := (-1)) d_ContentStore_refer_14 (by decide) ?_
  exact x_icmp_eq d_ContentStore_refer_15 (tgt := 28) (by decide) (fun c => x_pick [0, 1, 2] rfl (kt c)) (fun c => x_pick [0, 1, 2] rfl (kf c))
theorem b_ContentStore_refer_18 {x0 : Nat} {x1 : Int32} {x2 : Int32} {cd1 : Nat} {ckc1 : Nat} {cks1 : Nat} {ckc2 : Nat} {cks2 : Nat} {Q1 : Option Value → List xCl → Prop} {fr_0 : Value} {fr_1 : Value} {fr_2 : Value} {fr_3 : Value} {fr_4 : Int32} {fr_5 : Int32} {fr_6 : Int32} {fr_7 : Int32} (hdp : cd1 + 1 ≤ d) (hkc : ckc1 + ckc2 ≤ kc) (hks : cks1 + cks2 ≤ ks) (hr : M[x0]? = some (cO 0 [fr_0, fr_1, fr_2, fr_3, .int fr_4, .int fr_5, .int fr_6, .int fr_7])) (kz : Xw l D ρ m_ContentStore_blobAt 0 [(0, .ref x0), (1, .int x2)] [] M cd1 ckc1 cks1 Q1) (kk : ∀ r N, Q1 r N → Xw l D ρ m_ContentStore_refer 23 [(0, .ref x0), (1, .int x1), (2, .int x2)] (r.toList ++ []) N d ckc2 cks2 Q) : Xw l D ρ m_ContentStore_refer 18 [(0, .ref x0), (1, .int x1), (2, .int x2)] [] M d kc ks Q := by
  refine x_aload_n d_ContentStore_refer_18 rfl 0 rfl trivial ?_
  refine x_iload_n d_ContentStore_refer_19 rfl 2 rfl ?_
  exact x_pick [0, 1, 2] rfl (x_callV (As := [.int x2]) (st := []) (host := "") d_ContentStore_refer_20 rfl mk_ContentStore_blobAt mi_ContentStore_blobAt mv_ContentStore_blobAt (Or.inl kl_ContentStore_86) rfl (Nat.le_of_ble_eq_true rfl) (Nat.le_of_ble_eq_true rfl) ck_ContentStore hr hdp hkc hks rfl kz kk)
theorem b_ContentStore_refer_23 {x0 : Value} {x1 : Int32} {x2 : Int32} {s0 : Nat}  (k : Xw l D ρ m_ContentStore_refer 28 [(0, x0), (1, .int x1), (2, .int x2)] [] M d kc ks Q) : Xw l D ρ m_ContentStore_refer 23 [(0, x0), (1, .int x1), (2, .int x2)] [.ref s0] M d kc ks Q := by
  exact x_ifnonnull_r d_ContentStore_refer_23 (tgt := 28) (by decide) (x_pick [0, 1, 2] rfl k)
theorem b_ContentStore_refer_23_z {x0 : Value} {x1 : Int32} {x2 : Int32}  (k : Xw l D ρ m_ContentStore_refer 26 [] [] M d kc ks Q) : Xw l D ρ m_ContentStore_refer 23 [(0, x0), (1, .int x1), (2, .int x2)] [.null] M d kc ks Q := by
  exact x_ifnonnull_z d_ContentStore_refer_23 (x_pick [] rfl k)
theorem b_ContentStore_refer_26  (hQ : Q (some (.int 0)) M)  : Xw l D ρ m_ContentStore_refer 26 [] [] M d kc ks Q := by
  refine x_iconst (v := 0) d_ContentStore_refer_26 (by decide) ?_
  exact x_iret d_ContentStore_refer_27 rfl rfl hQ
theorem b_ContentStore_refer_28 {x0 : Nat} {x1 : Int32} {x2 : Int32} {f29_0 : Value} {f29_1 : Value} {f29_2 : Value} {f29_3 : Nat} {f29_4 : Int32} {f29_5 : Int32} {f29_6 : Int32} {f29_7 : Int32} {a34 : List Int32} {j34 : Nat} (h29 : M[x0]? = some (cO 0 [f29_0, f29_1, f29_2, .ref f29_3, .int f29_4, .int f29_5, .int f29_6, .int f29_7])) (h34 : M[f29_3]? = some (cI a34)) (e34 : x1 = nI j34) (g34 : j34 < a34.length) (b34 : a34.length ≤ 100000000) (hQ : Q (some (.int 1)) (M.set f29_3 (cI (a34.set j34 x2))))  : Xw l D ρ m_ContentStore_refer 28 [(0, .ref x0), (1, .int x1), (2, .int x2)] [] M d kc ks Q := by
  refine x_aload_n d_ContentStore_refer_28 rfl 0 rfl trivial ?_
  refine x_getf (k := 3) d_ContentStore_refer_29 ck_ContentStore fk_ContentStore_39 (by decide) h29 rfl ?_
  refine x_iload_n d_ContentStore_refer_32 rfl 1 rfl ?_
  refine x_iload_n d_ContentStore_refer_33 rfl 2 rfl ?_
  refine x_iast d_ContentStore_refer_34 e34 h34 g34 b34 ?_
  refine x_iconst (v := 1) d_ContentStore_refer_35 (by decide) ?_
  exact x_iret d_ContentStore_refer_36 rfl rfl hQ
theorem b_ContentStore_referred_0 {x0 : Value} {x1 : Int32}  (kt : x1 < 0 → Xw l D ρ m_ContentStore_referred 13 [] [] M d kc ks Q) (kf : ¬ x1 < 0 → Xw l D ρ m_ContentStore_referred 4 [(0, x0), (1, .int x1)] [] M d kc ks Q) : Xw l D ρ m_ContentStore_referred 0 [(0, x0), (1, .int x1)] [] M d kc ks Q := by
  refine x_iload_n d_ContentStore_referred_0 rfl 1 rfl ?_
  exact x_if_lt d_ContentStore_referred_1 (tgt := 13) (by decide) (fun c => x_pick [] rfl (kt c)) (fun c => x_pick [0, 1] rfl (kf c))
theorem b_ContentStore_referred_4 {x0 : Nat} {x1 : Int32} {f6_0 : Value} {f6_1 : Value} {f6_2 : Value} {f6_3 : Nat} {f6_4 : Int32} {f6_5 : Int32} {f6_6 : Int32} {f6_7 : Int32} {a9 : List Int32} (h6 : M[x0]? = some (cO 0 [f6_0, f6_1, f6_2, .ref f6_3, .int f6_4, .int f6_5, .int f6_6, .int f6_7])) (h9 : M[f6_3]? = some (cI a9)) (kt : x1 < (nI a9.length) → Xw l D ρ m_ContentStore_referred 17 [(0, .ref x0), (1, .int x1)] [] M d kc ks Q) (kf : ¬ x1 < (nI a9.length) → Xw l D ρ m_ContentStore_referred 13 [] [] M d kc ks Q) : Xw l D ρ m_ContentStore_referred 4 [(0, .ref x0), (1, .int x1)] [] M d kc ks Q := by
  refine x_iload_n d_ContentStore_referred_4 rfl 1 rfl ?_
  refine x_aload_n d_ContentStore_referred_5 rfl 0 rfl trivial ?_
  refine x_getf (k := 3) d_ContentStore_referred_6 ck_ContentStore fk_ContentStore_39 (by decide) h6 rfl ?_
  refine x_alenI d_ContentStore_referred_9 h9 ?_
  exact x_icmp_lt d_ContentStore_referred_10 (tgt := 17) (by decide) (fun c => x_pick [0, 1] rfl (kt c)) (fun c => x_pick [] rfl (kf c))
theorem b_ContentStore_referred_13   (k : Xw l D ρ m_ContentStore_referred 23 [] [.int ((-1))] M d kc ks Q) : Xw l D ρ m_ContentStore_referred 13 [] [] M d kc ks Q := by
  refine x_iconst (v := (-1)) d_ContentStore_referred_13 (by decide) ?_
  exact x_goto d_ContentStore_referred_14 (tgt := 23) (by decide) (x_pick [] rfl k)
theorem b_ContentStore_referred_17 {x0 : Nat} {x1 : Int32} {f18_0 : Value} {f18_1 : Value} {f18_2 : Value} {f18_3 : Nat} {f18_4 : Int32} {f18_5 : Int32} {f18_6 : Int32} {f18_7 : Int32} {a22 : List Int32} {j22 : Nat} {v22 : Int32} (h18 : M[x0]? = some (cO 0 [f18_0, f18_1, f18_2, .ref f18_3, .int f18_4, .int f18_5, .int f18_6, .int f18_7])) (h22 : M[f18_3]? = some (cI a22)) (e22 : x1 = nI j22) (g22 : a22[j22]? = some v22) (b22 : a22.length ≤ 100000000) (k : Xw l D ρ m_ContentStore_referred 23 [] [.int v22] M d kc ks Q) : Xw l D ρ m_ContentStore_referred 17 [(0, .ref x0), (1, .int x1)] [] M d kc ks Q := by
  refine x_aload_n d_ContentStore_referred_17 rfl 0 rfl trivial ?_
  refine x_getf (k := 3) d_ContentStore_referred_18 ck_ContentStore fk_ContentStore_39 (by decide) h18 rfl ?_
  refine x_iload_n d_ContentStore_referred_21 rfl 1 rfl ?_
  refine x_iald d_ContentStore_referred_22 e22 h22 g22 b22 ?_
  exact x_pick [] rfl k
theorem b_ContentStore_referred_23 {s0 : Int32} (hQ : Q (some (.int s0)) M)  : Xw l D ρ m_ContentStore_referred 23 [] [.int s0] M d kc ks Q := by
  exact x_iret d_ContentStore_referred_23 rfl rfl hQ
theorem b_ContentStore_sweep_0 {x0 : Value} (h_x0 : xrf x0) (k : Xw l D ρ m_ContentStore_sweep 4 [(0, x0), (1, .int 0), (2, .int 0)] [] M d kc ks Q) : Xw l D ρ m_ContentStore_sweep 0 [(0, x0)] [] M d kc ks Q := by
  refine x_iconst (v := 0) d_ContentStore_sweep_0 (by decide) ?_
  refine x_istore_n (i := 1) (L' := [(1, .int 0), (0, x0)]) d_ContentStore_sweep_1 rfl (Nat.le_of_ble_eq_true rfl) (by simp [xrf_cat h_x0]) ?_
  refine x_iconst (v := 0) d_ContentStore_sweep_2 (by decide) ?_
  refine x_istore_n (i := 2) (L' := [(2, .int 0), (1, .int 0), (0, x0)]) d_ContentStore_sweep_3 rfl (Nat.le_of_ble_eq_true rfl) rfl ?_
  exact x_pick [2, 1, 0] rfl k
theorem b_ContentStore_sweep_4 {x0 : Nat} {x1 : Int32} {x2 : Int32} {f6_0 : Value} {f6_1 : Value} {f6_2 : Value} {f6_3 : Value} {f6_4 : Int32} {f6_5 : Int32} {f6_6 : Int32} {f6_7 : Int32} (h6 : M[x0]? = some (cO 0 [f6_0, f6_1, f6_2, f6_3, .int f6_4, .int f6_5, .int f6_6, .int f6_7])) (kt : f6_6 ≤ x2 → Xw l D ρ m_ContentStore_sweep 52 [(1, .int x1)] [] M d kc ks Q) (kf : ¬ f6_6 ≤ x2 → Xw l D ρ m_ContentStore_sweep 12 [(0, .ref x0), (1, .int x1), (2, .int x2)] [] M d kc ks Q) : Xw l D ρ m_ContentStore_sweep 4 [(0, .ref x0), (1, .int x1), (2, .int x2)] [] M d kc ks Q := by
  refine x_iload_n d_ContentStore_sweep_4 rfl 2 rfl ?_
  refine x_aload_n d_ContentStore_sweep_5 rfl 0 rfl trivial ?_
  refine x_getf (k := 6) d_ContentStore_sweep_6 ck_ContentStore fk_ContentStore_139 (by decide) h6 rfl ?_
  exact x_icmp_ge d_ContentStore_sweep_9 (tgt := 52) (by decide) (fun c => x_pick [1] rfl (kt c)) (fun c => x_pick [0, 1, 2] rfl (kf c))
theorem b_ContentStore_sweep_12 {x0 : Nat} {x1 : Int32} {x2 : Int32} {cd1 : Nat} {ckc1 : Nat} {cks1 : Nat} {ckc2 : Nat} {cks2 : Nat} {Q1 : Option Value → List xCl → Prop} {fr_0 : Value} {fr_1 : Value} {fr_2 : Value} {fr_3 : Value} {fr_4 : Int32} {fr_5 : Int32} {fr_6 : Int32} {fr_7 : Int32} (hdp : cd1 + 1 ≤ d) (hkc : ckc1 + ckc2 ≤ kc) (hks : cks1 + cks2 ≤ ks) (hr : M[x0]? = some (cO 0 [fr_0, fr_1, fr_2, fr_3, .int fr_4, .int fr_5, .int fr_6, .int fr_7])) (kz : Xw l D ρ m_ContentStore_blobAt 0 [(0, .ref x0), (1, .int x2)] [] M cd1 ckc1 cks1 Q1) (kk : ∀ r N, Q1 r N → Xw l D ρ m_ContentStore_sweep 17 [(0, .ref x0), (1, .int x1), (2, .int x2)] (r.toList ++ []) N d ckc2 cks2 Q) : Xw l D ρ m_ContentStore_sweep 12 [(0, .ref x0), (1, .int x1), (2, .int x2)] [] M d kc ks Q := by
  refine x_aload_n d_ContentStore_sweep_12 rfl 0 rfl trivial ?_
  refine x_iload_n d_ContentStore_sweep_13 rfl 2 rfl ?_
  exact x_pick [0, 1, 2] rfl (x_callV (As := [.int x2]) (st := []) (host := "") d_ContentStore_sweep_14 rfl mk_ContentStore_blobAt mi_ContentStore_blobAt mv_ContentStore_blobAt (Or.inl kl_ContentStore_86) rfl (Nat.le_of_ble_eq_true rfl) (Nat.le_of_ble_eq_true rfl) ck_ContentStore hr hdp hkc hks rfl kz kk)
theorem b_ContentStore_sweep_17 {x0 : Value} {x1 : Int32} {x2 : Int32} {s0 : Nat}  (k : Xw l D ρ m_ContentStore_sweep 22 [(0, x0), (1, .int x1), (2, .int x2), (3, .ref s0)] [] M d kc ks Q) : Xw l D ρ m_ContentStore_sweep 17 [(0, x0), (1, .int x1), (2, .int x2)] [.ref s0] M d kc ks Q := by
  refine x_astore_n (i := 3) (L' := [(3, .ref s0), (0, x0), (1, .int x1), (2, .int x2)]) d_ContentStore_sweep_17 rfl (Nat.le_of_ble_eq_true rfl) trivial rfl ?_
  refine x_aload_n d_ContentStore_sweep_18 rfl 0 rfl trivial ?_
  exact x_ifnull_r d_ContentStore_sweep_19 (x_pick [1, 2, 3, 0] rfl k)
theorem b_ContentStore_sweep_17_z {x0 : Value} {x1 : Int32} {x2 : Int32}  (k : Xw l D ρ m_ContentStore_sweep 46 [(0, x0), (1, .int x1), (2, .int x2)] [] M d kc ks Q) : Xw l D ρ m_ContentStore_sweep 17 [(0, x0), (1, .int x1), (2, .int x2)] [.null] M d kc ks Q := by
  refine x_astore_n (i := 3) (L' := [(3, .null), (0, x0), (1, .int x1), (2, .int x2)]) d_ContentStore_sweep_17 rfl (Nat.le_of_ble_eq_true rfl) trivial rfl ?_
  refine x_aload_n d_ContentStore_sweep_18 rfl 0 rfl trivial ?_
  exact x_ifnull_z d_ContentStore_sweep_19 (tgt := 46) (by decide) (x_pick [1, 2, 3] rfl k)
theorem b_ContentStore_sweep_22 {x0 : Value} {x1 : Int32} {x2 : Int32} {x3 : Nat} {f23_0 : Int32} {f23_1 : Int32} {f23_2 : Int64} {f23_3 : Value} {f23_4 : Value} {f23_5 : Int32} {f23_6 : Int32} (h23 : M[x3]? = some (cO 4 [.int f23_0, .int f23_1, .long f23_2, f23_3, f23_4, .int f23_5, .int f23_6])) (kt : ¬ f23_5 = ((-1)) → Xw l D ρ m_ContentStore_sweep 46 [(0, x0), (1, .int x1), (2, .int x2)] [] M d kc ks Q) (kf : f23_5 = ((-1)) → Xw l D ρ m_ContentStore_sweep 30 [(0, x0), (1, .int x1), (2, .int x2), (3, .ref x3)] [] M d kc ks Q) : Xw l D ρ m_ContentStore_sweep 22 [(0, x0), (1, .int x1), (2, .int x2), (3, .ref x3)] [] M d kc ks Q := by
  refine x_aload_n d_ContentStore_sweep_22 rfl 3 rfl trivial ?_
  refine x_getf (k := 5) d_ContentStore_sweep_23 ck_Blob fk_ContentStore_142 (by decide) h23 rfl ?_
  refine x_iconst (v := (-1)) d_ContentStore_sweep_26 (by decide) ?_
  exact x_icmp_ne d_ContentStore_sweep_27 (tgt := 46) (by decide) (fun c => x_pick [0, 1, 2] rfl (kt c)) (fun c => x_pick [0, 1, 2, 3] rfl (kf c))
theorem b_ContentStore_sweep_30 {x0 : Nat} {x1 : Int32} {x2 : Int32} {x3 : Value} {cd1 : Nat} {ckc1 : Nat} {cks1 : Nat} {ckc2 : Nat} {cks2 : Nat} {Q1 : Option Value → List xCl → Prop} {fr_0 : Value} {fr_1 : Value} {fr_2 : Value} {fr_3 : Value} {fr_4 : Int32} {fr_5 : Int32} {fr_6 : Int32} {fr_7 : Int32} (hdp : cd1 + 1 ≤ d) (hkc : ckc1 + ckc2 ≤ kc) (hks : cks1 + cks2 ≤ ks) (hr : M[x0]? = some (cO 0 [fr_0, fr_1, fr_2, fr_3, .int fr_4, .int fr_5, .int fr_6, .int fr_7])) (kz : Xw l D ρ m_ContentStore_isReferredTo 0 [(0, .ref x0), (1, .int x2)] [] M cd1 ckc1 cks1 Q1) (kk : ∀ r N, Q1 r N → Xw l D ρ m_ContentStore_sweep 35 [(0, .ref x0), (1, .int x1), (2, .int x2), (3, x3)] (r.toList ++ []) N d ckc2 cks2 Q) : Xw l D ρ m_ContentStore_sweep 30 [(0, .ref x0), (1, .int x1), (2, .int x2), (3, x3)] [] M d kc ks Q := by
  refine x_aload_n d_ContentStore_sweep_30 rfl 0 rfl trivial ?_
  refine x_iload_n d_ContentStore_sweep_31 rfl 2 rfl ?_
  exact x_pick [0, 1, 2, 3] rfl (x_callV (As := [.int x2]) (st := []) (host := "") d_ContentStore_sweep_32 rfl mk_ContentStore_isReferredTo mi_ContentStore_isReferredTo mv_ContentStore_isReferredTo (Or.inl kl_ContentStore_145) rfl (Nat.le_of_ble_eq_true rfl) (Nat.le_of_ble_eq_true rfl) ck_ContentStore hr hdp hkc hks rfl kz kk)
theorem b_ContentStore_sweep_35 {x0 : Value} {x1 : Int32} {x2 : Int32} {x3 : Value} {s0 : Int32}  (kt : ¬ s0 = 0 → Xw l D ρ m_ContentStore_sweep 46 [(0, x0), (1, .int x1), (2, .int x2)] [] M d kc ks Q) (kf : s0 = 0 → Xw l D ρ m_ContentStore_sweep 38 [(0, x0), (1, .int x1), (2, .int x2), (3, x3)] [] M d kc ks Q) : Xw l D ρ m_ContentStore_sweep 35 [(0, x0), (1, .int x1), (2, .int x2), (3, x3)] [.int s0] M d kc ks Q := by
  exact x_if_ne d_ContentStore_sweep_35 (tgt := 46) (by decide) (fun c => x_pick [0, 1, 2] rfl (kt c)) (fun c => x_pick [0, 1, 2, 3] rfl (kf c))
theorem b_ContentStore_sweep_38 {x0 : Nat} {x1 : Int32} {x2 : Int32} {x3 : Value} {cd1 : Nat} {ckc1 : Nat} {cks1 : Nat} {ckc2 : Nat} {cks2 : Nat} {Q1 : Option Value → List xCl → Prop} {fr_0 : Value} {fr_1 : Value} {fr_2 : Value} {fr_3 : Value} {fr_4 : Int32} {fr_5 : Int32} {fr_6 : Int32} {fr_7 : Int32} (h_x3 : xrf x3) (hdp : cd1 + 1 ≤ d) (hkc : ckc1 + ckc2 ≤ kc) (hks : cks1 + cks2 ≤ ks) (hr : M[x0]? = some (cO 0 [fr_0, fr_1, fr_2, fr_3, .int fr_4, .int fr_5, .int fr_6, .int fr_7])) (kz : Xw l D ρ m_ContentStore_letGo 0 [(0, .ref x0), (1, x3)] [] M cd1 ckc1 cks1 Q1) (kk : ∀ r N, Q1 r N → Xw l D ρ m_ContentStore_sweep 43 [(0, .ref x0), (1, .int x1), (2, .int x2)] (r.toList ++ []) N d ckc2 cks2 Q) : Xw l D ρ m_ContentStore_sweep 38 [(0, .ref x0), (1, .int x1), (2, .int x2), (3, x3)] [] M d kc ks Q := by
  refine x_aload_n d_ContentStore_sweep_38 rfl 0 rfl trivial ?_
  refine x_aload_n d_ContentStore_sweep_39 rfl 3 rfl h_x3 ?_
  exact x_pick [0, 1, 2] rfl (x_callV (As := [x3]) (st := []) (host := "") d_ContentStore_sweep_40 rfl mk_ContentStore_letGo mi_ContentStore_letGo mv_ContentStore_letGo (Or.inl kl_ContentStore_149) rfl (by simp [lg_sl, m_ContentStore_letGo, xcat_i, xcat_l, xcat_r, xcat_n, xcat_o, xrf_cat h_x3]) (Nat.le_of_ble_eq_true rfl) ck_ContentStore hr hdp hkc hks (by simp [lv_args, xcat_i, xcat_l, xcat_r, xcat_n, xcat_o, xrf_cat h_x3]) kz kk)
theorem b_ContentStore_sweep_43 {x0 : Value} {x1 : Int32} {x2 : Int32} (h_x0 : xrf x0) (k : Xw l D ρ m_ContentStore_sweep 46 [(0, x0), (1, .int (x1 + 1)), (2, .int x2)] [] M d kc ks Q) : Xw l D ρ m_ContentStore_sweep 43 [(0, x0), (1, .int x1), (2, .int x2)] [] M d kc ks Q := by
  refine x_iinc (v := x1 + 1) (L' := [(1, .int (x1 + 1)), (0, x0), (2, .int x2)]) d_ContentStore_sweep_43 1 rfl (by rfl) (Nat.le_of_ble_eq_true rfl) (by simp [xrf_cat h_x0]) ?_
  exact x_pick [1, 0, 2] rfl k
theorem b_ContentStore_sweep_46 {x0 : Value} {x1 : Int32} {x2 : Int32}  (k : Xw l D ρ m_ContentStore_sweep 4 [(0, x0), (1, .int x1), (2, .int (x2 + 1))] [] M d kc ks Q) : Xw l D ρ m_ContentStore_sweep 46 [(0, x0), (1, .int x1), (2, .int x2)] [] M d kc ks Q := by
  refine x_iinc (v := x2 + 1) (L' := [(2, .int (x2 + 1)), (0, x0), (1, .int x1)]) d_ContentStore_sweep_46 2 rfl (by rfl) (Nat.le_of_ble_eq_true rfl) rfl ?_
  exact x_goto d_ContentStore_sweep_49 (tgt := 4) (by decide) (x_pick [1, 2, 0] rfl k)
theorem b_ContentStore_sweep_52 {x1 : Int32} (hQ : Q (some (.int x1)) M)  : Xw l D ρ m_ContentStore_sweep 52 [(1, .int x1)] [] M d kc ks Q := by
  refine x_iload_n d_ContentStore_sweep_52 rfl 0 rfl ?_
  exact x_iret d_ContentStore_sweep_53 rfl rfl hQ
theorem b_ContentStore_isReferredTo_0 {x0 : Value} {x1 : Int32}  (k : Xw l D ρ m_ContentStore_isReferredTo 2 [(0, x0), (1, .int x1), (2, .int 0)] [] M d kc ks Q) : Xw l D ρ m_ContentStore_isReferredTo 0 [(0, x0), (1, .int x1)] [] M d kc ks Q := by
  refine x_iconst (v := 0) d_ContentStore_isReferredTo_0 (by decide) ?_
  refine x_istore_n (i := 2) (L' := [(2, .int 0), (0, x0), (1, .int x1)]) d_ContentStore_isReferredTo_1 rfl (Nat.le_of_ble_eq_true rfl) rfl ?_
  exact x_pick [1, 2, 0] rfl k
theorem b_ContentStore_isReferredTo_2 {x0 : Nat} {x1 : Int32} {x2 : Int32} {f4_0 : Value} {f4_1 : Value} {f4_2 : Value} {f4_3 : Nat} {f4_4 : Int32} {f4_5 : Int32} {f4_6 : Int32} {f4_7 : Int32} {a7 : List Int32} (h4 : M[x0]? = some (cO 0 [f4_0, f4_1, f4_2, .ref f4_3, .int f4_4, .int f4_5, .int f4_6, .int f4_7])) (h7 : M[f4_3]? = some (cI a7)) (kt : (nI a7.length) ≤ x2 → Xw l D ρ m_ContentStore_isReferredTo 29 [] [] M d kc ks Q) (kf : ¬ (nI a7.length) ≤ x2 → Xw l D ρ m_ContentStore_isReferredTo 11 [(0, .ref x0), (1, .int x1), (2, .int x2)] [] M d kc ks Q) : Xw l D ρ m_ContentStore_isReferredTo 2 [(0, .ref x0), (1, .int x1), (2, .int x2)] [] M d kc ks Q := by
  refine x_iload_n d_ContentStore_isReferredTo_2 rfl 2 rfl ?_
  refine x_aload_n d_ContentStore_isReferredTo_3 rfl 0 rfl trivial ?_
  refine x_getf (k := 3) d_ContentStore_isReferredTo_4 ck_ContentStore fk_ContentStore_39 (by decide) h4 rfl ?_
  refine x_alenI d_ContentStore_isReferredTo_7 h7 ?_
  exact x_icmp_ge d_ContentStore_isReferredTo_8 (tgt := 29) (by decide) (fun c => x_pick [] rfl (kt c)) (fun c => x_pick [0, 1, 2] rfl (kf c))
theorem b_ContentStore_isReferredTo_11 {x0 : Nat} {x1 : Int32} {x2 : Int32} {f12_0 : Value} {f12_1 : Value} {f12_2 : Value} {f12_3 : Nat} {f12_4 : Int32} {f12_5 : Int32} {f12_6 : Int32} {f12_7 : Int32} {a16 : List Int32} {j16 : Nat} {v16 : Int32} (h12 : M[x0]? = some (cO 0 [f12_0, f12_1, f12_2, .ref f12_3, .int f12_4, .int f12_5, .int f12_6, .int f12_7])) (h16 : M[f12_3]? = some (cI a16)) (e16 : x2 = nI j16) (g16 : a16[j16]? = some v16) (b16 : a16.length ≤ 100000000) (kt : ¬ v16 = x1 → Xw l D ρ m_ContentStore_isReferredTo 23 [(0, .ref x0), (1, .int x1), (2, .int x2)] [] M d kc ks Q) (kf : v16 = x1 → Xw l D ρ m_ContentStore_isReferredTo 21 [] [] M d kc ks Q) : Xw l D ρ m_ContentStore_isReferredTo 11 [(0, .ref x0), (1, .int x1), (2, .int x2)] [] M d kc ks Q := by
  refine x_aload_n d_ContentStore_isReferredTo_11 rfl 0 rfl trivial ?_
  refine x_getf (k := 3) d_ContentStore_isReferredTo_12 ck_ContentStore fk_ContentStore_39 (by decide) h12 rfl ?_
  refine x_iload_n d_ContentStore_isReferredTo_15 rfl 2 rfl ?_
  refine x_iald d_ContentStore_isReferredTo_16 e16 h16 g16 b16 ?_
  refine x_iload_n d_ContentStore_isReferredTo_17 rfl 1 rfl ?_
  exact x_icmp_ne d_ContentStore_isReferredTo_18 (tgt := 23) (by decide) (fun c => x_pick [0, 1, 2] rfl (kt c)) (fun c => x_pick [] rfl (kf c))
theorem b_ContentStore_isReferredTo_21  (hQ : Q (some (.int 1)) M)  : Xw l D ρ m_ContentStore_isReferredTo 21 [] [] M d kc ks Q := by
  refine x_iconst (v := 1) d_ContentStore_isReferredTo_21 (by decide) ?_
  exact x_iret d_ContentStore_isReferredTo_22 rfl rfl hQ
theorem b_ContentStore_isReferredTo_23 {x0 : Value} {x1 : Int32} {x2 : Int32}  (k : Xw l D ρ m_ContentStore_isReferredTo 2 [(0, x0), (1, .int x1), (2, .int (x2 + 1))] [] M d kc ks Q) : Xw l D ρ m_ContentStore_isReferredTo 23 [(0, x0), (1, .int x1), (2, .int x2)] [] M d kc ks Q := by
  refine x_iinc (v := x2 + 1) (L' := [(2, .int (x2 + 1)), (0, x0), (1, .int x1)]) d_ContentStore_isReferredTo_23 2 rfl (by rfl) (Nat.le_of_ble_eq_true rfl) rfl ?_
  exact x_goto d_ContentStore_isReferredTo_26 (tgt := 2) (by decide) (x_pick [1, 2, 0] rfl k)
theorem b_ContentStore_isReferredTo_29  (hQ : Q (some (.int 0)) M)  : Xw l D ρ m_ContentStore_isReferredTo 29 [] [] M d kc ks Q := by
  refine x_iconst (v := 0) d_ContentStore_isReferredTo_29 (by decide) ?_
  exact x_iret d_ContentStore_isReferredTo_30 rfl rfl hQ
theorem b_ContentStore_letGo_0 {x0 : Nat} {x1 : Nat} {f2_0 : Int32} {f2_1 : Int32} {f2_2 : Int64} {f2_3 : Value} {f2_4 : Value} {f2_5 : Int32} {f2_6 : Int32} {f6_0 : Nat} {f6_1 : Value} {f6_2 : Value} {f6_3 : Value} {f6_4 : Int32} {f6_5 : Int32} {f6_6 : Int32} {f6_7 : Int32} {cd1 : Nat} {ckc1 : Nat} {cks1 : Nat} {ckc2 : Nat} {cks2 : Nat} {Q1 : Option Value → List xCl → Prop} {fr_0 : Int32} {fr_1 : Value} {fr_2 : Int32} (h_f2_3 : xrf f2_3) (h2 : M[x1]? = some (cO 4 [.int f2_0, .int f2_1, .long f2_2, f2_3, f2_4, .int f2_5, .int f2_6])) (h6 : (M.set x1 (cO 4 [.int f2_0, .int f2_1, .long f2_2, f2_3, f2_4, .int f2_5, .int 0]))[x0]? = some (cO 0 [.ref f6_0, f6_1, f6_2, f6_3, .int f6_4, .int f6_5, .int f6_6, .int f6_7])) (hdp : cd1 + 1 ≤ d) (hkc : ckc1 + ckc2 ≤ kc) (hks : cks1 + cks2 ≤ ks) (hr : (M.set x1 (cO 4 [.int f2_0, .int f2_1, .long f2_2, f2_3, f2_4, .int f2_5, .int 0]))[f6_0]? = some (cO 1 [.int fr_0, fr_1, .int fr_2])) (kz : Xw l D ρ m_Shelf_leave 0 [(0, .ref f6_0), (1, f2_3)] [] (M.set x1 (cO 4 [.int f2_0, .int f2_1, .long f2_2, f2_3, f2_4, .int f2_5, .int 0])) cd1 ckc1 cks1 Q1) (kk : ∀ r N, Q1 r N → Xw l D ρ m_ContentStore_letGo 16 [] (r.toList ++ []) N d ckc2 cks2 Q) : Xw l D ρ m_ContentStore_letGo 0 [(0, .ref x0), (1, .ref x1)] [] M d kc ks Q := by
  refine x_aload_n d_ContentStore_letGo_0 rfl 1 rfl trivial ?_
  refine x_iconst (v := 0) d_ContentStore_letGo_1 (by decide) ?_
  refine x_putf (k := 6) (fs' := [.int f2_0, .int f2_1, .long f2_2, f2_3, f2_4, .int f2_5, .int 0]) d_ContentStore_letGo_2 ck_Blob fk_ContentStore_176 (by decide) (Or.inl rfl) rfl h2 (Nat.le_of_ble_eq_true rfl) rfl ?_
  refine x_aload_n d_ContentStore_letGo_5 rfl 0 rfl trivial ?_
  refine x_getf (k := 0) d_ContentStore_letGo_6 ck_ContentStore fk_ContentStore_23 (by decide) h6 rfl ?_
  refine x_aload_n d_ContentStore_letGo_9 rfl 1 rfl trivial ?_
  refine x_getf (k := 3) d_ContentStore_letGo_10 ck_Blob fk_ContentStore_127 (by decide) (xset_eq h2) rfl ?_
  exact x_pick [] rfl (x_callV (As := [f2_3]) (st := []) (host := "") d_ContentStore_letGo_13 rfl mk_Shelf_leave mi_Shelf_leave mv_Shelf_leave (Or.inl kl_ContentStore_135) rfl (by simp [lg_sl, m_Shelf_leave, xcat_i, xcat_l, xcat_r, xcat_n, xcat_o, xrf_cat h_f2_3]) (Nat.le_of_ble_eq_true rfl) ck_Shelf hr hdp hkc hks (by simp [lv_args, xcat_i, xcat_l, xcat_r, xcat_n, xcat_o, xrf_cat h_f2_3]) kz kk)
theorem b_ContentStore_letGo_16  (hQ : Q none M)  : Xw l D ρ m_ContentStore_letGo 16 [] [] M d kc ks Q := by
  exact x_vret d_ContentStore_letGo_16 rfl hQ
theorem b_ContentStore_pack_0 {x0 : Nat} {f1_0 : Value} {f1_1 : Value} {f1_2 : Value} {f1_3 : Value} {f1_4 : Int32} {f1_5 : Int32} {f1_6 : Int32} {f1_7 : Int32} (h1 : M[x0]? = some (cO 0 [f1_0, f1_1, f1_2, f1_3, .int f1_4, .int f1_5, .int f1_6, .int f1_7])) (kt : f1_7 < 12 → Xw l D ρ m_ContentStore_pack 11 [(0, .ref x0)] [] M d kc ks Q) (kf : ¬ f1_7 < 12 → Xw l D ρ m_ContentStore_pack 9 [] [] M d kc ks Q) : Xw l D ρ m_ContentStore_pack 0 [(0, .ref x0)] [] M d kc ks Q := by
  refine x_aload_n d_ContentStore_pack_0 rfl 0 rfl trivial ?_
  refine x_getf (k := 7) d_ContentStore_pack_1 ck_ContentStore fk_ContentStore_153 (by decide) h1 rfl ?_
  refine x_bipush (v := 12) d_ContentStore_pack_4 (by decide) ?_
  exact x_icmp_lt d_ContentStore_pack_6 (tgt := 11) (by decide) (fun c => x_pick [0] rfl (kt c)) (fun c => x_pick [] rfl (kf c))
theorem b_ContentStore_pack_9  (hQ : Q (some (.int ((-1)))) M)  : Xw l D ρ m_ContentStore_pack 9 [] [] M d kc ks Q := by
  refine x_iconst (v := (-1)) d_ContentStore_pack_9 (by decide) ?_
  exact x_iret d_ContentStore_pack_10 rfl rfl hQ
theorem b_ContentStore_pack_11 {x0 : Value} (h_x0 : xrf x0) (k : Xw l D ρ m_ContentStore_pack 15 [(0, x0), (1, .int 0), (2, .int 0)] [] M d kc ks Q) : Xw l D ρ m_ContentStore_pack 11 [(0, x0)] [] M d kc ks Q := by
  refine x_iconst (v := 0) d_ContentStore_pack_11 (by decide) ?_
  refine x_istore_n (i := 1) (L' := [(1, .int 0), (0, x0)]) d_ContentStore_pack_12 rfl (Nat.le_of_ble_eq_true rfl) (by simp [xrf_cat h_x0]) ?_
  refine x_iconst (v := 0) d_ContentStore_pack_13 (by decide) ?_
  refine x_istore_n (i := 2) (L' := [(2, .int 0), (1, .int 0), (0, x0)]) d_ContentStore_pack_14 rfl (Nat.le_of_ble_eq_true rfl) rfl ?_
  exact x_pick [2, 1, 0] rfl k
theorem b_ContentStore_pack_15 {x0 : Nat} {x1 : Int32} {x2 : Int32} {f17_0 : Value} {f17_1 : Value} {f17_2 : Value} {f17_3 : Value} {f17_4 : Int32} {f17_5 : Int32} {f17_6 : Int32} {f17_7 : Int32} (h17 : M[x0]? = some (cO 0 [f17_0, f17_1, f17_2, f17_3, .int f17_4, .int f17_5, .int f17_6, .int f17_7])) (kt : f17_6 ≤ x2 → Xw l D ρ m_ContentStore_pack 57 [(0, .ref x0), (1, .int x1)] [] M d kc ks Q) (kf : ¬ f17_6 ≤ x2 → Xw l D ρ m_ContentStore_pack 23 [(0, .ref x0), (1, .int x1), (2, .int x2)] [] M d kc ks Q) : Xw l D ρ m_ContentStore_pack 15 [(0, .ref x0), (1, .int x1), (2, .int x2)] [] M d kc ks Q := by
  refine x_iload_n d_ContentStore_pack_15 rfl 2 rfl ?_
  refine x_aload_n d_ContentStore_pack_16 rfl 0 rfl trivial ?_
  refine x_getf (k := 6) d_ContentStore_pack_17 ck_ContentStore fk_ContentStore_139 (by decide) h17 rfl ?_
  exact x_icmp_ge d_ContentStore_pack_20 (tgt := 57) (by decide) (fun c => x_pick [0, 1] rfl (kt c)) (fun c => x_pick [0, 1, 2] rfl (kf c))
theorem b_ContentStore_pack_23 {x0 : Nat} {x1 : Int32} {x2 : Int32} {cd1 : Nat} {ckc1 : Nat} {cks1 : Nat} {ckc2 : Nat} {cks2 : Nat} {Q1 : Option Value → List xCl → Prop} {fr_0 : Value} {fr_1 : Value} {fr_2 : Value} {fr_3 : Value} {fr_4 : Int32} {fr_5 : Int32} {fr_6 : Int32} {fr_7 : Int32} (hdp : cd1 + 1 ≤ d) (hkc : ckc1 + ckc2 ≤ kc) (hks : cks1 + cks2 ≤ ks) (hr : M[x0]? = some (cO 0 [fr_0, fr_1, fr_2, fr_3, .int fr_4, .int fr_5, .int fr_6, .int fr_7])) (kz : Xw l D ρ m_ContentStore_blobAt 0 [(0, .ref x0), (1, .int x2)] [] M cd1 ckc1 cks1 Q1) (kk : ∀ r N, Q1 r N → Xw l D ρ m_ContentStore_pack 28 [(0, .ref x0), (1, .int x1), (2, .int x2)] (r.toList ++ []) N d ckc2 cks2 Q) : Xw l D ρ m_ContentStore_pack 23 [(0, .ref x0), (1, .int x1), (2, .int x2)] [] M d kc ks Q := by
  refine x_aload_n d_ContentStore_pack_23 rfl 0 rfl trivial ?_
  refine x_iload_n d_ContentStore_pack_24 rfl 2 rfl ?_
  exact x_pick [0, 1, 2] rfl (x_callV (As := [.int x2]) (st := []) (host := "") d_ContentStore_pack_25 rfl mk_ContentStore_blobAt mi_ContentStore_blobAt mv_ContentStore_blobAt (Or.inl kl_ContentStore_86) rfl (Nat.le_of_ble_eq_true rfl) (Nat.le_of_ble_eq_true rfl) ck_ContentStore hr hdp hkc hks rfl kz kk)
theorem b_ContentStore_pack_28 {x0 : Value} {x1 : Int32} {x2 : Int32} {s0 : Nat}  (k : Xw l D ρ m_ContentStore_pack 33 [(0, x0), (1, .int x1), (2, .int x2), (3, .ref s0)] [] M d kc ks Q) : Xw l D ρ m_ContentStore_pack 28 [(0, x0), (1, .int x1), (2, .int x2)] [.ref s0] M d kc ks Q := by
  refine x_astore_n (i := 3) (L' := [(3, .ref s0), (0, x0), (1, .int x1), (2, .int x2)]) d_ContentStore_pack_28 rfl (Nat.le_of_ble_eq_true rfl) trivial rfl ?_
  refine x_aload_n d_ContentStore_pack_29 rfl 0 rfl trivial ?_
  exact x_ifnull_r d_ContentStore_pack_30 (x_pick [1, 2, 3, 0] rfl k)
theorem b_ContentStore_pack_28_z {x0 : Value} {x1 : Int32} {x2 : Int32}  (k : Xw l D ρ m_ContentStore_pack 51 [(0, x0), (1, .int x1), (2, .int x2)] [] M d kc ks Q) : Xw l D ρ m_ContentStore_pack 28 [(0, x0), (1, .int x1), (2, .int x2)] [.null] M d kc ks Q := by
  refine x_astore_n (i := 3) (L' := [(3, .null), (0, x0), (1, .int x1), (2, .int x2)]) d_ContentStore_pack_28 rfl (Nat.le_of_ble_eq_true rfl) trivial rfl ?_
  refine x_aload_n d_ContentStore_pack_29 rfl 0 rfl trivial ?_
  exact x_ifnull_z d_ContentStore_pack_30 (tgt := 51) (by decide) (x_pick [1, 2, 3] rfl k)
theorem b_ContentStore_pack_33 {x0 : Value} {x1 : Int32} {x2 : Int32} {x3 : Nat} {f34_0 : Int32} {f34_1 : Int32} {f34_2 : Int64} {f34_3 : Value} {f34_4 : Value} {f34_5 : Int32} {f34_6 : Int32} (h34 : M[x3]? = some (cO 4 [.int f34_0, .int f34_1, .long f34_2, f34_3, f34_4, .int f34_5, .int f34_6])) (kt : ¬ f34_5 = ((-1)) → Xw l D ρ m_ContentStore_pack 51 [(0, x0), (1, .int x1), (2, .int x2)] [] M d kc ks Q) (kf : f34_5 = ((-1)) → Xw l D ρ m_ContentStore_pack 41 [(0, x0), (2, .int x2), (3, .ref x3)] [] M d kc ks Q) : Xw l D ρ m_ContentStore_pack 33 [(0, x0), (1, .int x1), (2, .int x2), (3, .ref x3)] [] M d kc ks Q := by
  refine x_aload_n d_ContentStore_pack_33 rfl 3 rfl trivial ?_
  refine x_getf (k := 5) d_ContentStore_pack_34 ck_Blob fk_ContentStore_142 (by decide) h34 rfl ?_
  refine x_iconst (v := (-1)) d_ContentStore_pack_37 (by decide) ?_
  exact x_icmp_ne d_ContentStore_pack_38 (tgt := 51) (by decide) (fun c => x_pick [0, 1, 2] rfl (kt c)) (fun c => x_pick [0, 2, 3] rfl (kf c))
theorem b_ContentStore_pack_41 {x0 : Nat} {x2 : Int32} {x3 : Nat} {f43_0 : Value} {f43_1 : Value} {f43_2 : Value} {f43_3 : Value} {f43_4 : Int32} {f43_5 : Int32} {f43_6 : Int32} {f43_7 : Int32} {f46_0 : Int32} {f46_1 : Int32} {f46_2 : Int64} {f46_3 : Value} {f46_4 : Value} {f46_5 : Int32} {f46_6 : Int32} (h43 : M[x0]? = some (cO 0 [f43_0, f43_1, f43_2, f43_3, .int f43_4, .int f43_5, .int f43_6, .int f43_7])) (h46 : M[x3]? = some (cO 4 [.int f46_0, .int f46_1, .long f46_2, f46_3, f46_4, .int f46_5, .int f46_6])) (k : Xw l D ρ m_ContentStore_pack 51 [(0, .ref x0), (1, .int 1), (2, .int x2)] [] (M.set x3 (cO 4 [.int f46_0, .int f46_1, .long f46_2, f46_3, f46_4, .int f43_7, .int f46_6])) d kc ks Q) : Xw l D ρ m_ContentStore_pack 41 [(0, .ref x0), (2, .int x2), (3, .ref x3)] [] M d kc ks Q := by
  refine x_aload_n d_ContentStore_pack_41 rfl 2 rfl trivial ?_
  refine x_aload_n d_ContentStore_pack_42 rfl 0 rfl trivial ?_
  refine x_getf (k := 7) d_ContentStore_pack_43 ck_ContentStore fk_ContentStore_153 (by decide) h43 rfl ?_
  refine x_putf (k := 5) (fs' := [.int f46_0, .int f46_1, .long f46_2, f46_3, f46_4, .int f43_7, .int f46_6]) d_ContentStore_pack_46 ck_Blob fk_ContentStore_142 (by decide) (Or.inl rfl) rfl h46 (Nat.le_of_ble_eq_true rfl) rfl ?_
  refine x_iconst (v := 1) d_ContentStore_pack_49 (by decide) ?_
  refine x_istore_n (i := 1) (L' := [(1, .int 1), (0, .ref x0), (2, .int x2), (3, .ref x3)]) d_ContentStore_pack_50 rfl (Nat.le_of_ble_eq_true rfl) rfl ?_
  exact x_pick [1, 0, 2] rfl k
theorem b_ContentStore_pack_51 {x0 : Value} {x1 : Int32} {x2 : Int32}  (k : Xw l D ρ m_ContentStore_pack 15 [(0, x0), (1, .int x1), (2, .int (x2 + 1))] [] M d kc ks Q) : Xw l D ρ m_ContentStore_pack 51 [(0, x0), (1, .int x1), (2, .int x2)] [] M d kc ks Q := by
  refine x_iinc (v := x2 + 1) (L' := [(2, .int (x2 + 1)), (0, x0), (1, .int x1)]) d_ContentStore_pack_51 2 rfl (by rfl) (Nat.le_of_ble_eq_true rfl) rfl ?_
  exact x_goto d_ContentStore_pack_54 (tgt := 15) (by decide) (x_pick [1, 2, 0] rfl k)
theorem b_ContentStore_pack_57 {x0 : Value} {x1 : Int32}  (kt : ¬ x1 = 0 → Xw l D ρ m_ContentStore_pack 63 [(0, x0)] [] M d kc ks Q) (kf : x1 = 0 → Xw l D ρ m_ContentStore_pack 61 [] [] M d kc ks Q) : Xw l D ρ m_ContentStore_pack 57 [(0, x0), (1, .int x1)] [] M d kc ks Q := by
  refine x_iload_n d_ContentStore_pack_57 rfl 1 rfl ?_
  exact x_if_ne d_ContentStore_pack_58 (tgt := 63) (by decide) (fun c => x_pick [0] rfl (kt c)) (fun c => x_pick [] rfl (kf c))
theorem b_ContentStore_pack_61  (hQ : Q (some (.int ((-1)))) M)  : Xw l D ρ m_ContentStore_pack 61 [] [] M d kc ks Q := by
  refine x_iconst (v := (-1)) d_ContentStore_pack_61 (by decide) ?_
  exact x_iret d_ContentStore_pack_62 rfl rfl hQ
theorem b_ContentStore_pack_63 {x0 : Nat} {f65_0 : Value} {f65_1 : Value} {f65_2 : Value} {f65_3 : Value} {f65_4 : Int32} {f65_5 : Int32} {f65_6 : Int32} {f65_7 : Int32} (h65 : M[x0]? = some (cO 0 [f65_0, f65_1, f65_2, f65_3, .int f65_4, .int f65_5, .int f65_6, .int f65_7])) (hQ : Q (some (.int ((f65_7 + 1) - 1))) (M.set x0 (cO 0 [f65_0, f65_1, f65_2, f65_3, .int f65_4, .int f65_5, .int f65_6, .int (f65_7 + 1)])))  : Xw l D ρ m_ContentStore_pack 63 [(0, .ref x0)] [] M d kc ks Q := by
  refine x_aload_n d_ContentStore_pack_63 rfl 0 rfl trivial ?_
  refine x_dup d_ContentStore_pack_64 rfl ?_
  refine x_getf (k := 7) d_ContentStore_pack_65 ck_ContentStore fk_ContentStore_153 (by decide) h65 rfl ?_
  refine x_iconst (v := 1) d_ContentStore_pack_68 (by decide) ?_
  refine x_iadd d_ContentStore_pack_69 ?_
  refine x_putf (k := 7) (fs' := [f65_0, f65_1, f65_2, f65_3, .int f65_4, .int f65_5, .int f65_6, .int (f65_7 + 1)]) d_ContentStore_pack_70 ck_ContentStore fk_ContentStore_153 (by decide) (Or.inl rfl) rfl h65 (Nat.le_of_ble_eq_true rfl) rfl ?_
  refine x_aload_n d_ContentStore_pack_73 rfl 0 rfl trivial ?_
  refine x_getf (k := 7) d_ContentStore_pack_74 ck_ContentStore fk_ContentStore_153 (by decide) (xset_eq h65) rfl ?_
  refine x_iconst (v := 1) d_ContentStore_pack_77 (by decide) ?_
  refine x_isub d_ContentStore_pack_78 ?_
  exact x_iret d_ContentStore_pack_79 rfl rfl hQ
theorem b_ContentStore_cut_0 {x0 : Value} {x1 : Int32} {x2 : Int32}  (kt : x1 < 0 → Xw l D ρ m_ContentStore_cut 16 [] [] M d kc ks Q) (kf : ¬ x1 < 0 → Xw l D ρ m_ContentStore_cut 4 [(0, x0), (1, .int x1), (2, .int x2)] [] M d kc ks Q) : Xw l D ρ m_ContentStore_cut 0 [(0, x0), (1, .int x1), (2, .int x2)] [] M d kc ks Q := by
  refine x_iload_n d_ContentStore_cut_0 rfl 1 rfl ?_
  exact x_if_lt d_ContentStore_cut_1 (tgt := 16) (by decide) (fun c => x_pick [] rfl (kt c)) (fun c => x_pick [0, 1, 2] rfl (kf c))
theorem b_ContentStore_cut_4 {x0 : Nat} {x1 : Int32} {x2 : Int32} {f6_0 : Value} {f6_1 : Value} {f6_2 : Value} {f6_3 : Value} {f6_4 : Int32} {f6_5 : Int32} {f6_6 : Int32} {f6_7 : Int32} (h6 : M[x0]? = some (cO 0 [f6_0, f6_1, f6_2, f6_3, .int f6_4, .int f6_5, .int f6_6, .int f6_7])) (kt : f6_7 ≤ x1 → Xw l D ρ m_ContentStore_cut 16 [] [] M d kc ks Q) (kf : ¬ f6_7 ≤ x1 → Xw l D ρ m_ContentStore_cut 12 [(0, .ref x0), (1, .int x1), (2, .int x2)] [] M d kc ks Q) : Xw l D ρ m_ContentStore_cut 4 [(0, .ref x0), (1, .int x1), (2, .int x2)] [] M d kc ks Q := by
  refine x_iload_n d_ContentStore_cut_4 rfl 1 rfl ?_
  refine x_aload_n d_ContentStore_cut_5 rfl 0 rfl trivial ?_
  refine x_getf (k := 7) d_ContentStore_cut_6 ck_ContentStore fk_ContentStore_153 (by decide) h6 rfl ?_
  exact x_icmp_ge d_ContentStore_cut_9 (tgt := 16) (by decide) (fun c => x_pick [] rfl (kt c)) (fun c => x_pick [0, 1, 2] rfl (kf c))
theorem b_ContentStore_cut_12 {x0 : Value} {x1 : Int32} {x2 : Int32}  (kt : 0 ≤ x2 → Xw l D ρ m_ContentStore_cut 18 [(0, x0), (1, .int x1), (2, .int x2)] [] M d kc ks Q) (kf : ¬ 0 ≤ x2 → Xw l D ρ m_ContentStore_cut 16 [] [] M d kc ks Q) : Xw l D ρ m_ContentStore_cut 12 [(0, x0), (1, .int x1), (2, .int x2)] [] M d kc ks Q := by
  refine x_iload_n d_ContentStore_cut_12 rfl 2 rfl ?_
  exact x_if_ge d_ContentStore_cut_13 (tgt := 18) (by decide) (fun c => x_pick [0, 1, 2] rfl (kt c)) (fun c => x_pick [] rfl (kf c))
theorem b_ContentStore_cut_16  (hQ : Q (some (.int ((-1)))) M)  : Xw l D ρ m_ContentStore_cut 16 [] [] M d kc ks Q := by
  refine x_iconst (v := (-1)) d_ContentStore_cut_16 (by decide) ?_
  exact x_iret d_ContentStore_cut_17 rfl rfl hQ
theorem b_ContentStore_cut_18 {x0 : Value} {x1 : Int32} {x2 : Int32}  (k : Xw l D ρ m_ContentStore_cut 26 [(0, x0), (1, .int x1), (2, .int x2), (3, .int 0), (4, .int 0), (5, .int 0)] [] M d kc ks Q) : Xw l D ρ m_ContentStore_cut 18 [(0, x0), (1, .int x1), (2, .int x2)] [] M d kc ks Q := by
  refine x_iconst (v := 0) d_ContentStore_cut_18 (by decide) ?_
  refine x_istore_n (i := 3) (L' := [(3, .int 0), (0, x0), (1, .int x1), (2, .int x2)]) d_ContentStore_cut_19 rfl (Nat.le_of_ble_eq_true rfl) rfl ?_
  refine x_iconst (v := 0) d_ContentStore_cut_20 (by decide) ?_
  refine x_istore (i := 4) (L' := [(4, .int 0), (3, .int 0), (0, x0), (1, .int x1), (2, .int x2)]) d_ContentStore_cut_21 (Nat.le_of_ble_eq_true rfl) rfl ?_
  refine x_iconst (v := 0) d_ContentStore_cut_23 (by decide) ?_
  refine x_istore (i := 5) (L' := [(5, .int 0), (4, .int 0), (3, .int 0), (0, x0), (1, .int x1), (2, .int x2)]) d_ContentStore_cut_24 (Nat.le_of_ble_eq_true rfl) rfl ?_
  exact x_pick [3, 4, 5, 2, 1, 0] rfl k
theorem b_ContentStore_cut_26 {x0 : Nat} {x1 : Int32} {x2 : Int32} {x3 : Int32} {x4 : Int32} {x5 : Int32} {f29_0 : Value} {f29_1 : Value} {f29_2 : Value} {f29_3 : Value} {f29_4 : Int32} {f29_5 : Int32} {f29_6 : Int32} {f29_7 : Int32} (h29 : M[x0]? = some (cO 0 [f29_0, f29_1, f29_2, f29_3, .int f29_4, .int f29_5, .int f29_6, .int f29_7])) (kt : f29_6 ≤ x5 → Xw l D ρ m_ContentStore_cut 94 [(3, .int x3)] [] M d kc ks Q) (kf : ¬ f29_6 ≤ x5 → Xw l D ρ m_ContentStore_cut 35 [(0, .ref x0), (1, .int x1), (2, .int x2), (3, .int x3), (4, .int x4), (5, .int x5)] [] M d kc ks Q) : Xw l D ρ m_ContentStore_cut 26 [(0, .ref x0), (1, .int x1), (2, .int x2), (3, .int x3), (4, .int x4), (5, .int x5)] [] M d kc ks Q := by
  refine x_iload d_ContentStore_cut_26 5 rfl ?_
  refine x_aload_n d_ContentStore_cut_28 rfl 0 rfl trivial ?_
  refine x_getf (k := 6) d_ContentStore_cut_29 ck_ContentStore fk_ContentStore_139 (by decide) h29 rfl ?_
  exact x_icmp_ge d_ContentStore_cut_32 (tgt := 94) (by decide) (fun c => x_pick [3] rfl (kt c)) (fun c => x_pick [0, 1, 2, 3, 4, 5] rfl (kf c))
theorem b_ContentStore_cut_35 {x0 : Nat} {x1 : Int32} {x2 : Int32} {x3 : Int32} {x4 : Int32} {x5 : Int32} {cd1 : Nat} {ckc1 : Nat} {cks1 : Nat} {ckc2 : Nat} {cks2 : Nat} {Q1 : Option Value → List xCl → Prop} {fr_0 : Value} {fr_1 : Value} {fr_2 : Value} {fr_3 : Value} {fr_4 : Int32} {fr_5 : Int32} {fr_6 : Int32} {fr_7 : Int32} (hdp : cd1 + 1 ≤ d) (hkc : ckc1 + ckc2 ≤ kc) (hks : cks1 + cks2 ≤ ks) (hr : M[x0]? = some (cO 0 [fr_0, fr_1, fr_2, fr_3, .int fr_4, .int fr_5, .int fr_6, .int fr_7])) (kz : Xw l D ρ m_ContentStore_blobAt 0 [(0, .ref x0), (1, .int x5)] [] M cd1 ckc1 cks1 Q1) (kk : ∀ r N, Q1 r N → Xw l D ρ m_ContentStore_cut 41 [(0, .ref x0), (1, .int x1), (2, .int x2), (3, .int x3), (4, .int x4), (5, .int x5)] (r.toList ++ []) N d ckc2 cks2 Q) : Xw l D ρ m_ContentStore_cut 35 [(0, .ref x0), (1, .int x1), (2, .int x2), (3, .int x3), (4, .int x4), (5, .int x5)] [] M d kc ks Q := by
  refine x_aload_n d_ContentStore_cut_35 rfl 0 rfl trivial ?_
  refine x_iload d_ContentStore_cut_36 5 rfl ?_
  exact x_pick [0, 1, 2, 3, 4, 5] rfl (x_callV (As := [.int x5]) (st := []) (host := "") d_ContentStore_cut_38 rfl mk_ContentStore_blobAt mi_ContentStore_blobAt mv_ContentStore_blobAt (Or.inl kl_ContentStore_86) rfl (Nat.le_of_ble_eq_true rfl) (Nat.le_of_ble_eq_true rfl) ck_ContentStore hr hdp hkc hks rfl kz kk)
theorem b_ContentStore_cut_41 {x0 : Value} {x1 : Int32} {x2 : Int32} {x3 : Int32} {x4 : Int32} {x5 : Int32} {s0 : Nat}  (k : Xw l D ρ m_ContentStore_cut 48 [(0, x0), (1, .int x1), (2, .int x2), (3, .int x3), (4, .int x4), (5, .int x5), (6, .ref s0)] [] M d kc ks Q) : Xw l D ρ m_ContentStore_cut 41 [(0, x0), (1, .int x1), (2, .int x2), (3, .int x3), (4, .int x4), (5, .int x5)] [.ref s0] M d kc ks Q := by
  refine x_astore (i := 6) (L' := [(6, .ref s0), (0, x0), (1, .int x1), (2, .int x2), (3, .int x3), (4, .int x4), (5, .int x5)]) d_ContentStore_cut_41 (Nat.le_of_ble_eq_true rfl) trivial rfl ?_
  refine x_aload d_ContentStore_cut_43 0 rfl trivial ?_
  exact x_ifnull_r d_ContentStore_cut_45 (x_pick [1, 2, 3, 4, 5, 6, 0] rfl k)
theorem b_ContentStore_cut_41_z {x0 : Value} {x1 : Int32} {x2 : Int32} {x3 : Int32} {x4 : Int32} {x5 : Int32}  (k : Xw l D ρ m_ContentStore_cut 88 [(0, x0), (1, .int x1), (2, .int x2), (3, .int x3), (4, .int x4), (5, .int x5)] [] M d kc ks Q) : Xw l D ρ m_ContentStore_cut 41 [(0, x0), (1, .int x1), (2, .int x2), (3, .int x3), (4, .int x4), (5, .int x5)] [.null] M d kc ks Q := by
  refine x_astore (i := 6) (L' := [(6, .null), (0, x0), (1, .int x1), (2, .int x2), (3, .int x3), (4, .int x4), (5, .int x5)]) d_ContentStore_cut_41 (Nat.le_of_ble_eq_true rfl) trivial rfl ?_
  refine x_aload d_ContentStore_cut_43 0 rfl trivial ?_
  exact x_ifnull_z d_ContentStore_cut_45 (tgt := 88) (by decide) (x_pick [1, 2, 3, 4, 5, 6] rfl k)
theorem b_ContentStore_cut_48 {x0 : Value} {x1 : Int32} {x2 : Int32} {x3 : Int32} {x4 : Int32} {x5 : Int32} {x6 : Nat} {f50_0 : Int32} {f50_1 : Int32} {f50_2 : Int64} {f50_3 : Value} {f50_4 : Value} {f50_5 : Int32} {f50_6 : Int32} (h50 : M[x6]? = some (cO 4 [.int f50_0, .int f50_1, .long f50_2, f50_3, f50_4, .int f50_5, .int f50_6])) (kt : ¬ f50_5 = x1 → Xw l D ρ m_ContentStore_cut 88 [(0, x0), (1, .int x1), (2, .int x2), (3, .int x3), (4, .int x4), (5, .int x5)] [] M d kc ks Q) (kf : f50_5 = x1 → Xw l D ρ m_ContentStore_cut 57 [(0, x0), (1, .int x1), (2, .int x2), (3, .int x3), (4, .int x4), (5, .int x5), (6, .ref x6)] [] M d kc ks Q) : Xw l D ρ m_ContentStore_cut 48 [(0, x0), (1, .int x1), (2, .int x2), (3, .int x3), (4, .int x4), (5, .int x5), (6, .ref x6)] [] M d kc ks Q := by
  refine x_aload d_ContentStore_cut_48 6 rfl trivial ?_
  refine x_getf (k := 5) d_ContentStore_cut_50 ck_Blob fk_ContentStore_142 (by decide) h50 rfl ?_
  refine x_iload_n d_ContentStore_cut_53 rfl 1 rfl ?_
  exact x_icmp_ne d_ContentStore_cut_54 (tgt := 88) (by decide) (fun c => x_pick [0, 1, 2, 3, 4, 5] rfl (kt c)) (fun c => x_pick [0, 1, 2, 3, 4, 5, 6] rfl (kf c))
theorem b_ContentStore_cut_57 {x0 : Value} {x1 : Int32} {x2 : Int32} {x3 : Int32} {x4 : Int32} {x5 : Int32} {x6 : Nat} {f61_0 : Int32} {f61_1 : Int32} {f61_2 : Int64} {f61_3 : Value} {f61_4 : Value} {f61_5 : Int32} {f61_6 : Int32} (h61 : M[x6]? = some (cO 4 [.int f61_0, .int f61_1, .long f61_2, f61_3, f61_4, .int f61_5, .int f61_6])) (kt : (x4 + f61_0) ≤ x2 → Xw l D ρ m_ContentStore_cut 88 [(0, x0), (1, .int x1), (2, .int x2), (3, .int x3), (4, .int (x4 + f61_0)), (5, .int x5)] [] M d kc ks Q) (kf : ¬ (x4 + f61_0) ≤ x2 → Xw l D ρ m_ContentStore_cut 73 [(0, x0), (1, .int x1), (2, .int x2), (3, .int x3), (4, .int (x4 + f61_0)), (5, .int x5), (6, .ref x6)] [] M d kc ks Q) : Xw l D ρ m_ContentStore_cut 57 [(0, x0), (1, .int x1), (2, .int x2), (3, .int x3), (4, .int x4), (5, .int x5), (6, .ref x6)] [] M d kc ks Q := by
  refine x_iload d_ContentStore_cut_57 4 rfl ?_
  refine x_aload d_ContentStore_cut_59 6 rfl trivial ?_
  refine x_getf (k := 0) d_ContentStore_cut_61 ck_Blob fk_ContentStore_94 (by decide) h61 rfl ?_
  refine x_iadd d_ContentStore_cut_64 ?_
  refine x_istore (i := 4) (L' := [(4, .int (x4 + f61_0)), (0, x0), (1, .int x1), (2, .int x2), (3, .int x3), (5, .int x5), (6, .ref x6)]) d_ContentStore_cut_65 (Nat.le_of_ble_eq_true rfl) rfl ?_
  refine x_iload d_ContentStore_cut_67 0 rfl ?_
  refine x_iload_n d_ContentStore_cut_69 rfl 3 rfl ?_
  exact x_icmp_le d_ContentStore_cut_70 (tgt := 88) (by decide) (fun c => x_pick [1, 2, 3, 4, 0, 5] rfl (kt c)) (fun c => x_pick [1, 2, 3, 4, 0, 5, 6] rfl (kf c))
theorem b_ContentStore_cut_73 {x0 : Nat} {x1 : Int32} {x2 : Int32} {x3 : Int32} {x4 : Int32} {x5 : Int32} {x6 : Value} {cd1 : Nat} {ckc1 : Nat} {cks1 : Nat} {ckc2 : Nat} {cks2 : Nat} {Q1 : Option Value → List xCl → Prop} {fr_0 : Value} {fr_1 : Value} {fr_2 : Value} {fr_3 : Value} {fr_4 : Int32} {fr_5 : Int32} {fr_6 : Int32} {fr_7 : Int32} (h_x6 : xrf x6) (hdp : cd1 + 1 ≤ d) (hkc : ckc1 + ckc2 ≤ kc) (hks : cks1 + cks2 ≤ ks) (hr : M[x0]? = some (cO 0 [fr_0, fr_1, fr_2, fr_3, .int fr_4, .int fr_5, .int fr_6, .int fr_7])) (kz : Xw l D ρ m_ContentStore_letGo 0 [(0, .ref x0), (1, x6)] [] M cd1 ckc1 cks1 Q1) (kk : ∀ r N, Q1 r N → Xw l D ρ m_ContentStore_cut 79 [(0, .ref x0), (1, .int x1), (2, .int x2), (3, .int x3), (4, .int x4), (5, .int x5)] (r.toList ++ []) N d ckc2 cks2 Q) : Xw l D ρ m_ContentStore_cut 73 [(0, .ref x0), (1, .int x1), (2, .int x2), (3, .int x3), (4, .int x4), (5, .int x5), (6, x6)] [] M d kc ks Q := by
  refine x_aload_n d_ContentStore_cut_73 rfl 0 rfl trivial ?_
  refine x_aload d_ContentStore_cut_74 6 rfl h_x6 ?_
  exact x_pick [0, 1, 2, 3, 4, 5] rfl (x_callV (As := [x6]) (st := []) (host := "") d_ContentStore_cut_76 rfl mk_ContentStore_letGo mi_ContentStore_letGo mv_ContentStore_letGo (Or.inl kl_ContentStore_149) rfl (by simp [lg_sl, m_ContentStore_letGo, xcat_i, xcat_l, xcat_r, xcat_n, xcat_o, xrf_cat h_x6]) (Nat.le_of_ble_eq_true rfl) ck_ContentStore hr hdp hkc hks (by simp [lv_args, xcat_i, xcat_l, xcat_r, xcat_n, xcat_o, xrf_cat h_x6]) kz kk)
theorem b_ContentStore_cut_79 {x0 : Nat} {x1 : Int32} {x2 : Int32} {x3 : Int32} {x4 : Int32} {x5 : Int32} {cd1 : Nat} {ckc1 : Nat} {cks1 : Nat} {ckc2 : Nat} {cks2 : Nat} {Q1 : Option Value → List xCl → Prop} {fr_0 : Value} {fr_1 : Value} {fr_2 : Value} {fr_3 : Value} {fr_4 : Int32} {fr_5 : Int32} {fr_6 : Int32} {fr_7 : Int32} (hdp : cd1 + 1 ≤ d) (hkc : ckc1 + ckc2 ≤ kc) (hks : cks1 + cks2 ≤ ks) (hr : M[x0]? = some (cO 0 [fr_0, fr_1, fr_2, fr_3, .int fr_4, .int fr_5, .int fr_6, .int fr_7])) (kz : Xw l D ρ m_ContentStore_forget 0 [(0, .ref x0), (1, .int x5)] [] M cd1 ckc1 cks1 Q1) (kk : ∀ r N, Q1 r N → Xw l D ρ m_ContentStore_cut 85 [(0, .ref x0), (1, .int x1), (2, .int x2), (3, .int x3), (4, .int x4), (5, .int x5)] (r.toList ++ []) N d ckc2 cks2 Q) : Xw l D ρ m_ContentStore_cut 79 [(0, .ref x0), (1, .int x1), (2, .int x2), (3, .int x3), (4, .int x4), (5, .int x5)] [] M d kc ks Q := by
  refine x_aload_n d_ContentStore_cut_79 rfl 0 rfl trivial ?_
  refine x_iload d_ContentStore_cut_80 5 rfl ?_
  exact x_pick [0, 1, 2, 3, 4, 5] rfl (x_callV (As := [.int x5]) (st := []) (host := "") d_ContentStore_cut_82 rfl mk_ContentStore_forget mi_ContentStore_forget mv_ContentStore_forget (Or.inl kl_ContentStore_156) rfl (Nat.le_of_ble_eq_true rfl) (Nat.le_of_ble_eq_true rfl) ck_ContentStore hr hdp hkc hks rfl kz kk)
theorem b_ContentStore_cut_85 {x0 : Value} {x1 : Int32} {x2 : Int32} {x3 : Int32} {x4 : Int32} {x5 : Int32}  (k : Xw l D ρ m_ContentStore_cut 88 [(0, x0), (1, .int x1), (2, .int x2), (3, .int (x3 + 1)), (4, .int x4), (5, .int x5)] [] M d kc ks Q) : Xw l D ρ m_ContentStore_cut 85 [(0, x0), (1, .int x1), (2, .int x2), (3, .int x3), (4, .int x4), (5, .int x5)] [] M d kc ks Q := by
  refine x_iinc (v := x3 + 1) (L' := [(3, .int (x3 + 1)), (0, x0), (1, .int x1), (2, .int x2), (4, .int x4), (5, .int x5)]) d_ContentStore_cut_85 3 rfl (by rfl) (Nat.le_of_ble_eq_true rfl) rfl ?_
  exact x_pick [1, 2, 3, 0, 4, 5] rfl k
theorem b_ContentStore_cut_88 {x0 : Value} {x1 : Int32} {x2 : Int32} {x3 : Int32} {x4 : Int32} {x5 : Int32}  (k : Xw l D ρ m_ContentStore_cut 26 [(0, x0), (1, .int x1), (2, .int x2), (3, .int x3), (4, .int x4), (5, .int (x5 + 1))] [] M d kc ks Q) : Xw l D ρ m_ContentStore_cut 88 [(0, x0), (1, .int x1), (2, .int x2), (3, .int x3), (4, .int x4), (5, .int x5)] [] M d kc ks Q := by
  refine x_iinc (v := x5 + 1) (L' := [(5, .int (x5 + 1)), (0, x0), (1, .int x1), (2, .int x2), (3, .int x3), (4, .int x4)]) d_ContentStore_cut_88 5 rfl (by rfl) (Nat.le_of_ble_eq_true rfl) rfl ?_
  exact x_goto d_ContentStore_cut_91 (tgt := 26) (by decide) (x_pick [1, 2, 3, 4, 5, 0] rfl k)
theorem b_ContentStore_cut_94 {x3 : Int32} (hQ : Q (some (.int x3)) M)  : Xw l D ρ m_ContentStore_cut 94 [(3, .int x3)] [] M d kc ks Q := by
  refine x_iload_n d_ContentStore_cut_94 rfl 0 rfl ?_
  exact x_iret d_ContentStore_cut_95 rfl rfl hQ
theorem b_ContentStore_forget_0 {x0 : Value} {x1 : Int32}  (k : Xw l D ρ m_ContentStore_forget 2 [(0, x0), (1, .int x1), (2, .int 0)] [] M d kc ks Q) : Xw l D ρ m_ContentStore_forget 0 [(0, x0), (1, .int x1)] [] M d kc ks Q := by
  refine x_iconst (v := 0) d_ContentStore_forget_0 (by decide) ?_
  refine x_istore_n (i := 2) (L' := [(2, .int 0), (0, x0), (1, .int x1)]) d_ContentStore_forget_1 rfl (Nat.le_of_ble_eq_true rfl) rfl ?_
  exact x_pick [1, 2, 0] rfl k
theorem b_ContentStore_forget_2 {x0 : Nat} {x1 : Int32} {x2 : Int32} {f4_0 : Value} {f4_1 : Value} {f4_2 : Value} {f4_3 : Nat} {f4_4 : Int32} {f4_5 : Int32} {f4_6 : Int32} {f4_7 : Int32} {a7 : List Int32} (h4 : M[x0]? = some (cO 0 [f4_0, f4_1, f4_2, .ref f4_3, .int f4_4, .int f4_5, .int f4_6, .int f4_7])) (h7 : M[f4_3]? = some (cI a7)) (kt : (nI a7.length) ≤ x2 → Xw l D ρ m_ContentStore_forget 34 [] [] M d kc ks Q) (kf : ¬ (nI a7.length) ≤ x2 → Xw l D ρ m_ContentStore_forget 11 [(0, .ref x0), (1, .int x1), (2, .int x2)] [] M d kc ks Q) : Xw l D ρ m_ContentStore_forget 2 [(0, .ref x0), (1, .int x1), (2, .int x2)] [] M d kc ks Q := by
  refine x_iload_n d_ContentStore_forget_2 rfl 2 rfl ?_
  refine x_aload_n d_ContentStore_forget_3 rfl 0 rfl trivial ?_
  refine x_getf (k := 3) d_ContentStore_forget_4 ck_ContentStore fk_ContentStore_39 (by decide) h4 rfl ?_
  refine x_alenI d_ContentStore_forget_7 h7 ?_
  exact x_icmp_ge d_ContentStore_forget_8 (tgt := 34) (by decide) (fun c => x_pick [] rfl (kt c)) (fun c => x_pick [0, 1, 2] rfl (kf c))
theorem b_ContentStore_forget_11 {x0 : Nat} {x1 : Int32} {x2 : Int32} {f12_0 : Value} {f12_1 : Value} {f12_2 : Value} {f12_3 : Nat} {f12_4 : Int32} {f12_5 : Int32} {f12_6 : Int32} {f12_7 : Int32} {a16 : List Int32} {j16 : Nat} {v16 : Int32} (h12 : M[x0]? = some (cO 0 [f12_0, f12_1, f12_2, .ref f12_3, .int f12_4, .int f12_5, .int f12_6, .int f12_7])) (h16 : M[f12_3]? = some (cI a16)) (e16 : x2 = nI j16) (g16 : a16[j16]? = some v16) (b16 : a16.length ≤ 100000000) (kt : ¬ v16 = x1 → Xw l D ρ m_ContentStore_forget 28 [(0, .ref x0), (1, .int x1), (2, .int x2)] [] M d kc ks Q) (kf : v16 = x1 → Xw l D ρ m_ContentStore_forget 21 [(0, .ref x0), (1, .int x1), (2, .int x2)] [] M d kc ks Q) : Xw l D ρ m_ContentStore_forget 11 [(0, .ref x0), (1, .int x1), (2, .int x2)] [] M d kc ks Q := by
  refine x_aload_n d_ContentStore_forget_11 rfl 0 rfl trivial ?_
  refine x_getf (k := 3) d_ContentStore_forget_12 ck_ContentStore fk_ContentStore_39 (by decide) h12 rfl ?_
  refine x_iload_n d_ContentStore_forget_15 rfl 2 rfl ?_
  refine x_iald d_ContentStore_forget_16 e16 h16 g16 b16 ?_
  refine x_iload_n d_ContentStore_forget_17 rfl 1 rfl ?_
  exact x_icmp_ne d_ContentStore_forget_18 (tgt := 28) (by decide) (fun c => x_pick [0, 1, 2] rfl (kt c)) (fun c => x_pick [0, 1, 2] rfl (kf c))
theorem b_ContentStore_forget_21 {x0 : Nat} {x1 : Int32} {x2 : Int32} {f22_0 : Value} {f22_1 : Value} {f22_2 : Value} {f22_3 : Nat} {f22_4 : Int32} {f22_5 : Int32} {f22_6 : Int32} {f22_7 : Int32} {a27 : List Int32} {j27 : Nat} (h22 : M[x0]? = some (cO 0 [f22_0, f22_1, f22_2, .ref f22_3, .int f22_4, .int f22_5, .int f22_6, .int f22_7])) (h27 : M[f22_3]? = some (cI a27)) (e27 : x2 = nI j27) (g27 : j27 < a27.length) (b27 : a27.length ≤ 100000000) (k : Xw l D ρ m_ContentStore_forget 28 [(0, .ref x0), (1, .int x1), (2, .int x2)] [] (M.set f22_3 (cI (a27.set j27 ((-1))))) d kc ks Q) : Xw l D ρ m_ContentStore_forget 21 [(0, .ref x0), (1, .int x1), (2, .int x2)] [] M d kc ks Q := by
  refine x_aload_n d_ContentStore_forget_21 rfl 0 rfl trivial ?_
  refine x_getf (k := 3) d_ContentStore_forget_22 ck_ContentStore fk_ContentStore_39 (by decide) h22 rfl ?_
  refine x_iload_n d_ContentStore_forget_25 rfl 2 rfl ?_
  refine x_iconst (v := (-1)) d_ContentStore_forget_26 (by decide) ?_
  refine x_iast d_ContentStore_forget_27 e27 h27 g27 b27 ?_
  exact x_pick [0, 1, 2] rfl k
theorem b_ContentStore_forget_28 {x0 : Value} {x1 : Int32} {x2 : Int32}  (k : Xw l D ρ m_ContentStore_forget 2 [(0, x0), (1, .int x1), (2, .int (x2 + 1))] [] M d kc ks Q) : Xw l D ρ m_ContentStore_forget 28 [(0, x0), (1, .int x1), (2, .int x2)] [] M d kc ks Q := by
  refine x_iinc (v := x2 + 1) (L' := [(2, .int (x2 + 1)), (0, x0), (1, .int x1)]) d_ContentStore_forget_28 2 rfl (by rfl) (Nat.le_of_ble_eq_true rfl) rfl ?_
  exact x_goto d_ContentStore_forget_31 (tgt := 2) (by decide) (x_pick [1, 2, 0] rfl k)
theorem b_ContentStore_forget_34  (hQ : Q none M)  : Xw l D ρ m_ContentStore_forget 34 [] [] M d kc ks Q := by
  exact x_vret d_ContentStore_forget_34 rfl hQ
theorem b_ContentStore_packOf_0 {x0 : Nat} {x1 : Int32} {cd1 : Nat} {ckc1 : Nat} {cks1 : Nat} {ckc2 : Nat} {cks2 : Nat} {Q1 : Option Value → List xCl → Prop} {fr_0 : Value} {fr_1 : Value} {fr_2 : Value} {fr_3 : Value} {fr_4 : Int32} {fr_5 : Int32} {fr_6 : Int32} {fr_7 : Int32} (hdp : cd1 + 1 ≤ d) (hkc : ckc1 + ckc2 ≤ kc) (hks : cks1 + cks2 ≤ ks) (hr : M[x0]? = some (cO 0 [fr_0, fr_1, fr_2, fr_3, .int fr_4, .int fr_5, .int fr_6, .int fr_7])) (kz : Xw l D ρ m_ContentStore_blobAt 0 [(0, .ref x0), (1, .int x1)] [] M cd1 ckc1 cks1 Q1) (kk : ∀ r N, Q1 r N → Xw l D ρ m_ContentStore_packOf 5 [] (r.toList ++ []) N d ckc2 cks2 Q) : Xw l D ρ m_ContentStore_packOf 0 [(0, .ref x0), (1, .int x1)] [] M d kc ks Q := by
  refine x_aload_n d_ContentStore_packOf_0 rfl 0 rfl trivial ?_
  refine x_iload_n d_ContentStore_packOf_1 rfl 1 rfl ?_
  exact x_pick [] rfl (x_callV (As := [.int x1]) (st := []) (host := "") d_ContentStore_packOf_2 rfl mk_ContentStore_blobAt mi_ContentStore_blobAt mv_ContentStore_blobAt (Or.inl kl_ContentStore_86) rfl (Nat.le_of_ble_eq_true rfl) (Nat.le_of_ble_eq_true rfl) ck_ContentStore hr hdp hkc hks rfl kz kk)
theorem b_ContentStore_packOf_5 {s0 : Nat}  (k : Xw l D ρ m_ContentStore_packOf 14 [(2, .ref s0)] [] M d kc ks Q) : Xw l D ρ m_ContentStore_packOf 5 [] [.ref s0] M d kc ks Q := by
  refine x_astore_n (i := 2) (L' := [(2, .ref s0)]) d_ContentStore_packOf_5 rfl (Nat.le_of_ble_eq_true rfl) trivial rfl ?_
  refine x_aload_n d_ContentStore_packOf_6 rfl 0 rfl trivial ?_
  exact x_ifnonnull_r d_ContentStore_packOf_7 (tgt := 14) (by decide) (x_pick [0] rfl k)
theorem b_ContentStore_packOf_5_z   (k : Xw l D ρ m_ContentStore_packOf 10 [] [] M d kc ks Q) : Xw l D ρ m_ContentStore_packOf 5 [] [.null] M d kc ks Q := by
  refine x_astore_n (i := 2) (L' := [(2, .null)]) d_ContentStore_packOf_5 rfl (Nat.le_of_ble_eq_true rfl) trivial rfl ?_
  refine x_aload_n d_ContentStore_packOf_6 rfl 0 rfl trivial ?_
  exact x_ifnonnull_z d_ContentStore_packOf_7 (x_pick [] rfl k)
theorem b_ContentStore_packOf_10   (k : Xw l D ρ m_ContentStore_packOf 18 [] [.int ((-1))] M d kc ks Q) : Xw l D ρ m_ContentStore_packOf 10 [] [] M d kc ks Q := by
  refine x_iconst (v := (-1)) d_ContentStore_packOf_10 (by decide) ?_
  exact x_goto d_ContentStore_packOf_11 (tgt := 18) (by decide) (x_pick [] rfl k)
theorem b_ContentStore_packOf_14 {x2 : Nat} {f15_0 : Int32} {f15_1 : Int32} {f15_2 : Int64} {f15_3 : Value} {f15_4 : Value} {f15_5 : Int32} {f15_6 : Int32} (h15 : M[x2]? = some (cO 4 [.int f15_0, .int f15_1, .long f15_2, f15_3, f15_4, .int f15_5, .int f15_6])) (k : Xw l D ρ m_ContentStore_packOf 18 [] [.int f15_5] M d kc ks Q) : Xw l D ρ m_ContentStore_packOf 14 [(2, .ref x2)] [] M d kc ks Q := by
  refine x_aload_n d_ContentStore_packOf_14 rfl 0 rfl trivial ?_
  refine x_getf (k := 5) d_ContentStore_packOf_15 ck_Blob fk_ContentStore_142 (by decide) h15 rfl ?_
  exact x_pick [] rfl k
theorem b_ContentStore_packOf_18 {s0 : Int32} (hQ : Q (some (.int s0)) M)  : Xw l D ρ m_ContentStore_packOf 18 [] [.int s0] M d kc ks Q := by
  exact x_iret d_ContentStore_packOf_18 rfl rfl hQ
theorem b_ContentStore_count_0 {x0 : Value} {x1 : Int32}  (kt : 0 ≤ x1 → Xw l D ρ m_ContentStore_count 6 [(0, x0), (1, .int x1)] [] M d kc ks Q) (kf : ¬ 0 ≤ x1 → Xw l D ρ m_ContentStore_count 4 [] [] M d kc ks Q) : Xw l D ρ m_ContentStore_count 0 [(0, x0), (1, .int x1)] [] M d kc ks Q := by
  refine x_iload_n d_ContentStore_count_0 rfl 1 rfl ?_
  exact x_if_ge d_ContentStore_count_1 (tgt := 6) (by decide) (fun c => x_pick [0, 1] rfl (kt c)) (fun c => x_pick [] rfl (kf c))
theorem b_ContentStore_count_4  (hQ : Q (some (.int ((-1)))) M)  : Xw l D ρ m_ContentStore_count 4 [] [] M d kc ks Q := by
  refine x_iconst (v := (-1)) d_ContentStore_count_4 (by decide) ?_
  exact x_iret d_ContentStore_count_5 rfl rfl hQ
theorem b_ContentStore_count_6 {x0 : Value} {x1 : Int32}  (kt0 : x1 = 0 → Xw l D ρ m_ContentStore_count 32 [(0, x0)] [] M d kc ks Q) (kt1 : x1 = 1 → Xw l D ρ m_ContentStore_count 43 [(0, x0)] [] M d kc ks Q) (kt2 : x1 = 2 → Xw l D ρ m_ContentStore_count 51 [(0, x0)] [] M d kc ks Q) (kf : (x1.toInt < 0 ∨ 2 < x1.toInt) → Xw l D ρ m_ContentStore_count 56 [(0, x0), (1, .int x1)] [] M d kc ks Q) : Xw l D ρ m_ContentStore_count 6 [(0, x0), (1, .int x1)] [] M d kc ks Q := by
  refine x_iload_n d_ContentStore_count_6 rfl 1 rfl ?_
  rcases Decidable.em (x1.toInt < 0 ∨ 2 < x1.toInt) with h | h
  · exact x_tableOut d_ContentStore_count_7 h (tgt := 56) (by decide) (x_pick [0, 1] rfl (kf h))
  · have h1 : x1.toInt = 0 ∨ x1.toInt = 1 ∨ x1.toInt = 2 := by omega
    rcases h1 with h1 | h1 | h1
    · exact x_tableIn d_ContentStore_count_7 (off := 25) (tgt := 32) (by omega) (by omega) (by rw [h1]; rfl) (by decide) (x_pick [0] rfl (kt0 (Int32.toInt_inj.mp (by rw [h1]; decide))))
    · exact x_tableIn d_ContentStore_count_7 (off := 36) (tgt := 43) (by omega) (by omega) (by rw [h1]; rfl) (by decide) (x_pick [0] rfl (kt1 (Int32.toInt_inj.mp (by rw [h1]; decide))))
    · exact x_tableIn d_ContentStore_count_7 (off := 44) (tgt := 51) (by omega) (by omega) (by rw [h1]; rfl) (by decide) (x_pick [0] rfl (kt2 (Int32.toInt_inj.mp (by rw [h1]; decide))))
theorem b_ContentStore_count_32 {x0 : Nat} {f33_0 : Nat} {f33_1 : Value} {f33_2 : Value} {f33_3 : Value} {f33_4 : Int32} {f33_5 : Int32} {f33_6 : Int32} {f33_7 : Int32} {f36_0 : Int32} {f36_1 : Nat} {f36_2 : Int32} {cd1 : Nat} {ckc1 : Nat} {cks1 : Nat} {ckc2 : Nat} {cks2 : Nat} {Q1 : Option Value → List xCl → Prop} {fr_0 : Value} {fr_1 : Int32} {fr_2 : Int32} (h33 : M[x0]? = some (cO 0 [.ref f33_0, f33_1, f33_2, f33_3, .int f33_4, .int f33_5, .int f33_6, .int f33_7])) (h36 : M[f33_0]? = some (cO 1 [.int f36_0, .ref f36_1, .int f36_2])) (hdp : cd1 + 1 ≤ d) (hkc : ckc1 + ckc2 ≤ kc) (hks : cks1 + cks2 ≤ ks) (hr : M[f36_1]? = some (cO 2 [fr_0, .int fr_1, .int fr_2])) (kz : Xw l D ρ m_ArrayList_size 0 [(0, .ref f36_1)] [] M cd1 ckc1 cks1 Q1) (kk : ∀ r N, Q1 r N → Xw l D ρ m_ContentStore_count 42 [] (r.toList ++ []) N d ckc2 cks2 Q) : Xw l D ρ m_ContentStore_count 32 [(0, .ref x0)] [] M d kc ks Q := by
  refine x_aload_n d_ContentStore_count_32 rfl 0 rfl trivial ?_
  refine x_getf (k := 0) d_ContentStore_count_33 ck_ContentStore fk_ContentStore_23 (by decide) h33 rfl ?_
  refine x_getf (k := 1) d_ContentStore_count_36 ck_Shelf fk_ContentStore_159 (by decide) h36 rfl ?_
  exact x_pick [] rfl (x_callV (As := []) (st := []) (host := "") d_ContentStore_count_39 rfl mk_ArrayList_size mi_ArrayList_size mv_ArrayList_size (Or.inl kl_ContentStore_162) rfl (Nat.le_of_ble_eq_true rfl) (Nat.le_of_ble_eq_true rfl) ck_ArrayList hr hdp hkc hks rfl kz kk)
theorem b_ContentStore_count_42 {s0 : Int32} (hQ : Q (some (.int s0)) M)  : Xw l D ρ m_ContentStore_count 42 [] [.int s0] M d kc ks Q := by
  exact x_iret d_ContentStore_count_42 rfl rfl hQ
theorem b_ContentStore_count_43 {x0 : Nat} {f44_0 : Nat} {f44_1 : Value} {f44_2 : Value} {f44_3 : Value} {f44_4 : Int32} {f44_5 : Int32} {f44_6 : Int32} {f44_7 : Int32} {f47_0 : Int32} {f47_1 : Value} {f47_2 : Int32} (h44 : M[x0]? = some (cO 0 [.ref f44_0, f44_1, f44_2, f44_3, .int f44_4, .int f44_5, .int f44_6, .int f44_7])) (h47 : M[f44_0]? = some (cO 1 [.int f47_0, f47_1, .int f47_2])) (hQ : Q (some (.int f47_2)) M)  : Xw l D ρ m_ContentStore_count 43 [(0, .ref x0)] [] M d kc ks Q := by
  refine x_aload_n d_ContentStore_count_43 rfl 0 rfl trivial ?_
  refine x_getf (k := 0) d_ContentStore_count_44 ck_ContentStore fk_ContentStore_23 (by decide) h44 rfl ?_
  refine x_getf (k := 2) d_ContentStore_count_47 ck_Shelf fk_ContentStore_167 (by decide) h47 rfl ?_
  exact x_iret d_ContentStore_count_50 rfl rfl hQ
theorem b_ContentStore_count_51 {x0 : Nat} {cd1 : Nat} {ckc1 : Nat} {cks1 : Nat} {ckc2 : Nat} {cks2 : Nat} {Q1 : Option Value → List xCl → Prop} {fr_0 : Value} {fr_1 : Value} {fr_2 : Value} {fr_3 : Value} {fr_4 : Int32} {fr_5 : Int32} {fr_6 : Int32} {fr_7 : Int32} (hdp : cd1 + 1 ≤ d) (hkc : ckc1 + ckc2 ≤ kc) (hks : cks1 + cks2 ≤ ks) (hr : M[x0]? = some (cO 0 [fr_0, fr_1, fr_2, fr_3, .int fr_4, .int fr_5, .int fr_6, .int fr_7])) (kz : Xw l D ρ m_ContentStore_blobsThere 0 [(0, .ref x0)] [] M cd1 ckc1 cks1 Q1) (kk : ∀ r N, Q1 r N → Xw l D ρ m_ContentStore_count 55 [] (r.toList ++ []) N d ckc2 cks2 Q) : Xw l D ρ m_ContentStore_count 51 [(0, .ref x0)] [] M d kc ks Q := by
  refine x_aload_n d_ContentStore_count_51 rfl 0 rfl trivial ?_
  exact x_pick [] rfl (x_callV (As := []) (st := []) (host := "") d_ContentStore_count_52 rfl mk_ContentStore_blobsThere mi_ContentStore_blobsThere mv_ContentStore_blobsThere (Or.inl kl_ContentStore_170) rfl (Nat.le_of_ble_eq_true rfl) (Nat.le_of_ble_eq_true rfl) ck_ContentStore hr hdp hkc hks rfl kz kk)
theorem b_ContentStore_count_55 {s0 : Int32} (hQ : Q (some (.int s0)) M)  : Xw l D ρ m_ContentStore_count 55 [] [.int s0] M d kc ks Q := by
  exact x_iret d_ContentStore_count_55 rfl rfl hQ
theorem b_ContentStore_count_56 {x0 : Nat} {x1 : Int32} {cd1 : Nat} {ckc1 : Nat} {cks1 : Nat} {ckc2 : Nat} {cks2 : Nat} {Q1 : Option Value → List xCl → Prop} {fr_0 : Value} {fr_1 : Value} {fr_2 : Value} {fr_3 : Value} {fr_4 : Int32} {fr_5 : Int32} {fr_6 : Int32} {fr_7 : Int32} (hdp : cd1 + 1 ≤ d) (hkc : ckc1 + ckc2 ≤ kc) (hks : cks1 + cks2 ≤ ks) (hr : M[x0]? = some (cO 0 [fr_0, fr_1, fr_2, fr_3, .int fr_4, .int fr_5, .int fr_6, .int fr_7])) (kz : Xw l D ρ m_ContentStore_sharersOfFirst 0 [(0, .ref x0), (1, .int (x1 - 3))] [] M cd1 ckc1 cks1 Q1) (kk : ∀ r N, Q1 r N → Xw l D ρ m_ContentStore_count 63 [] (r.toList ++ []) N d ckc2 cks2 Q) : Xw l D ρ m_ContentStore_count 56 [(0, .ref x0), (1, .int x1)] [] M d kc ks Q := by
  refine x_aload_n d_ContentStore_count_56 rfl 0 rfl trivial ?_
  refine x_iload_n d_ContentStore_count_57 rfl 1 rfl ?_
  refine x_iconst (v := 3) d_ContentStore_count_58 (by decide) ?_
  refine x_isub d_ContentStore_count_59 ?_
  exact x_pick [] rfl (x_callV (As := [.int (x1 - 3)]) (st := []) (host := "") d_ContentStore_count_60 rfl mk_ContentStore_sharersOfFirst mi_ContentStore_sharersOfFirst mv_ContentStore_sharersOfFirst (Or.inl kl_ContentStore_173) rfl (Nat.le_of_ble_eq_true rfl) (Nat.le_of_ble_eq_true rfl) ck_ContentStore hr hdp hkc hks rfl kz kk)
theorem b_ContentStore_count_63 {s0 : Int32} (hQ : Q (some (.int s0)) M)  : Xw l D ρ m_ContentStore_count 63 [] [.int s0] M d kc ks Q := by
  exact x_iret d_ContentStore_count_63 rfl rfl hQ
theorem b_ContentStore_blobsThere_0 {x0 : Value} (h_x0 : xrf x0) (k : Xw l D ρ m_ContentStore_blobsThere 4 [(0, x0), (1, .int 0), (2, .int 0)] [] M d kc ks Q) : Xw l D ρ m_ContentStore_blobsThere 0 [(0, x0)] [] M d kc ks Q := by
  refine x_iconst (v := 0) d_ContentStore_blobsThere_0 (by decide) ?_
  refine x_istore_n (i := 1) (L' := [(1, .int 0), (0, x0)]) d_ContentStore_blobsThere_1 rfl (Nat.le_of_ble_eq_true rfl) (by simp [xrf_cat h_x0]) ?_
  refine x_iconst (v := 0) d_ContentStore_blobsThere_2 (by decide) ?_
  refine x_istore_n (i := 2) (L' := [(2, .int 0), (1, .int 0), (0, x0)]) d_ContentStore_blobsThere_3 rfl (Nat.le_of_ble_eq_true rfl) rfl ?_
  exact x_pick [2, 1, 0] rfl k
theorem b_ContentStore_blobsThere_4 {x0 : Nat} {x1 : Int32} {x2 : Int32} {f6_0 : Value} {f6_1 : Value} {f6_2 : Value} {f6_3 : Value} {f6_4 : Int32} {f6_5 : Int32} {f6_6 : Int32} {f6_7 : Int32} (h6 : M[x0]? = some (cO 0 [f6_0, f6_1, f6_2, f6_3, .int f6_4, .int f6_5, .int f6_6, .int f6_7])) (kt : f6_6 ≤ x2 → Xw l D ρ m_ContentStore_blobsThere 29 [(1, .int x1)] [] M d kc ks Q) (kf : ¬ f6_6 ≤ x2 → Xw l D ρ m_ContentStore_blobsThere 12 [(0, .ref x0), (1, .int x1), (2, .int x2)] [] M d kc ks Q) : Xw l D ρ m_ContentStore_blobsThere 4 [(0, .ref x0), (1, .int x1), (2, .int x2)] [] M d kc ks Q := by
  refine x_iload_n d_ContentStore_blobsThere_4 rfl 2 rfl ?_
  refine x_aload_n d_ContentStore_blobsThere_5 rfl 0 rfl trivial ?_
  refine x_getf (k := 6) d_ContentStore_blobsThere_6 ck_ContentStore fk_ContentStore_139 (by decide) h6 rfl ?_
  exact x_icmp_ge d_ContentStore_blobsThere_9 (tgt := 29) (by decide) (fun c => x_pick [1] rfl (kt c)) (fun c => x_pick [0, 1, 2] rfl (kf c))
theorem b_ContentStore_blobsThere_12 {x0 : Nat} {x1 : Int32} {x2 : Int32} {cd1 : Nat} {ckc1 : Nat} {cks1 : Nat} {ckc2 : Nat} {cks2 : Nat} {Q1 : Option Value → List xCl → Prop} {fr_0 : Value} {fr_1 : Value} {fr_2 : Value} {fr_3 : Value} {fr_4 : Int32} {fr_5 : Int32} {fr_6 : Int32} {fr_7 : Int32} (hdp : cd1 + 1 ≤ d) (hkc : ckc1 + ckc2 ≤ kc) (hks : cks1 + cks2 ≤ ks) (hr : M[x0]? = some (cO 0 [fr_0, fr_1, fr_2, fr_3, .int fr_4, .int fr_5, .int fr_6, .int fr_7])) (kz : Xw l D ρ m_ContentStore_blobAt 0 [(0, .ref x0), (1, .int x2)] [] M cd1 ckc1 cks1 Q1) (kk : ∀ r N, Q1 r N → Xw l D ρ m_ContentStore_blobsThere 17 [(0, .ref x0), (1, .int x1), (2, .int x2)] (r.toList ++ []) N d ckc2 cks2 Q) : Xw l D ρ m_ContentStore_blobsThere 12 [(0, .ref x0), (1, .int x1), (2, .int x2)] [] M d kc ks Q := by
  refine x_aload_n d_ContentStore_blobsThere_12 rfl 0 rfl trivial ?_
  refine x_iload_n d_ContentStore_blobsThere_13 rfl 2 rfl ?_
  exact x_pick [0, 1, 2] rfl (x_callV (As := [.int x2]) (st := []) (host := "") d_ContentStore_blobsThere_14 rfl mk_ContentStore_blobAt mi_ContentStore_blobAt mv_ContentStore_blobAt (Or.inl kl_ContentStore_86) rfl (Nat.le_of_ble_eq_true rfl) (Nat.le_of_ble_eq_true rfl) ck_ContentStore hr hdp hkc hks rfl kz kk)
theorem b_ContentStore_blobsThere_17 {x0 : Value} {x1 : Int32} {x2 : Int32} {s0 : Nat}  (k : Xw l D ρ m_ContentStore_blobsThere 20 [(0, x0), (1, .int x1), (2, .int x2)] [] M d kc ks Q) : Xw l D ρ m_ContentStore_blobsThere 17 [(0, x0), (1, .int x1), (2, .int x2)] [.ref s0] M d kc ks Q := by
  exact x_ifnull_r d_ContentStore_blobsThere_17 (x_pick [0, 1, 2] rfl k)
theorem b_ContentStore_blobsThere_17_z {x0 : Value} {x1 : Int32} {x2 : Int32}  (k : Xw l D ρ m_ContentStore_blobsThere 23 [(0, x0), (1, .int x1), (2, .int x2)] [] M d kc ks Q) : Xw l D ρ m_ContentStore_blobsThere 17 [(0, x0), (1, .int x1), (2, .int x2)] [.null] M d kc ks Q := by
  exact x_ifnull_z d_ContentStore_blobsThere_17 (tgt := 23) (by decide) (x_pick [0, 1, 2] rfl k)
theorem b_ContentStore_blobsThere_20 {x0 : Value} {x1 : Int32} {x2 : Int32} (h_x0 : xrf x0) (k : Xw l D ρ m_ContentStore_blobsThere 23 [(0, x0), (1, .int (x1 + 1)), (2, .int x2)] [] M d kc ks Q) : Xw l D ρ m_ContentStore_blobsThere 20 [(0, x0), (1, .int x1), (2, .int x2)] [] M d kc ks Q := by
  refine x_iinc (v := x1 + 1) (L' := [(1, .int (x1 + 1)), (0, x0), (2, .int x2)]) d_ContentStore_blobsThere_20 1 rfl (by rfl) (Nat.le_of_ble_eq_true rfl) (by simp [xrf_cat h_x0]) ?_
  exact x_pick [1, 0, 2] rfl k
theorem b_ContentStore_blobsThere_23 {x0 : Value} {x1 : Int32} {x2 : Int32}  (k : Xw l D ρ m_ContentStore_blobsThere 4 [(0, x0), (1, .int x1), (2, .int (x2 + 1))] [] M d kc ks Q) : Xw l D ρ m_ContentStore_blobsThere 23 [(0, x0), (1, .int x1), (2, .int x2)] [] M d kc ks Q := by
  refine x_iinc (v := x2 + 1) (L' := [(2, .int (x2 + 1)), (0, x0), (1, .int x1)]) d_ContentStore_blobsThere_23 2 rfl (by rfl) (Nat.le_of_ble_eq_true rfl) rfl ?_
  exact x_goto d_ContentStore_blobsThere_26 (tgt := 4) (by decide) (x_pick [1, 2, 0] rfl k)
theorem b_ContentStore_blobsThere_29 {x1 : Int32} (hQ : Q (some (.int x1)) M)  : Xw l D ρ m_ContentStore_blobsThere 29 [(1, .int x1)] [] M d kc ks Q := by
  refine x_iload_n d_ContentStore_blobsThere_29 rfl 0 rfl ?_
  exact x_iret d_ContentStore_blobsThere_30 rfl rfl hQ
theorem b_ContentStore_sharersOfFirst_0 {x0 : Nat} {x1 : Int32} {cd1 : Nat} {ckc1 : Nat} {cks1 : Nat} {ckc2 : Nat} {cks2 : Nat} {Q1 : Option Value → List xCl → Prop} {fr_0 : Value} {fr_1 : Value} {fr_2 : Value} {fr_3 : Value} {fr_4 : Int32} {fr_5 : Int32} {fr_6 : Int32} {fr_7 : Int32} (hdp : cd1 + 1 ≤ d) (hkc : ckc1 + ckc2 ≤ kc) (hks : cks1 + cks2 ≤ ks) (hr : M[x0]? = some (cO 0 [fr_0, fr_1, fr_2, fr_3, .int fr_4, .int fr_5, .int fr_6, .int fr_7])) (kz : Xw l D ρ m_ContentStore_blobAt 0 [(0, .ref x0), (1, .int x1)] [] M cd1 ckc1 cks1 Q1) (kk : ∀ r N, Q1 r N → Xw l D ρ m_ContentStore_sharersOfFirst 5 [(0, .ref x0)] (r.toList ++ []) N d ckc2 cks2 Q) : Xw l D ρ m_ContentStore_sharersOfFirst 0 [(0, .ref x0), (1, .int x1)] [] M d kc ks Q := by
  refine x_aload_n d_ContentStore_sharersOfFirst_0 rfl 0 rfl trivial ?_
  refine x_iload_n d_ContentStore_sharersOfFirst_1 rfl 1 rfl ?_
  exact x_pick [0] rfl (x_callV (As := [.int x1]) (st := []) (host := "") d_ContentStore_sharersOfFirst_2 rfl mk_ContentStore_blobAt mi_ContentStore_blobAt mv_ContentStore_blobAt (Or.inl kl_ContentStore_86) rfl (Nat.le_of_ble_eq_true rfl) (Nat.le_of_ble_eq_true rfl) ck_ContentStore hr hdp hkc hks rfl kz kk)
theorem b_ContentStore_sharersOfFirst_5 {x0 : Value} {s0 : Nat}  (k : Xw l D ρ m_ContentStore_sharersOfFirst 14 [(0, x0), (2, .ref s0)] [] M d kc ks Q) : Xw l D ρ m_ContentStore_sharersOfFirst 5 [(0, x0)] [.ref s0] M d kc ks Q := by
  refine x_astore_n (i := 2) (L' := [(2, .ref s0), (0, x0)]) d_ContentStore_sharersOfFirst_5 rfl (Nat.le_of_ble_eq_true rfl) trivial rfl ?_
  refine x_aload_n d_ContentStore_sharersOfFirst_6 rfl 0 rfl trivial ?_
  exact x_ifnonnull_r d_ContentStore_sharersOfFirst_7 (tgt := 14) (by decide) (x_pick [1, 0] rfl k)
theorem b_ContentStore_sharersOfFirst_5_z {x0 : Value}  (k : Xw l D ρ m_ContentStore_sharersOfFirst 10 [(0, x0)] [] M d kc ks Q) : Xw l D ρ m_ContentStore_sharersOfFirst 5 [(0, x0)] [.null] M d kc ks Q := by
  refine x_astore_n (i := 2) (L' := [(2, .null), (0, x0)]) d_ContentStore_sharersOfFirst_5 rfl (Nat.le_of_ble_eq_true rfl) trivial rfl ?_
  refine x_aload_n d_ContentStore_sharersOfFirst_6 rfl 0 rfl trivial ?_
  exact x_ifnonnull_z d_ContentStore_sharersOfFirst_7 (x_pick [1] rfl k)
theorem b_ContentStore_sharersOfFirst_10 {x0 : Value}  (k : Xw l D ρ m_ContentStore_sharersOfFirst 19 [(0, x0)] [.null] M d kc ks Q) : Xw l D ρ m_ContentStore_sharersOfFirst 10 [(0, x0)] [] M d kc ks Q := by
  refine x_null d_ContentStore_sharersOfFirst_10 ?_
  exact x_goto d_ContentStore_sharersOfFirst_11 (tgt := 19) (by decide) (x_pick [0] rfl k)
theorem b_ContentStore_sharersOfFirst_14 {x0 : Value} {x2 : Nat} {cd1 : Nat} {ckc1 : Nat} {cks1 : Nat} {ckc2 : Nat} {cks2 : Nat} {Q1 : Option Value → List xCl → Prop} {fr_0 : Int32} {fr_1 : Int32} {fr_2 : Int64} {fr_3 : Value} {fr_4 : Value} {fr_5 : Int32} {fr_6 : Int32} (hdp : cd1 + 1 ≤ d) (hkc : ckc1 + ckc2 ≤ kc) (hks : cks1 + cks2 ≤ ks) (hr : M[x2]? = some (cO 4 [.int fr_0, .int fr_1, .long fr_2, fr_3, fr_4, .int fr_5, .int fr_6])) (kz : Xw l D ρ m_Blob_partOf 0 [(0, .ref x2), (1, .int 0)] [] M cd1 ckc1 cks1 Q1) (kk : ∀ r N, Q1 r N → Xw l D ρ m_ContentStore_sharersOfFirst 19 [(0, x0)] (r.toList ++ []) N d ckc2 cks2 Q) : Xw l D ρ m_ContentStore_sharersOfFirst 14 [(0, x0), (2, .ref x2)] [] M d kc ks Q := by
  refine x_aload_n d_ContentStore_sharersOfFirst_14 rfl 1 rfl trivial ?_
  refine x_iconst (v := 0) d_ContentStore_sharersOfFirst_15 (by decide) ?_
  exact x_pick [0] rfl (x_callV (As := [.int 0]) (st := []) (host := "") d_ContentStore_sharersOfFirst_16 rfl mk_Blob_partOf mi_Blob_partOf mv_Blob_partOf (Or.inl kl_ContentStore_97) rfl (Nat.le_of_ble_eq_true rfl) (Nat.le_of_ble_eq_true rfl) ck_Blob hr hdp hkc hks rfl kz kk)
theorem b_ContentStore_sharersOfFirst_19 {x0 : Value} {s0 : Nat}  (k : Xw l D ρ m_ContentStore_sharersOfFirst 26 [(0, x0), (3, .ref s0)] [] M d kc ks Q) : Xw l D ρ m_ContentStore_sharersOfFirst 19 [(0, x0)] [.ref s0] M d kc ks Q := by
  refine x_astore_n (i := 3) (L' := [(3, .ref s0), (0, x0)]) d_ContentStore_sharersOfFirst_19 rfl (Nat.le_of_ble_eq_true rfl) trivial rfl ?_
  refine x_aload_n d_ContentStore_sharersOfFirst_20 rfl 0 rfl trivial ?_
  exact x_ifnonnull_r d_ContentStore_sharersOfFirst_21 (tgt := 26) (by decide) (x_pick [1, 0] rfl k)
theorem b_ContentStore_sharersOfFirst_19_z {x0 : Value}  (k : Xw l D ρ m_ContentStore_sharersOfFirst 24 [] [] M d kc ks Q) : Xw l D ρ m_ContentStore_sharersOfFirst 19 [(0, x0)] [.null] M d kc ks Q := by
  refine x_astore_n (i := 3) (L' := [(3, .null), (0, x0)]) d_ContentStore_sharersOfFirst_19 rfl (Nat.le_of_ble_eq_true rfl) trivial rfl ?_
  refine x_aload_n d_ContentStore_sharersOfFirst_20 rfl 0 rfl trivial ?_
  exact x_ifnonnull_z d_ContentStore_sharersOfFirst_21 (x_pick [] rfl k)
theorem b_ContentStore_sharersOfFirst_24  (hQ : Q (some (.int ((-1)))) M)  : Xw l D ρ m_ContentStore_sharersOfFirst 24 [] [] M d kc ks Q := by
  refine x_iconst (v := (-1)) d_ContentStore_sharersOfFirst_24 (by decide) ?_
  exact x_iret d_ContentStore_sharersOfFirst_25 rfl rfl hQ
theorem b_ContentStore_sharersOfFirst_26 {x0 : Value} {x3 : Value} (h_x3 : xrf x3) (k : Xw l D ρ m_ContentStore_sharersOfFirst 32 [(0, x0), (3, x3), (4, .int 0), (5, .int 0)] [] M d kc ks Q) : Xw l D ρ m_ContentStore_sharersOfFirst 26 [(0, x0), (3, x3)] [] M d kc ks Q := by
  refine x_iconst (v := 0) d_ContentStore_sharersOfFirst_26 (by decide) ?_
  refine x_istore (i := 4) (L' := [(4, .int 0), (0, x0), (3, x3)]) d_ContentStore_sharersOfFirst_27 (Nat.le_of_ble_eq_true rfl) (by simp [xrf_cat h_x3]) ?_
  refine x_iconst (v := 0) d_ContentStore_sharersOfFirst_29 (by decide) ?_
  refine x_istore (i := 5) (L' := [(5, .int 0), (4, .int 0), (0, x0), (3, x3)]) d_ContentStore_sharersOfFirst_30 (Nat.le_of_ble_eq_true rfl) rfl ?_
  exact x_pick [2, 3, 1, 0] rfl k
theorem b_ContentStore_sharersOfFirst_32 {x0 : Nat} {x3 : Value} {x4 : Int32} {x5 : Int32} {f35_0 : Value} {f35_1 : Value} {f35_2 : Value} {f35_3 : Value} {f35_4 : Int32} {f35_5 : Int32} {f35_6 : Int32} {f35_7 : Int32} (h35 : M[x0]? = some (cO 0 [f35_0, f35_1, f35_2, f35_3, .int f35_4, .int f35_5, .int f35_6, .int f35_7])) (kt : f35_6 ≤ x5 → Xw l D ρ m_ContentStore_sharersOfFirst 72 [(4, .int x4)] [] M d kc ks Q) (kf : ¬ f35_6 ≤ x5 → Xw l D ρ m_ContentStore_sharersOfFirst 41 [(0, .ref x0), (3, x3), (4, .int x4), (5, .int x5)] [] M d kc ks Q) : Xw l D ρ m_ContentStore_sharersOfFirst 32 [(0, .ref x0), (3, x3), (4, .int x4), (5, .int x5)] [] M d kc ks Q := by
  refine x_iload d_ContentStore_sharersOfFirst_32 3 rfl ?_
  refine x_aload_n d_ContentStore_sharersOfFirst_34 rfl 0 rfl trivial ?_
  refine x_getf (k := 6) d_ContentStore_sharersOfFirst_35 ck_ContentStore fk_ContentStore_139 (by decide) h35 rfl ?_
  exact x_icmp_ge d_ContentStore_sharersOfFirst_38 (tgt := 72) (by decide) (fun c => x_pick [2] rfl (kt c)) (fun c => x_pick [0, 1, 2, 3] rfl (kf c))
theorem b_ContentStore_sharersOfFirst_41 {x0 : Nat} {x3 : Value} {x4 : Int32} {x5 : Int32} {cd1 : Nat} {ckc1 : Nat} {cks1 : Nat} {ckc2 : Nat} {cks2 : Nat} {Q1 : Option Value → List xCl → Prop} {fr_0 : Value} {fr_1 : Value} {fr_2 : Value} {fr_3 : Value} {fr_4 : Int32} {fr_5 : Int32} {fr_6 : Int32} {fr_7 : Int32} (hdp : cd1 + 1 ≤ d) (hkc : ckc1 + ckc2 ≤ kc) (hks : cks1 + cks2 ≤ ks) (hr : M[x0]? = some (cO 0 [fr_0, fr_1, fr_2, fr_3, .int fr_4, .int fr_5, .int fr_6, .int fr_7])) (kz : Xw l D ρ m_ContentStore_blobAt 0 [(0, .ref x0), (1, .int x5)] [] M cd1 ckc1 cks1 Q1) (kk : ∀ r N, Q1 r N → Xw l D ρ m_ContentStore_sharersOfFirst 47 [(0, .ref x0), (3, x3), (4, .int x4), (5, .int x5)] (r.toList ++ []) N d ckc2 cks2 Q) : Xw l D ρ m_ContentStore_sharersOfFirst 41 [(0, .ref x0), (3, x3), (4, .int x4), (5, .int x5)] [] M d kc ks Q := by
  refine x_aload_n d_ContentStore_sharersOfFirst_41 rfl 0 rfl trivial ?_
  refine x_iload d_ContentStore_sharersOfFirst_42 3 rfl ?_
  exact x_pick [0, 1, 2, 3] rfl (x_callV (As := [.int x5]) (st := []) (host := "") d_ContentStore_sharersOfFirst_44 rfl mk_ContentStore_blobAt mi_ContentStore_blobAt mv_ContentStore_blobAt (Or.inl kl_ContentStore_86) rfl (Nat.le_of_ble_eq_true rfl) (Nat.le_of_ble_eq_true rfl) ck_ContentStore hr hdp hkc hks rfl kz kk)
theorem b_ContentStore_sharersOfFirst_47 {x0 : Value} {x3 : Value} {x4 : Int32} {x5 : Int32} {s0 : Nat}  (k : Xw l D ρ m_ContentStore_sharersOfFirst 54 [(0, x0), (3, x3), (4, .int x4), (5, .int x5), (6, .ref s0)] [] M d kc ks Q) : Xw l D ρ m_ContentStore_sharersOfFirst 47 [(0, x0), (3, x3), (4, .int x4), (5, .int x5)] [.ref s0] M d kc ks Q := by
  refine x_astore (i := 6) (L' := [(6, .ref s0), (0, x0), (3, x3), (4, .int x4), (5, .int x5)]) d_ContentStore_sharersOfFirst_47 (Nat.le_of_ble_eq_true rfl) trivial rfl ?_
  refine x_aload d_ContentStore_sharersOfFirst_49 0 rfl trivial ?_
  exact x_ifnull_r d_ContentStore_sharersOfFirst_51 (x_pick [1, 2, 3, 4, 0] rfl k)
theorem b_ContentStore_sharersOfFirst_47_z {x0 : Value} {x3 : Value} {x4 : Int32} {x5 : Int32}  (k : Xw l D ρ m_ContentStore_sharersOfFirst 66 [(0, x0), (3, x3), (4, .int x4), (5, .int x5)] [] M d kc ks Q) : Xw l D ρ m_ContentStore_sharersOfFirst 47 [(0, x0), (3, x3), (4, .int x4), (5, .int x5)] [.null] M d kc ks Q := by
  refine x_astore (i := 6) (L' := [(6, .null), (0, x0), (3, x3), (4, .int x4), (5, .int x5)]) d_ContentStore_sharersOfFirst_47 (Nat.le_of_ble_eq_true rfl) trivial rfl ?_
  refine x_aload d_ContentStore_sharersOfFirst_49 0 rfl trivial ?_
  exact x_ifnull_z d_ContentStore_sharersOfFirst_51 (tgt := 66) (by decide) (x_pick [1, 2, 3, 4] rfl k)
theorem b_ContentStore_sharersOfFirst_54 {x0 : Value} {x3 : Value} {x4 : Int32} {x5 : Int32} {x6 : Nat} {cd1 : Nat} {ckc1 : Nat} {cks1 : Nat} {ckc2 : Nat} {cks2 : Nat} {Q1 : Option Value → List xCl → Prop} {fr_0 : Int32} {fr_1 : Int32} {fr_2 : Int64} {fr_3 : Value} {fr_4 : Value} {fr_5 : Int32} {fr_6 : Int32} (h_x3 : xrf x3) (hdp : cd1 + 1 ≤ d) (hkc : ckc1 + ckc2 ≤ kc) (hks : cks1 + cks2 ≤ ks) (hr : M[x6]? = some (cO 4 [.int fr_0, .int fr_1, .long fr_2, fr_3, fr_4, .int fr_5, .int fr_6])) (kz : Xw l D ρ m_Blob_hasPart 0 [(0, .ref x6), (1, x3)] [] M cd1 ckc1 cks1 Q1) (kk : ∀ r N, Q1 r N → Xw l D ρ m_ContentStore_sharersOfFirst 60 [(0, x0), (3, x3), (4, .int x4), (5, .int x5)] (r.toList ++ []) N d ckc2 cks2 Q) : Xw l D ρ m_ContentStore_sharersOfFirst 54 [(0, x0), (3, x3), (4, .int x4), (5, .int x5), (6, .ref x6)] [] M d kc ks Q := by
  refine x_aload d_ContentStore_sharersOfFirst_54 4 rfl trivial ?_
  refine x_aload_n d_ContentStore_sharersOfFirst_56 rfl 1 rfl h_x3 ?_
  exact x_pick [0, 1, 2, 3] rfl (x_callV (As := [x3]) (st := []) (host := "") d_ContentStore_sharersOfFirst_57 rfl mk_Blob_hasPart mi_Blob_hasPart mv_Blob_hasPart (Or.inl kl_ContentStore_185) rfl (by simp [lg_sl, m_Blob_hasPart, xcat_i, xcat_l, xcat_r, xcat_n, xcat_o, xrf_cat h_x3]) (Nat.le_of_ble_eq_true rfl) ck_Blob hr hdp hkc hks (by simp [lv_args, xcat_i, xcat_l, xcat_r, xcat_n, xcat_o, xrf_cat h_x3]) kz kk)
theorem b_ContentStore_sharersOfFirst_60 {x0 : Value} {x3 : Value} {x4 : Int32} {x5 : Int32} {s0 : Int32}  (kt : s0 = 0 → Xw l D ρ m_ContentStore_sharersOfFirst 66 [(0, x0), (3, x3), (4, .int x4), (5, .int x5)] [] M d kc ks Q) (kf : ¬ s0 = 0 → Xw l D ρ m_ContentStore_sharersOfFirst 63 [(0, x0), (3, x3), (4, .int x4), (5, .int x5)] [] M d kc ks Q) : Xw l D ρ m_ContentStore_sharersOfFirst 60 [(0, x0), (3, x3), (4, .int x4), (5, .int x5)] [.int s0] M d kc ks Q := by
  exact x_if_eq d_ContentStore_sharersOfFirst_60 (tgt := 66) (by decide) (fun c => x_pick [0, 1, 2, 3] rfl (kt c)) (fun c => x_pick [0, 1, 2, 3] rfl (kf c))
theorem b_ContentStore_sharersOfFirst_63 {x0 : Value} {x3 : Value} {x4 : Int32} {x5 : Int32} (h_x3 : xrf x3) (k : Xw l D ρ m_ContentStore_sharersOfFirst 66 [(0, x0), (3, x3), (4, .int (x4 + 1)), (5, .int x5)] [] M d kc ks Q) : Xw l D ρ m_ContentStore_sharersOfFirst 63 [(0, x0), (3, x3), (4, .int x4), (5, .int x5)] [] M d kc ks Q := by
  refine x_iinc (v := x4 + 1) (L' := [(4, .int (x4 + 1)), (0, x0), (3, x3), (5, .int x5)]) d_ContentStore_sharersOfFirst_63 2 rfl (by rfl) (Nat.le_of_ble_eq_true rfl) (by simp [xrf_cat h_x3]) ?_
  exact x_pick [1, 2, 0, 3] rfl k
theorem b_ContentStore_sharersOfFirst_66 {x0 : Value} {x3 : Value} {x4 : Int32} {x5 : Int32}  (k : Xw l D ρ m_ContentStore_sharersOfFirst 32 [(0, x0), (3, x3), (4, .int x4), (5, .int (x5 + 1))] [] M d kc ks Q) : Xw l D ρ m_ContentStore_sharersOfFirst 66 [(0, x0), (3, x3), (4, .int x4), (5, .int x5)] [] M d kc ks Q := by
  refine x_iinc (v := x5 + 1) (L' := [(5, .int (x5 + 1)), (0, x0), (3, x3), (4, .int x4)]) d_ContentStore_sharersOfFirst_66 3 rfl (by rfl) (Nat.le_of_ble_eq_true rfl) rfl ?_
  exact x_goto d_ContentStore_sharersOfFirst_69 (tgt := 32) (by decide) (x_pick [1, 2, 3, 0] rfl k)
theorem b_ContentStore_sharersOfFirst_72 {x4 : Int32} (hQ : Q (some (.int x4)) M)  : Xw l D ρ m_ContentStore_sharersOfFirst 72 [(4, .int x4)] [] M d kc ks Q := by
  refine x_iload d_ContentStore_sharersOfFirst_72 0 rfl ?_
  exact x_iret d_ContentStore_sharersOfFirst_74 rfl rfl hQ
theorem b_Blob_hasPart_0 {x0 : Value} {x1 : Value} (h_x1 : xrf x1) (k : Xw l D ρ m_Blob_hasPart 2 [(0, x0), (1, x1), (2, .int 0)] [] M d kc ks Q) : Xw l D ρ m_Blob_hasPart 0 [(0, x0), (1, x1)] [] M d kc ks Q := by
  refine x_iconst (v := 0) d_Blob_hasPart_0 (by decide) ?_
  refine x_istore_n (i := 2) (L' := [(2, .int 0), (0, x0), (1, x1)]) d_Blob_hasPart_1 rfl (Nat.le_of_ble_eq_true rfl) (by simp [xrf_cat h_x1]) ?_
  exact x_pick [1, 2, 0] rfl k
theorem b_Blob_hasPart_2 {x0 : Nat} {x1 : Value} {x2 : Int32} {f4_0 : Int32} {f4_1 : Int32} {f4_2 : Int64} {f4_3 : Nat} {f4_4 : Value} {f4_5 : Int32} {f4_6 : Int32} {a7 : List (Option Nat)} (h4 : M[x0]? = some (cO 4 [.int f4_0, .int f4_1, .long f4_2, .ref f4_3, f4_4, .int f4_5, .int f4_6])) (h7 : M[f4_3]? = some (cR 2 a7)) (kt : (nI a7.length) ≤ x2 → Xw l D ρ m_Blob_hasPart 29 [] [] M d kc ks Q) (kf : ¬ (nI a7.length) ≤ x2 → Xw l D ρ m_Blob_hasPart 11 [(0, .ref x0), (1, x1), (2, .int x2)] [] M d kc ks Q) : Xw l D ρ m_Blob_hasPart 2 [(0, .ref x0), (1, x1), (2, .int x2)] [] M d kc ks Q := by
  refine x_iload_n d_Blob_hasPart_2 rfl 2 rfl ?_
  refine x_aload_n d_Blob_hasPart_3 rfl 0 rfl trivial ?_
  refine x_getf (k := 3) d_Blob_hasPart_4 ck_Blob fk_Blob_30 (by decide) h4 rfl ?_
  refine x_alenR d_Blob_hasPart_7 h7 ?_
  exact x_icmp_ge d_Blob_hasPart_8 (tgt := 29) (by decide) (fun c => x_pick [] rfl (kt c)) (fun c => x_pick [0, 1, 2] rfl (kf c))
theorem b_Blob_hasPart_11 {x0 : Nat} {x1 : Nat} {x2 : Int32} {f12_0 : Int32} {f12_1 : Int32} {f12_2 : Int64} {f12_3 : Nat} {f12_4 : Value} {f12_5 : Int32} {f12_6 : Int32} {a16 : List (Option Nat)} {j16 : Nat} {o16 : Nat} (h12 : M[x0]? = some (cO 4 [.int f12_0, .int f12_1, .long f12_2, .ref f12_3, f12_4, .int f12_5, .int f12_6])) (h16 : M[f12_3]? = some (cR 2 a16)) (e16 : x2 = nI j16) (b16 : a16.length ≤ 100000000) (g16 : a16[j16]? = some (some o16)) (kt : ¬ o16 = x1 → Xw l D ρ m_Blob_hasPart 23 [(0, .ref x0), (1, .ref x1), (2, .int x2)] [] M d kc ks Q) (kf : o16 = x1 → Xw l D ρ m_Blob_hasPart 21 [] [] M d kc ks Q) : Xw l D ρ m_Blob_hasPart 11 [(0, .ref x0), (1, .ref x1), (2, .int x2)] [] M d kc ks Q := by
  refine x_aload_n d_Blob_hasPart_11 rfl 0 rfl trivial ?_
  refine x_getf (k := 3) d_Blob_hasPart_12 ck_Blob fk_Blob_30 (by decide) h12 rfl ?_
  refine x_iload_n d_Blob_hasPart_15 rfl 2 rfl ?_
  refine x_aald d_Blob_hasPart_16 e16 h16 g16 b16 ?_
  refine x_aload_n d_Blob_hasPart_17 rfl 1 rfl trivial ?_
  exact x_acmp_ne d_Blob_hasPart_18 (tgt := 23) (by decide) (fun c => x_pick [0, 1, 2] rfl (kt c)) (fun c => x_pick [] rfl (kf c))
theorem b_Blob_hasPart_21  (hQ : Q (some (.int 1)) M)  : Xw l D ρ m_Blob_hasPart 21 [] [] M d kc ks Q := by
  refine x_iconst (v := 1) d_Blob_hasPart_21 (by decide) ?_
  exact x_iret d_Blob_hasPart_22 rfl rfl hQ
theorem b_Blob_hasPart_23 {x0 : Value} {x1 : Value} {x2 : Int32} (h_x1 : xrf x1) (k : Xw l D ρ m_Blob_hasPart 2 [(0, x0), (1, x1), (2, .int (x2 + 1))] [] M d kc ks Q) : Xw l D ρ m_Blob_hasPart 23 [(0, x0), (1, x1), (2, .int x2)] [] M d kc ks Q := by
  refine x_iinc (v := x2 + 1) (L' := [(2, .int (x2 + 1)), (0, x0), (1, x1)]) d_Blob_hasPart_23 2 rfl (by rfl) (Nat.le_of_ble_eq_true rfl) (by simp [xrf_cat h_x1]) ?_
  exact x_goto d_Blob_hasPart_26 (tgt := 2) (by decide) (x_pick [1, 2, 0] rfl k)
theorem b_Blob_hasPart_29  (hQ : Q (some (.int 0)) M)  : Xw l D ρ m_Blob_hasPart 29 [] [] M d kc ks Q := by
  refine x_iconst (v := 0) d_Blob_hasPart_29 (by decide) ?_
  exact x_iret d_Blob_hasPart_30 rfl rfl hQ
end XB
