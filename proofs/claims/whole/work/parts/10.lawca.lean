section XB
variable {l : Launch} {D : va_G} {ρ : xR} {M : List xCl} {d kc ks : Nat} {Q : Option Value → List xCl → Prop}
theorem b_ContentStoreLaw_cell_0 {x0 : Nat} {x1 : Int32} {a2 : List Int32} (h2 : M[x0]? = some (cI a2)) (kt : (nI a2.length) ≤ x1 → Xw l D ρ m_ContentStoreLaw_cell 12 [] [] M d kc ks Q) (kf : ¬ (nI a2.length) ≤ x1 → Xw l D ρ m_ContentStoreLaw_cell 6 [(0, .ref x0), (1, .int x1)] [] M d kc ks Q) : Xw l D ρ m_ContentStoreLaw_cell 0 [(0, .ref x0), (1, .int x1)] [] M d kc ks Q := by
  refine x_iload_n d_ContentStoreLaw_cell_0 rfl 1 rfl ?_
  refine x_aload_n d_ContentStoreLaw_cell_1 rfl 0 rfl trivial ?_
  refine x_alenI d_ContentStoreLaw_cell_2 h2 ?_
  exact x_icmp_ge d_ContentStoreLaw_cell_3 (tgt := 12) (by decide) (fun c => x_pick [] rfl (kt c)) (fun c => x_pick [0, 1] rfl (kf c))
theorem b_ContentStoreLaw_cell_6 {x0 : Nat} {x1 : Int32} {a8 : List Int32} {j8 : Nat} {v8 : Int32} (h8 : M[x0]? = some (cI a8)) (e8 : x1 = nI j8) (g8 : a8[j8]? = some v8) (b8 : a8.length ≤ 100000000) (k : Xw l D ρ m_ContentStoreLaw_cell 13 [] [.int v8] M d kc ks Q) : Xw l D ρ m_ContentStoreLaw_cell 6 [(0, .ref x0), (1, .int x1)] [] M d kc ks Q := by
  refine x_aload_n d_ContentStoreLaw_cell_6 rfl 0 rfl trivial ?_
  refine x_iload_n d_ContentStoreLaw_cell_7 rfl 1 rfl ?_
  refine x_iald d_ContentStoreLaw_cell_8 e8 h8 g8 b8 ?_
  exact x_goto d_ContentStoreLaw_cell_9 (tgt := 13) (by decide) (x_pick [] rfl k)
theorem b_ContentStoreLaw_cell_12   (k : Xw l D ρ m_ContentStoreLaw_cell 13 [] [.int 0] M d kc ks Q) : Xw l D ρ m_ContentStoreLaw_cell 12 [] [] M d kc ks Q := by
  refine x_iconst (v := 0) d_ContentStoreLaw_cell_12 (by decide) ?_
  exact x_pick [] rfl k
theorem b_ContentStoreLaw_cell_13 {s0 : Int32} (hQ : Q (some (.int s0)) M)  : Xw l D ρ m_ContentStoreLaw_cell 13 [] [.int s0] M d kc ks Q := by
  exact x_iret d_ContentStoreLaw_cell_13 rfl rfl hQ
end XB
