/-! THE CLAIM OUT OF ONE WALK OF THE LAW'S BODY. Your part is whole_start (and what it stands on); all else here is the same for every law, but numbers. -/
def R_law : String := "ContentStoreLaw"
def lw_P (b : Addr) (xs : List Int32) (args : Array Value) (s : State) : Prop := args = #[.ref b] ∧ s.IntsAt b xs ∧ xs.length ≤ 2561 ∧ (Jvm.Cond.and given_1 narrow_1).before args s = true
def lw_Q (_ : Array Value) (s : State) (o : Outcome) (t : State) : Prop := o = .returned (some (.int 1)) ∧ Framed s o t [] 600000 7302250
def lw_Z (below : List Frame) (a : Array Value) (s : State) : State → Prop := fun t => ∃ o, t.status = .running ∧ Ended t below o ∧ lw_Q a s o t
/-- the law's own end, with 1 on the stack, nothing written that was there before, its room as the claim has it -/
theorem lw_ret {p : Program} {l : Launch} {e : Env} {s : State} {m : MethodId} {below : List Frame} {meth : Method} {c : Code} {b : Nat} (hx : p.tables.exec = Jvm.exec) (hb : c.code = code) (hr : meth.sig.returnType = ret) (hlocks : meth.locks = false) {pc : Nat} {H : Heap} {ls : Array Slot} (hdg : decode code pc = .ok (.ireturn, 1)) : W p l e room_1 s m #[Value.ref b] below meth c H [] 600000 7302250 (lw_Z below #[Value.ref b] s) (F0 m pc ls [.int 1]) := by
  intro T hT X
  obtain ⟨fs, hret, hrun, hended, hW, hframe⟩ := X.leave (v := some (.int 1)) (hlocks := hlocks) (fun h => by rw [hr] at h; cases h)
  have hmeth' : T.vm.method? m = some meth := X.method'
  refine ⟨T.setFrames fs, ?_, .returned (some (.int 1)), hrun, hended, rfl, ⟨_, rfl⟩, hW, hframe⟩
  jvm_step X.here [X.here.top, hx, hb, hdg, hmeth', hr, ret, narrow_b1]
  (try refine ⟨rfl, ?_⟩); (try refine ⟨rfl, ?_⟩)
  first | (intro acts; rw [hret _ acts rfl rfl rfl]) | rw [hret _ _ rfl rfl rfl]
  exact Steps.refl _
/-- what holds at the law's entry: the machine, the code, the tables' words (any of lw_tbl by 'hts w (by decide +kernel)'), the script of L ints xs at the cell b, what the Statement gives of the start (any of its parts by flat_of_before) -/
def lw_At (p : Program) (s : State) (m : MethodId) (meth : Method) (c : Code) (b L : Nat) (xs : Nat → Int32) : Prop :=
  p.tables.exec = Jvm.exec ∧ c.code = code ∧ meth.sig.returnType = ret ∧ c.maxLocals = 4 ∧ s.vm.findClass R_law = some m.cls ∧ (∀ w ∈ lw_tbl, w.before #[Value.ref b] s = true) ∧ va_X b L xs s s.heap ∧ b < s.heap.size ∧ meth.locks = false ∧ (Jvm.Cond.and given_1 narrow_1).before #[Value.ref b] s = true
def xDC (c0 c1 c2 c3 c4 c5 c6 : ClassId) : Nat → ClassId := fun k => match k with
  | 0 => c0
  | 1 => c1
  | 2 => c2
  | 3 => c3
  | 4 => c4
  | 5 => c5
  | _ => c6
def xDI (i0 i1 i2 i3 i4 i5 i6 : Nat → Nat) : Nat → Nat → Nat := fun k => match k with
  | 0 => i0
  | 1 => i1
  | 2 => i2
  | 3 => i3
  | 4 => i4
  | 5 => i5
  | _ => i6
def xρ (b t mi L : Nat) (xs : Nat → Int32) : xR := (fun k => match k with
  | 0 => b
  | 1 => t
  | _ => mi, L, xs)
set_option maxHeartbeats 4000000 in
set_option maxRecDepth 100000 in
/-- the law's run, out of its walk over abstract heaps -/
theorem x_start {p : Program} {e : Env} {s : State} {m : MethodId} {below : List Frame} {meth : Method} {c : Code} (l : Launch) {b L : Nat} {xs : Nat → Int32} (hL : L ≤ 2561) (C0 : lw_At p s m meth c b L xs)
    (kl : ∀ (D : va_G) (ρ : xR), ρ.2.1 ≤ 2561 → Xw l D ρ m_law 0 [(0, .retAddr 0)] [] [] 11 600000 7302250 (fun r _ => r = some (.int 1))) : W p l e room_1 s m #[Value.ref b] below meth c s.heap [] 0 0 (lw_Z below #[Value.ref b] s) (entryFrame m ([Value.ref b] : List Value).toArray 4) := by
  obtain ⟨hx, hb, hr, hml, hown, hts, hX, hbl, hlocks, hgv⟩ := id C0
  have htG : ∀ w ∈ Gw, w.before #[Value.ref b] s = true := fun w hw => hts w (List.mem_filter.mp hw).1
  have hA : ∀ q : Nat, s.heap.size ≤ q → (fun q : Nat => s.heap.size ≤ q) q := fun _ h => h
  have hAn : ∀ a : Nat, a < s.heap.size → ¬ (fun q : Nat => s.heap.size ≤ q) a := fun a h => Nat.not_le.mpr h
  have hs := flat_of_before _ hgv
  obtain ⟨c0, i0, hK0⟩ := u_known (C := "ContentStore") (T := F_ContentStore) (N := 8) (n := 8) htG ck_ContentStore.2.1 (htG _ ki_ContentStore)
  obtain ⟨c1, i1, hK1⟩ := u_known (C := "ContentStore$Shelf") (T := F_Shelf) (N := 3) (n := 3) htG ck_Shelf.2.1 (htG _ ki_Shelf)
  obtain ⟨c2, i2, hK2⟩ := u_known (C := "java/util/ArrayList") (T := F_ArrayList) (N := 3) (n := 3) htG ck_ArrayList.2.1 (htG _ ki_ArrayList)
  obtain ⟨c3, i3, hK3⟩ := u_known (C := "ContentStore$Put") (T := F_Put) (N := 4) (n := 4) htG ck_Put.2.1 (htG _ ki_Put)
  obtain ⟨c4, i4, hK4⟩ := u_known (C := "ContentStore$Blob") (T := F_Blob) (N := 7) (n := 7) htG ck_Blob.2.1 (htG _ ki_Blob)
  obtain ⟨c5, i5, hK5⟩ := u_known (C := "ContentStore$Part") (T := F_Part) (N := 2) (n := 2) htG ck_Part.2.1 (htG _ ki_Part)
  obtain ⟨c6, i6, hK6⟩ := u_known (C := "ContentStoreModel") (T := F_ContentStoreModel) (N := 24) (n := 24) htG ck_ContentStoreModel.2.1 (htG _ ki_ContentStoreModel)
  have hKc : ∀ (k : Nat) (q : vw_C), classes[k]? = some q → u_Kn s q.1 q.2.1 q.2.2 (xDC c0 c1 c2 c3 c4 c5 c6 k) (xDI i0 i1 i2 i3 i4 i5 i6 k) := by
    intro k q hq
    match k, hq with
    | 0, hq => cases hq; exact hK0
    | 1, hq => cases hq; exact hK1
    | 2, hq => cases hq; exact hK2
    | 3, hq => cases hq; exact hK3
    | 4, hq => cases hq; exact hK4
    | 5, hq => cases hq; exact hK5
    | 6, hq => cases hq; exact hK6
    | k + 7, hq => simp [classes] at hq
  obtain ⟨mi, hmi⟩ := va_Mi.of (C := "[Ljava/lang/Object;") (hs (.isRef (.mirror "[Ljava/lang/Object;")) (by decide +kernel))
  have harr := hs (.arrayOf (.static "java/util/ArrayList" "DEFAULTCAPACITY_EMPTY_ELEMENTDATA" "[Ljava/lang/Object;") (.object "java/lang/Object")) (by decide +kernel)
  have hlen := va_eqt (hs (.eq (.length (.static "java/util/ArrayList" "DEFAULTCAPACITY_EMPTY_ELEMENTDATA" "[Ljava/lang/Object;")) (.int 0)) (by decide +kernel))
  obtain ⟨t, ht1, ht2⟩ := va_Tof (N := 0) (f := fun _ => Value.null) (A := fun q : Nat => s.heap.size ≤ q) (by decide) harr hlen (fun j hj => absurd hj (Nat.not_lt_zero j)) hAn
  have hZ := va_Zref (A := fun q : Nat => s.heap.size ≤ q) (hts (.laysStatic "java/util/ArrayList" "DEFAULTCAPACITY_EMPTY_ELEMENTDATA" "[Ljava/lang/Object;") (by decide +kernel)) (htG _ kz_ArrayList) ht1 hAn
  have hsc : va_T .int b L (fun j => .int (xs j)) (fun q : Nat => s.heap.size ≤ q) s s.heap := by
    obtain ⟨scr, q1, q2, q3, q4, q5⟩ := hX
    exact ⟨scr, q1, q2, q3, Nat.le_of_eq q4.symm, by rw [q4], q5, hAn b hbl⟩
  have hRO : xRO (xρ b t mi L xs) (fun q : Nat => s.heap.size ≤ q) s s.heap := ⟨hsc, hZ, ht2, hmi, va_Dc.of (hts (.declares ⟨"java/lang/Object", "getClass", "()Ljava/lang/Class;"⟩) (by decide +kernel))⟩
  have hl := lv_entry ([.ref b]) (n := 4) (Nat.le_of_ble_eq_true rfl)
  rw [lg_entry_eq]
  generalize (lg_sl ([.ref b]) ++ List.replicate (4 - (lg_sl ([.ref b])).length) Slot.unset).toArray = ls at hl ⊢
  have hNw : ∀ w ∈ Nw, va_Nw w s := fun w hw => by
    have h1 := hts w (List.mem_filter.mp hw).1
    have h2 := Nw_ok w hw
    cases w with
    | fieldLinkNest a i b n d h => exact va_Nw.of rfl h1
    | methodLinkNest a i x h => exact va_Nw.of rfl h1
    | castable C T => exact va_Nw.of rfl h1
    | arrayOver ty =>
      cases ty with
      | object C => exact va_AO.of h1
      | _ => simp [xnw] at h2
    | _ => simp [xnw] at h2
  refine kl (xDC c0 c1 c2 c3 c4 c5 c6, xDI i0 i1 i2 i3 i4 i5 i6) (xρ b t mi L xs) hL p e room_1 s m #[Value.ref b] below meth c (fun q : Nat => s.heap.size ≤ q) [] _ s.heap [] 0 0 [] [] [] ls [] ⟨hx, hb, hr, hml, hown, htG, hNw, hRO, hlocks, hA, by decide, by decide, fun h => absurd h (by decide)⟩ ?_ (xle_rf _) ⟨⟨hKc, fun k q h => by simp at h⟩, fun k q h => by simp at h, ⟨fun i j p q h => by simp at h, fun k q h => by simp at h⟩, va_S.rf, ⟨rfl, rfl, fun i c h => by simp at h⟩, by decide, by decide⟩ rfl ⟨_, hl, ⟨.ref b, [], rfl, rfl, rfl⟩⟩
  intro H locs cells slots tys ad ws M r r1 pc ls1 g0 gX gQ gr gt
  obtain ⟨b1, b2, b3, b4, b5, b6, b7⟩ := gX
  subst gQ
  obtain ⟨w, rfl, gw⟩ := gr
  obtain rfl : w = _ := gw
  obtain ⟨ty, t1, t2, t3⟩ := gt
  refine va_forget (fun q hq => b4.2.2 q hq) ?_
  refine W.widen (k := 600000) (n := 7302250) b6 b7 ?_
  exact lw_ret hx hb hr hlocks t3
