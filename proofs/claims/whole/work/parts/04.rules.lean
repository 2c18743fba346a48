/-! THE JUDGEMENT: from pc of the method y, with locals L, operands st and the abstract heap M, the run comes to y's end with Q; at most kc cells of ks slots come, at most d calls stand one in the other -/
def xCx (ρ : xR) (y : xM) (p : Program) (R : Room) (s : State) (m : MethodId) (args : Array Value) (meth : Method) (c : Code) (A : Nat → Prop) (d : Nat) : Prop :=
  p.tables.exec = Jvm.exec ∧ c.code = y.2.1 ∧ meth.sig.returnType = y.2.2.2 ∧ c.maxLocals = y.2.2.1 ∧ s.vm.findClass y.1.cls = some m.cls ∧ (∀ w ∈ Gw, w.before args s = true) ∧ (∀ w ∈ Nw, va_Nw w s) ∧ xRO ρ A s s.heap ∧ meth.locks = false ∧ (∀ q, s.heap.size ≤ q → A q) ∧ d ≤ R.frames ∧ d * 45 ≤ R.locals ∧ (y.1.name = "<init>" → meth.name = "<init>")
def xWo (D : va_G) (ρ : xR) (R : Room) (s : State) (A : Nat → Prop) (H : Heap) (locs : List Loc) (cells slots : Nat) (tys : List (ClassId × FieldType)) (ad : List Nat) (ws : va_W) (M : List xCl) (kc ks : Nat) : Prop :=
  va_K D classes tys s ∧ va_P D classes ws H ∧ va_D A ws ∧ va_S A s.heap H locs ∧ xWr ρ tys ad ws M ∧ cells + kc ≤ R.cells ∧ slots + ks ≤ R.slots
/-- how a method may end at pc with r -/
def xRt (y : xM) (pc : Nat) (r : Option Value) : Prop := match r with
  | none => y.2.2.2 = none ∧ decode y.2.1 pc = .ok (.return_, 1)
  | some (.int v) => ∃ ty, y.2.2.2 = some ty ∧ narrow ty (.int v) = .int v ∧ decode y.2.1 pc = .ok (.ireturn, 1)
  | some (.long _) => y.2.2.2 = some .long ∧ decode y.2.1 pc = .ok (.lreturn, 1)
  | some (.float _) => False
  | some (.double _) => False
  | some _ => (∃ rt, y.2.2.2 = some rt ∧ ((∃ n, rt = .object n) ∨ ∃ t, rt = .array t)) ∧ decode y.2.1 pc = .ok (.areturn, 1)
def xEn (l : Launch) (D : va_G) (ρ : xR) (y : xM) (p : Program) (e : Env) (R : Room) (s : State) (m : MethodId) (args : Array Value) (below : List Frame) (meth : Method) (c : Code) (A : Nat → Prop) (ad0 : List Nat) (F : State → Prop) (Q : Option Value → List xCl → Prop) : Prop :=
  ∀ (H : Heap) (locs : List Loc) (cells slots : Nat) (tys : List (ClassId × FieldType)) (ad : List Nat) (ws : va_W) (M : List xCl) (r r' : Option Value) (pc : Nat) (ls : Array Slot),
    xle ad0 ad → xWo D ρ R s A H locs cells slots tys ad ws M 0 0 → Q r M → xret ρ ad r r' → xRt y pc r → W p l e R s m args below meth c H locs cells slots F (F0 m pc ls r'.toList)
def Xw (l : Launch) (D : va_G) (ρ : xR) (y : xM) (pc : Nat) (L : List (Nat × Value)) (st : List Value) (M : List xCl) (d kc ks : Nat) (Q : Option Value → List xCl → Prop) : Prop :=
  ∀ (p : Program) (e : Env) (R : Room) (s : State) (m : MethodId) (args : Array Value) (below : List Frame) (meth : Method) (c : Code) (A : Nat → Prop) (ad0 : List Nat) (F : State → Prop) (H : Heap) (locs : List Loc) (cells slots : Nat) (tys : List (ClassId × FieldType)) (ad : List Nat) (ws : va_W) (ls : Array Slot) (st' : List Value),
    xCx ρ y p R s m args meth c A d → xEn l D ρ y p e R s m args below meth c A ad0 F Q → xle ad0 ad → xWo D ρ R s A H locs cells slots tys ad ws M kc ks → xvs ρ ad st st' → xls ρ ad y.2.2.1 L ls →
    W p l e R s m args below meth c H locs cells slots F (F0 m pc ls st')
def xrf (v : Value) : Prop := match v with
  | .ref _ => True
  | .null => True
  | .retAddr _ => True
  | _ => False
theorem xrf_or {ρ : xR} {ad : List Nat} {v w : Value} (h : xrf v) (k : xvr ρ ad v w) : w = .null ∨ ∃ a, w = .ref a := by
  cases v with
  | ref i => obtain ⟨a, -, rfl⟩ := k; exact Or.inr ⟨a, rfl⟩
  | retAddr i => obtain rfl : w = _ := k; exact Or.inr ⟨_, rfl⟩
  | null => obtain rfl : w = _ := k; exact Or.inl rfl
  | _ => exact absurd h (fun z => z)
section XW
variable {l : Launch} {D : va_G} {ρ : xR} {y : xM} {pc : Nat} {L : List (Nat × Value)} {st : List Value} {M : List xCl} {d kc ks : Nat} {Q : Option Value → List xCl → Prop}
theorem x_iconst {n : Int} {v : Int32} (hd : decode y.2.1 pc = .ok (.iconst n, 1)) (hv : Int32.ofInt n = v) (k : Xw l D ρ y (pc + 1) L (.int v :: st) M d kc ks Q) : Xw l D ρ y pc L st M d kc ks Q := by
  intro p e R s m args below meth c A ad0 F H locs cells slots tys ad ws ls st' C E hle X hst hl
  exact lv_iconst C.1 C.2.1 hd hv (k p e R s m args below meth c A ad0 F H locs cells slots tys ad ws ls _ C E hle X ⟨_, _, rfl, rfl, hst⟩ hl)
theorem x_bipush {n : Int} {v : Int32} (hd : decode y.2.1 pc = .ok (.bipush n, 2)) (hv : (Int8.ofInt n).toInt32 = v) (k : Xw l D ρ y (pc + 2) L (.int v :: st) M d kc ks Q) : Xw l D ρ y pc L st M d kc ks Q := by
  intro p e R s m args below meth c A ad0 F H locs cells slots tys ad ws ls st' C E hle X hst hl
  exact lv_bipush C.1 C.2.1 hd hv (k p e R s m args below meth c A ad0 F H locs cells slots tys ad ws ls _ C E hle X ⟨_, _, rfl, rfl, hst⟩ hl)
theorem x_sipush {n : Int} {v : Int32} (hd : decode y.2.1 pc = .ok (.sipush n, 3)) (hv : (Int16.ofInt n).toInt32 = v) (k : Xw l D ρ y (pc + 3) L (.int v :: st) M d kc ks Q) : Xw l D ρ y pc L st M d kc ks Q := by
  intro p e R s m args below meth c A ad0 F H locs cells slots tys ad ws ls st' C E hle X hst hl
  exact lv_sipush C.1 C.2.1 hd hv (k p e R s m args below meth c A ad0 F H locs cells slots tys ad ws ls _ C E hle X ⟨_, _, rfl, rfl, hst⟩ hl)
theorem x_lconst {n : Fin 2} {v : Int64} (hd : decode y.2.1 pc = .ok (.lconst n, 1)) (hv : Int64.ofNat (n : Nat) = v) (k : Xw l D ρ y (pc + 1) L (.long v :: st) M d kc ks Q) : Xw l D ρ y pc L st M d kc ks Q := by
  intro p e R s m args below meth c A ad0 F H locs cells slots tys ad ws ls st' C E hle X hst hl
  exact lv_lconst C.1 C.2.1 hd hv (k p e R s m args below meth c A ad0 F H locs cells slots tys ad ws ls _ C E hle X ⟨_, _, rfl, rfl, hst⟩ hl)
theorem x_null  (hd : decode y.2.1 pc = .ok (.aconst_null, 1))  (k : Xw l D ρ y (pc + 1) L (.null :: st) M d kc ks Q) : Xw l D ρ y pc L st M d kc ks Q := by
  intro p e R s m args below meth c A ad0 F H locs cells slots tys ad ws ls st' C E hle X hst hl
  exact lv_null C.1 C.2.1 hd  (k p e R s m args below meth c A ad0 F H locs cells slots tys ad ws ls _ C E hle X ⟨_, _, rfl, rfl, hst⟩ hl)
theorem x_iadd {a b : Int32} (hd : decode y.2.1 pc = .ok (.iadd, 1))  (k : Xw l D ρ y (pc + 1) L (.int (a + b) :: st) M d kc ks Q) : Xw l D ρ y pc L (.int b :: .int a :: st) M d kc ks Q := by
  intro p e R s m args below meth c A ad0 F H locs cells slots tys ad ws ls st' C E hle X hst hl
  obtain ⟨w0, t0, rfl, h0, hst⟩ := hst
  obtain rfl : w0 = _ := h0
  obtain ⟨w1, t1, rfl, h1, hst⟩ := hst
  obtain rfl : w1 = _ := h1
  exact lv_iadd C.1 C.2.1 hd  (k p e R s m args below meth c A ad0 F H locs cells slots tys ad ws ls _ C E hle X ⟨_, _, rfl, rfl, hst⟩ hl)
theorem x_isub {a b : Int32} (hd : decode y.2.1 pc = .ok (.isub, 1))  (k : Xw l D ρ y (pc + 1) L (.int (a - b) :: st) M d kc ks Q) : Xw l D ρ y pc L (.int b :: .int a :: st) M d kc ks Q := by
  intro p e R s m args below meth c A ad0 F H locs cells slots tys ad ws ls st' C E hle X hst hl
  obtain ⟨w0, t0, rfl, h0, hst⟩ := hst
  obtain rfl : w0 = _ := h0
  obtain ⟨w1, t1, rfl, h1, hst⟩ := hst
  obtain rfl : w1 = _ := h1
  exact lv_isub C.1 C.2.1 hd  (k p e R s m args below meth c A ad0 F H locs cells slots tys ad ws ls _ C E hle X ⟨_, _, rfl, rfl, hst⟩ hl)
theorem x_imul {a b : Int32} (hd : decode y.2.1 pc = .ok (.imul, 1))  (k : Xw l D ρ y (pc + 1) L (.int (a * b) :: st) M d kc ks Q) : Xw l D ρ y pc L (.int b :: .int a :: st) M d kc ks Q := by
  intro p e R s m args below meth c A ad0 F H locs cells slots tys ad ws ls st' C E hle X hst hl
  obtain ⟨w0, t0, rfl, h0, hst⟩ := hst
  obtain rfl : w0 = _ := h0
  obtain ⟨w1, t1, rfl, h1, hst⟩ := hst
  obtain rfl : w1 = _ := h1
  exact lv_imul C.1 C.2.1 hd  (k p e R s m args below meth c A ad0 F H locs cells slots tys ad ws ls _ C E hle X ⟨_, _, rfl, rfl, hst⟩ hl)
theorem x_iand {a b : Int32} (hd : decode y.2.1 pc = .ok (.iand, 1))  (k : Xw l D ρ y (pc + 1) L (.int (a &&& b) :: st) M d kc ks Q) : Xw l D ρ y pc L (.int b :: .int a :: st) M d kc ks Q := by
  intro p e R s m args below meth c A ad0 F H locs cells slots tys ad ws ls st' C E hle X hst hl
  obtain ⟨w0, t0, rfl, h0, hst⟩ := hst
  obtain rfl : w0 = _ := h0
  obtain ⟨w1, t1, rfl, h1, hst⟩ := hst
  obtain rfl : w1 = _ := h1
  exact lv_iand C.1 C.2.1 hd  (k p e R s m args below meth c A ad0 F H locs cells slots tys ad ws ls _ C E hle X ⟨_, _, rfl, rfl, hst⟩ hl)
theorem x_ior {a b : Int32} (hd : decode y.2.1 pc = .ok (.ior, 1))  (k : Xw l D ρ y (pc + 1) L (.int (a ||| b) :: st) M d kc ks Q) : Xw l D ρ y pc L (.int b :: .int a :: st) M d kc ks Q := by
  intro p e R s m args below meth c A ad0 F H locs cells slots tys ad ws ls st' C E hle X hst hl
  obtain ⟨w0, t0, rfl, h0, hst⟩ := hst
  obtain rfl : w0 = _ := h0
  obtain ⟨w1, t1, rfl, h1, hst⟩ := hst
  obtain rfl : w1 = _ := h1
  exact lv_ior C.1 C.2.1 hd  (k p e R s m args below meth c A ad0 F H locs cells slots tys ad ws ls _ C E hle X ⟨_, _, rfl, rfl, hst⟩ hl)
theorem x_ixor {a b : Int32} (hd : decode y.2.1 pc = .ok (.ixor, 1))  (k : Xw l D ρ y (pc + 1) L (.int (a ^^^ b) :: st) M d kc ks Q) : Xw l D ρ y pc L (.int b :: .int a :: st) M d kc ks Q := by
  intro p e R s m args below meth c A ad0 F H locs cells slots tys ad ws ls st' C E hle X hst hl
  obtain ⟨w0, t0, rfl, h0, hst⟩ := hst
  obtain rfl : w0 = _ := h0
  obtain ⟨w1, t1, rfl, h1, hst⟩ := hst
  obtain rfl : w1 = _ := h1
  exact lv_ixor C.1 C.2.1 hd  (k p e R s m args below meth c A ad0 F H locs cells slots tys ad ws ls _ C E hle X ⟨_, _, rfl, rfl, hst⟩ hl)
theorem x_ishl {a b : Int32} (hd : decode y.2.1 pc = .ok (.ishl, 1))  (k : Xw l D ρ y (pc + 1) L (.int (a <<< (b &&& 31)) :: st) M d kc ks Q) : Xw l D ρ y pc L (.int b :: .int a :: st) M d kc ks Q := by
  intro p e R s m args below meth c A ad0 F H locs cells slots tys ad ws ls st' C E hle X hst hl
  obtain ⟨w0, t0, rfl, h0, hst⟩ := hst
  obtain rfl : w0 = _ := h0
  obtain ⟨w1, t1, rfl, h1, hst⟩ := hst
  obtain rfl : w1 = _ := h1
  exact lv_ishl C.1 C.2.1 hd  (k p e R s m args below meth c A ad0 F H locs cells slots tys ad ws ls _ C E hle X ⟨_, _, rfl, rfl, hst⟩ hl)
theorem x_ishr {a b : Int32} (hd : decode y.2.1 pc = .ok (.ishr, 1))  (k : Xw l D ρ y (pc + 1) L (.int (a >>> (b &&& 31)) :: st) M d kc ks Q) : Xw l D ρ y pc L (.int b :: .int a :: st) M d kc ks Q := by
  intro p e R s m args below meth c A ad0 F H locs cells slots tys ad ws ls st' C E hle X hst hl
  obtain ⟨w0, t0, rfl, h0, hst⟩ := hst
  obtain rfl : w0 = _ := h0
  obtain ⟨w1, t1, rfl, h1, hst⟩ := hst
  obtain rfl : w1 = _ := h1
  exact lv_ishr C.1 C.2.1 hd  (k p e R s m args below meth c A ad0 F H locs cells slots tys ad ws ls _ C E hle X ⟨_, _, rfl, rfl, hst⟩ hl)
theorem x_idiv {a b : Int32} (hd : decode y.2.1 pc = .ok (.idiv, 1)) (hne : ¬ b = 0) (k : Xw l D ρ y (pc + 1) L (.int (a / b) :: st) M d kc ks Q) : Xw l D ρ y pc L (.int b :: .int a :: st) M d kc ks Q := by
  intro p e R s m args below meth c A ad0 F H locs cells slots tys ad ws ls st' C E hle X hst hl
  obtain ⟨w0, t0, rfl, h0, hst⟩ := hst
  obtain rfl : w0 = _ := h0
  obtain ⟨w1, t1, rfl, h1, hst⟩ := hst
  obtain rfl : w1 = _ := h1
  exact lv_idiv C.1 C.2.1 hd hne (k p e R s m args below meth c A ad0 F H locs cells slots tys ad ws ls _ C E hle X ⟨_, _, rfl, rfl, hst⟩ hl)
theorem x_irem {a b : Int32} (hd : decode y.2.1 pc = .ok (.irem, 1)) (hne : ¬ b = 0) (k : Xw l D ρ y (pc + 1) L (.int (a - a / b * b) :: st) M d kc ks Q) : Xw l D ρ y pc L (.int b :: .int a :: st) M d kc ks Q := by
  intro p e R s m args below meth c A ad0 F H locs cells slots tys ad ws ls st' C E hle X hst hl
  obtain ⟨w0, t0, rfl, h0, hst⟩ := hst
  obtain rfl : w0 = _ := h0
  obtain ⟨w1, t1, rfl, h1, hst⟩ := hst
  obtain rfl : w1 = _ := h1
  exact lv_irem C.1 C.2.1 hd hne (k p e R s m args below meth c A ad0 F H locs cells slots tys ad ws ls _ C E hle X ⟨_, _, rfl, rfl, hst⟩ hl)
theorem x_ineg {a : Int32} (hd : decode y.2.1 pc = .ok (.ineg, 1))  (k : Xw l D ρ y (pc + 1) L (.int (-a) :: st) M d kc ks Q) : Xw l D ρ y pc L (.int a :: st) M d kc ks Q := by
  intro p e R s m args below meth c A ad0 F H locs cells slots tys ad ws ls st' C E hle X hst hl
  obtain ⟨w0, t0, rfl, h0, hst⟩ := hst
  obtain rfl : w0 = _ := h0
  exact lv_ineg C.1 C.2.1 hd  (k p e R s m args below meth c A ad0 F H locs cells slots tys ad ws ls _ C E hle X ⟨_, _, rfl, rfl, hst⟩ hl)
theorem x_iushr {a b : Int32} (hd : decode y.2.1 pc = .ok (.iushr, 1))  (k : Xw l D ρ y (pc + 1) L (.int ((a.toUInt32 >>> (b.toUInt32 &&& Int32.toUInt32 31)).toInt32) :: st) M d kc ks Q) : Xw l D ρ y pc L (.int b :: .int a :: st) M d kc ks Q := by
  intro p e R s m args below meth c A ad0 F H locs cells slots tys ad ws ls st' C E hle X hst hl
  obtain ⟨w0, t0, rfl, h0, hst⟩ := hst
  obtain rfl : w0 = _ := h0
  obtain ⟨w1, t1, rfl, h1, hst⟩ := hst
  obtain rfl : w1 = _ := h1
  exact lv_iushr C.1 C.2.1 hd rfl (k p e R s m args below meth c A ad0 F H locs cells slots tys ad ws ls _ C E hle X ⟨_, _, rfl, rfl, hst⟩ hl)
theorem x_ladd {a b : Int64} (hd : decode y.2.1 pc = .ok (.ladd, 1))  (k : Xw l D ρ y (pc + 1) L (.long (a + b) :: st) M d kc ks Q) : Xw l D ρ y pc L (.long b :: .long a :: st) M d kc ks Q := by
  intro p e R s m args below meth c A ad0 F H locs cells slots tys ad ws ls st' C E hle X hst hl
  obtain ⟨w0, t0, rfl, h0, hst⟩ := hst
  obtain rfl : w0 = _ := h0
  obtain ⟨w1, t1, rfl, h1, hst⟩ := hst
  obtain rfl : w1 = _ := h1
  exact lv_ladd C.1 C.2.1 hd  (k p e R s m args below meth c A ad0 F H locs cells slots tys ad ws ls _ C E hle X ⟨_, _, rfl, rfl, hst⟩ hl)
theorem x_lsub {a b : Int64} (hd : decode y.2.1 pc = .ok (.lsub, 1))  (k : Xw l D ρ y (pc + 1) L (.long (a - b) :: st) M d kc ks Q) : Xw l D ρ y pc L (.long b :: .long a :: st) M d kc ks Q := by
  intro p e R s m args below meth c A ad0 F H locs cells slots tys ad ws ls st' C E hle X hst hl
  obtain ⟨w0, t0, rfl, h0, hst⟩ := hst
  obtain rfl : w0 = _ := h0
  obtain ⟨w1, t1, rfl, h1, hst⟩ := hst
  obtain rfl : w1 = _ := h1
  exact lv_lsub C.1 C.2.1 hd  (k p e R s m args below meth c A ad0 F H locs cells slots tys ad ws ls _ C E hle X ⟨_, _, rfl, rfl, hst⟩ hl)
theorem x_lmul {a b : Int64} (hd : decode y.2.1 pc = .ok (.lmul, 1))  (k : Xw l D ρ y (pc + 1) L (.long (a * b) :: st) M d kc ks Q) : Xw l D ρ y pc L (.long b :: .long a :: st) M d kc ks Q := by
  intro p e R s m args below meth c A ad0 F H locs cells slots tys ad ws ls st' C E hle X hst hl
  obtain ⟨w0, t0, rfl, h0, hst⟩ := hst
  obtain rfl : w0 = _ := h0
  obtain ⟨w1, t1, rfl, h1, hst⟩ := hst
  obtain rfl : w1 = _ := h1
  exact lv_lmul C.1 C.2.1 hd  (k p e R s m args below meth c A ad0 F H locs cells slots tys ad ws ls _ C E hle X ⟨_, _, rfl, rfl, hst⟩ hl)
theorem x_land {a b : Int64} (hd : decode y.2.1 pc = .ok (.land, 1))  (k : Xw l D ρ y (pc + 1) L (.long (a &&& b) :: st) M d kc ks Q) : Xw l D ρ y pc L (.long b :: .long a :: st) M d kc ks Q := by
  intro p e R s m args below meth c A ad0 F H locs cells slots tys ad ws ls st' C E hle X hst hl
  obtain ⟨w0, t0, rfl, h0, hst⟩ := hst
  obtain rfl : w0 = _ := h0
  obtain ⟨w1, t1, rfl, h1, hst⟩ := hst
  obtain rfl : w1 = _ := h1
  exact lv_land C.1 C.2.1 hd  (k p e R s m args below meth c A ad0 F H locs cells slots tys ad ws ls _ C E hle X ⟨_, _, rfl, rfl, hst⟩ hl)
theorem x_lor {a b : Int64} (hd : decode y.2.1 pc = .ok (.lor, 1))  (k : Xw l D ρ y (pc + 1) L (.long (a ||| b) :: st) M d kc ks Q) : Xw l D ρ y pc L (.long b :: .long a :: st) M d kc ks Q := by
  intro p e R s m args below meth c A ad0 F H locs cells slots tys ad ws ls st' C E hle X hst hl
  obtain ⟨w0, t0, rfl, h0, hst⟩ := hst
  obtain rfl : w0 = _ := h0
  obtain ⟨w1, t1, rfl, h1, hst⟩ := hst
  obtain rfl : w1 = _ := h1
  exact lv_lor C.1 C.2.1 hd  (k p e R s m args below meth c A ad0 F H locs cells slots tys ad ws ls _ C E hle X ⟨_, _, rfl, rfl, hst⟩ hl)
theorem x_lxor {a b : Int64} (hd : decode y.2.1 pc = .ok (.lxor, 1))  (k : Xw l D ρ y (pc + 1) L (.long (a ^^^ b) :: st) M d kc ks Q) : Xw l D ρ y pc L (.long b :: .long a :: st) M d kc ks Q := by
  intro p e R s m args below meth c A ad0 F H locs cells slots tys ad ws ls st' C E hle X hst hl
  obtain ⟨w0, t0, rfl, h0, hst⟩ := hst
  obtain rfl : w0 = _ := h0
  obtain ⟨w1, t1, rfl, h1, hst⟩ := hst
  obtain rfl : w1 = _ := h1
  exact lv_lxor C.1 C.2.1 hd  (k p e R s m args below meth c A ad0 F H locs cells slots tys ad ws ls _ C E hle X ⟨_, _, rfl, rfl, hst⟩ hl)
theorem x_lushr {a : Int64} {b : Int32} (hd : decode y.2.1 pc = .ok (.lushr, 1))  (k : Xw l D ρ y (pc + 1) L (.long ((a.toUInt64 >>> (b.toInt64.toUInt64 &&& Int64.toUInt64 63)).toInt64) :: st) M d kc ks Q) : Xw l D ρ y pc L (.int b :: .long a :: st) M d kc ks Q := by
  intro p e R s m args below meth c A ad0 F H locs cells slots tys ad ws ls st' C E hle X hst hl
  obtain ⟨w0, t0, rfl, h0, hst⟩ := hst
  obtain rfl : w0 = _ := h0
  obtain ⟨w1, t1, rfl, h1, hst⟩ := hst
  obtain rfl : w1 = _ := h1
  exact lv_lushr C.1 C.2.1 hd rfl (k p e R s m args below meth c A ad0 F H locs cells slots tys ad ws ls _ C E hle X ⟨_, _, rfl, rfl, hst⟩ hl)
theorem x_lshl {a : Int64} {b : Int32} (hd : decode y.2.1 pc = .ok (.lshl, 1))  (k : Xw l D ρ y (pc + 1) L (.long (a <<< (b.toInt64 &&& 63)) :: st) M d kc ks Q) : Xw l D ρ y pc L (.int b :: .long a :: st) M d kc ks Q := by
  intro p e R s m args below meth c A ad0 F H locs cells slots tys ad ws ls st' C E hle X hst hl
  obtain ⟨w0, t0, rfl, h0, hst⟩ := hst
  obtain rfl : w0 = _ := h0
  obtain ⟨w1, t1, rfl, h1, hst⟩ := hst
  obtain rfl : w1 = _ := h1
  exact lv_lshl C.1 C.2.1 hd rfl (k p e R s m args below meth c A ad0 F H locs cells slots tys ad ws ls _ C E hle X ⟨_, _, rfl, rfl, hst⟩ hl)
theorem x_lshr {a : Int64} {b : Int32} (hd : decode y.2.1 pc = .ok (.lshr, 1))  (k : Xw l D ρ y (pc + 1) L (.long (a >>> (b.toInt64 &&& 63)) :: st) M d kc ks Q) : Xw l D ρ y pc L (.int b :: .long a :: st) M d kc ks Q := by
  intro p e R s m args below meth c A ad0 F H locs cells slots tys ad ws ls st' C E hle X hst hl
  obtain ⟨w0, t0, rfl, h0, hst⟩ := hst
  obtain rfl : w0 = _ := h0
  obtain ⟨w1, t1, rfl, h1, hst⟩ := hst
  obtain rfl : w1 = _ := h1
  exact lv_lshr C.1 C.2.1 hd rfl (k p e R s m args below meth c A ad0 F H locs cells slots tys ad ws ls _ C E hle X ⟨_, _, rfl, rfl, hst⟩ hl)
theorem x_i2l {a : Int32} (hd : decode y.2.1 pc = .ok (.i2l, 1))  (k : Xw l D ρ y (pc + 1) L (.long a.toInt64 :: st) M d kc ks Q) : Xw l D ρ y pc L (.int a :: st) M d kc ks Q := by
  intro p e R s m args below meth c A ad0 F H locs cells slots tys ad ws ls st' C E hle X hst hl
  obtain ⟨w0, t0, rfl, h0, hst⟩ := hst
  obtain rfl : w0 = _ := h0
  exact lv_i2l C.1 C.2.1 hd rfl (k p e R s m args below meth c A ad0 F H locs cells slots tys ad ws ls _ C E hle X ⟨_, _, rfl, rfl, hst⟩ hl)
theorem x_l2i {a : Int64} (hd : decode y.2.1 pc = .ok (.l2i, 1))  (k : Xw l D ρ y (pc + 1) L (.int a.toInt32 :: st) M d kc ks Q) : Xw l D ρ y pc L (.long a :: st) M d kc ks Q := by
  intro p e R s m args below meth c A ad0 F H locs cells slots tys ad ws ls st' C E hle X hst hl
  obtain ⟨w0, t0, rfl, h0, hst⟩ := hst
  obtain rfl : w0 = _ := h0
  exact lv_l2i C.1 C.2.1 hd rfl (k p e R s m args below meth c A ad0 F H locs cells slots tys ad ws ls _ C E hle X ⟨_, _, rfl, rfl, hst⟩ hl)
theorem x_lcmp {a b : Int64} (hd : decode y.2.1 pc = .ok (.lcmp, 1))  (k : Xw l D ρ y (pc + 1) L (.int (lg_cmp a b) :: st) M d kc ks Q) : Xw l D ρ y pc L (.long b :: .long a :: st) M d kc ks Q := by
  intro p e R s m args below meth c A ad0 F H locs cells slots tys ad ws ls st' C E hle X hst hl
  obtain ⟨w0, t0, rfl, h0, hst⟩ := hst
  obtain rfl : w0 = _ := h0
  obtain ⟨w1, t1, rfl, h1, hst⟩ := hst
  obtain rfl : w1 = _ := h1
  exact W.lcmp C.1 C.2.1 hd  (k p e R s m args below meth c A ad0 F H locs cells slots tys ad ws ls _ C E hle X ⟨_, _, rfl, rfl, hst⟩ hl)
theorem x_ldc {index : Nat} {v : Int32} (hw : Jvm.Cond.constant y.1.cls index v ∈ Gw) (hd : decode y.2.1 pc = .ok (.ldc index, 2)) (k : Xw l D ρ y (pc + 2) L (.int v :: st) M d kc ks Q) : Xw l D ρ y pc L st M d kc ks Q := by
  intro p e R s m args below meth c A ad0 F H locs cells slots tys ad ws ls st' C E hle X hst hl
  obtain ⟨hx, hb, hr, hml, hown, hts, hrest⟩ := id C
  exact lv_ldc hx hb hown (hts _ hw) hd (k p e R s m args below meth c A ad0 F H locs cells slots tys ad ws ls _ C E hle X ⟨_, _, rfl, rfl, hst⟩ hl)
theorem x_ldc2 {index : Nat} {v : Int64} (hw : Jvm.Cond.constantLong y.1.cls index v ∈ Gw) (hd : decode y.2.1 pc = .ok (.ldc2_w index, 3)) (k : Xw l D ρ y (pc + 3) L (.long v :: st) M d kc ks Q) : Xw l D ρ y pc L st M d kc ks Q := by
  intro p e R s m args below meth c A ad0 F H locs cells slots tys ad ws ls st' C E hle X hst hl
  obtain ⟨hx, hb, hr, hml, hown, hts, hrest⟩ := id C
  exact lv_ldc2 hx hb hown (hts _ hw) hd (k p e R s m args below meth c A ad0 F H locs cells slots tys ad ws ls _ C E hle X ⟨_, _, rfl, rfl, hst⟩ hl)
theorem x_dup {u : Value} (hd : decode y.2.1 pc = .ok (.dup, 1)) (hcu : u.category = 1) (k : Xw l D ρ y (pc + 1) L (u :: u :: st) M d kc ks Q) : Xw l D ρ y pc L (u :: st) M d kc ks Q := by
  intro p e R s m args below meth c A ad0 F H locs cells slots tys ad ws ls st' C E hle X hst hl
  obtain ⟨wu, tu, rfl, hu, hst⟩ := hst
  exact lv_dup C.1 C.2.1 hd ((xvr_cat hu).trans hcu) (k p e R s m args below meth c A ad0 F H locs cells slots tys ad ws ls _ C E hle X ⟨_, _, rfl, hu, ⟨_, _, rfl, hu, hst⟩⟩ hl)
theorem x_pop {u : Value} (hd : decode y.2.1 pc = .ok (.pop, 1)) (hcu : u.category = 1) (k : Xw l D ρ y (pc + 1) L st M d kc ks Q) : Xw l D ρ y pc L (u :: st) M d kc ks Q := by
  intro p e R s m args below meth c A ad0 F H locs cells slots tys ad ws ls st' C E hle X hst hl
  obtain ⟨wu, tu, rfl, hu, hst⟩ := hst
  exact lv_pop C.1 C.2.1 hd ((xvr_cat hu).trans hcu) (k p e R s m args below meth c A ad0 F H locs cells slots tys ad ws ls _ C E hle X hst hl)
theorem x_dup_x1 {u v : Value} (hd : decode y.2.1 pc = .ok (.dup_x1, 1)) (hcu : u.category = 1) (hcv : v.category = 1) (k : Xw l D ρ y (pc + 1) L (u :: v :: u :: st) M d kc ks Q) : Xw l D ρ y pc L (u :: v :: st) M d kc ks Q := by
  intro p e R s m args below meth c A ad0 F H locs cells slots tys ad ws ls st' C E hle X hst hl
  obtain ⟨wu, tu, rfl, hu, hst⟩ := hst
  obtain ⟨wv, tv, rfl, hv, hst⟩ := hst
  exact lv_dup_x1 C.1 C.2.1 hd ((xvr_cat hu).trans hcu) ((xvr_cat hv).trans hcv) (k p e R s m args below meth c A ad0 F H locs cells slots tys ad ws ls _ C E hle X ⟨_, _, rfl, hu, ⟨_, _, rfl, hv, ⟨_, _, rfl, hu, hst⟩⟩⟩ hl)
theorem x_dup2 {u v : Value} (hd : decode y.2.1 pc = .ok (.dup2, 1)) (hcu : u.category = 1) (hcv : v.category = 1) (k : Xw l D ρ y (pc + 1) L (u :: v :: u :: v :: st) M d kc ks Q) : Xw l D ρ y pc L (u :: v :: st) M d kc ks Q := by
  intro p e R s m args below meth c A ad0 F H locs cells slots tys ad ws ls st' C E hle X hst hl
  obtain ⟨wu, tu, rfl, hu, hst⟩ := hst
  obtain ⟨wv, tv, rfl, hv, hst⟩ := hst
  exact lv_dup2_11 C.1 C.2.1 hd ((xvr_cat hu).trans hcu) ((xvr_cat hv).trans hcv) (k p e R s m args below meth c A ad0 F H locs cells slots tys ad ws ls _ C E hle X ⟨_, _, rfl, hu, ⟨_, _, rfl, hv, ⟨_, _, rfl, hu, ⟨_, _, rfl, hv, hst⟩⟩⟩⟩ hl)
theorem x_pop2 {u : Value} (hd : decode y.2.1 pc = .ok (.pop2, 1)) (hcu : u.category = 2) (k : Xw l D ρ y (pc + 1) L st M d kc ks Q) : Xw l D ρ y pc L (u :: st) M d kc ks Q := by
  intro p e R s m args below meth c A ad0 F H locs cells slots tys ad ws ls st' C E hle X hst hl
  obtain ⟨wu, tu, rfl, hu, hst⟩ := hst
  exact lv_pop2_2 C.1 C.2.1 hd ((xvr_cat hu).trans hcu) (k p e R s m args below meth c A ad0 F H locs cells slots tys ad ws ls _ C E hle X hst hl)
theorem x_iload_n {n : Fin 4} {i : Nat} {x : Int32} (hd : decode y.2.1 pc = .ok (.iload_n n, 1)) (hi : (n : Nat) = i) (j : Nat) (hL : L[j]? = some (i, .int x)) (k : Xw l D ρ y (pc + 1) L (.int x :: st) M d kc ks Q) : Xw l D ρ y pc L st M d kc ks Q := by
  intro p e R s m args below meth c A ad0 F H locs cells slots tys ad ws ls st' C E hle X hst hl
  obtain ⟨w, h1, h2⟩ := xls_at hl j hL
  obtain rfl : w = _ := h2
  exact lv_iload_n C.1 C.2.1 hd hi h1 (k p e R s m args below meth c A ad0 F H locs cells slots tys ad ws ls _ C E hle X ⟨_, _, rfl, rfl, hst⟩ hl)
theorem x_iload {i : Nat} {x : Int32} (hd : decode y.2.1 pc = .ok (.iload i, 2)) (j : Nat) (hL : L[j]? = some (i, .int x)) (k : Xw l D ρ y (pc + 2) L (.int x :: st) M d kc ks Q) : Xw l D ρ y pc L st M d kc ks Q := by
  intro p e R s m args below meth c A ad0 F H locs cells slots tys ad ws ls st' C E hle X hst hl
  obtain ⟨w, h1, h2⟩ := xls_at hl j hL
  obtain rfl : w = _ := h2
  exact lv_iload C.1 C.2.1 hd h1 (k p e R s m args below meth c A ad0 F H locs cells slots tys ad ws ls _ C E hle X ⟨_, _, rfl, rfl, hst⟩ hl)
theorem x_lload_n {n : Fin 4} {i : Nat} {x : Int64} (hd : decode y.2.1 pc = .ok (.lload_n n, 1)) (hi : (n : Nat) = i) (j : Nat) (hL : L[j]? = some (i, .long x)) (k : Xw l D ρ y (pc + 1) L (.long x :: st) M d kc ks Q) : Xw l D ρ y pc L st M d kc ks Q := by
  intro p e R s m args below meth c A ad0 F H locs cells slots tys ad ws ls st' C E hle X hst hl
  obtain ⟨w, h1, h2⟩ := xls_at hl j hL
  obtain rfl : w = _ := h2
  exact lv_lload_n C.1 C.2.1 hd hi h1 (k p e R s m args below meth c A ad0 F H locs cells slots tys ad ws ls _ C E hle X ⟨_, _, rfl, rfl, hst⟩ hl)
theorem x_lload {i : Nat} {x : Int64} (hd : decode y.2.1 pc = .ok (.lload i, 2)) (j : Nat) (hL : L[j]? = some (i, .long x)) (k : Xw l D ρ y (pc + 2) L (.long x :: st) M d kc ks Q) : Xw l D ρ y pc L st M d kc ks Q := by
  intro p e R s m args below meth c A ad0 F H locs cells slots tys ad ws ls st' C E hle X hst hl
  obtain ⟨w, h1, h2⟩ := xls_at hl j hL
  obtain rfl : w = _ := h2
  exact lv_lload C.1 C.2.1 hd h1 (k p e R s m args below meth c A ad0 F H locs cells slots tys ad ws ls _ C E hle X ⟨_, _, rfl, rfl, hst⟩ hl)
theorem x_aload_n {n : Fin 4} {i : Nat} {v : Value} (hd : decode y.2.1 pc = .ok (.aload_n n, 1)) (hi : (n : Nat) = i) (j : Nat) (hL : L[j]? = some (i, v)) (hv : xrf v) (k : Xw l D ρ y (pc + 1) L (v :: st) M d kc ks Q) : Xw l D ρ y pc L st M d kc ks Q := by
  intro p e R s m args below meth c A ad0 F H locs cells slots tys ad ws ls st' C E hle X hst hl
  obtain ⟨w, h1, h2⟩ := xls_at hl j hL
  have h3 := xrf_or hv h2
  have h4 := k p e R s m args below meth c A ad0 F H locs cells slots tys ad ws ls (w :: st') C E hle X ⟨_, _, rfl, h2, hst⟩ hl
  rcases h3 with rfl | ⟨a, rfl⟩
  · exact lv_aload_nN C.1 C.2.1 hd hi h1 h4
  · exact lv_aload_n C.1 C.2.1 hd hi h1 h4
theorem x_aload {i : Nat} {v : Value} (hd : decode y.2.1 pc = .ok (.aload i, 2)) (j : Nat) (hL : L[j]? = some (i, v)) (hv : xrf v) (k : Xw l D ρ y (pc + 2) L (v :: st) M d kc ks Q) : Xw l D ρ y pc L st M d kc ks Q := by
  intro p e R s m args below meth c A ad0 F H locs cells slots tys ad ws ls st' C E hle X hst hl
  obtain ⟨w, h1, h2⟩ := xls_at hl j hL
  have h3 := xrf_or hv h2
  have h4 := k p e R s m args below meth c A ad0 F H locs cells slots tys ad ws ls (w :: st') C E hle X ⟨_, _, rfl, h2, hst⟩ hl
  rcases h3 with rfl | ⟨a, rfl⟩
  · exact lv_aloadN C.1 C.2.1 hd h1 h4
  · exact lv_aload C.1 C.2.1 hd h1 h4
theorem x_istore_n {n : Fin 4} {i : Nat} {x : Int32} {L' : List (Nat × Value)} (hd : decode y.2.1 pc = .ok (.istore_n n, 1)) (hi : (n : Nat) = i) (hn : i < y.2.2.1) (hl' : (i, Value.int x) :: L.filter (fun q => !(q.1 == i) && !(q.1 + 1 == i && q.2.category == 2)) = L') (k : Xw l D ρ y (pc + 1) L' st M d kc ks Q) : Xw l D ρ y pc L (.int x :: st) M d kc ks Q := by
  intro p e R s m args below meth c A ad0 F H locs cells slots tys ad ws ls st' C E hle X hst hl
  obtain ⟨w0, t0, rfl, h1, hst⟩ := hst
  obtain rfl : w0 = _ := h1
  obtain ⟨Lm, g1, g2⟩ := hl
  refine lv_istore_n C.1 C.2.1 hd hi g1 hn rfl (fun ls1 g3 => ?_)
  exact k p e R s m args below meth c A ad0 F H locs cells slots tys ad ws ls1 _ C E hle X hst ⟨_, g3, by rw [← hl']; exact ⟨_, _, rfl, rfl, xlr_filter (fun a b => !(a == i) && !(a + 1 == i && b == 2)) g2⟩⟩
theorem x_istore {i : Nat} {x : Int32} {L' : List (Nat × Value)} (hd : decode y.2.1 pc = .ok (.istore i, 2)) (hn : i < y.2.2.1) (hl' : (i, Value.int x) :: L.filter (fun q => !(q.1 == i) && !(q.1 + 1 == i && q.2.category == 2)) = L') (k : Xw l D ρ y (pc + 2) L' st M d kc ks Q) : Xw l D ρ y pc L (.int x :: st) M d kc ks Q := by
  intro p e R s m args below meth c A ad0 F H locs cells slots tys ad ws ls st' C E hle X hst hl
  obtain ⟨w0, t0, rfl, h1, hst⟩ := hst
  obtain rfl : w0 = _ := h1
  obtain ⟨Lm, g1, g2⟩ := hl
  refine lv_istore C.1 C.2.1 hd g1 hn rfl (fun ls1 g3 => ?_)
  exact k p e R s m args below meth c A ad0 F H locs cells slots tys ad ws ls1 _ C E hle X hst ⟨_, g3, by rw [← hl']; exact ⟨_, _, rfl, rfl, xlr_filter (fun a b => !(a == i) && !(a + 1 == i && b == 2)) g2⟩⟩
theorem x_lstore_n {n : Fin 4} {i : Nat} {x : Int64} {L' : List (Nat × Value)} (hd : decode y.2.1 pc = .ok (.lstore_n n, 1)) (hi : (n : Nat) = i) (hn : i + 1 < y.2.2.1) (hl' : (i, Value.long x) :: L.filter (fun q => !(q.1 == i) && (!(q.1 == i + 1) && !(q.1 + 1 == i && q.2.category == 2))) = L') (k : Xw l D ρ y (pc + 1) L' st M d kc ks Q) : Xw l D ρ y pc L (.long x :: st) M d kc ks Q := by
  intro p e R s m args below meth c A ad0 F H locs cells slots tys ad ws ls st' C E hle X hst hl
  obtain ⟨w0, t0, rfl, h1, hst⟩ := hst
  obtain rfl : w0 = _ := h1
  obtain ⟨Lm, g1, g2⟩ := hl
  refine lv_lstore_n C.1 C.2.1 hd hi g1 hn rfl (fun ls1 g3 => ?_)
  exact k p e R s m args below meth c A ad0 F H locs cells slots tys ad ws ls1 _ C E hle X hst ⟨_, g3, by rw [← hl']; exact ⟨_, _, rfl, rfl, xlr_filter (fun a b => !(a == i) && (!(a == i + 1) && !(a + 1 == i && b == 2))) g2⟩⟩
theorem x_lstore {i : Nat} {x : Int64} {L' : List (Nat × Value)} (hd : decode y.2.1 pc = .ok (.lstore i, 2)) (hn : i + 1 < y.2.2.1) (hl' : (i, Value.long x) :: L.filter (fun q => !(q.1 == i) && (!(q.1 == i + 1) && !(q.1 + 1 == i && q.2.category == 2))) = L') (k : Xw l D ρ y (pc + 2) L' st M d kc ks Q) : Xw l D ρ y pc L (.long x :: st) M d kc ks Q := by
  intro p e R s m args below meth c A ad0 F H locs cells slots tys ad ws ls st' C E hle X hst hl
  obtain ⟨w0, t0, rfl, h1, hst⟩ := hst
  obtain rfl : w0 = _ := h1
  obtain ⟨Lm, g1, g2⟩ := hl
  refine lv_lstore C.1 C.2.1 hd g1 hn rfl (fun ls1 g3 => ?_)
  exact k p e R s m args below meth c A ad0 F H locs cells slots tys ad ws ls1 _ C E hle X hst ⟨_, g3, by rw [← hl']; exact ⟨_, _, rfl, rfl, xlr_filter (fun a b => !(a == i) && (!(a == i + 1) && !(a + 1 == i && b == 2))) g2⟩⟩
theorem x_astore_n {n : Fin 4} {i : Nat} {v : Value} {L' : List (Nat × Value)} (hd : decode y.2.1 pc = .ok (.astore_n n, 1)) (hi : (n : Nat) = i) (hn : i < y.2.2.1) (hv : xrf v) (hl' : (i, v) :: L.filter (fun q => !(q.1 == i) && !(q.1 + 1 == i && q.2.category == 2)) = L') (k : Xw l D ρ y (pc + 1) L' st M d kc ks Q) : Xw l D ρ y pc L (v :: st) M d kc ks Q := by
  intro p e R s m args below meth c A ad0 F H locs cells slots tys ad ws ls st' C E hle X hst hl
  obtain ⟨w0, t0, rfl, h1, hst⟩ := hst
  have h3 := xrf_or hv h1
  obtain ⟨Lm, g1, g2⟩ := hl
  have h4 : ∀ ls1 : Array Slot, lv_has ls1 y.2.2.1 ((i, w0) :: Lm.filter (fun q => !(q.1 == i) && !(q.1 + 1 == i && q.2.category == 2))) → W p l e R s m args below meth c H locs cells slots F (F0 m (pc + 1) ls1 t0) := fun ls1 g3 => k p e R s m args below meth c A ad0 F H locs cells slots tys ad ws ls1 _ C E hle X hst ⟨_, g3, by rw [← hl']; exact ⟨_, _, rfl, h1, xlr_filter (fun a b => !(a == i) && !(a + 1 == i && b == 2)) g2⟩⟩
  rcases h3 with rfl | ⟨a, rfl⟩
  · exact lv_astore_nN C.1 C.2.1 hd hi g1 hn rfl h4
  · exact lv_astore_n C.1 C.2.1 hd hi g1 hn rfl h4
theorem x_astore {i : Nat} {v : Value} {L' : List (Nat × Value)} (hd : decode y.2.1 pc = .ok (.astore i, 2)) (hn : i < y.2.2.1) (hv : xrf v) (hl' : (i, v) :: L.filter (fun q => !(q.1 == i) && !(q.1 + 1 == i && q.2.category == 2)) = L') (k : Xw l D ρ y (pc + 2) L' st M d kc ks Q) : Xw l D ρ y pc L (v :: st) M d kc ks Q := by
  intro p e R s m args below meth c A ad0 F H locs cells slots tys ad ws ls st' C E hle X hst hl
  obtain ⟨w0, t0, rfl, h1, hst⟩ := hst
  have h3 := xrf_or hv h1
  obtain ⟨Lm, g1, g2⟩ := hl
  have h4 : ∀ ls1 : Array Slot, lv_has ls1 y.2.2.1 ((i, w0) :: Lm.filter (fun q => !(q.1 == i) && !(q.1 + 1 == i && q.2.category == 2))) → W p l e R s m args below meth c H locs cells slots F (F0 m (pc + 2) ls1 t0) := fun ls1 g3 => k p e R s m args below meth c A ad0 F H locs cells slots tys ad ws ls1 _ C E hle X hst ⟨_, g3, by rw [← hl']; exact ⟨_, _, rfl, h1, xlr_filter (fun a b => !(a == i) && !(a + 1 == i && b == 2)) g2⟩⟩
  rcases h3 with rfl | ⟨a, rfl⟩
  · exact lv_astoreN C.1 C.2.1 hd g1 hn rfl h4
  · exact lv_astore C.1 C.2.1 hd g1 hn rfl h4
theorem x_iinc {i : Nat} {n : Int} {x v : Int32} {L' : List (Nat × Value)} (hd : decode y.2.1 pc = .ok (.iinc i n, 3)) (j : Nat) (hL : L[j]? = some (i, .int x)) (hv : x + Int32.ofInt n = v) (hn : i < y.2.2.1) (hl' : (i, Value.int v) :: L.filter (fun q => !(q.1 == i) && !(q.1 + 1 == i && q.2.category == 2)) = L') (k : Xw l D ρ y (pc + 3) L' st M d kc ks Q) : Xw l D ρ y pc L st M d kc ks Q := by
  intro p e R s m args below meth c A ad0 F H locs cells slots tys ad ws ls st' C E hle X hst hl
  obtain ⟨Lm, g1, g2⟩ := hl
  obtain ⟨w, g4, g5⟩ := xlr_at g2 hL
  obtain rfl : w = _ := g5
  refine lv_iinc C.1 C.2.1 hd g1 g4 hv hn rfl (fun ls1 g3 => ?_)
  exact k p e R s m args below meth c A ad0 F H locs cells slots tys ad ws ls1 _ C E hle X hst ⟨_, g3, by rw [← hl']; exact ⟨_, _, rfl, rfl, xlr_filter (fun a b => !(a == i) && !(a + 1 == i && b == 2)) g2⟩⟩
theorem x_pick (js : List Nat) {L' : List (Nat × Value)} (hL : lv_pick L js = L') (k : Xw l D ρ y pc L' st M d kc ks Q) : Xw l D ρ y pc L st M d kc ks Q := by
  intro p e R s m args below meth c A ad0 F H locs cells slots tys ad ws ls st' C E hle X hst hl
  exact k p e R s m args below meth c A ad0 F H locs cells slots tys ad ws ls _ C E hle X hst (hL ▸ xls_pick hl js)
theorem x_if_eq {a : Int32} {off : Int} {tgt : Nat} (hd : decode y.2.1 pc = .ok (.ifCond .eq off, 3)) (ht : (pc : Int) + off = (tgt : Int)) (kt : a = 0 → Xw l D ρ y tgt L st M d kc ks Q) (kf : ¬ a = 0 → Xw l D ρ y (pc + 3) L st M d kc ks Q) : Xw l D ρ y pc L (.int a :: st) M d kc ks Q := by
  intro p e R s m args below meth c A ad0 F H locs cells slots tys ad ws ls st' C E hle X hst hl
  obtain ⟨w0, t0, rfl, h1, hst⟩ := hst
  obtain rfl : w0 = _ := h1
  exact lv_if_eq C.1 C.2.1 hd ht (fun z => kt z p e R s m args below meth c A ad0 F H locs cells slots tys ad ws ls _ C E hle X hst hl) (fun z => kf z p e R s m args below meth c A ad0 F H locs cells slots tys ad ws ls _ C E hle X hst hl)
theorem x_icmp_eq {a b : Int32} {off : Int} {tgt : Nat} (hd : decode y.2.1 pc = .ok (.if_icmp .eq off, 3)) (ht : (pc : Int) + off = (tgt : Int)) (kt : a = b → Xw l D ρ y tgt L st M d kc ks Q) (kf : ¬ a = b → Xw l D ρ y (pc + 3) L st M d kc ks Q) : Xw l D ρ y pc L (.int b :: .int a :: st) M d kc ks Q := by
  intro p e R s m args below meth c A ad0 F H locs cells slots tys ad ws ls st' C E hle X hst hl
  obtain ⟨w0, t0, rfl, h1, hst⟩ := hst
  obtain rfl : w0 = _ := h1
  obtain ⟨w1, t1, rfl, h1, hst⟩ := hst
  obtain rfl : w1 = _ := h1
  exact lv_icmp_eq C.1 C.2.1 hd ht (fun z => kt z p e R s m args below meth c A ad0 F H locs cells slots tys ad ws ls _ C E hle X hst hl) (fun z => kf z p e R s m args below meth c A ad0 F H locs cells slots tys ad ws ls _ C E hle X hst hl)
theorem x_if_ne {a : Int32} {off : Int} {tgt : Nat} (hd : decode y.2.1 pc = .ok (.ifCond .ne off, 3)) (ht : (pc : Int) + off = (tgt : Int)) (kt : ¬ a = 0 → Xw l D ρ y tgt L st M d kc ks Q) (kf : a = 0 → Xw l D ρ y (pc + 3) L st M d kc ks Q) : Xw l D ρ y pc L (.int a :: st) M d kc ks Q := by
  intro p e R s m args below meth c A ad0 F H locs cells slots tys ad ws ls st' C E hle X hst hl
  obtain ⟨w0, t0, rfl, h1, hst⟩ := hst
  obtain rfl : w0 = _ := h1
  exact lv_if_ne C.1 C.2.1 hd ht (fun z => kt z p e R s m args below meth c A ad0 F H locs cells slots tys ad ws ls _ C E hle X hst hl) (fun z => kf z p e R s m args below meth c A ad0 F H locs cells slots tys ad ws ls _ C E hle X hst hl)
theorem x_icmp_ne {a b : Int32} {off : Int} {tgt : Nat} (hd : decode y.2.1 pc = .ok (.if_icmp .ne off, 3)) (ht : (pc : Int) + off = (tgt : Int)) (kt : ¬ a = b → Xw l D ρ y tgt L st M d kc ks Q) (kf : a = b → Xw l D ρ y (pc + 3) L st M d kc ks Q) : Xw l D ρ y pc L (.int b :: .int a :: st) M d kc ks Q := by
  intro p e R s m args below meth c A ad0 F H locs cells slots tys ad ws ls st' C E hle X hst hl
  obtain ⟨w0, t0, rfl, h1, hst⟩ := hst
  obtain rfl : w0 = _ := h1
  obtain ⟨w1, t1, rfl, h1, hst⟩ := hst
  obtain rfl : w1 = _ := h1
  exact lv_icmp_ne C.1 C.2.1 hd ht (fun z => kt z p e R s m args below meth c A ad0 F H locs cells slots tys ad ws ls _ C E hle X hst hl) (fun z => kf z p e R s m args below meth c A ad0 F H locs cells slots tys ad ws ls _ C E hle X hst hl)
theorem x_if_lt {a : Int32} {off : Int} {tgt : Nat} (hd : decode y.2.1 pc = .ok (.ifCond .lt off, 3)) (ht : (pc : Int) + off = (tgt : Int)) (kt : a < 0 → Xw l D ρ y tgt L st M d kc ks Q) (kf : ¬ a < 0 → Xw l D ρ y (pc + 3) L st M d kc ks Q) : Xw l D ρ y pc L (.int a :: st) M d kc ks Q := by
  intro p e R s m args below meth c A ad0 F H locs cells slots tys ad ws ls st' C E hle X hst hl
  obtain ⟨w0, t0, rfl, h1, hst⟩ := hst
  obtain rfl : w0 = _ := h1
  exact lv_if_lt C.1 C.2.1 hd ht (fun z => kt z p e R s m args below meth c A ad0 F H locs cells slots tys ad ws ls _ C E hle X hst hl) (fun z => kf z p e R s m args below meth c A ad0 F H locs cells slots tys ad ws ls _ C E hle X hst hl)
theorem x_icmp_lt {a b : Int32} {off : Int} {tgt : Nat} (hd : decode y.2.1 pc = .ok (.if_icmp .lt off, 3)) (ht : (pc : Int) + off = (tgt : Int)) (kt : a < b → Xw l D ρ y tgt L st M d kc ks Q) (kf : ¬ a < b → Xw l D ρ y (pc + 3) L st M d kc ks Q) : Xw l D ρ y pc L (.int b :: .int a :: st) M d kc ks Q := by
  intro p e R s m args below meth c A ad0 F H locs cells slots tys ad ws ls st' C E hle X hst hl
  obtain ⟨w0, t0, rfl, h1, hst⟩ := hst
  obtain rfl : w0 = _ := h1
  obtain ⟨w1, t1, rfl, h1, hst⟩ := hst
  obtain rfl : w1 = _ := h1
  exact lv_icmp_lt C.1 C.2.1 hd ht (fun z => kt z p e R s m args below meth c A ad0 F H locs cells slots tys ad ws ls _ C E hle X hst hl) (fun z => kf z p e R s m args below meth c A ad0 F H locs cells slots tys ad ws ls _ C E hle X hst hl)
theorem x_if_ge {a : Int32} {off : Int} {tgt : Nat} (hd : decode y.2.1 pc = .ok (.ifCond .ge off, 3)) (ht : (pc : Int) + off = (tgt : Int)) (kt : 0 ≤ a → Xw l D ρ y tgt L st M d kc ks Q) (kf : ¬ 0 ≤ a → Xw l D ρ y (pc + 3) L st M d kc ks Q) : Xw l D ρ y pc L (.int a :: st) M d kc ks Q := by
  intro p e R s m args below meth c A ad0 F H locs cells slots tys ad ws ls st' C E hle X hst hl
  obtain ⟨w0, t0, rfl, h1, hst⟩ := hst
  obtain rfl : w0 = _ := h1
  exact lv_if_ge C.1 C.2.1 hd ht (fun z => kt z p e R s m args below meth c A ad0 F H locs cells slots tys ad ws ls _ C E hle X hst hl) (fun z => kf z p e R s m args below meth c A ad0 F H locs cells slots tys ad ws ls _ C E hle X hst hl)
theorem x_icmp_ge {a b : Int32} {off : Int} {tgt : Nat} (hd : decode y.2.1 pc = .ok (.if_icmp .ge off, 3)) (ht : (pc : Int) + off = (tgt : Int)) (kt : b ≤ a → Xw l D ρ y tgt L st M d kc ks Q) (kf : ¬ b ≤ a → Xw l D ρ y (pc + 3) L st M d kc ks Q) : Xw l D ρ y pc L (.int b :: .int a :: st) M d kc ks Q := by
  intro p e R s m args below meth c A ad0 F H locs cells slots tys ad ws ls st' C E hle X hst hl
  obtain ⟨w0, t0, rfl, h1, hst⟩ := hst
  obtain rfl : w0 = _ := h1
  obtain ⟨w1, t1, rfl, h1, hst⟩ := hst
  obtain rfl : w1 = _ := h1
  exact lv_icmp_ge C.1 C.2.1 hd ht (fun z => kt z p e R s m args below meth c A ad0 F H locs cells slots tys ad ws ls _ C E hle X hst hl) (fun z => kf z p e R s m args below meth c A ad0 F H locs cells slots tys ad ws ls _ C E hle X hst hl)
theorem x_if_gt {a : Int32} {off : Int} {tgt : Nat} (hd : decode y.2.1 pc = .ok (.ifCond .gt off, 3)) (ht : (pc : Int) + off = (tgt : Int)) (kt : 0 < a → Xw l D ρ y tgt L st M d kc ks Q) (kf : ¬ 0 < a → Xw l D ρ y (pc + 3) L st M d kc ks Q) : Xw l D ρ y pc L (.int a :: st) M d kc ks Q := by
  intro p e R s m args below meth c A ad0 F H locs cells slots tys ad ws ls st' C E hle X hst hl
  obtain ⟨w0, t0, rfl, h1, hst⟩ := hst
  obtain rfl : w0 = _ := h1
  exact lv_if_gt C.1 C.2.1 hd ht (fun z => kt z p e R s m args below meth c A ad0 F H locs cells slots tys ad ws ls _ C E hle X hst hl) (fun z => kf z p e R s m args below meth c A ad0 F H locs cells slots tys ad ws ls _ C E hle X hst hl)
theorem x_icmp_gt {a b : Int32} {off : Int} {tgt : Nat} (hd : decode y.2.1 pc = .ok (.if_icmp .gt off, 3)) (ht : (pc : Int) + off = (tgt : Int)) (kt : b < a → Xw l D ρ y tgt L st M d kc ks Q) (kf : ¬ b < a → Xw l D ρ y (pc + 3) L st M d kc ks Q) : Xw l D ρ y pc L (.int b :: .int a :: st) M d kc ks Q := by
  intro p e R s m args below meth c A ad0 F H locs cells slots tys ad ws ls st' C E hle X hst hl
  obtain ⟨w0, t0, rfl, h1, hst⟩ := hst
  obtain rfl : w0 = _ := h1
  obtain ⟨w1, t1, rfl, h1, hst⟩ := hst
  obtain rfl : w1 = _ := h1
  exact lv_icmp_gt C.1 C.2.1 hd ht (fun z => kt z p e R s m args below meth c A ad0 F H locs cells slots tys ad ws ls _ C E hle X hst hl) (fun z => kf z p e R s m args below meth c A ad0 F H locs cells slots tys ad ws ls _ C E hle X hst hl)
theorem x_if_le {a : Int32} {off : Int} {tgt : Nat} (hd : decode y.2.1 pc = .ok (.ifCond .le off, 3)) (ht : (pc : Int) + off = (tgt : Int)) (kt : a ≤ 0 → Xw l D ρ y tgt L st M d kc ks Q) (kf : ¬ a ≤ 0 → Xw l D ρ y (pc + 3) L st M d kc ks Q) : Xw l D ρ y pc L (.int a :: st) M d kc ks Q := by
  intro p e R s m args below meth c A ad0 F H locs cells slots tys ad ws ls st' C E hle X hst hl
  obtain ⟨w0, t0, rfl, h1, hst⟩ := hst
  obtain rfl : w0 = _ := h1
  exact lv_if_le C.1 C.2.1 hd ht (fun z => kt z p e R s m args below meth c A ad0 F H locs cells slots tys ad ws ls _ C E hle X hst hl) (fun z => kf z p e R s m args below meth c A ad0 F H locs cells slots tys ad ws ls _ C E hle X hst hl)
theorem x_icmp_le {a b : Int32} {off : Int} {tgt : Nat} (hd : decode y.2.1 pc = .ok (.if_icmp .le off, 3)) (ht : (pc : Int) + off = (tgt : Int)) (kt : a ≤ b → Xw l D ρ y tgt L st M d kc ks Q) (kf : ¬ a ≤ b → Xw l D ρ y (pc + 3) L st M d kc ks Q) : Xw l D ρ y pc L (.int b :: .int a :: st) M d kc ks Q := by
  intro p e R s m args below meth c A ad0 F H locs cells slots tys ad ws ls st' C E hle X hst hl
  obtain ⟨w0, t0, rfl, h1, hst⟩ := hst
  obtain rfl : w0 = _ := h1
  obtain ⟨w1, t1, rfl, h1, hst⟩ := hst
  obtain rfl : w1 = _ := h1
  exact lv_icmp_le C.1 C.2.1 hd ht (fun z => kt z p e R s m args below meth c A ad0 F H locs cells slots tys ad ws ls _ C E hle X hst hl) (fun z => kf z p e R s m args below meth c A ad0 F H locs cells slots tys ad ws ls _ C E hle X hst hl)
theorem x_goto {off : Int} {tgt : Nat} (hd : decode y.2.1 pc = .ok (.goto off, 3)) (ht : (pc : Int) + off = (tgt : Int)) (k : Xw l D ρ y tgt L st M d kc ks Q) : Xw l D ρ y pc L st M d kc ks Q := by
  intro p e R s m args below meth c A ad0 F H locs cells slots tys ad ws ls st' C E hle X hst hl
  exact lv_goto C.1 C.2.1 hd ht (k p e R s m args below meth c A ad0 F H locs cells slots tys ad ws ls _ C E hle X hst hl)
theorem x_ifnull_z {off : Int} {tgt : Nat} (hd : decode y.2.1 pc = .ok (.ifnull off, 3)) (ht : (pc : Int) + off = (tgt : Int)) (k : Xw l D ρ y tgt L st M d kc ks Q) : Xw l D ρ y pc L (.null :: st) M d kc ks Q := by
  intro p e R s m args below meth c A ad0 F H locs cells slots tys ad ws ls st' C E hle X hst hl
  obtain ⟨w0, t0, rfl, h1, hst⟩ := hst
  obtain rfl : w0 = _ := h1
  exact lv_ifnullN C.1 C.2.1 hd ht (k p e R s m args below meth c A ad0 F H locs cells slots tys ad ws ls _ C E hle X hst hl)
theorem x_ifnull_r {i : Nat} {off : Int} (hd : decode y.2.1 pc = .ok (.ifnull off, 3)) (k : Xw l D ρ y (pc + 3) L st M d kc ks Q) : Xw l D ρ y pc L (.ref i :: st) M d kc ks Q := by
  intro p e R s m args below meth c A ad0 F H locs cells slots tys ad ws ls st' C E hle X hst hl
  obtain ⟨w0, t0, rfl, h1, hst⟩ := hst
  obtain ⟨a, -, rfl⟩ := h1
  exact lv_ifnull C.1 C.2.1 hd (k p e R s m args below meth c A ad0 F H locs cells slots tys ad ws ls _ C E hle X hst hl)
theorem x_ifnull_o {i : Nat} {off : Int} (hd : decode y.2.1 pc = .ok (.ifnull off, 3)) (k : Xw l D ρ y (pc + 3) L st M d kc ks Q) : Xw l D ρ y pc L (.retAddr i :: st) M d kc ks Q := by
  intro p e R s m args below meth c A ad0 F H locs cells slots tys ad ws ls st' C E hle X hst hl
  obtain ⟨w0, t0, rfl, h1, hst⟩ := hst
  obtain rfl : w0 = _ := h1
  exact lv_ifnull C.1 C.2.1 hd (k p e R s m args below meth c A ad0 F H locs cells slots tys ad ws ls _ C E hle X hst hl)
theorem x_ifnonnull_z {off : Int} (hd : decode y.2.1 pc = .ok (.ifnonnull off, 3)) (k : Xw l D ρ y (pc + 3) L st M d kc ks Q) : Xw l D ρ y pc L (.null :: st) M d kc ks Q := by
  intro p e R s m args below meth c A ad0 F H locs cells slots tys ad ws ls st' C E hle X hst hl
  obtain ⟨w0, t0, rfl, h1, hst⟩ := hst
  obtain rfl : w0 = _ := h1
  exact lv_ifnonnullN C.1 C.2.1 hd (k p e R s m args below meth c A ad0 F H locs cells slots tys ad ws ls _ C E hle X hst hl)
theorem x_ifnonnull_r {i : Nat} {off : Int} {tgt : Nat} (hd : decode y.2.1 pc = .ok (.ifnonnull off, 3)) (ht : (pc : Int) + off = (tgt : Int)) (k : Xw l D ρ y tgt L st M d kc ks Q) : Xw l D ρ y pc L (.ref i :: st) M d kc ks Q := by
  intro p e R s m args below meth c A ad0 F H locs cells slots tys ad ws ls st' C E hle X hst hl
  obtain ⟨w0, t0, rfl, h1, hst⟩ := hst
  obtain ⟨a, -, rfl⟩ := h1
  exact lv_ifnonnull C.1 C.2.1 hd ht (k p e R s m args below meth c A ad0 F H locs cells slots tys ad ws ls _ C E hle X hst hl)
theorem x_ifnonnull_o {i : Nat} {off : Int} {tgt : Nat} (hd : decode y.2.1 pc = .ok (.ifnonnull off, 3)) (ht : (pc : Int) + off = (tgt : Int)) (k : Xw l D ρ y tgt L st M d kc ks Q) : Xw l D ρ y pc L (.retAddr i :: st) M d kc ks Q := by
  intro p e R s m args below meth c A ad0 F H locs cells slots tys ad ws ls st' C E hle X hst hl
  obtain ⟨w0, t0, rfl, h1, hst⟩ := hst
  obtain rfl : w0 = _ := h1
  exact lv_ifnonnull C.1 C.2.1 hd ht (k p e R s m args below meth c A ad0 F H locs cells slots tys ad ws ls _ C E hle X hst hl)
theorem x_tableOut {dflt lo hi : Int} {offs : Array Int} {len : Nat} {x : Int32} {tgt : Nat} (hd : decode y.2.1 pc = .ok (.tableswitch dflt lo hi offs, len)) (h : x.toInt < lo ∨ hi < x.toInt) (ht : (pc : Int) + dflt = (tgt : Int)) (k : Xw l D ρ y tgt L st M d kc ks Q) : Xw l D ρ y pc L (.int x :: st) M d kc ks Q := by
  intro p e R s m args below meth c A ad0 F H locs cells slots tys ad ws ls st' C E hle X hst hl
  obtain ⟨w0, t0, rfl, h1, hst⟩ := hst
  obtain rfl : w0 = _ := h1
  exact lv_tableOut C.1 C.2.1 hd h ht (k p e R s m args below meth c A ad0 F H locs cells slots tys ad ws ls _ C E hle X hst hl)
theorem x_tableIn {dflt lo hi : Int} {offs : Array Int} {len : Nat} {x : Int32} {off : Int} {tgt : Nat} (hd : decode y.2.1 pc = .ok (.tableswitch dflt lo hi offs, len)) (g1 : ¬ x.toInt < lo) (g2 : ¬ hi < x.toInt) (ho : offs[(x.toInt - lo).toNat]? = some off) (ht : (pc : Int) + off = (tgt : Int)) (k : Xw l D ρ y tgt L st M d kc ks Q) : Xw l D ρ y pc L (.int x :: st) M d kc ks Q := by
  intro p e R s m args below meth c A ad0 F H locs cells slots tys ad ws ls st' C E hle X hst hl
  obtain ⟨w0, t0, rfl, h1, hst⟩ := hst
  obtain rfl : w0 = _ := h1
  exact lv_tableIn C.1 C.2.1 hd g1 g2 ho ht (k p e R s m args below meth c A ad0 F H locs cells slots tys ad ws ls _ C E hle X hst hl)
theorem x_lookup {dflt : Int} {ps : Array (Int × Int)} {len : Nat} {x : Int32} {off : Int} {tgt : Nat} (hd : decode y.2.1 pc = .ok (.lookupswitch dflt ps, len)) (hp : (ps.toList.zip (ps.toList.drop 1)).all (fun (a, next) => a.1 < next.1) = true) (ho : Op.lookupswitch.offset ps.toList dflt x.toInt = off) (ht : (pc : Int) + off = (tgt : Int)) (k : Xw l D ρ y tgt L st M d kc ks Q) : Xw l D ρ y pc L (.int x :: st) M d kc ks Q := by
  intro p e R s m args below meth c A ad0 F H locs cells slots tys ad ws ls st' C E hle X hst hl
  obtain ⟨w0, t0, rfl, h1, hst⟩ := hst
  obtain rfl : w0 = _ := h1
  exact lv_lookup C.1 C.2.1 hd hp ho ht (k p e R s m args below meth c A ad0 F H locs cells slots tys ad ws ls _ C E hle X hst hl)
theorem x_end0 {R0 : Room} {s0 : State} {A0 : Nat → Prop} {H0 : Heap} {locs0 : List Loc} {cells0 slots0 : Nat} {tys0 : List (ClassId × FieldType)} {ad00 : List Nat} {ws0 : va_W} {M0 : List xCl} (h : xWo D ρ R0 s0 A0 H0 locs0 cells0 slots0 tys0 ad00 ws0 M0 kc ks) : xWo D ρ R0 s0 A0 H0 locs0 cells0 slots0 tys0 ad00 ws0 M0 0 0 := ⟨h.1, h.2.1, h.2.2.1, h.2.2.2.1, h.2.2.2.2.1, Nat.le_trans (Nat.le_add_right _ _) h.2.2.2.2.2.1, Nat.le_trans (Nat.le_add_right _ _) h.2.2.2.2.2.2⟩
theorem x_iret {v : Int32} {ty : FieldType} (hd : decode y.2.1 pc = .ok (.ireturn, 1)) (hy : y.2.2.2 = some ty) (hn : narrow ty (.int v) = .int v) (h : Q (some (.int v)) M) : Xw l D ρ y pc L [.int v] M d kc ks Q := by
  intro p e R s m args below meth c A ad0 F H locs cells slots tys ad ws ls st' C E hle X hst hl
  obtain ⟨w0, t0, rfl, h1, hst⟩ := hst
  obtain rfl : w0 = _ := h1
  obtain rfl : t0 = [] := hst
  exact E H locs cells slots tys ad ws M (some (.int v)) (some (.int v)) pc ls hle (x_end0 X) h ⟨_, rfl, rfl⟩ ⟨ty, hy, hn, hd⟩
theorem x_lret {v : Int64} (hd : decode y.2.1 pc = .ok (.lreturn, 1)) (hy : y.2.2.2 = some .long) (h : Q (some (.long v)) M) : Xw l D ρ y pc L [.long v] M d kc ks Q := by
  intro p e R s m args below meth c A ad0 F H locs cells slots tys ad ws ls st' C E hle X hst hl
  obtain ⟨w0, t0, rfl, h1, hst⟩ := hst
  obtain rfl : w0 = _ := h1
  obtain rfl : t0 = [] := hst
  exact E H locs cells slots tys ad ws M (some (.long v)) (some (.long v)) pc ls hle (x_end0 X) h ⟨_, rfl, rfl⟩ ⟨hy, hd⟩
theorem x_vret (hd : decode y.2.1 pc = .ok (.return_, 1)) (hy : y.2.2.2 = none) (h : Q none M) : Xw l D ρ y pc L [] M d kc ks Q := by
  intro p e R s m args below meth c A ad0 F H locs cells slots tys ad ws ls st' C E hle X hst hl
  obtain rfl : st' = [] := hst
  exact E H locs cells slots tys ad ws M none none pc ls hle (x_end0 X) h rfl ⟨hy, hd⟩
theorem x_aret {v : Value} {rt : FieldType} (hv : xrf v) (hd : decode y.2.1 pc = .ok (.areturn, 1)) (hy : y.2.2.2 = some rt) (ho : (∃ n, rt = .object n) ∨ ∃ t, rt = .array t) (h : Q (some v) M) : Xw l D ρ y pc L [v] M d kc ks Q := by
  intro p e R s m args below meth c A ad0 F H locs cells slots tys ad ws ls st' C E hle X hst hl
  obtain ⟨w0, t0, rfl, h1, hst⟩ := hst
  obtain rfl : t0 = [] := hst
  refine E H locs cells slots tys ad ws M (some v) (some w0) pc ls hle (x_end0 X) h ⟨_, rfl, h1⟩ ?_
  cases v with
  | ref i => exact ⟨⟨rt, hy, ho⟩, hd⟩
  | null => exact ⟨⟨rt, hy, ho⟩, hd⟩
  | retAddr i => exact ⟨⟨rt, hy, ho⟩, hd⟩
  | _ => exact absurd hv (fun z => z)
theorem x_wk {d' kc' ks' : Nat} {Q' : Option Value → List xCl → Prop} (h1 : d ≤ d') (h2 : kc ≤ kc') (h3 : ks ≤ ks') (hQ : ∀ r N, Q r N → Q' r N) (k : Xw l D ρ y pc L st M d kc ks Q) : Xw l D ρ y pc L st M d' kc' ks' Q' := by
  intro p e R s m args below meth c A ad0 F H locs cells slots tys ad ws ls st' C E hle X hst hl
  obtain ⟨hx, hb, hr, hml, hown, hts, hNw, hRO, hlk, hA, hfr, hlo, hnm⟩ := C
  obtain ⟨a1, a2, a3, a4, a5, a6, a7⟩ := X
  exact k p e R s m args below meth c A ad0 F H locs cells slots tys ad ws ls _ ⟨hx, hb, hr, hml, hown, hts, hNw, hRO, hlk, hA, Nat.le_trans h1 hfr, Nat.le_trans (Nat.mul_le_mul_right _ h1) hlo, hnm⟩ (fun H locs cells slots tys ad ws M r r1 pc ls g1 g2 g3 => E H locs cells slots tys ad ws M r r1 pc ls g1 g2 (hQ r M g3)) hle ⟨a1, a2, a3, a4, a5, by omega, by omega⟩ hst hl
end XW
