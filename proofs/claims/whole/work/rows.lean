section
-- ===== PART A: goes FIRST, ahead of the names: the tables' words, and 'selects' of the private methods out of them =====
/-- a private method of a class that the tables say can be made, by its rows of tables_1 -/
def lw_okq (q : MethodName × Nat) : Prop := (q.1.cls ≠ "java/lang/invoke/MethodHandle" ∧ q.1.cls ≠ "java/lang/invoke/VarHandle") ∧ Cond.instantiable q.1.cls q.2 ∈ tables_1 ∧ Cond.privateMethod q.1 ∈ tables_1 ∧ Cond.instanceMethod q.1 ∈ tables_1
theorem lw_p0 : lw_okq (⟨"ContentStore", "openPut", "(I)LContentStore$Put;"⟩, 8) := ⟨⟨by decide +kernel, by decide +kernel⟩, List.mem_of_getElem? (i := 17) (by decide +kernel), List.mem_of_getElem? (i := 135) (by decide +kernel), List.mem_of_getElem? (i := 136) (by decide +kernel)⟩
theorem lw_p1 : lw_okq (⟨"ContentStore", "soundBlobWith", "([I)I"⟩, 8) := ⟨⟨by decide +kernel, by decide +kernel⟩, List.mem_of_getElem? (i := 17) (by decide +kernel), List.mem_of_getElem? (i := 155) (by decide +kernel), List.mem_of_getElem? (i := 156) (by decide +kernel)⟩
theorem lw_p2 : lw_okq (⟨"ContentStore", "blobAt", "(I)LContentStore$Blob;"⟩, 8) := ⟨⟨by decide +kernel, by decide +kernel⟩, List.mem_of_getElem? (i := 17) (by decide +kernel), List.mem_of_getElem? (i := 159) (by decide +kernel), List.mem_of_getElem? (i := 160) (by decide +kernel)⟩
theorem lw_p3 : lw_okq (⟨"ContentStore", "newBlobWith", "([I)I"⟩, 8) := ⟨⟨by decide +kernel, by decide +kernel⟩, List.mem_of_getElem? (i := 17) (by decide +kernel), List.mem_of_getElem? (i := 181) (by decide +kernel), List.mem_of_getElem? (i := 182) (by decide +kernel)⟩
theorem lw_p4 : lw_okq (⟨"ContentStore$Shelf", "found", "([II)LContentStore$Part;"⟩, 3) := ⟨⟨by decide +kernel, by decide +kernel⟩, List.mem_of_getElem? (i := 25) (by decide +kernel), List.mem_of_getElem? (i := 189) (by decide +kernel), List.mem_of_getElem? (i := 190) (by decide +kernel)⟩
theorem lw_p5 : lw_okq (⟨"ContentStore$Shelf", "comesEarlier", "([II)Z"⟩, 3) := ⟨⟨by decide +kernel, by decide +kernel⟩, List.mem_of_getElem? (i := 25) (by decide +kernel), List.mem_of_getElem? (i := 213) (by decide +kernel), List.mem_of_getElem? (i := 214) (by decide +kernel)⟩
theorem lw_p6 : lw_okq (⟨"ContentStore$Shelf", "made", "([II)LContentStore$Part;"⟩, 3) := ⟨⟨by decide +kernel, by decide +kernel⟩, List.mem_of_getElem? (i := 25) (by decide +kernel), List.mem_of_getElem? (i := 225) (by decide +kernel), List.mem_of_getElem? (i := 226) (by decide +kernel)⟩
theorem lw_p7 : lw_okq (⟨"java/util/ArrayList", "add", "(Ljava/lang/Object;[Ljava/lang/Object;I)V"⟩, 3) := ⟨⟨by decide +kernel, by decide +kernel⟩, List.mem_of_getElem? (i := 37) (by decide +kernel), List.mem_of_getElem? (i := 248) (by decide +kernel), List.mem_of_getElem? (i := 249) (by decide +kernel)⟩
theorem lw_p8 : lw_okq (⟨"java/util/ArrayList", "grow", "()[Ljava/lang/Object;"⟩, 3) := ⟨⟨by decide +kernel, by decide +kernel⟩, List.mem_of_getElem? (i := 37) (by decide +kernel), List.mem_of_getElem? (i := 252) (by decide +kernel), List.mem_of_getElem? (i := 253) (by decide +kernel)⟩
theorem lw_p9 : lw_okq (⟨"java/util/ArrayList", "grow", "(I)[Ljava/lang/Object;"⟩, 3) := ⟨⟨by decide +kernel, by decide +kernel⟩, List.mem_of_getElem? (i := 37) (by decide +kernel), List.mem_of_getElem? (i := 256) (by decide +kernel), List.mem_of_getElem? (i := 257) (by decide +kernel)⟩
theorem lw_p10 : lw_okq (⟨"ContentStore$Shelf", "drop", "(LContentStore$Part;)V"⟩, 3) := ⟨⟨by decide +kernel, by decide +kernel⟩, List.mem_of_getElem? (i := 25) (by decide +kernel), List.mem_of_getElem? (i := 388) (by decide +kernel), List.mem_of_getElem? (i := 389) (by decide +kernel)⟩
theorem lw_p11 : lw_okq (⟨"java/util/ArrayList", "fastRemove", "([Ljava/lang/Object;I)V"⟩, 3) := ⟨⟨by decide +kernel, by decide +kernel⟩, List.mem_of_getElem? (i := 37) (by decide +kernel), List.mem_of_getElem? (i := 396) (by decide +kernel), List.mem_of_getElem? (i := 397) (by decide +kernel)⟩
theorem lw_p12 : lw_okq (⟨"ContentStore", "isReferredTo", "(I)Z"⟩, 8) := ⟨⟨by decide +kernel, by decide +kernel⟩, List.mem_of_getElem? (i := 17) (by decide +kernel), List.mem_of_getElem? (i := 413) (by decide +kernel), List.mem_of_getElem? (i := 414) (by decide +kernel)⟩
theorem lw_p13 : lw_okq (⟨"ContentStore", "letGo", "(LContentStore$Blob;)V"⟩, 8) := ⟨⟨by decide +kernel, by decide +kernel⟩, List.mem_of_getElem? (i := 17) (by decide +kernel), List.mem_of_getElem? (i := 417) (by decide +kernel), List.mem_of_getElem? (i := 418) (by decide +kernel)⟩
theorem lw_p14 : lw_okq (⟨"ContentStore", "forget", "(I)V"⟩, 8) := ⟨⟨by decide +kernel, by decide +kernel⟩, List.mem_of_getElem? (i := 17) (by decide +kernel), List.mem_of_getElem? (i := 429) (by decide +kernel), List.mem_of_getElem? (i := 430) (by decide +kernel)⟩
theorem lw_p15 : lw_okq (⟨"ContentStore", "blobsThere", "()I"⟩, 8) := ⟨⟨by decide +kernel, by decide +kernel⟩, List.mem_of_getElem? (i := 17) (by decide +kernel), List.mem_of_getElem? (i := 442) (by decide +kernel), List.mem_of_getElem? (i := 443) (by decide +kernel)⟩
def lw_privs_1 : List (MethodName × Nat) := [(⟨"ContentStore", "openPut", "(I)LContentStore$Put;"⟩, 8), (⟨"ContentStore", "soundBlobWith", "([I)I"⟩, 8), (⟨"ContentStore", "blobAt", "(I)LContentStore$Blob;"⟩, 8), (⟨"ContentStore", "newBlobWith", "([I)I"⟩, 8), (⟨"ContentStore$Shelf", "found", "([II)LContentStore$Part;"⟩, 3), (⟨"ContentStore$Shelf", "comesEarlier", "([II)Z"⟩, 3), (⟨"ContentStore$Shelf", "made", "([II)LContentStore$Part;"⟩, 3), (⟨"java/util/ArrayList", "add", "(Ljava/lang/Object;[Ljava/lang/Object;I)V"⟩, 3), (⟨"java/util/ArrayList", "grow", "()[Ljava/lang/Object;"⟩, 3), (⟨"java/util/ArrayList", "grow", "(I)[Ljava/lang/Object;"⟩, 3), (⟨"ContentStore$Shelf", "drop", "(LContentStore$Part;)V"⟩, 3), (⟨"java/util/ArrayList", "fastRemove", "([Ljava/lang/Object;I)V"⟩, 3), (⟨"ContentStore", "isReferredTo", "(I)Z"⟩, 8), (⟨"ContentStore", "letGo", "(LContentStore$Blob;)V"⟩, 8), (⟨"ContentStore", "forget", "(I)V"⟩, 8), (⟨"ContentStore", "blobsThere", "()I"⟩, 8)]
theorem lw_r1 : ∀ q ∈ lw_privs_1, lw_okq q := List.forall_mem_cons.mpr ⟨lw_p0, List.forall_mem_cons.mpr ⟨lw_p1, List.forall_mem_cons.mpr ⟨lw_p2, List.forall_mem_cons.mpr ⟨lw_p3, List.forall_mem_cons.mpr ⟨lw_p4, List.forall_mem_cons.mpr ⟨lw_p5, List.forall_mem_cons.mpr ⟨lw_p6, List.forall_mem_cons.mpr ⟨lw_p7, List.forall_mem_cons.mpr ⟨lw_p8, List.forall_mem_cons.mpr ⟨lw_p9, List.forall_mem_cons.mpr ⟨lw_p10, List.forall_mem_cons.mpr ⟨lw_p11, List.forall_mem_cons.mpr ⟨lw_p12, List.forall_mem_cons.mpr ⟨lw_p13, List.forall_mem_cons.mpr ⟨lw_p14, List.forall_mem_cons.mpr ⟨lw_p15, fun _ h => absurd h List.not_mem_nil⟩⟩⟩⟩⟩⟩⟩⟩⟩⟩⟩⟩⟩⟩⟩⟩
theorem lw_p16 : lw_okq (⟨"ContentStore", "sharersOfFirst", "(I)I"⟩, 8) := ⟨⟨by decide +kernel, by decide +kernel⟩, List.mem_of_getElem? (i := 17) (by decide +kernel), List.mem_of_getElem? (i := 446) (by decide +kernel), List.mem_of_getElem? (i := 447) (by decide +kernel)⟩
theorem lw_p17 : lw_okq (⟨"ContentStoreModel", "isOpen", "(I)Z"⟩, 24) := ⟨⟨by decide +kernel, by decide +kernel⟩, List.mem_of_getElem? (i := 457) (by decide +kernel), List.mem_of_getElem? (i := 549) (by decide +kernel), List.mem_of_getElem? (i := 550) (by decide +kernel)⟩
theorem lw_p18 : lw_okq (⟨"ContentStoreModel", "isSound", "(I)Z"⟩, 24) := ⟨⟨by decide +kernel, by decide +kernel⟩, List.mem_of_getElem? (i := 457) (by decide +kernel), List.mem_of_getElem? (i := 557) (by decide +kernel), List.mem_of_getElem? (i := 558) (by decide +kernel)⟩
theorem lw_p19 : lw_okq (⟨"ContentStoreModel", "byteOf", "(II)I"⟩, 24) := ⟨⟨by decide +kernel, by decide +kernel⟩, List.mem_of_getElem? (i := 457) (by decide +kernel), List.mem_of_getElem? (i := 561) (by decide +kernel), List.mem_of_getElem? (i := 562) (by decide +kernel)⟩
theorem lw_p20 : lw_okq (⟨"ContentStoreModel", "isWork", "(I)Z"⟩, 24) := ⟨⟨by decide +kernel, by decide +kernel⟩, List.mem_of_getElem? (i := 457) (by decide +kernel), List.mem_of_getElem? (i := 569) (by decide +kernel), List.mem_of_getElem? (i := 570) (by decide +kernel)⟩
theorem lw_p21 : lw_okq (⟨"ContentStoreModel", "used", "()I"⟩, 24) := ⟨⟨by decide +kernel, by decide +kernel⟩, List.mem_of_getElem? (i := 457) (by decide +kernel), List.mem_of_getElem? (i := 573) (by decide +kernel), List.mem_of_getElem? (i := 574) (by decide +kernel)⟩
theorem lw_p22 : lw_okq (⟨"ContentStoreModel", "missing", "(II)I"⟩, 24) := ⟨⟨by decide +kernel, by decide +kernel⟩, List.mem_of_getElem? (i := 457) (by decide +kernel), List.mem_of_getElem? (i := 577) (by decide +kernel), List.mem_of_getElem? (i := 578) (by decide +kernel)⟩
theorem lw_p23 : lw_okq (⟨"ContentStoreModel", "stays", "(III)Z"⟩, 24) := ⟨⟨by decide +kernel, by decide +kernel⟩, List.mem_of_getElem? (i := 457) (by decide +kernel), List.mem_of_getElem? (i := 584) (by decide +kernel), List.mem_of_getElem? (i := 585) (by decide +kernel)⟩
theorem lw_p24 : lw_okq (⟨"ContentStoreModel", "isPart", "(III)Z"⟩, 24) := ⟨⟨by decide +kernel, by decide +kernel⟩, List.mem_of_getElem? (i := 457) (by decide +kernel), List.mem_of_getElem? (i := 588) (by decide +kernel), List.mem_of_getElem? (i := 589) (by decide +kernel)⟩
theorem lw_p25 : lw_okq (⟨"ContentStoreModel", "find", "(II)I"⟩, 24) := ⟨⟨by decide +kernel, by decide +kernel⟩, List.mem_of_getElem? (i := 457) (by decide +kernel), List.mem_of_getElem? (i := 595) (by decide +kernel), List.mem_of_getElem? (i := 596) (by decide +kernel)⟩
theorem lw_p26 : lw_okq (⟨"ContentStoreModel", "areAlike", "(III)Z"⟩, 24) := ⟨⟨by decide +kernel, by decide +kernel⟩, List.mem_of_getElem? (i := 457) (by decide +kernel), List.mem_of_getElem? (i := 599) (by decide +kernel), List.mem_of_getElem? (i := 600) (by decide +kernel)⟩
theorem lw_p27 : lw_okq (⟨"ContentStoreModel", "sumOfWork", "(I)I"⟩, 24) := ⟨⟨by decide +kernel, by decide +kernel⟩, List.mem_of_getElem? (i := 457) (by decide +kernel), List.mem_of_getElem? (i := 603) (by decide +kernel), List.mem_of_getElem? (i := 604) (by decide +kernel)⟩
theorem lw_p28 : lw_okq (⟨"ContentStoreModel", "digestOfWork", "(I)J"⟩, 24) := ⟨⟨by decide +kernel, by decide +kernel⟩, List.mem_of_getElem? (i := 457) (by decide +kernel), List.mem_of_getElem? (i := 607) (by decide +kernel), List.mem_of_getElem? (i := 608) (by decide +kernel)⟩
theorem lw_p29 : lw_okq (⟨"ContentStoreModel", "take", "(IZ)V"⟩, 24) := ⟨⟨by decide +kernel, by decide +kernel⟩, List.mem_of_getElem? (i := 457) (by decide +kernel), List.mem_of_getElem? (i := 612) (by decide +kernel), List.mem_of_getElem? (i := 613) (by decide +kernel)⟩
theorem lw_p30 : lw_okq (⟨"ContentStoreModel", "made", "(II)I"⟩, 24) := ⟨⟨by decide +kernel, by decide +kernel⟩, List.mem_of_getElem? (i := 457) (by decide +kernel), List.mem_of_getElem? (i := 616) (by decide +kernel), List.mem_of_getElem? (i := 617) (by decide +kernel)⟩
theorem lw_p31 : lw_okq (⟨"ContentStoreModel", "isBlob", "(I)Z"⟩, 24) := ⟨⟨by decide +kernel, by decide +kernel⟩, List.mem_of_getElem? (i := 457) (by decide +kernel), List.mem_of_getElem? (i := 624) (by decide +kernel), List.mem_of_getElem? (i := 625) (by decide +kernel)⟩
def lw_privs_2 : List (MethodName × Nat) := [(⟨"ContentStore", "sharersOfFirst", "(I)I"⟩, 8), (⟨"ContentStoreModel", "isOpen", "(I)Z"⟩, 24), (⟨"ContentStoreModel", "isSound", "(I)Z"⟩, 24), (⟨"ContentStoreModel", "byteOf", "(II)I"⟩, 24), (⟨"ContentStoreModel", "isWork", "(I)Z"⟩, 24), (⟨"ContentStoreModel", "used", "()I"⟩, 24), (⟨"ContentStoreModel", "missing", "(II)I"⟩, 24), (⟨"ContentStoreModel", "stays", "(III)Z"⟩, 24), (⟨"ContentStoreModel", "isPart", "(III)Z"⟩, 24), (⟨"ContentStoreModel", "find", "(II)I"⟩, 24), (⟨"ContentStoreModel", "areAlike", "(III)Z"⟩, 24), (⟨"ContentStoreModel", "sumOfWork", "(I)I"⟩, 24), (⟨"ContentStoreModel", "digestOfWork", "(I)J"⟩, 24), (⟨"ContentStoreModel", "take", "(IZ)V"⟩, 24), (⟨"ContentStoreModel", "made", "(II)I"⟩, 24), (⟨"ContentStoreModel", "isBlob", "(I)Z"⟩, 24)]
theorem lw_r2 : ∀ q ∈ lw_privs_2, lw_okq q := List.forall_mem_cons.mpr ⟨lw_p16, List.forall_mem_cons.mpr ⟨lw_p17, List.forall_mem_cons.mpr ⟨lw_p18, List.forall_mem_cons.mpr ⟨lw_p19, List.forall_mem_cons.mpr ⟨lw_p20, List.forall_mem_cons.mpr ⟨lw_p21, List.forall_mem_cons.mpr ⟨lw_p22, List.forall_mem_cons.mpr ⟨lw_p23, List.forall_mem_cons.mpr ⟨lw_p24, List.forall_mem_cons.mpr ⟨lw_p25, List.forall_mem_cons.mpr ⟨lw_p26, List.forall_mem_cons.mpr ⟨lw_p27, List.forall_mem_cons.mpr ⟨lw_p28, List.forall_mem_cons.mpr ⟨lw_p29, List.forall_mem_cons.mpr ⟨lw_p30, List.forall_mem_cons.mpr ⟨lw_p31, fun _ h => absurd h List.not_mem_nil⟩⟩⟩⟩⟩⟩⟩⟩⟩⟩⟩⟩⟩⟩⟩⟩
theorem lw_p32 : lw_okq (⟨"ContentStoreModel", "tidy", "()V"⟩, 24) := ⟨⟨by decide +kernel, by decide +kernel⟩, List.mem_of_getElem? (i := 457) (by decide +kernel), List.mem_of_getElem? (i := 656) (by decide +kernel), List.mem_of_getElem? (i := 657) (by decide +kernel)⟩
theorem lw_p33 : lw_okq (⟨"ContentStoreModel", "having", "(I)I"⟩, 24) := ⟨⟨by decide +kernel, by decide +kernel⟩, List.mem_of_getElem? (i := 457) (by decide +kernel), List.mem_of_getElem? (i := 660) (by decide +kernel), List.mem_of_getElem? (i := 661) (by decide +kernel)⟩
theorem lw_p34 : lw_okq (⟨"ContentStoreModel", "goes", "(I)V"⟩, 24) := ⟨⟨by decide +kernel, by decide +kernel⟩, List.mem_of_getElem? (i := 457) (by decide +kernel), List.mem_of_getElem? (i := 676) (by decide +kernel), List.mem_of_getElem? (i := 677) (by decide +kernel)⟩
def lw_privs_3 : List (MethodName × Nat) := [(⟨"ContentStoreModel", "tidy", "()V"⟩, 24), (⟨"ContentStoreModel", "having", "(I)I"⟩, 24), (⟨"ContentStoreModel", "goes", "(I)V"⟩, 24)]
theorem lw_r3 : ∀ q ∈ lw_privs_3, lw_okq q := List.forall_mem_cons.mpr ⟨lw_p32, List.forall_mem_cons.mpr ⟨lw_p33, List.forall_mem_cons.mpr ⟨lw_p34, fun _ h => absurd h List.not_mem_nil⟩⟩⟩
def lw_privs : List (MethodName × Nat) := lw_privs_1 ++ (lw_privs_2 ++ (lw_privs_3))
def lw_tbl : List Cond := k2_sels lw_privs ++ tables_1
theorem lw_privs_ok : ∀ q ∈ lw_privs, lw_okq q := by
  show ∀ q ∈ lw_privs_1 ++ (lw_privs_2 ++ (lw_privs_3)), lw_okq q
  exact List.forall_mem_append.mpr ⟨lw_r1, List.forall_mem_append.mpr ⟨lw_r2, lw_r3⟩⟩
end
section
/-! the words that every method has, and those that are carried by hand -/
def Gw : List Cond := lw_tbl.filter goodWord
theorem Gw_ok : ∀ w ∈ Gw, (w.onTables && w.keeps) = true ∨ ∃ ty, w = .arrayClass ty := fun w hw => good_of_word (List.mem_filter.mp hw).2
theorem gw {w : Cond} (i : Nat) (h : lw_tbl[i]? = some w) (hg : goodWord w = true) : w ∈ Gw := List.mem_filter.mpr ⟨List.mem_of_getElem? h, hg⟩
def xnw (w : Cond) : Bool := match w with
  | .fieldLinkNest .. => true
  | .methodLinkNest .. => true
  | .castable .. => true
  | .arrayOver (.object _) => true
  | _ => false
def Nw : List Cond := lw_tbl.filter xnw
theorem Nw_ok : ∀ w ∈ Nw, xnw w = true := fun w hw => (List.mem_filter.mp hw).2
theorem nw {w : Cond} (i : Nat) (h : lw_tbl[i]? = some w) (hg : xnw w = true) : w ∈ Nw := List.mem_filter.mpr ⟨List.mem_of_getElem? h, hg⟩
def xEl : Nat → String := fun k => match k with
  | 0 => "ContentStore$Put"
  | 1 => "ContentStore$Blob"
  | 2 => "ContentStore$Part"
  | _ => "java/lang/Object"
def F_ContentStore : u_T := fun k => match k with
  | 0 => ("ContentStore", "shelf", "LContentStore$Shelf;", true)
  | 1 => ("ContentStore", "puts", "[LContentStore$Put;", true)
  | 2 => ("ContentStore", "blobs", "[LContentStore$Blob;", true)
  | 3 => ("ContentStore", "references", "[I", true)
  | 4 => ("ContentStore", "putCount", "I", false)
  | 5 => ("ContentStore", "openCount", "I", false)
  | 6 => ("ContentStore", "blobCount", "I", false)
  | _ => ("ContentStore", "packCount", "I", false)
def t_ContentStore : Nat → FieldType := fun k => match k with
  | 0 => (.object "ContentStore$Shelf")
  | 1 => (.array (.object "ContentStore$Put"))
  | 2 => (.array (.object "ContentStore$Blob"))
  | 3 => (.array .int)
  | 4 => .int
  | 5 => .int
  | 6 => .int
  | _ => .int
def F_Shelf : u_T := fun k => match k with
  | 0 => ("ContentStore$Shelf", "room", "I", true)
  | 1 => ("ContentStore$Shelf", "parts", "Ljava/util/ArrayList;", true)
  | _ => ("ContentStore$Shelf", "used", "I", false)
def t_Shelf : Nat → FieldType := fun k => match k with
  | 0 => .int
  | 1 => (.object "java/util/ArrayList")
  | _ => .int
def F_ArrayList : u_T := fun k => match k with
  | 0 => ("java/util/ArrayList", "elementData", "[Ljava/lang/Object;", false)
  | 1 => ("java/util/ArrayList", "size", "I", false)
  | _ => ("java/util/AbstractList", "modCount", "I", false)
def t_ArrayList : Nat → FieldType := fun k => match k with
  | 0 => (.array (.object "java/lang/Object"))
  | 1 => .int
  | _ => .int
def F_Put : u_T := fun k => match k with
  | 0 => ("ContentStore$Put", "bytes", "[I", true)
  | 1 => ("ContentStore$Put", "xor", "J", true)
  | 2 => ("ContentStore$Put", "had", "I", false)
  | _ => ("ContentStore$Put", "isOpen", "Z", false)
def t_Put : Nat → FieldType := fun k => match k with
  | 0 => (.array .int)
  | 1 => .long
  | 2 => .int
  | _ => .boolean
def F_Blob : u_T := fun k => match k with
  | 0 => ("ContentStore$Blob", "length", "I", true)
  | 1 => ("ContentStore$Blob", "sum", "I", true)
  | 2 => ("ContentStore$Blob", "digest", "J", true)
  | 3 => ("ContentStore$Blob", "parts", "[LContentStore$Part;", false)
  | 4 => ("ContentStore$Blob", "copy", "[I", false)
  | 5 => ("ContentStore$Blob", "pack", "I", false)
  | _ => ("ContentStore$Blob", "isThere", "Z", false)
def t_Blob : Nat → FieldType := fun k => match k with
  | 0 => .int
  | 1 => .int
  | 2 => .long
  | 3 => (.array (.object "ContentStore$Part"))
  | 4 => (.array .int)
  | 5 => .int
  | _ => .boolean
def F_Part : u_T := fun k => match k with
  | 0 => ("ContentStore$Part", "bytes", "[I", true)
  | _ => ("ContentStore$Part", "holders", "I", false)
def t_Part : Nat → FieldType := fun k => match k with
  | 0 => (.array .int)
  | _ => .int
def F_ContentStoreModel : u_T := fun k => match k with
  | 0 => ("ContentStoreModel", "code", "I", false)
  | 1 => ("ContentStoreModel", "room", "I", true)
  | 2 => ("ContentStoreModel", "puts", "I", false)
  | 3 => ("ContentStoreModel", "told", "[I", true)
  | 4 => ("ContentStoreModel", "mask", "[J", true)
  | 5 => ("ContentStoreModel", "open", "[Z", true)
  | 6 => ("ContentStoreModel", "came", "[I", true)
  | 7 => ("ContentStoreModel", "bytes", "[I", true)
  | 8 => ("ContentStoreModel", "stamps", "I", false)
  | 9 => ("ContentStoreModel", "partSize", "[I", true)
  | 10 => ("ContentStoreModel", "stamp", "[I", true)
  | 11 => ("ContentStoreModel", "partBytes", "[I", true)
  | 12 => ("ContentStoreModel", "blobs", "I", false)
  | 13 => ("ContentStoreModel", "isThere", "[Z", true)
  | 14 => ("ContentStoreModel", "length", "[I", true)
  | 15 => ("ContentStoreModel", "slot", "[I", true)
  | 16 => ("ContentStoreModel", "sum", "[I", true)
  | 17 => ("ContentStoreModel", "digest", "[J", true)
  | 18 => ("ContentStoreModel", "packed", "[I", true)
  | 19 => ("ContentStoreModel", "hasCopy", "[Z", true)
  | 20 => ("ContentStoreModel", "copy", "[I", true)
  | 21 => ("ContentStoreModel", "action", "[I", true)
  | 22 => ("ContentStoreModel", "packs", "I", false)
  | _ => ("ContentStoreModel", "work", "[I", true)
def t_ContentStoreModel : Nat → FieldType := fun k => match k with
  | 0 => .int
  | 1 => .int
  | 2 => .int
  | 3 => (.array .int)
  | 4 => (.array .long)
  | 5 => (.array .boolean)
  | 6 => (.array .int)
  | 7 => (.array .int)
  | 8 => .int
  | 9 => (.array .int)
  | 10 => (.array .int)
  | 11 => (.array .int)
  | 12 => .int
  | 13 => (.array .boolean)
  | 14 => (.array .int)
  | 15 => (.array .int)
  | 16 => (.array .int)
  | 17 => (.array .long)
  | 18 => (.array .int)
  | 19 => (.array .boolean)
  | 20 => (.array .int)
  | 21 => (.array .int)
  | 22 => .int
  | _ => (.array .int)
abbrev classes : List vw_C := [("ContentStore", F_ContentStore, 8), ("ContentStore$Shelf", F_Shelf, 3), ("java/util/ArrayList", F_ArrayList, 3), ("ContentStore$Put", F_Put, 4), ("ContentStore$Blob", F_Blob, 7), ("ContentStore$Part", F_Part, 2), ("ContentStoreModel", F_ContentStoreModel, 24)]
end
section
/-! THE ABSTRACT HEAP: cells by their numbers; a reference of the world is '.ref number', one of an old cell '.retAddr k' (ρ.1 k is where it lies) -/
abbrev xCl : Type := (Nat × List Value) ⊕ (List Int32) ⊕ (Nat × List (Option Nat)) ⊕ (List Int64) ⊕ (List Int32)
abbrev cO (k : Nat) (fs : List Value) : xCl := .inl (k, fs)
abbrev cI (a : List Int32) : xCl := .inr (.inl a)
abbrev cR (k : Nat) (a : List (Option Nat)) : xCl := .inr (.inr (.inl (k, a)))
abbrev cL (a : List Int64) : xCl := .inr (.inr (.inr (.inl a)))
abbrev cZ (a : List Int32) : xCl := .inr (.inr (.inr (.inr a)))
/-- the kind of a cell: a class's number, or 100 and more for arrays -/
def xkd (c : xCl) : Nat := match c with
  | .inl o => o.1
  | .inr (.inl _) => 100
  | .inr (.inr (.inl _)) => 101
  | .inr (.inr (.inr (.inl _))) => 102
  | .inr (.inr (.inr (.inr _))) => 103
abbrev xR : Type := (Nat → Nat) × Nat × (Nat → Int32)
abbrev xM : Type := MethodName × ByteArray × Nat × Option FieldType
def xvr (ρ : xR) (ad : List Nat) (v w : Value) : Prop := match v with
  | .ref i => ∃ a, ad[i]? = some a ∧ w = .ref a
  | .retAddr k => w = .ref (ρ.1 k)
  | .int x => w = .int x
  | .long x => w = .long x
  | .float x => w = .float x
  | .double x => w = .double x
  | .null => w = .null
def xvs (ρ : xR) (ad : List Nat) : List Value → List Value → Prop
  | [], t => t = []
  | v :: vs, t => ∃ w t', t = w :: t' ∧ xvr ρ ad v w ∧ xvs ρ ad vs t'
def xlr (ρ : xR) (ad : List Nat) : List (Nat × Value) → List (Nat × Value) → Prop
  | [], t => t = []
  | q :: L, t => ∃ w t', t = (q.1, w) :: t' ∧ xvr ρ ad q.2 w ∧ xlr ρ ad L t'
def xls (ρ : xR) (ad : List Nat) (nL : Nat) (L : List (Nat × Value)) (ls : Array Slot) : Prop := ∃ L', lv_has ls nL L' ∧ xlr ρ ad L L'
def xopt (ad : List Nat) (o o' : Option Nat) : Prop := match o with
  | none => o' = none
  | some i => ∃ a, ad[i]? = some a ∧ o' = some a
def xcr (ρ : xR) (tys : List (ClassId × FieldType)) (ad : List Nat) (c : xCl) (e : va_E) : Prop := match c with
  | .inl o => ∃ fs', e = .inr (o.1, fs') ∧ xvs ρ ad o.2 fs'
  | .inr (.inl l) => ∃ (t0 : Nat) (cA : ClassId) (f : Nat → Int32), tys[t0]? = some (cA, .int) ∧ e = .inl (cA, l.length, .inl f) ∧ ∀ (j : Nat) (x : Int32), l[j]? = some x → f j = x
  | .inr (.inr (.inl r)) => ∃ (t0 : Nat) (cA : ClassId) (f : Nat → Option Nat), tys[t0]? = some (cA, .object (xEl r.1)) ∧ e = .inl (cA, r.2.length, .inr (.inr (.inr (.inr f)))) ∧ ∀ (j : Nat) (x : Option Nat), r.2[j]? = some x → xopt ad x (f j)
  | .inr (.inr (.inr (.inl l))) => ∃ (t0 : Nat) (cA : ClassId) (f : Nat → Int64), tys[t0]? = some (cA, .long) ∧ e = .inl (cA, l.length, .inr (.inl f)) ∧ ∀ (j : Nat) (x : Int64), l[j]? = some x → f j = x
  | .inr (.inr (.inr (.inr l))) => ∃ (t0 : Nat) (cA : ClassId) (f : Nat → Int32), tys[t0]? = some (cA, .boolean) ∧ e = .inl (cA, l.length, .inl f) ∧ ∀ (j : Nat) (x : Int32), l[j]? = some x → f j = x
def xWr (ρ : xR) (tys : List (ClassId × FieldType)) (ad : List Nat) (ws : va_W) (M : List xCl) : Prop :=
  ad.length = M.length ∧ ws.length = M.length ∧ ∀ (i : Nat) (c : xCl), M[i]? = some c → ∃ (a : Nat) (e : va_E), ad[i]? = some a ∧ ws[i]? = some (a, e) ∧ xcr ρ tys ad c e
def xle {α : Type} (l l' : List α) : Prop := ∃ t, l' = l ++ t
theorem xle_rf {α : Type} (l : List α) : xle l l := ⟨[], (List.append_nil l).symm⟩
theorem xle_tr {α : Type} {a b c : List α} (h : xle a b) (k : xle b c) : xle a c := by
  obtain ⟨t, rfl⟩ := h
  obtain ⟨u, rfl⟩ := k
  exact ⟨t ++ u, List.append_assoc a t u⟩
theorem xle_at {α : Type} {l l' : List α} (h : xle l l') {i : Nat} {a : α} (hi : l[i]? = some a) : l'[i]? = some a := by
  obtain ⟨t, rfl⟩ := h
  rw [List.getElem?_append_left (List.getElem?_eq_some_iff.mp hi).1]
  exact hi
theorem xvr_mono {ρ : xR} {ad ad' : List Nat} (h : xle ad ad') {v w : Value} (k : xvr ρ ad v w) : xvr ρ ad' v w := by
  cases v with
  | ref i =>
    obtain ⟨a, h1, h2⟩ := k
    exact ⟨a, xle_at h h1, h2⟩
  | _ => exact k
theorem xvs_mono {ρ : xR} {ad ad' : List Nat} (h : xle ad ad') : ∀ {vs t : List Value}, xvs ρ ad vs t → xvs ρ ad' vs t
  | [], _, k => k
  | _ :: _, _, k => by
    obtain ⟨w, t', e, k1, k2⟩ := k
    exact ⟨w, t', e, xvr_mono h k1, xvs_mono h k2⟩
theorem xlr_mono {ρ : xR} {ad ad' : List Nat} (h : xle ad ad') : ∀ {L t : List (Nat × Value)}, xlr ρ ad L t → xlr ρ ad' L t
  | [], _, k => k
  | _ :: _, _, k => by
    obtain ⟨w, t', e, k1, k2⟩ := k
    exact ⟨w, t', e, xvr_mono h k1, xlr_mono h k2⟩
theorem xls_mono {ρ : xR} {ad ad' : List Nat} (h : xle ad ad') {nL : Nat} {L : List (Nat × Value)} {ls : Array Slot} (k : xls ρ ad nL L ls) : xls ρ ad' nL L ls := by
  obtain ⟨L', k1, k2⟩ := k
  exact ⟨L', k1, xlr_mono h k2⟩
theorem xopt_mono {ad ad' : List Nat} (h : xle ad ad') {o o' : Option Nat} (k : xopt ad o o') : xopt ad' o o' := by
  cases o with
  | none => exact k
  | some i =>
    obtain ⟨a, h1, h2⟩ := k
    exact ⟨a, xle_at h h1, h2⟩
theorem xcr_mono {ρ : xR} {tys tys' : List (ClassId × FieldType)} {ad ad' : List Nat} (h : xle ad ad') (ht : xle tys tys') {c : xCl} {e : va_E} (k : xcr ρ tys ad c e) : xcr ρ tys' ad' c e := by
  match c, k with
  | .inl o, k =>
    obtain ⟨fs', k1, k2⟩ := k
    exact ⟨fs', k1, xvs_mono h k2⟩
  | .inr (.inl l), k =>
    obtain ⟨t0, cA, f, k1, k2, k3⟩ := k
    exact ⟨t0, cA, f, xle_at ht k1, k2, k3⟩
  | .inr (.inr (.inl r)), k =>
    obtain ⟨t0, cA, f, k1, k2, k3⟩ := k
    exact ⟨t0, cA, f, xle_at ht k1, k2, fun j x hj => xopt_mono h (k3 j x hj)⟩
  | .inr (.inr (.inr (.inl l))), k =>
    obtain ⟨t0, cA, f, k1, k2, k3⟩ := k
    exact ⟨t0, cA, f, xle_at ht k1, k2, k3⟩
  | .inr (.inr (.inr (.inr l))), k =>
    obtain ⟨t0, cA, f, k1, k2, k3⟩ := k
    exact ⟨t0, cA, f, xle_at ht k1, k2, k3⟩
theorem xWr_len {ρ : xR} {tys : List (ClassId × FieldType)} {ad : List Nat} {ws : va_W} {M : List xCl} (h : xWr ρ tys ad ws M) {i a : Nat} (ha : ad[i]? = some a) : ∃ (c : xCl) (e : va_E), M[i]? = some c ∧ ws[i]? = some (a, e) ∧ xcr ρ tys ad c e := by
  obtain ⟨h1, h2, h3⟩ := h
  have hi : i < M.length := by rw [← h1]; exact (List.getElem?_eq_some_iff.mp ha).1
  have hM : M[i]? = some M[i] := List.getElem?_eq_getElem hi
  obtain ⟨a', e, k1, k2, k3⟩ := h3 i _ hM
  cases ha.symm.trans k1
  exact ⟨_, e, hM, k2, k3⟩
theorem xWr_set {ρ : xR} {tys : List (ClassId × FieldType)} {ad : List Nat} {ws : va_W} {M : List xCl} (h : xWr ρ tys ad ws M) {i a : Nat} {c : xCl} {e : va_E} (ha : ad[i]? = some a) (hc : xcr ρ tys ad c e) : xWr ρ tys ad (ws.set i (a, e)) (M.set i c) := by
  obtain ⟨h1, h2, h3⟩ := h
  refine ⟨by rw [List.length_set]; exact h1, by rw [List.length_set, List.length_set]; exact h2, fun j b hj => ?_⟩
  by_cases hij : i = j
  · subst hij
    have hi : i < M.length := by
      have := (List.getElem?_eq_some_iff.mp hj).1
      rw [List.length_set] at this
      exact this
    rw [List.getElem?_set_self hi] at hj
    cases hj
    exact ⟨a, e, ha, List.getElem?_set_self (by rw [h2]; exact hi), hc⟩
  · rw [List.getElem?_set_ne hij] at hj
    obtain ⟨a', e', k1, k2, k3⟩ := h3 j b hj
    exact ⟨a', e', k1, by rw [List.getElem?_set_ne hij]; exact k2, k3⟩
theorem xWr_push {ρ : xR} {tys tys' : List (ClassId × FieldType)} {ad : List Nat} {ws : va_W} {M : List xCl} (h : xWr ρ tys ad ws M) (ht : xle tys tys') {q : Nat} {c : xCl} {e : va_E} (hc : xcr ρ tys' (ad ++ [q]) c e) : xWr ρ tys' (ad ++ [q]) (ws ++ [(q, e)]) (M ++ [c]) := by
  obtain ⟨h1, h2, h3⟩ := h
  refine ⟨by simp [h1], by simp [h2], fun j b hj => ?_⟩
  by_cases hl : j < M.length
  · rw [List.getElem?_append_left hl] at hj
    obtain ⟨a', e', k1, k2, k3⟩ := h3 j b hj
    exact ⟨a', e', xle_at ⟨[q], rfl⟩ k1, xle_at ⟨_, rfl⟩ k2, xcr_mono ⟨[q], rfl⟩ ht k3⟩
  · have hz : j < (M ++ [c]).length := (List.getElem?_eq_some_iff.mp hj).1
    rw [List.length_append, List.length_singleton] at hz
    have hj2 : j = M.length := by omega
    subst hj2
    rw [List.getElem?_append_right (Nat.le_refl _), Nat.sub_self] at hj
    cases hj
    refine ⟨q, e, ?_, ?_, hc⟩
    · rw [← h1, List.getElem?_append_right (Nat.le_refl _), Nat.sub_self]; rfl
    · rw [← h2, List.getElem?_append_right (Nat.le_refl _), Nat.sub_self]; rfl
theorem xvs_at {ρ : xR} {ad : List Nat} : ∀ {vs t : List Value}, xvs ρ ad vs t → ∀ {k : Nat} {v : Value}, vs[k]? = some v → ∃ w, t[k]? = some w ∧ xvr ρ ad v w
  | [], _, _, k, v, hv => by simp at hv
  | _ :: _, _, h, 0, v, hv => by
    obtain ⟨w, t', rfl, k1, k2⟩ := h
    cases hv
    exact ⟨w, rfl, k1⟩
  | _ :: _, _, h, k + 1, v, hv => by
    obtain ⟨w, t', rfl, k1, k2⟩ := h
    exact xvs_at k2 (k := k) hv
theorem xvs_set {ρ : xR} {ad : List Nat} : ∀ {vs t : List Value}, xvs ρ ad vs t → ∀ (k : Nat) {v w : Value}, xvr ρ ad v w → xvs ρ ad (vs.set k v) (t.set k w)
  | [], _, h, k, v, w, _ => by
    subst h
    exact rfl
  | _ :: _, _, h, 0, v, w, hv => by
    obtain ⟨w', t', rfl, k1, k2⟩ := h
    exact ⟨w, t', rfl, hv, k2⟩
  | _ :: _, _, h, k + 1, v, w, hv => by
    obtain ⟨w', t', rfl, k1, k2⟩ := h
    exact ⟨w', _, rfl, k1, xvs_set k2 k hv⟩
theorem xvs_len {ρ : xR} {ad : List Nat} : ∀ {vs t : List Value}, xvs ρ ad vs t → t.length = vs.length
  | [], _, h => by subst h; rfl
  | _ :: _, _, h => by
    obtain ⟨w', t', rfl, k1, k2⟩ := h
    simp [xvs_len k2]
theorem xvs_app {ρ : xR} {ad : List Nat} : ∀ {vs us t u : List Value}, xvs ρ ad vs t → xvs ρ ad us u → xvs ρ ad (vs ++ us) (t ++ u)
  | [], _, _, _, h, k => by subst h; exact k
  | _ :: _, _, _, _, h, k => by
    obtain ⟨w', t', rfl, k1, k2⟩ := h
    exact ⟨w', _, rfl, k1, xvs_app k2 k⟩
theorem xvs_split {ρ : xR} {ad : List Nat} : ∀ {vs us t : List Value}, xvs ρ ad (vs ++ us) t → ∃ t1 t2, t = t1 ++ t2 ∧ xvs ρ ad vs t1 ∧ xvs ρ ad us t2
  | [], _, t, h => ⟨[], t, rfl, rfl, h⟩
  | _ :: _, _, _, h => by
    obtain ⟨w', t', rfl, k1, k2⟩ := h
    obtain ⟨t1, t2, rfl, j1, j2⟩ := xvs_split k2
    exact ⟨w' :: t1, t2, rfl, ⟨w', t1, rfl, k1, j1⟩, j2⟩
theorem xvs_rev {ρ : xR} {ad : List Nat} : ∀ {vs t : List Value}, xvs ρ ad vs t → xvs ρ ad vs.reverse t.reverse
  | [], _, h => by subst h; exact rfl
  | _ :: _, _, h => by
    obtain ⟨w', t', rfl, k1, k2⟩ := h
    rw [List.reverse_cons, List.reverse_cons]
    exact xvs_app (xvs_rev k2) ⟨w', [], rfl, k1, rfl⟩
theorem xvr_cat {ρ : xR} {ad : List Nat} {v w : Value} (h : xvr ρ ad v w) : w.category = v.category := by
  cases v with
  | ref i => obtain ⟨a, -, rfl⟩ := h; rfl
  | retAddr k => obtain rfl : w = _ := h; rfl
  | _ => obtain rfl : w = _ := h; rfl
theorem xvs_cat {ρ : xR} {ad : List Nat} : ∀ {vs t : List Value}, xvs ρ ad vs t → (t.map fun v => v.category) = (vs.map fun v => v.category)
  | [], _, h => by subst h; rfl
  | _ :: _, _, h => by
    obtain ⟨w', t', rfl, k1, k2⟩ := h
    rw [List.map_cons, List.map_cons, xvr_cat k1, xvs_cat k2]
theorem xlr_filter {ρ : xR} {ad : List Nat} (P : Nat → Nat → Bool) : ∀ {L t : List (Nat × Value)}, xlr ρ ad L t → xlr ρ ad (L.filter fun q => P q.1 q.2.category) (t.filter fun q => P q.1 q.2.category)
  | [], _, h => by subst h; exact rfl
  | q :: L, _, h => by
    obtain ⟨w', t', rfl, k1, k2⟩ := h
    have hc := xvr_cat k1
    by_cases hP : P q.1 q.2.category = true
    · have hP2 : P q.1 w'.category = true := by rw [hc]; exact hP
      rw [List.filter_cons_of_pos (by exact hP), List.filter_cons_of_pos (by exact hP2)]
      exact ⟨w', _, rfl, k1, xlr_filter P k2⟩
    · have hP2 : ¬ P q.1 w'.category = true := by rw [hc]; exact hP
      rw [List.filter_cons_of_neg (by exact hP), List.filter_cons_of_neg (by exact hP2)]
      exact xlr_filter P k2
theorem xlr_at {ρ : xR} {ad : List Nat} : ∀ {L t : List (Nat × Value)}, xlr ρ ad L t → ∀ {k : Nat} {q : Nat × Value}, L[k]? = some q → ∃ w, t[k]? = some (q.1, w) ∧ xvr ρ ad q.2 w
  | [], _, _, k, q, hv => by simp at hv
  | _ :: _, _, h, 0, q, hv => by
    obtain ⟨w, t', rfl, k1, k2⟩ := h
    cases hv
    exact ⟨w, rfl, k1⟩
  | _ :: _, _, h, k + 1, q, hv => by
    obtain ⟨w, t', rfl, k1, k2⟩ := h
    exact xlr_at k2 (k := k) hv
theorem xls_at {ρ : xR} {ad : List Nat} {nL : Nat} {L : List (Nat × Value)} {ls : Array Slot} (h : xls ρ ad nL L ls) (k : Nat) {i : Nat} {v : Value} (hk : L[k]? = some (i, v)) : ∃ w, ls[i]? = some (.val w) ∧ xvr ρ ad v w := by
  obtain ⟨L', h1, h2⟩ := h
  obtain ⟨w, k1, k2⟩ := xlr_at h2 hk
  exact ⟨w, lv_at h1 k k1, k2⟩
theorem xls_pick {ρ : xR} {ad : List Nat} {nL : Nat} {L : List (Nat × Value)} {ls : Array Slot} (h : xls ρ ad nL L ls) : ∀ (ks : List Nat), xls ρ ad nL (lv_pick L ks) ls := by
  intro ks
  induction ks with
  | nil =>
    obtain ⟨L', h1, h2⟩ := h
    exact ⟨[], ⟨h1.1, h1.2.1, fun q hq => by cases hq⟩, rfl⟩
  | cons k ks ih =>
    obtain ⟨T', i1, i2⟩ := ih
    cases hk : L[k]? with
    | none =>
      refine ⟨T', i1, ?_⟩
      rw [show lv_pick L (k :: ks) = lv_pick L ks by simp [lv_pick, hk]]
      exact i2
    | some q =>
      obtain ⟨w, k1, k2⟩ := xls_at h k (i := q.1) (v := q.2) hk
      refine ⟨(q.1, w) :: T', ⟨i1.1, i1.2.1, fun x hx => ?_⟩, ?_⟩
      · rcases List.mem_cons.mp hx with rfl | hx
        · exact k1
        · exact i1.2.2 x hx
      · rw [show lv_pick L (k :: ks) = q :: lv_pick L ks by simp [lv_pick, hk]]
        exact ⟨w, T', rfl, k2, i2⟩
/-- the locals with which a method begins -/
theorem xlr_args {ρ : xR} {ad : List Nat} : ∀ {vs t : List Value}, xvs ρ ad vs t → ∀ (i : Nat), xlr ρ ad (lv_args i vs) (lv_args i t)
  | [], _, h, i => by subst h; exact rfl
  | v :: vs, _, h, i => by
    obtain ⟨w', t', rfl, k1, k2⟩ := h
    show xlr ρ ad ((i, v) :: lv_args (if v.category = 2 then i + 2 else i + 1) vs) ((i, w') :: lv_args (if w'.category = 2 then i + 2 else i + 1) t')
    rw [xvr_cat k1]
    exact ⟨w', _, rfl, k1, xlr_args k2 _⟩
theorem xsl_len {ρ : xR} {ad : List Nat} : ∀ {vs t : List Value}, xvs ρ ad vs t → (lg_sl t).length = (lg_sl vs).length
  | [], _, h => by subst h; rfl
  | v :: vs, _, h => by
    obtain ⟨w', t', rfl, k1, k2⟩ := h
    have ih := xsl_len k2
    simp only [lg_sl, List.flatMap_cons, List.length_append] at ih ⊢
    rw [ih, xvr_cat k1]
    split <;> rfl
def xret (ρ : xR) (ad : List Nat) (r r' : Option Value) : Prop := match r with
  | none => r' = none
  | some v => ∃ w, r' = some w ∧ xvr ρ ad v w
theorem xret_list {ρ : xR} {ad : List Nat} {r r' : Option Value} (h : xret ρ ad r r') : xvs ρ ad r.toList r'.toList := by
  cases r with
  | none => obtain rfl : r' = none := h; exact rfl
  | some v =>
    obtain ⟨w, rfl, k⟩ := h
    exact ⟨w, [], rfl, k, rfl⟩
/-! OLD CELLS: 0 the script, 1 ArrayList's empty array, 2 the Class object of Object[] -/
def xRO (ρ : xR) (A : Nat → Prop) (U : State) (H : Heap) : Prop :=
  va_T .int (ρ.1 0) ρ.2.1 (fun j => .int (ρ.2.2 j)) A U H ∧ va_Z "java/util/ArrayList" "DEFAULTCAPACITY_EMPTY_ELEMENTDATA" "[Ljava/lang/Object;" (.ref (ρ.1 1)) A U H ∧ va_T (.object "java/lang/Object") (ρ.1 1) 0 (fun _ => .null) A U H ∧ va_Mi "[Ljava/lang/Object;" (ρ.1 2) U ∧ va_Dc U
theorem xRO_moved {ρ : xR} {A : Nat → Prop} {u U : State} {H : Heap} (hvm : u.vm.Alike U.vm) (h : xRO ρ A u H) : xRO ρ A U H := ⟨va_T.moved hvm h.1, va_Z.moved hvm h.2.1, va_T.moved hvm h.2.2.1, va_Mi.moved hvm h.2.2.2.1, va_Dc.moved hvm h.2.2.2.2⟩
theorem xRO_kept {ρ : xR} {A : Nat → Prop} {U : State} {H H1 : Heap} (h : xRO ρ A U H) (hq : ∀ a : Nat, a < H.size → ¬ A a → H1[a]? = H[a]?) : xRO ρ A U H1 := ⟨va_T.kept h.1 hq, va_Z.kept h.2.1 hq, va_T.kept h.2.2.1 hq, h.2.2.2⟩
theorem xRO_narrow {ρ : xR} {A B : Nat → Prop} {U : State} {H : Heap} (h : xRO ρ A U H) (hAB : ∀ q, B q → A q) : xRO ρ B U H := ⟨va_T.narrow h.1 hAB, va_Z.narrow h.2.1 hAB, va_T.narrow h.2.2.1 hAB, h.2.2.2⟩
end
section
/-! THE JUDGEMENT: from pc of the method y, with locals L, operands st and the abstract heap M, the run comes to y's end with Q; at most kc cells of ks slots come, at most d calls stand one in the other -/
def xCx (ρ : xR) (y : xM) (p : Program) (R : Room) (s : State) (m : MethodId) (args : Array Value) (meth : Method) (c : Code) (A : Nat → Prop) (d : Nat) : Prop :=
  p.tables.exec = Jvm.exec ∧ c.code = y.2.1 ∧ meth.sig.returnType = y.2.2.2 ∧ c.maxLocals = y.2.2.1 ∧ s.vm.findClass y.1.cls = some m.cls ∧ (∀ w ∈ Gw, w.before args s = true) ∧ (∀ w ∈ Nw, va_Nw w s) ∧ xRO ρ A s s.heap ∧ meth.locks = false ∧ (∀ q, s.heap.size ≤ q → A q) ∧ d ≤ R.frames ∧ d * 45 ≤ R.locals ∧ meth.name = y.1.name
def xWo (D : va_G) (ρ : xR) (R : Room) (s : State) (A : Nat → Prop) (H : Heap) (locs : List Loc) (cells slots : Nat) (tys : List (ClassId × FieldType)) (ad : List Nat) (ws : va_W) (M : List xCl) (kc ks : Nat) : Prop :=
  va_K D classes tys s ∧ va_P D classes ws H ∧ va_D A ws ∧ va_S A s.heap H locs ∧ xWr ρ tys ad ws M ∧ cells + kc ≤ R.cells ∧ slots + ks ≤ R.slots
/-- how a method may end at pc with r -/
def xRt (y : xM) (pc : Nat) (r : Option Value) : Prop := match r with
  | none => y.2.2.2 = none ∧ decode y.2.1 pc = .ok (.return_, 1)
  | some (.int v) => ∃ ty, y.2.2.2 = some ty ∧ narrow ty (.int v) = .int v ∧ decode y.2.1 pc = .ok (.ireturn, 1)
  | some (.long _) => y.2.2.2 = some .long ∧ decode y.2.1 pc = .ok (.lreturn, 1)
  | some (.float _) => False
  | some (.double _) => False
  | some _ => (∃ rt, y.2.2.2 = some rt ∧ ((∃ n, rt = .object n) ∨ ∃ t, rt = .array t)) ∧ decode y.2.1 pc = .ok (.areturn, 1)
def xEn (l : Launch) (D : va_G) (ρ : xR) (y : xM) (p : Program) (e : Env) (R : Room) (s : State) (m : MethodId) (args : Array Value) (below : List Frame) (meth : Method) (c : Code) (A : Nat → Prop) (ad0 : List Nat) (F : State → Prop) (Q : Option Value → List xCl → Prop) : Prop :=
  ∀ (H : Heap) (locs : List Loc) (cells slots : Nat) (tys : List (ClassId × FieldType)) (ad : List Nat) (ws : va_W) (M : List xCl) (r r' : Option Value) (pc : Nat) (ls : Array Slot),
    xle ad0 ad → xWo D ρ R s A H locs cells slots tys ad ws M 0 0 → Q r M → xret ρ ad r r' → xRt y pc r → W p l e R s m args below meth c H locs cells slots F (F0 m pc ls r'.toList)
def Xw (l : Launch) (D : va_G) (ρ : xR) (y : xM) (pc : Nat) (L : List (Nat × Value)) (st : List Value) (M : List xCl) (d kc ks : Nat) (Q : Option Value → List xCl → Prop) : Prop :=
  ∀ (p : Program) (e : Env) (R : Room) (s : State) (m : MethodId) (args : Array Value) (below : List Frame) (meth : Method) (c : Code) (A : Nat → Prop) (ad0 : List Nat) (F : State → Prop) (H : Heap) (locs : List Loc) (cells slots : Nat) (tys : List (ClassId × FieldType)) (ad : List Nat) (ws : va_W) (ls : Array Slot) (st' : List Value),
    xCx ρ y p R s m args meth c A d → xEn l D ρ y p e R s m args below meth c A ad0 F Q → xle ad0 ad → xWo D ρ R s A H locs cells slots tys ad ws M kc ks → xvs ρ ad st st' → xls ρ ad y.2.2.1 L ls →
    W p l e R s m args below meth c H locs cells slots F (F0 m pc ls st')
def xrf (v : Value) : Prop := match v with
  | .ref _ => True
  | .null => True
  | .retAddr _ => True
  | _ => False
theorem xrf_or {ρ : xR} {ad : List Nat} {v w : Value} (h : xrf v) (k : xvr ρ ad v w) : w = .null ∨ ∃ a, w = .ref a := by
  cases v with
  | ref i => obtain ⟨a, -, rfl⟩ := k; exact Or.inr ⟨a, rfl⟩
  | retAddr i => obtain rfl : w = _ := k; exact Or.inr ⟨_, rfl⟩
  | null => obtain rfl : w = _ := k; exact Or.inl rfl
  | _ => exact absurd h (fun z => z)
section XW
variable {l : Launch} {D : va_G} {ρ : xR} {y : xM} {pc : Nat} {L : List (Nat × Value)} {st : List Value} {M : List xCl} {d kc ks : Nat} {Q : Option Value → List xCl → Prop}
theorem x_iconst {n : Int} {v : Int32} (hd : decode y.2.1 pc = .ok (.iconst n, 1)) (hv : Int32.ofInt n = v) (k : Xw l D ρ y (pc + 1) L (.int v :: st) M d kc ks Q) : Xw l D ρ y pc L st M d kc ks Q := by
  intro p e R s m args below meth c A ad0 F H locs cells slots tys ad ws ls st' C E hle X hst hl
  exact lv_iconst C.1 C.2.1 hd hv (k p e R s m args below meth c A ad0 F H locs cells slots tys ad ws ls _ C E hle X ⟨_, _, rfl, rfl, hst⟩ hl)
theorem x_bipush {n : Int} {v : Int32} (hd : decode y.2.1 pc = .ok (.bipush n, 2)) (hv : (Int8.ofInt n).toInt32 = v) (k : Xw l D ρ y (pc + 2) L (.int v :: st) M d kc ks Q) : Xw l D ρ y pc L st M d kc ks Q := by
  intro p e R s m args below meth c A ad0 F H locs cells slots tys ad ws ls st' C E hle X hst hl
  exact lv_bipush C.1 C.2.1 hd hv (k p e R s m args below meth c A ad0 F H locs cells slots tys ad ws ls _ C E hle X ⟨_, _, rfl, rfl, hst⟩ hl)
theorem x_sipush {n : Int} {v : Int32} (hd : decode y.2.1 pc = .ok (.sipush n, 3)) (hv : (Int16.ofInt n).toInt32 = v) (k : Xw l D ρ y (pc + 3) L (.int v :: st) M d kc ks Q) : Xw l D ρ y pc L st M d kc ks Q := by
  intro p e R s m args below meth c A ad0 F H locs cells slots tys ad ws ls st' C E hle X hst hl
  exact lv_sipush C.1 C.2.1 hd hv (k p e R s m args below meth c A ad0 F H locs cells slots tys ad ws ls _ C E hle X ⟨_, _, rfl, rfl, hst⟩ hl)
theorem x_lconst {n : Fin 2} {v : Int64} (hd : decode y.2.1 pc = .ok (.lconst n, 1)) (hv : Int64.ofNat (n : Nat) = v) (k : Xw l D ρ y (pc + 1) L (.long v :: st) M d kc ks Q) : Xw l D ρ y pc L st M d kc ks Q := by
  intro p e R s m args below meth c A ad0 F H locs cells slots tys ad ws ls st' C E hle X hst hl
  exact lv_lconst C.1 C.2.1 hd hv (k p e R s m args below meth c A ad0 F H locs cells slots tys ad ws ls _ C E hle X ⟨_, _, rfl, rfl, hst⟩ hl)
theorem x_null  (hd : decode y.2.1 pc = .ok (.aconst_null, 1))  (k : Xw l D ρ y (pc + 1) L (.null :: st) M d kc ks Q) : Xw l D ρ y pc L st M d kc ks Q := by
  intro p e R s m args below meth c A ad0 F H locs cells slots tys ad ws ls st' C E hle X hst hl
  exact lv_null C.1 C.2.1 hd  (k p e R s m args below meth c A ad0 F H locs cells slots tys ad ws ls _ C E hle X ⟨_, _, rfl, rfl, hst⟩ hl)
theorem x_iadd {a b : Int32} (hd : decode y.2.1 pc = .ok (.iadd, 1))  (k : Xw l D ρ y (pc + 1) L (.int (a + b) :: st) M d kc ks Q) : Xw l D ρ y pc L (.int b :: .int a :: st) M d kc ks Q := by
  intro p e R s m args below meth c A ad0 F H locs cells slots tys ad ws ls st' C E hle X hst hl
  obtain ⟨w0, t0, rfl, h0, hst⟩ := hst
  obtain rfl : w0 = _ := h0
  obtain ⟨w1, t1, rfl, h1, hst⟩ := hst
  obtain rfl : w1 = _ := h1
  exact lv_iadd C.1 C.2.1 hd  (k p e R s m args below meth c A ad0 F H locs cells slots tys ad ws ls _ C E hle X ⟨_, _, rfl, rfl, hst⟩ hl)
theorem x_isub {a b : Int32} (hd : decode y.2.1 pc = .ok (.isub, 1))  (k : Xw l D ρ y (pc + 1) L (.int (a - b) :: st) M d kc ks Q) : Xw l D ρ y pc L (.int b :: .int a :: st) M d kc ks Q := by
  intro p e R s m args below meth c A ad0 F H locs cells slots tys ad ws ls st' C E hle X hst hl
  obtain ⟨w0, t0, rfl, h0, hst⟩ := hst
  obtain rfl : w0 = _ := h0
  obtain ⟨w1, t1, rfl, h1, hst⟩ := hst
  obtain rfl : w1 = _ := h1
  exact lv_isub C.1 C.2.1 hd  (k p e R s m args below meth c A ad0 F H locs cells slots tys ad ws ls _ C E hle X ⟨_, _, rfl, rfl, hst⟩ hl)
theorem x_imul {a b : Int32} (hd : decode y.2.1 pc = .ok (.imul, 1))  (k : Xw l D ρ y (pc + 1) L (.int (a * b) :: st) M d kc ks Q) : Xw l D ρ y pc L (.int b :: .int a :: st) M d kc ks Q := by
  intro p e R s m args below meth c A ad0 F H locs cells slots tys ad ws ls st' C E hle X hst hl
  obtain ⟨w0, t0, rfl, h0, hst⟩ := hst
  obtain rfl : w0 = _ := h0
  obtain ⟨w1, t1, rfl, h1, hst⟩ := hst
  obtain rfl : w1 = _ := h1
  exact lv_imul C.1 C.2.1 hd  (k p e R s m args below meth c A ad0 F H locs cells slots tys ad ws ls _ C E hle X ⟨_, _, rfl, rfl, hst⟩ hl)
theorem x_iand {a b : Int32} (hd : decode y.2.1 pc = .ok (.iand, 1))  (k : Xw l D ρ y (pc + 1) L (.int (a &&& b) :: st) M d kc ks Q) : Xw l D ρ y pc L (.int b :: .int a :: st) M d kc ks Q := by
  intro p e R s m args below meth c A ad0 F H locs cells slots tys ad ws ls st' C E hle X hst hl
  obtain ⟨w0, t0, rfl, h0, hst⟩ := hst
  obtain rfl : w0 = _ := h0
  obtain ⟨w1, t1, rfl, h1, hst⟩ := hst
  obtain rfl : w1 = _ := h1
  exact lv_iand C.1 C.2.1 hd  (k p e R s m args below meth c A ad0 F H locs cells slots tys ad ws ls _ C E hle X ⟨_, _, rfl, rfl, hst⟩ hl)
theorem x_ior {a b : Int32} (hd : decode y.2.1 pc = .ok (.ior, 1))  (k : Xw l D ρ y (pc + 1) L (.int (a ||| b) :: st) M d kc ks Q) : Xw l D ρ y pc L (.int b :: .int a :: st) M d kc ks Q := by
  intro p e R s m args below meth c A ad0 F H locs cells slots tys ad ws ls st' C E hle X hst hl
  obtain ⟨w0, t0, rfl, h0, hst⟩ := hst
  obtain rfl : w0 = _ := h0
  obtain ⟨w1, t1, rfl, h1, hst⟩ := hst
  obtain rfl : w1 = _ := h1
  exact lv_ior C.1 C.2.1 hd  (k p e R s m args below meth c A ad0 F H locs cells slots tys ad ws ls _ C E hle X ⟨_, _, rfl, rfl, hst⟩ hl)
theorem x_ixor {a b : Int32} (hd : decode y.2.1 pc = .ok (.ixor, 1))  (k : Xw l D ρ y (pc + 1) L (.int (a ^^^ b) :: st) M d kc ks Q) : Xw l D ρ y pc L (.int b :: .int a :: st) M d kc ks Q := by
  intro p e R s m args below meth c A ad0 F H locs cells slots tys ad ws ls st' C E hle X hst hl
  obtain ⟨w0, t0, rfl, h0, hst⟩ := hst
  obtain rfl : w0 = _ := h0
  obtain ⟨w1, t1, rfl, h1, hst⟩ := hst
  obtain rfl : w1 = _ := h1
  exact lv_ixor C.1 C.2.1 hd  (k p e R s m args below meth c A ad0 F H locs cells slots tys ad ws ls _ C E hle X ⟨_, _, rfl, rfl, hst⟩ hl)
theorem x_ishl {a b : Int32} (hd : decode y.2.1 pc = .ok (.ishl, 1))  (k : Xw l D ρ y (pc + 1) L (.int (a <<< (b &&& 31)) :: st) M d kc ks Q) : Xw l D ρ y pc L (.int b :: .int a :: st) M d kc ks Q := by
  intro p e R s m args below meth c A ad0 F H locs cells slots tys ad ws ls st' C E hle X hst hl
  obtain ⟨w0, t0, rfl, h0, hst⟩ := hst
  obtain rfl : w0 = _ := h0
  obtain ⟨w1, t1, rfl, h1, hst⟩ := hst
  obtain rfl : w1 = _ := h1
  exact lv_ishl C.1 C.2.1 hd  (k p e R s m args below meth c A ad0 F H locs cells slots tys ad ws ls _ C E hle X ⟨_, _, rfl, rfl, hst⟩ hl)
theorem x_ishr {a b : Int32} (hd : decode y.2.1 pc = .ok (.ishr, 1))  (k : Xw l D ρ y (pc + 1) L (.int (a >>> (b &&& 31)) :: st) M d kc ks Q) : Xw l D ρ y pc L (.int b :: .int a :: st) M d kc ks Q := by
  intro p e R s m args below meth c A ad0 F H locs cells slots tys ad ws ls st' C E hle X hst hl
  obtain ⟨w0, t0, rfl, h0, hst⟩ := hst
  obtain rfl : w0 = _ := h0
  obtain ⟨w1, t1, rfl, h1, hst⟩ := hst
  obtain rfl : w1 = _ := h1
  exact lv_ishr C.1 C.2.1 hd  (k p e R s m args below meth c A ad0 F H locs cells slots tys ad ws ls _ C E hle X ⟨_, _, rfl, rfl, hst⟩ hl)
theorem x_idiv {a b : Int32} (hd : decode y.2.1 pc = .ok (.idiv, 1)) (hne : ¬ b = 0) (k : Xw l D ρ y (pc + 1) L (.int (a / b) :: st) M d kc ks Q) : Xw l D ρ y pc L (.int b :: .int a :: st) M d kc ks Q := by
  intro p e R s m args below meth c A ad0 F H locs cells slots tys ad ws ls st' C E hle X hst hl
  obtain ⟨w0, t0, rfl, h0, hst⟩ := hst
  obtain rfl : w0 = _ := h0
  obtain ⟨w1, t1, rfl, h1, hst⟩ := hst
  obtain rfl : w1 = _ := h1
  exact lv_idiv C.1 C.2.1 hd hne (k p e R s m args below meth c A ad0 F H locs cells slots tys ad ws ls _ C E hle X ⟨_, _, rfl, rfl, hst⟩ hl)
theorem x_irem {a b : Int32} (hd : decode y.2.1 pc = .ok (.irem, 1)) (hne : ¬ b = 0) (k : Xw l D ρ y (pc + 1) L (.int (a - a / b * b) :: st) M d kc ks Q) : Xw l D ρ y pc L (.int b :: .int a :: st) M d kc ks Q := by
  intro p e R s m args below meth c A ad0 F H locs cells slots tys ad ws ls st' C E hle X hst hl
  obtain ⟨w0, t0, rfl, h0, hst⟩ := hst
  obtain rfl : w0 = _ := h0
  obtain ⟨w1, t1, rfl, h1, hst⟩ := hst
  obtain rfl : w1 = _ := h1
  exact lv_irem C.1 C.2.1 hd hne (k p e R s m args below meth c A ad0 F H locs cells slots tys ad ws ls _ C E hle X ⟨_, _, rfl, rfl, hst⟩ hl)
theorem x_ineg {a : Int32} (hd : decode y.2.1 pc = .ok (.ineg, 1))  (k : Xw l D ρ y (pc + 1) L (.int (-a) :: st) M d kc ks Q) : Xw l D ρ y pc L (.int a :: st) M d kc ks Q := by
  intro p e R s m args below meth c A ad0 F H locs cells slots tys ad ws ls st' C E hle X hst hl
  obtain ⟨w0, t0, rfl, h0, hst⟩ := hst
  obtain rfl : w0 = _ := h0
  exact lv_ineg C.1 C.2.1 hd  (k p e R s m args below meth c A ad0 F H locs cells slots tys ad ws ls _ C E hle X ⟨_, _, rfl, rfl, hst⟩ hl)
theorem x_iushr {a b : Int32} (hd : decode y.2.1 pc = .ok (.iushr, 1))  (k : Xw l D ρ y (pc + 1) L (.int ((a.toUInt32 >>> (b.toUInt32 &&& Int32.toUInt32 31)).toInt32) :: st) M d kc ks Q) : Xw l D ρ y pc L (.int b :: .int a :: st) M d kc ks Q := by
  intro p e R s m args below meth c A ad0 F H locs cells slots tys ad ws ls st' C E hle X hst hl
  obtain ⟨w0, t0, rfl, h0, hst⟩ := hst
  obtain rfl : w0 = _ := h0
  obtain ⟨w1, t1, rfl, h1, hst⟩ := hst
  obtain rfl : w1 = _ := h1
  exact lv_iushr C.1 C.2.1 hd rfl (k p e R s m args below meth c A ad0 F H locs cells slots tys ad ws ls _ C E hle X ⟨_, _, rfl, rfl, hst⟩ hl)
theorem x_ladd {a b : Int64} (hd : decode y.2.1 pc = .ok (.ladd, 1))  (k : Xw l D ρ y (pc + 1) L (.long (a + b) :: st) M d kc ks Q) : Xw l D ρ y pc L (.long b :: .long a :: st) M d kc ks Q := by
  intro p e R s m args below meth c A ad0 F H locs cells slots tys ad ws ls st' C E hle X hst hl
  obtain ⟨w0, t0, rfl, h0, hst⟩ := hst
  obtain rfl : w0 = _ := h0
  obtain ⟨w1, t1, rfl, h1, hst⟩ := hst
  obtain rfl : w1 = _ := h1
  exact lv_ladd C.1 C.2.1 hd  (k p e R s m args below meth c A ad0 F H locs cells slots tys ad ws ls _ C E hle X ⟨_, _, rfl, rfl, hst⟩ hl)
theorem x_lsub {a b : Int64} (hd : decode y.2.1 pc = .ok (.lsub, 1))  (k : Xw l D ρ y (pc + 1) L (.long (a - b) :: st) M d kc ks Q) : Xw l D ρ y pc L (.long b :: .long a :: st) M d kc ks Q := by
  intro p e R s m args below meth c A ad0 F H locs cells slots tys ad ws ls st' C E hle X hst hl
  obtain ⟨w0, t0, rfl, h0, hst⟩ := hst
  obtain rfl : w0 = _ := h0
  obtain ⟨w1, t1, rfl, h1, hst⟩ := hst
  obtain rfl : w1 = _ := h1
  exact lv_lsub C.1 C.2.1 hd  (k p e R s m args below meth c A ad0 F H locs cells slots tys ad ws ls _ C E hle X ⟨_, _, rfl, rfl, hst⟩ hl)
theorem x_lmul {a b : Int64} (hd : decode y.2.1 pc = .ok (.lmul, 1))  (k : Xw l D ρ y (pc + 1) L (.long (a * b) :: st) M d kc ks Q) : Xw l D ρ y pc L (.long b :: .long a :: st) M d kc ks Q := by
  intro p e R s m args below meth c A ad0 F H locs cells slots tys ad ws ls st' C E hle X hst hl
  obtain ⟨w0, t0, rfl, h0, hst⟩ := hst
  obtain rfl : w0 = _ := h0
  obtain ⟨w1, t1, rfl, h1, hst⟩ := hst
  obtain rfl : w1 = _ := h1
  exact lv_lmul C.1 C.2.1 hd  (k p e R s m args below meth c A ad0 F H locs cells slots tys ad ws ls _ C E hle X ⟨_, _, rfl, rfl, hst⟩ hl)
theorem x_land {a b : Int64} (hd : decode y.2.1 pc = .ok (.land, 1))  (k : Xw l D ρ y (pc + 1) L (.long (a &&& b) :: st) M d kc ks Q) : Xw l D ρ y pc L (.long b :: .long a :: st) M d kc ks Q := by
  intro p e R s m args below meth c A ad0 F H locs cells slots tys ad ws ls st' C E hle X hst hl
  obtain ⟨w0, t0, rfl, h0, hst⟩ := hst
  obtain rfl : w0 = _ := h0
  obtain ⟨w1, t1, rfl, h1, hst⟩ := hst
  obtain rfl : w1 = _ := h1
  exact lv_land C.1 C.2.1 hd  (k p e R s m args below meth c A ad0 F H locs cells slots tys ad ws ls _ C E hle X ⟨_, _, rfl, rfl, hst⟩ hl)
theorem x_lor {a b : Int64} (hd : decode y.2.1 pc = .ok (.lor, 1))  (k : Xw l D ρ y (pc + 1) L (.long (a ||| b) :: st) M d kc ks Q) : Xw l D ρ y pc L (.long b :: .long a :: st) M d kc ks Q := by
  intro p e R s m args below meth c A ad0 F H locs cells slots tys ad ws ls st' C E hle X hst hl
  obtain ⟨w0, t0, rfl, h0, hst⟩ := hst
  obtain rfl : w0 = _ := h0
  obtain ⟨w1, t1, rfl, h1, hst⟩ := hst
  obtain rfl : w1 = _ := h1
  exact lv_lor C.1 C.2.1 hd  (k p e R s m args below meth c A ad0 F H locs cells slots tys ad ws ls _ C E hle X ⟨_, _, rfl, rfl, hst⟩ hl)
theorem x_lxor {a b : Int64} (hd : decode y.2.1 pc = .ok (.lxor, 1))  (k : Xw l D ρ y (pc + 1) L (.long (a ^^^ b) :: st) M d kc ks Q) : Xw l D ρ y pc L (.long b :: .long a :: st) M d kc ks Q := by
  intro p e R s m args below meth c A ad0 F H locs cells slots tys ad ws ls st' C E hle X hst hl
  obtain ⟨w0, t0, rfl, h0, hst⟩ := hst
  obtain rfl : w0 = _ := h0
  obtain ⟨w1, t1, rfl, h1, hst⟩ := hst
  obtain rfl : w1 = _ := h1
  exact lv_lxor C.1 C.2.1 hd  (k p e R s m args below meth c A ad0 F H locs cells slots tys ad ws ls _ C E hle X ⟨_, _, rfl, rfl, hst⟩ hl)
theorem x_lushr {a : Int64} {b : Int32} (hd : decode y.2.1 pc = .ok (.lushr, 1))  (k : Xw l D ρ y (pc + 1) L (.long ((a.toUInt64 >>> (b.toInt64.toUInt64 &&& Int64.toUInt64 63)).toInt64) :: st) M d kc ks Q) : Xw l D ρ y pc L (.int b :: .long a :: st) M d kc ks Q := by
  intro p e R s m args below meth c A ad0 F H locs cells slots tys ad ws ls st' C E hle X hst hl
  obtain ⟨w0, t0, rfl, h0, hst⟩ := hst
  obtain rfl : w0 = _ := h0
  obtain ⟨w1, t1, rfl, h1, hst⟩ := hst
  obtain rfl : w1 = _ := h1
  exact lv_lushr C.1 C.2.1 hd rfl (k p e R s m args below meth c A ad0 F H locs cells slots tys ad ws ls _ C E hle X ⟨_, _, rfl, rfl, hst⟩ hl)
theorem x_lshl {a : Int64} {b : Int32} (hd : decode y.2.1 pc = .ok (.lshl, 1))  (k : Xw l D ρ y (pc + 1) L (.long (a <<< (b.toInt64 &&& 63)) :: st) M d kc ks Q) : Xw l D ρ y pc L (.int b :: .long a :: st) M d kc ks Q := by
  intro p e R s m args below meth c A ad0 F H locs cells slots tys ad ws ls st' C E hle X hst hl
  obtain ⟨w0, t0, rfl, h0, hst⟩ := hst
  obtain rfl : w0 = _ := h0
  obtain ⟨w1, t1, rfl, h1, hst⟩ := hst
  obtain rfl : w1 = _ := h1
  exact lv_lshl C.1 C.2.1 hd rfl (k p e R s m args below meth c A ad0 F H locs cells slots tys ad ws ls _ C E hle X ⟨_, _, rfl, rfl, hst⟩ hl)
theorem x_lshr {a : Int64} {b : Int32} (hd : decode y.2.1 pc = .ok (.lshr, 1))  (k : Xw l D ρ y (pc + 1) L (.long (a >>> (b.toInt64 &&& 63)) :: st) M d kc ks Q) : Xw l D ρ y pc L (.int b :: .long a :: st) M d kc ks Q := by
  intro p e R s m args below meth c A ad0 F H locs cells slots tys ad ws ls st' C E hle X hst hl
  obtain ⟨w0, t0, rfl, h0, hst⟩ := hst
  obtain rfl : w0 = _ := h0
  obtain ⟨w1, t1, rfl, h1, hst⟩ := hst
  obtain rfl : w1 = _ := h1
  exact lv_lshr C.1 C.2.1 hd rfl (k p e R s m args below meth c A ad0 F H locs cells slots tys ad ws ls _ C E hle X ⟨_, _, rfl, rfl, hst⟩ hl)
theorem x_i2l {a : Int32} (hd : decode y.2.1 pc = .ok (.i2l, 1))  (k : Xw l D ρ y (pc + 1) L (.long a.toInt64 :: st) M d kc ks Q) : Xw l D ρ y pc L (.int a :: st) M d kc ks Q := by
  intro p e R s m args below meth c A ad0 F H locs cells slots tys ad ws ls st' C E hle X hst hl
  obtain ⟨w0, t0, rfl, h0, hst⟩ := hst
  obtain rfl : w0 = _ := h0
  exact lv_i2l C.1 C.2.1 hd rfl (k p e R s m args below meth c A ad0 F H locs cells slots tys ad ws ls _ C E hle X ⟨_, _, rfl, rfl, hst⟩ hl)
theorem x_l2i {a : Int64} (hd : decode y.2.1 pc = .ok (.l2i, 1))  (k : Xw l D ρ y (pc + 1) L (.int a.toInt32 :: st) M d kc ks Q) : Xw l D ρ y pc L (.long a :: st) M d kc ks Q := by
  intro p e R s m args below meth c A ad0 F H locs cells slots tys ad ws ls st' C E hle X hst hl
  obtain ⟨w0, t0, rfl, h0, hst⟩ := hst
  obtain rfl : w0 = _ := h0
  exact lv_l2i C.1 C.2.1 hd rfl (k p e R s m args below meth c A ad0 F H locs cells slots tys ad ws ls _ C E hle X ⟨_, _, rfl, rfl, hst⟩ hl)
theorem x_lcmp {a b : Int64} (hd : decode y.2.1 pc = .ok (.lcmp, 1))  (k : Xw l D ρ y (pc + 1) L (.int (lg_cmp a b) :: st) M d kc ks Q) : Xw l D ρ y pc L (.long b :: .long a :: st) M d kc ks Q := by
  intro p e R s m args below meth c A ad0 F H locs cells slots tys ad ws ls st' C E hle X hst hl
  obtain ⟨w0, t0, rfl, h0, hst⟩ := hst
  obtain rfl : w0 = _ := h0
  obtain ⟨w1, t1, rfl, h1, hst⟩ := hst
  obtain rfl : w1 = _ := h1
  exact W.lcmp C.1 C.2.1 hd  (k p e R s m args below meth c A ad0 F H locs cells slots tys ad ws ls _ C E hle X ⟨_, _, rfl, rfl, hst⟩ hl)
theorem x_ldc {index : Nat} {v : Int32} (hw : Jvm.Cond.constant y.1.cls index v ∈ Gw) (hd : decode y.2.1 pc = .ok (.ldc index, 2)) (k : Xw l D ρ y (pc + 2) L (.int v :: st) M d kc ks Q) : Xw l D ρ y pc L st M d kc ks Q := by
  intro p e R s m args below meth c A ad0 F H locs cells slots tys ad ws ls st' C E hle X hst hl
  obtain ⟨hx, hb, hr, hml, hown, hts, hrest⟩ := id C
  exact lv_ldc hx hb hown (hts _ hw) hd (k p e R s m args below meth c A ad0 F H locs cells slots tys ad ws ls _ C E hle X ⟨_, _, rfl, rfl, hst⟩ hl)
theorem x_ldc2 {index : Nat} {v : Int64} (hw : Jvm.Cond.constantLong y.1.cls index v ∈ Gw) (hd : decode y.2.1 pc = .ok (.ldc2_w index, 3)) (k : Xw l D ρ y (pc + 3) L (.long v :: st) M d kc ks Q) : Xw l D ρ y pc L st M d kc ks Q := by
  intro p e R s m args below meth c A ad0 F H locs cells slots tys ad ws ls st' C E hle X hst hl
  obtain ⟨hx, hb, hr, hml, hown, hts, hrest⟩ := id C
  exact lv_ldc2 hx hb hown (hts _ hw) hd (k p e R s m args below meth c A ad0 F H locs cells slots tys ad ws ls _ C E hle X ⟨_, _, rfl, rfl, hst⟩ hl)
theorem x_dup {u : Value} (hd : decode y.2.1 pc = .ok (.dup, 1)) (hcu : u.category = 1) (k : Xw l D ρ y (pc + 1) L (u :: u :: st) M d kc ks Q) : Xw l D ρ y pc L (u :: st) M d kc ks Q := by
  intro p e R s m args below meth c A ad0 F H locs cells slots tys ad ws ls st' C E hle X hst hl
  obtain ⟨wu, tu, rfl, hu, hst⟩ := hst
  exact lv_dup C.1 C.2.1 hd ((xvr_cat hu).trans hcu) (k p e R s m args below meth c A ad0 F H locs cells slots tys ad ws ls _ C E hle X ⟨_, _, rfl, hu, ⟨_, _, rfl, hu, hst⟩⟩ hl)
theorem x_pop {u : Value} (hd : decode y.2.1 pc = .ok (.pop, 1)) (hcu : u.category = 1) (k : Xw l D ρ y (pc + 1) L st M d kc ks Q) : Xw l D ρ y pc L (u :: st) M d kc ks Q := by
  intro p e R s m args below meth c A ad0 F H locs cells slots tys ad ws ls st' C E hle X hst hl
  obtain ⟨wu, tu, rfl, hu, hst⟩ := hst
  exact lv_pop C.1 C.2.1 hd ((xvr_cat hu).trans hcu) (k p e R s m args below meth c A ad0 F H locs cells slots tys ad ws ls _ C E hle X hst hl)
theorem x_dup_x1 {u v : Value} (hd : decode y.2.1 pc = .ok (.dup_x1, 1)) (hcu : u.category = 1) (hcv : v.category = 1) (k : Xw l D ρ y (pc + 1) L (u :: v :: u :: st) M d kc ks Q) : Xw l D ρ y pc L (u :: v :: st) M d kc ks Q := by
  intro p e R s m args below meth c A ad0 F H locs cells slots tys ad ws ls st' C E hle X hst hl
  obtain ⟨wu, tu, rfl, hu, hst⟩ := hst
  obtain ⟨wv, tv, rfl, hv, hst⟩ := hst
  exact lv_dup_x1 C.1 C.2.1 hd ((xvr_cat hu).trans hcu) ((xvr_cat hv).trans hcv) (k p e R s m args below meth c A ad0 F H locs cells slots tys ad ws ls _ C E hle X ⟨_, _, rfl, hu, ⟨_, _, rfl, hv, ⟨_, _, rfl, hu, hst⟩⟩⟩ hl)
theorem x_dup2 {u v : Value} (hd : decode y.2.1 pc = .ok (.dup2, 1)) (hcu : u.category = 1) (hcv : v.category = 1) (k : Xw l D ρ y (pc + 1) L (u :: v :: u :: v :: st) M d kc ks Q) : Xw l D ρ y pc L (u :: v :: st) M d kc ks Q := by
  intro p e R s m args below meth c A ad0 F H locs cells slots tys ad ws ls st' C E hle X hst hl
  obtain ⟨wu, tu, rfl, hu, hst⟩ := hst
  obtain ⟨wv, tv, rfl, hv, hst⟩ := hst
  exact lv_dup2_11 C.1 C.2.1 hd ((xvr_cat hu).trans hcu) ((xvr_cat hv).trans hcv) (k p e R s m args below meth c A ad0 F H locs cells slots tys ad ws ls _ C E hle X ⟨_, _, rfl, hu, ⟨_, _, rfl, hv, ⟨_, _, rfl, hu, ⟨_, _, rfl, hv, hst⟩⟩⟩⟩ hl)
theorem x_pop2 {u : Value} (hd : decode y.2.1 pc = .ok (.pop2, 1)) (hcu : u.category = 2) (k : Xw l D ρ y (pc + 1) L st M d kc ks Q) : Xw l D ρ y pc L (u :: st) M d kc ks Q := by
  intro p e R s m args below meth c A ad0 F H locs cells slots tys ad ws ls st' C E hle X hst hl
  obtain ⟨wu, tu, rfl, hu, hst⟩ := hst
  exact lv_pop2_2 C.1 C.2.1 hd ((xvr_cat hu).trans hcu) (k p e R s m args below meth c A ad0 F H locs cells slots tys ad ws ls _ C E hle X hst hl)
theorem x_iload_n {n : Fin 4} {i : Nat} {x : Int32} (hd : decode y.2.1 pc = .ok (.iload_n n, 1)) (hi : (n : Nat) = i) (j : Nat) (hL : L[j]? = some (i, .int x)) (k : Xw l D ρ y (pc + 1) L (.int x :: st) M d kc ks Q) : Xw l D ρ y pc L st M d kc ks Q := by
  intro p e R s m args below meth c A ad0 F H locs cells slots tys ad ws ls st' C E hle X hst hl
  obtain ⟨w, h1, h2⟩ := xls_at hl j hL
  obtain rfl : w = _ := h2
  exact lv_iload_n C.1 C.2.1 hd hi h1 (k p e R s m args below meth c A ad0 F H locs cells slots tys ad ws ls _ C E hle X ⟨_, _, rfl, rfl, hst⟩ hl)
theorem x_iload {i : Nat} {x : Int32} (hd : decode y.2.1 pc = .ok (.iload i, 2)) (j : Nat) (hL : L[j]? = some (i, .int x)) (k : Xw l D ρ y (pc + 2) L (.int x :: st) M d kc ks Q) : Xw l D ρ y pc L st M d kc ks Q := by
  intro p e R s m args below meth c A ad0 F H locs cells slots tys ad ws ls st' C E hle X hst hl
  obtain ⟨w, h1, h2⟩ := xls_at hl j hL
  obtain rfl : w = _ := h2
  exact lv_iload C.1 C.2.1 hd h1 (k p e R s m args below meth c A ad0 F H locs cells slots tys ad ws ls _ C E hle X ⟨_, _, rfl, rfl, hst⟩ hl)
theorem x_lload_n {n : Fin 4} {i : Nat} {x : Int64} (hd : decode y.2.1 pc = .ok (.lload_n n, 1)) (hi : (n : Nat) = i) (j : Nat) (hL : L[j]? = some (i, .long x)) (k : Xw l D ρ y (pc + 1) L (.long x :: st) M d kc ks Q) : Xw l D ρ y pc L st M d kc ks Q := by
  intro p e R s m args below meth c A ad0 F H locs cells slots tys ad ws ls st' C E hle X hst hl
  obtain ⟨w, h1, h2⟩ := xls_at hl j hL
  obtain rfl : w = _ := h2
  exact lv_lload_n C.1 C.2.1 hd hi h1 (k p e R s m args below meth c A ad0 F H locs cells slots tys ad ws ls _ C E hle X ⟨_, _, rfl, rfl, hst⟩ hl)
theorem x_lload {i : Nat} {x : Int64} (hd : decode y.2.1 pc = .ok (.lload i, 2)) (j : Nat) (hL : L[j]? = some (i, .long x)) (k : Xw l D ρ y (pc + 2) L (.long x :: st) M d kc ks Q) : Xw l D ρ y pc L st M d kc ks Q := by
  intro p e R s m args below meth c A ad0 F H locs cells slots tys ad ws ls st' C E hle X hst hl
  obtain ⟨w, h1, h2⟩ := xls_at hl j hL
  obtain rfl : w = _ := h2
  exact lv_lload C.1 C.2.1 hd h1 (k p e R s m args below meth c A ad0 F H locs cells slots tys ad ws ls _ C E hle X ⟨_, _, rfl, rfl, hst⟩ hl)
theorem x_aload_n {n : Fin 4} {i : Nat} {v : Value} (hd : decode y.2.1 pc = .ok (.aload_n n, 1)) (hi : (n : Nat) = i) (j : Nat) (hL : L[j]? = some (i, v)) (hv : xrf v) (k : Xw l D ρ y (pc + 1) L (v :: st) M d kc ks Q) : Xw l D ρ y pc L st M d kc ks Q := by
  intro p e R s m args below meth c A ad0 F H locs cells slots tys ad ws ls st' C E hle X hst hl
  obtain ⟨w, h1, h2⟩ := xls_at hl j hL
  have h3 := xrf_or hv h2
  have h4 := k p e R s m args below meth c A ad0 F H locs cells slots tys ad ws ls (w :: st') C E hle X ⟨_, _, rfl, h2, hst⟩ hl
  rcases h3 with rfl | ⟨a, rfl⟩
  · exact lv_aload_nN C.1 C.2.1 hd hi h1 h4
  · exact lv_aload_n C.1 C.2.1 hd hi h1 h4
theorem x_aload {i : Nat} {v : Value} (hd : decode y.2.1 pc = .ok (.aload i, 2)) (j : Nat) (hL : L[j]? = some (i, v)) (hv : xrf v) (k : Xw l D ρ y (pc + 2) L (v :: st) M d kc ks Q) : Xw l D ρ y pc L st M d kc ks Q := by
  intro p e R s m args below meth c A ad0 F H locs cells slots tys ad ws ls st' C E hle X hst hl
  obtain ⟨w, h1, h2⟩ := xls_at hl j hL
  have h3 := xrf_or hv h2
  have h4 := k p e R s m args below meth c A ad0 F H locs cells slots tys ad ws ls (w :: st') C E hle X ⟨_, _, rfl, h2, hst⟩ hl
  rcases h3 with rfl | ⟨a, rfl⟩
  · exact lv_aloadN C.1 C.2.1 hd h1 h4
  · exact lv_aload C.1 C.2.1 hd h1 h4
theorem x_istore_n {n : Fin 4} {i : Nat} {x : Int32} {L' : List (Nat × Value)} (hd : decode y.2.1 pc = .ok (.istore_n n, 1)) (hi : (n : Nat) = i) (hn : i < y.2.2.1) (hl' : (i, Value.int x) :: L.filter (fun q => !(q.1 == i) && !(q.1 + 1 == i && q.2.category == 2)) = L') (k : Xw l D ρ y (pc + 1) L' st M d kc ks Q) : Xw l D ρ y pc L (.int x :: st) M d kc ks Q := by
  intro p e R s m args below meth c A ad0 F H locs cells slots tys ad ws ls st' C E hle X hst hl
  obtain ⟨w0, t0, rfl, h1, hst⟩ := hst
  obtain rfl : w0 = _ := h1
  obtain ⟨Lm, g1, g2⟩ := hl
  refine lv_istore_n C.1 C.2.1 hd hi g1 hn rfl (fun ls1 g3 => ?_)
  exact k p e R s m args below meth c A ad0 F H locs cells slots tys ad ws ls1 _ C E hle X hst ⟨_, g3, by rw [← hl']; exact ⟨_, _, rfl, rfl, xlr_filter (fun a b => !(a == i) && !(a + 1 == i && b == 2)) g2⟩⟩
theorem x_istore {i : Nat} {x : Int32} {L' : List (Nat × Value)} (hd : decode y.2.1 pc = .ok (.istore i, 2)) (hn : i < y.2.2.1) (hl' : (i, Value.int x) :: L.filter (fun q => !(q.1 == i) && !(q.1 + 1 == i && q.2.category == 2)) = L') (k : Xw l D ρ y (pc + 2) L' st M d kc ks Q) : Xw l D ρ y pc L (.int x :: st) M d kc ks Q := by
  intro p e R s m args below meth c A ad0 F H locs cells slots tys ad ws ls st' C E hle X hst hl
  obtain ⟨w0, t0, rfl, h1, hst⟩ := hst
  obtain rfl : w0 = _ := h1
  obtain ⟨Lm, g1, g2⟩ := hl
  refine lv_istore C.1 C.2.1 hd g1 hn rfl (fun ls1 g3 => ?_)
  exact k p e R s m args below meth c A ad0 F H locs cells slots tys ad ws ls1 _ C E hle X hst ⟨_, g3, by rw [← hl']; exact ⟨_, _, rfl, rfl, xlr_filter (fun a b => !(a == i) && !(a + 1 == i && b == 2)) g2⟩⟩
theorem x_lstore_n {n : Fin 4} {i : Nat} {x : Int64} {L' : List (Nat × Value)} (hd : decode y.2.1 pc = .ok (.lstore_n n, 1)) (hi : (n : Nat) = i) (hn : i + 1 < y.2.2.1) (hl' : (i, Value.long x) :: L.filter (fun q => !(q.1 == i) && (!(q.1 == i + 1) && !(q.1 + 1 == i && q.2.category == 2))) = L') (k : Xw l D ρ y (pc + 1) L' st M d kc ks Q) : Xw l D ρ y pc L (.long x :: st) M d kc ks Q := by
  intro p e R s m args below meth c A ad0 F H locs cells slots tys ad ws ls st' C E hle X hst hl
  obtain ⟨w0, t0, rfl, h1, hst⟩ := hst
  obtain rfl : w0 = _ := h1
  obtain ⟨Lm, g1, g2⟩ := hl
  refine lv_lstore_n C.1 C.2.1 hd hi g1 hn rfl (fun ls1 g3 => ?_)
  exact k p e R s m args below meth c A ad0 F H locs cells slots tys ad ws ls1 _ C E hle X hst ⟨_, g3, by rw [← hl']; exact ⟨_, _, rfl, rfl, xlr_filter (fun a b => !(a == i) && (!(a == i + 1) && !(a + 1 == i && b == 2))) g2⟩⟩
theorem x_lstore {i : Nat} {x : Int64} {L' : List (Nat × Value)} (hd : decode y.2.1 pc = .ok (.lstore i, 2)) (hn : i + 1 < y.2.2.1) (hl' : (i, Value.long x) :: L.filter (fun q => !(q.1 == i) && (!(q.1 == i + 1) && !(q.1 + 1 == i && q.2.category == 2))) = L') (k : Xw l D ρ y (pc + 2) L' st M d kc ks Q) : Xw l D ρ y pc L (.long x :: st) M d kc ks Q := by
  intro p e R s m args below meth c A ad0 F H locs cells slots tys ad ws ls st' C E hle X hst hl
  obtain ⟨w0, t0, rfl, h1, hst⟩ := hst
  obtain rfl : w0 = _ := h1
  obtain ⟨Lm, g1, g2⟩ := hl
  refine lv_lstore C.1 C.2.1 hd g1 hn rfl (fun ls1 g3 => ?_)
  exact k p e R s m args below meth c A ad0 F H locs cells slots tys ad ws ls1 _ C E hle X hst ⟨_, g3, by rw [← hl']; exact ⟨_, _, rfl, rfl, xlr_filter (fun a b => !(a == i) && (!(a == i + 1) && !(a + 1 == i && b == 2))) g2⟩⟩
theorem x_astore_n {n : Fin 4} {i : Nat} {v : Value} {L' : List (Nat × Value)} (hd : decode y.2.1 pc = .ok (.astore_n n, 1)) (hi : (n : Nat) = i) (hn : i < y.2.2.1) (hv : xrf v) (hl' : (i, v) :: L.filter (fun q => !(q.1 == i) && !(q.1 + 1 == i && q.2.category == 2)) = L') (k : Xw l D ρ y (pc + 1) L' st M d kc ks Q) : Xw l D ρ y pc L (v :: st) M d kc ks Q := by
  intro p e R s m args below meth c A ad0 F H locs cells slots tys ad ws ls st' C E hle X hst hl
  obtain ⟨w0, t0, rfl, h1, hst⟩ := hst
  have h3 := xrf_or hv h1
  obtain ⟨Lm, g1, g2⟩ := hl
  have h4 : ∀ ls1 : Array Slot, lv_has ls1 y.2.2.1 ((i, w0) :: Lm.filter (fun q => !(q.1 == i) && !(q.1 + 1 == i && q.2.category == 2))) → W p l e R s m args below meth c H locs cells slots F (F0 m (pc + 1) ls1 t0) := fun ls1 g3 => k p e R s m args below meth c A ad0 F H locs cells slots tys ad ws ls1 _ C E hle X hst ⟨_, g3, by rw [← hl']; exact ⟨_, _, rfl, h1, xlr_filter (fun a b => !(a == i) && !(a + 1 == i && b == 2)) g2⟩⟩
  rcases h3 with rfl | ⟨a, rfl⟩
  · exact lv_astore_nN C.1 C.2.1 hd hi g1 hn rfl h4
  · exact lv_astore_n C.1 C.2.1 hd hi g1 hn rfl h4
theorem x_astore {i : Nat} {v : Value} {L' : List (Nat × Value)} (hd : decode y.2.1 pc = .ok (.astore i, 2)) (hn : i < y.2.2.1) (hv : xrf v) (hl' : (i, v) :: L.filter (fun q => !(q.1 == i) && !(q.1 + 1 == i && q.2.category == 2)) = L') (k : Xw l D ρ y (pc + 2) L' st M d kc ks Q) : Xw l D ρ y pc L (v :: st) M d kc ks Q := by
  intro p e R s m args below meth c A ad0 F H locs cells slots tys ad ws ls st' C E hle X hst hl
  obtain ⟨w0, t0, rfl, h1, hst⟩ := hst
  have h3 := xrf_or hv h1
  obtain ⟨Lm, g1, g2⟩ := hl
  have h4 : ∀ ls1 : Array Slot, lv_has ls1 y.2.2.1 ((i, w0) :: Lm.filter (fun q => !(q.1 == i) && !(q.1 + 1 == i && q.2.category == 2))) → W p l e R s m args below meth c H locs cells slots F (F0 m (pc + 2) ls1 t0) := fun ls1 g3 => k p e R s m args below meth c A ad0 F H locs cells slots tys ad ws ls1 _ C E hle X hst ⟨_, g3, by rw [← hl']; exact ⟨_, _, rfl, h1, xlr_filter (fun a b => !(a == i) && !(a + 1 == i && b == 2)) g2⟩⟩
  rcases h3 with rfl | ⟨a, rfl⟩
  · exact lv_astoreN C.1 C.2.1 hd g1 hn rfl h4
  · exact lv_astore C.1 C.2.1 hd g1 hn rfl h4
theorem x_iinc {i : Nat} {n : Int} {x v : Int32} {L' : List (Nat × Value)} (hd : decode y.2.1 pc = .ok (.iinc i n, 3)) (j : Nat) (hL : L[j]? = some (i, .int x)) (hv : x + Int32.ofInt n = v) (hn : i < y.2.2.1) (hl' : (i, Value.int v) :: L.filter (fun q => !(q.1 == i) && !(q.1 + 1 == i && q.2.category == 2)) = L') (k : Xw l D ρ y (pc + 3) L' st M d kc ks Q) : Xw l D ρ y pc L st M d kc ks Q := by
  intro p e R s m args below meth c A ad0 F H locs cells slots tys ad ws ls st' C E hle X hst hl
  obtain ⟨Lm, g1, g2⟩ := hl
  obtain ⟨w, g4, g5⟩ := xlr_at g2 hL
  obtain rfl : w = _ := g5
  refine lv_iinc C.1 C.2.1 hd g1 g4 hv hn rfl (fun ls1 g3 => ?_)
  exact k p e R s m args below meth c A ad0 F H locs cells slots tys ad ws ls1 _ C E hle X hst ⟨_, g3, by rw [← hl']; exact ⟨_, _, rfl, rfl, xlr_filter (fun a b => !(a == i) && !(a + 1 == i && b == 2)) g2⟩⟩
theorem x_pick (js : List Nat) {L' : List (Nat × Value)} (hL : lv_pick L js = L') (k : Xw l D ρ y pc L' st M d kc ks Q) : Xw l D ρ y pc L st M d kc ks Q := by
  intro p e R s m args below meth c A ad0 F H locs cells slots tys ad ws ls st' C E hle X hst hl
  exact k p e R s m args below meth c A ad0 F H locs cells slots tys ad ws ls _ C E hle X hst (hL ▸ xls_pick hl js)
theorem x_if_eq {a : Int32} {off : Int} {tgt : Nat} (hd : decode y.2.1 pc = .ok (.ifCond .eq off, 3)) (ht : (pc : Int) + off = (tgt : Int)) (kt : a = 0 → Xw l D ρ y tgt L st M d kc ks Q) (kf : ¬ a = 0 → Xw l D ρ y (pc + 3) L st M d kc ks Q) : Xw l D ρ y pc L (.int a :: st) M d kc ks Q := by
  intro p e R s m args below meth c A ad0 F H locs cells slots tys ad ws ls st' C E hle X hst hl
  obtain ⟨w0, t0, rfl, h1, hst⟩ := hst
  obtain rfl : w0 = _ := h1
  exact lv_if_eq C.1 C.2.1 hd ht (fun z => kt z p e R s m args below meth c A ad0 F H locs cells slots tys ad ws ls _ C E hle X hst hl) (fun z => kf z p e R s m args below meth c A ad0 F H locs cells slots tys ad ws ls _ C E hle X hst hl)
theorem x_icmp_eq {a b : Int32} {off : Int} {tgt : Nat} (hd : decode y.2.1 pc = .ok (.if_icmp .eq off, 3)) (ht : (pc : Int) + off = (tgt : Int)) (kt : a = b → Xw l D ρ y tgt L st M d kc ks Q) (kf : ¬ a = b → Xw l D ρ y (pc + 3) L st M d kc ks Q) : Xw l D ρ y pc L (.int b :: .int a :: st) M d kc ks Q := by
  intro p e R s m args below meth c A ad0 F H locs cells slots tys ad ws ls st' C E hle X hst hl
  obtain ⟨w0, t0, rfl, h1, hst⟩ := hst
  obtain rfl : w0 = _ := h1
  obtain ⟨w1, t1, rfl, h1, hst⟩ := hst
  obtain rfl : w1 = _ := h1
  exact lv_icmp_eq C.1 C.2.1 hd ht (fun z => kt z p e R s m args below meth c A ad0 F H locs cells slots tys ad ws ls _ C E hle X hst hl) (fun z => kf z p e R s m args below meth c A ad0 F H locs cells slots tys ad ws ls _ C E hle X hst hl)
theorem x_if_ne {a : Int32} {off : Int} {tgt : Nat} (hd : decode y.2.1 pc = .ok (.ifCond .ne off, 3)) (ht : (pc : Int) + off = (tgt : Int)) (kt : ¬ a = 0 → Xw l D ρ y tgt L st M d kc ks Q) (kf : a = 0 → Xw l D ρ y (pc + 3) L st M d kc ks Q) : Xw l D ρ y pc L (.int a :: st) M d kc ks Q := by
  intro p e R s m args below meth c A ad0 F H locs cells slots tys ad ws ls st' C E hle X hst hl
  obtain ⟨w0, t0, rfl, h1, hst⟩ := hst
  obtain rfl : w0 = _ := h1
  exact lv_if_ne C.1 C.2.1 hd ht (fun z => kt z p e R s m args below meth c A ad0 F H locs cells slots tys ad ws ls _ C E hle X hst hl) (fun z => kf z p e R s m args below meth c A ad0 F H locs cells slots tys ad ws ls _ C E hle X hst hl)
theorem x_icmp_ne {a b : Int32} {off : Int} {tgt : Nat} (hd : decode y.2.1 pc = .ok (.if_icmp .ne off, 3)) (ht : (pc : Int) + off = (tgt : Int)) (kt : ¬ a = b → Xw l D ρ y tgt L st M d kc ks Q) (kf : a = b → Xw l D ρ y (pc + 3) L st M d kc ks Q) : Xw l D ρ y pc L (.int b :: .int a :: st) M d kc ks Q := by
  intro p e R s m args below meth c A ad0 F H locs cells slots tys ad ws ls st' C E hle X hst hl
  obtain ⟨w0, t0, rfl, h1, hst⟩ := hst
  obtain rfl : w0 = _ := h1
  obtain ⟨w1, t1, rfl, h1, hst⟩ := hst
  obtain rfl : w1 = _ := h1
  exact lv_icmp_ne C.1 C.2.1 hd ht (fun z => kt z p e R s m args below meth c A ad0 F H locs cells slots tys ad ws ls _ C E hle X hst hl) (fun z => kf z p e R s m args below meth c A ad0 F H locs cells slots tys ad ws ls _ C E hle X hst hl)
theorem x_if_lt {a : Int32} {off : Int} {tgt : Nat} (hd : decode y.2.1 pc = .ok (.ifCond .lt off, 3)) (ht : (pc : Int) + off = (tgt : Int)) (kt : a < 0 → Xw l D ρ y tgt L st M d kc ks Q) (kf : ¬ a < 0 → Xw l D ρ y (pc + 3) L st M d kc ks Q) : Xw l D ρ y pc L (.int a :: st) M d kc ks Q := by
  intro p e R s m args below meth c A ad0 F H locs cells slots tys ad ws ls st' C E hle X hst hl
  obtain ⟨w0, t0, rfl, h1, hst⟩ := hst
  obtain rfl : w0 = _ := h1
  exact lv_if_lt C.1 C.2.1 hd ht (fun z => kt z p e R s m args below meth c A ad0 F H locs cells slots tys ad ws ls _ C E hle X hst hl) (fun z => kf z p e R s m args below meth c A ad0 F H locs cells slots tys ad ws ls _ C E hle X hst hl)
theorem x_icmp_lt {a b : Int32} {off : Int} {tgt : Nat} (hd : decode y.2.1 pc = .ok (.if_icmp .lt off, 3)) (ht : (pc : Int) + off = (tgt : Int)) (kt : a < b → Xw l D ρ y tgt L st M d kc ks Q) (kf : ¬ a < b → Xw l D ρ y (pc + 3) L st M d kc ks Q) : Xw l D ρ y pc L (.int b :: .int a :: st) M d kc ks Q := by
  intro p e R s m args below meth c A ad0 F H locs cells slots tys ad ws ls st' C E hle X hst hl
  obtain ⟨w0, t0, rfl, h1, hst⟩ := hst
  obtain rfl : w0 = _ := h1
  obtain ⟨w1, t1, rfl, h1, hst⟩ := hst
  obtain rfl : w1 = _ := h1
  exact lv_icmp_lt C.1 C.2.1 hd ht (fun z => kt z p e R s m args below meth c A ad0 F H locs cells slots tys ad ws ls _ C E hle X hst hl) (fun z => kf z p e R s m args below meth c A ad0 F H locs cells slots tys ad ws ls _ C E hle X hst hl)
theorem x_if_ge {a : Int32} {off : Int} {tgt : Nat} (hd : decode y.2.1 pc = .ok (.ifCond .ge off, 3)) (ht : (pc : Int) + off = (tgt : Int)) (kt : 0 ≤ a → Xw l D ρ y tgt L st M d kc ks Q) (kf : ¬ 0 ≤ a → Xw l D ρ y (pc + 3) L st M d kc ks Q) : Xw l D ρ y pc L (.int a :: st) M d kc ks Q := by
  intro p e R s m args below meth c A ad0 F H locs cells slots tys ad ws ls st' C E hle X hst hl
  obtain ⟨w0, t0, rfl, h1, hst⟩ := hst
  obtain rfl : w0 = _ := h1
  exact lv_if_ge C.1 C.2.1 hd ht (fun z => kt z p e R s m args below meth c A ad0 F H locs cells slots tys ad ws ls _ C E hle X hst hl) (fun z => kf z p e R s m args below meth c A ad0 F H locs cells slots tys ad ws ls _ C E hle X hst hl)
theorem x_icmp_ge {a b : Int32} {off : Int} {tgt : Nat} (hd : decode y.2.1 pc = .ok (.if_icmp .ge off, 3)) (ht : (pc : Int) + off = (tgt : Int)) (kt : b ≤ a → Xw l D ρ y tgt L st M d kc ks Q) (kf : ¬ b ≤ a → Xw l D ρ y (pc + 3) L st M d kc ks Q) : Xw l D ρ y pc L (.int b :: .int a :: st) M d kc ks Q := by
  intro p e R s m args below meth c A ad0 F H locs cells slots tys ad ws ls st' C E hle X hst hl
  obtain ⟨w0, t0, rfl, h1, hst⟩ := hst
  obtain rfl : w0 = _ := h1
  obtain ⟨w1, t1, rfl, h1, hst⟩ := hst
  obtain rfl : w1 = _ := h1
  exact lv_icmp_ge C.1 C.2.1 hd ht (fun z => kt z p e R s m args below meth c A ad0 F H locs cells slots tys ad ws ls _ C E hle X hst hl) (fun z => kf z p e R s m args below meth c A ad0 F H locs cells slots tys ad ws ls _ C E hle X hst hl)
theorem x_if_gt {a : Int32} {off : Int} {tgt : Nat} (hd : decode y.2.1 pc = .ok (.ifCond .gt off, 3)) (ht : (pc : Int) + off = (tgt : Int)) (kt : 0 < a → Xw l D ρ y tgt L st M d kc ks Q) (kf : ¬ 0 < a → Xw l D ρ y (pc + 3) L st M d kc ks Q) : Xw l D ρ y pc L (.int a :: st) M d kc ks Q := by
  intro p e R s m args below meth c A ad0 F H locs cells slots tys ad ws ls st' C E hle X hst hl
  obtain ⟨w0, t0, rfl, h1, hst⟩ := hst
  obtain rfl : w0 = _ := h1
  exact lv_if_gt C.1 C.2.1 hd ht (fun z => kt z p e R s m args below meth c A ad0 F H locs cells slots tys ad ws ls _ C E hle X hst hl) (fun z => kf z p e R s m args below meth c A ad0 F H locs cells slots tys ad ws ls _ C E hle X hst hl)
theorem x_icmp_gt {a b : Int32} {off : Int} {tgt : Nat} (hd : decode y.2.1 pc = .ok (.if_icmp .gt off, 3)) (ht : (pc : Int) + off = (tgt : Int)) (kt : b < a → Xw l D ρ y tgt L st M d kc ks Q) (kf : ¬ b < a → Xw l D ρ y (pc + 3) L st M d kc ks Q) : Xw l D ρ y pc L (.int b :: .int a :: st) M d kc ks Q := by
  intro p e R s m args below meth c A ad0 F H locs cells slots tys ad ws ls st' C E hle X hst hl
  obtain ⟨w0, t0, rfl, h1, hst⟩ := hst
  obtain rfl : w0 = _ := h1
  obtain ⟨w1, t1, rfl, h1, hst⟩ := hst
  obtain rfl : w1 = _ := h1
  exact lv_icmp_gt C.1 C.2.1 hd ht (fun z => kt z p e R s m args below meth c A ad0 F H locs cells slots tys ad ws ls _ C E hle X hst hl) (fun z => kf z p e R s m args below meth c A ad0 F H locs cells slots tys ad ws ls _ C E hle X hst hl)
theorem x_if_le {a : Int32} {off : Int} {tgt : Nat} (hd : decode y.2.1 pc = .ok (.ifCond .le off, 3)) (ht : (pc : Int) + off = (tgt : Int)) (kt : a ≤ 0 → Xw l D ρ y tgt L st M d kc ks Q) (kf : ¬ a ≤ 0 → Xw l D ρ y (pc + 3) L st M d kc ks Q) : Xw l D ρ y pc L (.int a :: st) M d kc ks Q := by
  intro p e R s m args below meth c A ad0 F H locs cells slots tys ad ws ls st' C E hle X hst hl
  obtain ⟨w0, t0, rfl, h1, hst⟩ := hst
  obtain rfl : w0 = _ := h1
  exact lv_if_le C.1 C.2.1 hd ht (fun z => kt z p e R s m args below meth c A ad0 F H locs cells slots tys ad ws ls _ C E hle X hst hl) (fun z => kf z p e R s m args below meth c A ad0 F H locs cells slots tys ad ws ls _ C E hle X hst hl)
theorem x_icmp_le {a b : Int32} {off : Int} {tgt : Nat} (hd : decode y.2.1 pc = .ok (.if_icmp .le off, 3)) (ht : (pc : Int) + off = (tgt : Int)) (kt : a ≤ b → Xw l D ρ y tgt L st M d kc ks Q) (kf : ¬ a ≤ b → Xw l D ρ y (pc + 3) L st M d kc ks Q) : Xw l D ρ y pc L (.int b :: .int a :: st) M d kc ks Q := by
  intro p e R s m args below meth c A ad0 F H locs cells slots tys ad ws ls st' C E hle X hst hl
  obtain ⟨w0, t0, rfl, h1, hst⟩ := hst
  obtain rfl : w0 = _ := h1
  obtain ⟨w1, t1, rfl, h1, hst⟩ := hst
  obtain rfl : w1 = _ := h1
  exact lv_icmp_le C.1 C.2.1 hd ht (fun z => kt z p e R s m args below meth c A ad0 F H locs cells slots tys ad ws ls _ C E hle X hst hl) (fun z => kf z p e R s m args below meth c A ad0 F H locs cells slots tys ad ws ls _ C E hle X hst hl)
theorem x_goto {off : Int} {tgt : Nat} (hd : decode y.2.1 pc = .ok (.goto off, 3)) (ht : (pc : Int) + off = (tgt : Int)) (k : Xw l D ρ y tgt L st M d kc ks Q) : Xw l D ρ y pc L st M d kc ks Q := by
  intro p e R s m args below meth c A ad0 F H locs cells slots tys ad ws ls st' C E hle X hst hl
  exact lv_goto C.1 C.2.1 hd ht (k p e R s m args below meth c A ad0 F H locs cells slots tys ad ws ls _ C E hle X hst hl)
theorem x_ifnull_z {off : Int} {tgt : Nat} (hd : decode y.2.1 pc = .ok (.ifnull off, 3)) (ht : (pc : Int) + off = (tgt : Int)) (k : Xw l D ρ y tgt L st M d kc ks Q) : Xw l D ρ y pc L (.null :: st) M d kc ks Q := by
  intro p e R s m args below meth c A ad0 F H locs cells slots tys ad ws ls st' C E hle X hst hl
  obtain ⟨w0, t0, rfl, h1, hst⟩ := hst
  obtain rfl : w0 = _ := h1
  exact lv_ifnullN C.1 C.2.1 hd ht (k p e R s m args below meth c A ad0 F H locs cells slots tys ad ws ls _ C E hle X hst hl)
theorem x_ifnull_r {i : Nat} {off : Int} (hd : decode y.2.1 pc = .ok (.ifnull off, 3)) (k : Xw l D ρ y (pc + 3) L st M d kc ks Q) : Xw l D ρ y pc L (.ref i :: st) M d kc ks Q := by
  intro p e R s m args below meth c A ad0 F H locs cells slots tys ad ws ls st' C E hle X hst hl
  obtain ⟨w0, t0, rfl, h1, hst⟩ := hst
  obtain ⟨a, -, rfl⟩ := h1
  exact lv_ifnull C.1 C.2.1 hd (k p e R s m args below meth c A ad0 F H locs cells slots tys ad ws ls _ C E hle X hst hl)
theorem x_ifnull_o {i : Nat} {off : Int} (hd : decode y.2.1 pc = .ok (.ifnull off, 3)) (k : Xw l D ρ y (pc + 3) L st M d kc ks Q) : Xw l D ρ y pc L (.retAddr i :: st) M d kc ks Q := by
  intro p e R s m args below meth c A ad0 F H locs cells slots tys ad ws ls st' C E hle X hst hl
  obtain ⟨w0, t0, rfl, h1, hst⟩ := hst
  obtain rfl : w0 = _ := h1
  exact lv_ifnull C.1 C.2.1 hd (k p e R s m args below meth c A ad0 F H locs cells slots tys ad ws ls _ C E hle X hst hl)
theorem x_ifnonnull_z {off : Int} (hd : decode y.2.1 pc = .ok (.ifnonnull off, 3)) (k : Xw l D ρ y (pc + 3) L st M d kc ks Q) : Xw l D ρ y pc L (.null :: st) M d kc ks Q := by
  intro p e R s m args below meth c A ad0 F H locs cells slots tys ad ws ls st' C E hle X hst hl
  obtain ⟨w0, t0, rfl, h1, hst⟩ := hst
  obtain rfl : w0 = _ := h1
  exact lv_ifnonnullN C.1 C.2.1 hd (k p e R s m args below meth c A ad0 F H locs cells slots tys ad ws ls _ C E hle X hst hl)
theorem x_ifnonnull_r {i : Nat} {off : Int} {tgt : Nat} (hd : decode y.2.1 pc = .ok (.ifnonnull off, 3)) (ht : (pc : Int) + off = (tgt : Int)) (k : Xw l D ρ y tgt L st M d kc ks Q) : Xw l D ρ y pc L (.ref i :: st) M d kc ks Q := by
  intro p e R s m args below meth c A ad0 F H locs cells slots tys ad ws ls st' C E hle X hst hl
  obtain ⟨w0, t0, rfl, h1, hst⟩ := hst
  obtain ⟨a, -, rfl⟩ := h1
  exact lv_ifnonnull C.1 C.2.1 hd ht (k p e R s m args below meth c A ad0 F H locs cells slots tys ad ws ls _ C E hle X hst hl)
theorem x_ifnonnull_o {i : Nat} {off : Int} {tgt : Nat} (hd : decode y.2.1 pc = .ok (.ifnonnull off, 3)) (ht : (pc : Int) + off = (tgt : Int)) (k : Xw l D ρ y tgt L st M d kc ks Q) : Xw l D ρ y pc L (.retAddr i :: st) M d kc ks Q := by
  intro p e R s m args below meth c A ad0 F H locs cells slots tys ad ws ls st' C E hle X hst hl
  obtain ⟨w0, t0, rfl, h1, hst⟩ := hst
  obtain rfl : w0 = _ := h1
  exact lv_ifnonnull C.1 C.2.1 hd ht (k p e R s m args below meth c A ad0 F H locs cells slots tys ad ws ls _ C E hle X hst hl)
theorem x_tableOut {dflt lo hi : Int} {offs : Array Int} {len : Nat} {x : Int32} {tgt : Nat} (hd : decode y.2.1 pc = .ok (.tableswitch dflt lo hi offs, len)) (h : x.toInt < lo ∨ hi < x.toInt) (ht : (pc : Int) + dflt = (tgt : Int)) (k : Xw l D ρ y tgt L st M d kc ks Q) : Xw l D ρ y pc L (.int x :: st) M d kc ks Q := by
  intro p e R s m args below meth c A ad0 F H locs cells slots tys ad ws ls st' C E hle X hst hl
  obtain ⟨w0, t0, rfl, h1, hst⟩ := hst
  obtain rfl : w0 = _ := h1
  exact lv_tableOut C.1 C.2.1 hd h ht (k p e R s m args below meth c A ad0 F H locs cells slots tys ad ws ls _ C E hle X hst hl)
theorem x_tableIn {dflt lo hi : Int} {offs : Array Int} {len : Nat} {x : Int32} {off : Int} {tgt : Nat} (hd : decode y.2.1 pc = .ok (.tableswitch dflt lo hi offs, len)) (g1 : ¬ x.toInt < lo) (g2 : ¬ hi < x.toInt) (ho : offs[(x.toInt - lo).toNat]? = some off) (ht : (pc : Int) + off = (tgt : Int)) (k : Xw l D ρ y tgt L st M d kc ks Q) : Xw l D ρ y pc L (.int x :: st) M d kc ks Q := by
  intro p e R s m args below meth c A ad0 F H locs cells slots tys ad ws ls st' C E hle X hst hl
  obtain ⟨w0, t0, rfl, h1, hst⟩ := hst
  obtain rfl : w0 = _ := h1
  exact lv_tableIn C.1 C.2.1 hd g1 g2 ho ht (k p e R s m args below meth c A ad0 F H locs cells slots tys ad ws ls _ C E hle X hst hl)
theorem x_lookup {dflt : Int} {ps : Array (Int × Int)} {len : Nat} {x : Int32} {off : Int} {tgt : Nat} (hd : decode y.2.1 pc = .ok (.lookupswitch dflt ps, len)) (hp : (ps.toList.zip (ps.toList.drop 1)).all (fun (a, next) => a.1 < next.1) = true) (ho : Op.lookupswitch.offset ps.toList dflt x.toInt = off) (ht : (pc : Int) + off = (tgt : Int)) (k : Xw l D ρ y tgt L st M d kc ks Q) : Xw l D ρ y pc L (.int x :: st) M d kc ks Q := by
  intro p e R s m args below meth c A ad0 F H locs cells slots tys ad ws ls st' C E hle X hst hl
  obtain ⟨w0, t0, rfl, h1, hst⟩ := hst
  obtain rfl : w0 = _ := h1
  exact lv_lookup C.1 C.2.1 hd hp ho ht (k p e R s m args below meth c A ad0 F H locs cells slots tys ad ws ls _ C E hle X hst hl)
theorem x_end0 {R0 : Room} {s0 : State} {A0 : Nat → Prop} {H0 : Heap} {locs0 : List Loc} {cells0 slots0 : Nat} {tys0 : List (ClassId × FieldType)} {ad00 : List Nat} {ws0 : va_W} {M0 : List xCl} (h : xWo D ρ R0 s0 A0 H0 locs0 cells0 slots0 tys0 ad00 ws0 M0 kc ks) : xWo D ρ R0 s0 A0 H0 locs0 cells0 slots0 tys0 ad00 ws0 M0 0 0 := ⟨h.1, h.2.1, h.2.2.1, h.2.2.2.1, h.2.2.2.2.1, Nat.le_trans (Nat.le_add_right _ _) h.2.2.2.2.2.1, Nat.le_trans (Nat.le_add_right _ _) h.2.2.2.2.2.2⟩
theorem x_iret {v : Int32} {ty : FieldType} (hd : decode y.2.1 pc = .ok (.ireturn, 1)) (hy : y.2.2.2 = some ty) (hn : narrow ty (.int v) = .int v) (h : Q (some (.int v)) M) : Xw l D ρ y pc L [.int v] M d kc ks Q := by
  intro p e R s m args below meth c A ad0 F H locs cells slots tys ad ws ls st' C E hle X hst hl
  obtain ⟨w0, t0, rfl, h1, hst⟩ := hst
  obtain rfl : w0 = _ := h1
  obtain rfl : t0 = [] := hst
  exact E H locs cells slots tys ad ws M (some (.int v)) (some (.int v)) pc ls hle (x_end0 X) h ⟨_, rfl, rfl⟩ ⟨ty, hy, hn, hd⟩
theorem x_lret {v : Int64} (hd : decode y.2.1 pc = .ok (.lreturn, 1)) (hy : y.2.2.2 = some .long) (h : Q (some (.long v)) M) : Xw l D ρ y pc L [.long v] M d kc ks Q := by
  intro p e R s m args below meth c A ad0 F H locs cells slots tys ad ws ls st' C E hle X hst hl
  obtain ⟨w0, t0, rfl, h1, hst⟩ := hst
  obtain rfl : w0 = _ := h1
  obtain rfl : t0 = [] := hst
  exact E H locs cells slots tys ad ws M (some (.long v)) (some (.long v)) pc ls hle (x_end0 X) h ⟨_, rfl, rfl⟩ ⟨hy, hd⟩
theorem x_vret (hd : decode y.2.1 pc = .ok (.return_, 1)) (hy : y.2.2.2 = none) (h : Q none M) : Xw l D ρ y pc L [] M d kc ks Q := by
  intro p e R s m args below meth c A ad0 F H locs cells slots tys ad ws ls st' C E hle X hst hl
  obtain rfl : st' = [] := hst
  exact E H locs cells slots tys ad ws M none none pc ls hle (x_end0 X) h rfl ⟨hy, hd⟩
theorem x_aret {v : Value} {rt : FieldType} (hv : xrf v) (hd : decode y.2.1 pc = .ok (.areturn, 1)) (hy : y.2.2.2 = some rt) (ho : (∃ n, rt = .object n) ∨ ∃ t, rt = .array t) (h : Q (some v) M) : Xw l D ρ y pc L [v] M d kc ks Q := by
  intro p e R s m args below meth c A ad0 F H locs cells slots tys ad ws ls st' C E hle X hst hl
  obtain ⟨w0, t0, rfl, h1, hst⟩ := hst
  obtain rfl : t0 = [] := hst
  refine E H locs cells slots tys ad ws M (some v) (some w0) pc ls hle (x_end0 X) h ⟨_, rfl, h1⟩ ?_
  cases v with
  | ref i => exact ⟨⟨rt, hy, ho⟩, hd⟩
  | null => exact ⟨⟨rt, hy, ho⟩, hd⟩
  | retAddr i => exact ⟨⟨rt, hy, ho⟩, hd⟩
  | _ => exact absurd hv (fun z => z)
theorem x_wk {d' kc' ks' : Nat} {Q' : Option Value → List xCl → Prop} (h1 : d ≤ d') (h2 : kc ≤ kc') (h3 : ks ≤ ks') (hQ : ∀ r N, Q r N → Q' r N) (k : Xw l D ρ y pc L st M d kc ks Q) : Xw l D ρ y pc L st M d' kc' ks' Q' := by
  intro p e R s m args below meth c A ad0 F H locs cells slots tys ad ws ls st' C E hle X hst hl
  obtain ⟨hx, hb, hr, hml, hown, hts, hNw, hRO, hlk, hA, hfr, hlo, hnm⟩ := C
  obtain ⟨a1, a2, a3, a4, a5, a6, a7⟩ := X
  exact k p e R s m args below meth c A ad0 F H locs cells slots tys ad ws ls _ ⟨hx, hb, hr, hml, hown, hts, hNw, hRO, hlk, hA, Nat.le_trans h1 hfr, Nat.le_trans (Nat.mul_le_mul_right _ h1) hlo, hnm⟩ (fun H locs cells slots tys ad ws M r r1 pc ls g1 g2 g3 => E H locs cells slots tys ad ws M r r1 pc ls g1 g2 (hQ r M g3)) hle ⟨a1, a2, a3, a4, a5, by omega, by omega⟩ hst hl
end XW
end
section
/-! RULES OF THE HEAP -/
def xft (ty : FieldType) (v : Value) : Bool := match ty, v with
  | .int, .int _ => true
  | .long, .long _ => true
  | .boolean, .int x => x == 0 || x == 1
  | .object _, .ref _ => true
  | .object _, .null => true
  | .object _, .retAddr _ => true
  | .array _, .ref _ => true
  | .array _, .null => true
  | .array _, .retAddr _ => true
  | _, _ => false
theorem xft_ok {ρ : xR} {ad : List Nat} {ty : FieldType} {v w : Value} (h : xft ty v = true) (k : xvr ρ ad v w) : narrow ty w = w ∧ fits ty w = true := by
  cases ty with
  | int => cases v <;> simp [xft] at h; obtain rfl : w = _ := k; exact ⟨rfl, rfl⟩
  | long => cases v <;> simp [xft] at h; obtain rfl : w = _ := k; exact ⟨rfl, rfl⟩
  | boolean =>
    cases v with
    | int x =>
      obtain rfl : w = _ := k
      have h2 : x = 0 ∨ x = 1 := by simpa [xft] using h
      rcases h2 with rfl | rfl <;> exact ⟨by decide, by decide⟩
    | _ => simp [xft] at h
  | object n =>
    cases v with
    | ref i => obtain ⟨a, -, rfl⟩ := k; exact ⟨rfl, rfl⟩
    | null => obtain rfl : w = _ := k; exact ⟨rfl, rfl⟩
    | retAddr i => obtain rfl : w = _ := k; exact ⟨rfl, rfl⟩
    | _ => simp [xft] at h
  | array n =>
    cases v with
    | ref i => obtain ⟨a, -, rfl⟩ := k; exact ⟨rfl, rfl⟩
    | null => obtain rfl : w = _ := k; exact ⟨rfl, rfl⟩
    | retAddr i => obtain rfl : w = _ := k; exact ⟨rfl, rfl⟩
    | _ => simp [xft] at h
  | _ => cases v <;> simp [xft] at h
def xdf : List Value → Bool
  | [] => true
  | .int _ :: t => xdf t
  | .long _ :: t => xdf t
  | .null :: t => xdf t
  | _ :: _ => false
theorem xdf_ok {ρ : xR} {ad : List Nat} : ∀ {fs : List Value}, xdf fs = true → xvs ρ ad fs fs
  | [], _ => rfl
  | .int x :: t, h => ⟨.int x, t, rfl, rfl, xdf_ok (fs := t) h⟩
  | .long x :: t, h => ⟨.long x, t, rfl, rfl, xdf_ok (fs := t) h⟩
  | .null :: t, h => ⟨.null, t, rfl, rfl, xdf_ok (fs := t) h⟩
/-- a class that the worlds hold -/
def xCk (ci : Nat) (C : String) (T : u_T) (N : Nat) (ty : Nat → FieldType) : Prop := classes[ci]? = some (C, T, N) ∧ (∀ w ∈ u_ws C T N, w ∈ Gw) ∧ (∀ k, k < N → parseFieldDescriptor (T k).2.2.1 = some (ty k)) ∧ ∀ a, a < N → ∀ b, b < N → a ≠ b → (T a).2.1 ≠ (T b).2.1
/-- a field under the name by which own's place index spells it -/
def xFk (own : String) (index : Nat) (T : u_T) (k : Nat) : Prop := ∃ ref : String, Cond.fieldLink own index ref (T k).2.1 (T k).2.2.1 ∈ Gw ∧ (ref = (T k).1 ∨ Cond.sameField ref (T k).1 (T k).2.1 (T k).2.2.1 ∈ Gw)
def xrv (o : Option Nat) : Value := match o with
  | none => .null
  | some i => .ref i
theorem xrv_ok {ρ : xR} {ad : List Nat} {o o' : Option Nat} (h : xopt ad o o') : xvr ρ ad (xrv o) (va_rf o') := by
  cases o with
  | none => obtain rfl : o' = none := h; exact rfl
  | some i => obtain ⟨a, h1, rfl⟩ := h; exact ⟨a, h1, rfl⟩
theorem xls_size {ρ : xR} {ad : List Nat} {nL : Nat} {L : List (Nat × Value)} {ls : Array Slot} (h : xls ρ ad nL L ls) : ls.size = nL := by
  obtain ⟨L', h1, -⟩ := h
  exact h1.1
section XH
variable {l : Launch} {D : va_G} {ρ : xR} {y : xM} {pc : Nat} {L : List (Nat × Value)} {st : List Value} {M : List xCl} {d kc ks : Nat} {Q : Option Value → List xCl → Prop}
theorem xFk_same {args : Array Value} {s : State} {own ref : String} {T : u_T} {k : Nat} (hts : ∀ w ∈ Gw, w.before args s = true) (h : ref = (T k).1 ∨ Cond.sameField ref (T k).1 (T k).2.1 (T k).2.2.1 ∈ Gw) :
    ∀ x, s.fieldFound? (T k).1 (T k).2.1 (T k).2.2.1 = some x → s.fieldFound? ref (T k).2.1 (T k).2.2.1 = some x := by
  rcases h with rfl | h
  · exact fun _ z => z
  · exact fun x z => u_same (hts _ h) x z
theorem x_getf {index ci k N : Nat} {C : String} {T : u_T} {ty : Nat → FieldType} {i : Nat} {fs : List Value} {v : Value} (hd : decode y.2.1 pc = .ok (.getfield index, 3)) (hC : xCk ci C T N ty) (hf : xFk y.1.cls index T k) (hk : k < N) (hM : M[i]? = some (cO ci fs)) (hv : fs[k]? = some v)
    (kk : Xw l D ρ y (pc + 3) L (v :: st) M d kc ks Q) : Xw l D ρ y pc L (.ref i :: st) M d kc ks Q := by
  intro p e R s m args below meth c A ad0 F H locs cells slots tys ad ws ls st' CC E hle X hst hl
  obtain ⟨hx, hb, hr, hml, hown, hts, hrest⟩ := id CC
  obtain ⟨hK, hP, hD, hS, hW, hc1, hs1⟩ := id X
  obtain ⟨w0, t0, rfl, ⟨a, ha, rfl⟩, hst⟩ := hst
  obtain ⟨a', e', k1, k2, fs', rfl, k3⟩ := hW.2.2 _ _ hM
  cases ha.symm.trans k1
  obtain ⟨w, k4, k5⟩ := xvs_at k3 hv
  obtain ⟨ref, f1, f2⟩ := hf
  refine va_get hx hb hts hC.2.1 hown hK hP i k2 hC.1 k hk (hts _ f1) (xFk_same (own := y.1.cls) hts f2) k4 hd ?_
  exact kk p e R s m args below meth c A ad0 F H locs cells slots tys ad ws ls _ CC E hle X ⟨_, _, rfl, k5, hst⟩ hl
theorem x_putf {index ci k N : Nat} {C : String} {T : u_T} {ty : Nat → FieldType} {i : Nat} {fs : List Value} {v : Value} (hd : decode y.2.1 pc = .ok (.putfield index, 3)) (hC : xCk ci C T N ty) (hf : xFk y.1.cls index T k) (hk : k < N) (hfin : (T k).2.2.2 = false ∨ ((T k).2.2.2 = true ∧ y.1.name = "<init>" ∧ (T k).1 = y.1.cls)) (hv : xft (ty k) v = true) (hM : M[i]? = some (cO ci fs)) (hlen : k < fs.length) {fs' : List Value} (hset : fs.set k v = fs')
    (kk : Xw l D ρ y (pc + 3) L st (M.set i (cO ci fs')) d kc ks Q) : Xw l D ρ y pc L (v :: .ref i :: st) M d kc ks Q := by
  intro p e R s m args below meth c A ad0 F H locs cells slots tys ad ws ls st' CC E hle X hst hl
  obtain ⟨hx, hb, hr, hml, hown, hts, hNw, hRO, hlk, hA, hfr, hlo, hnm⟩ := id CC
  obtain ⟨hK, hP, hD, hS, hW, hc1, hs1⟩ := id X
  obtain ⟨w0, t0, rfl, hv0, hst⟩ := hst
  obtain ⟨w1, t1, rfl, ⟨a, ha, rfl⟩, hst⟩ := hst
  subst hset
  obtain ⟨a', e', k1, k2, fs', rfl, k3⟩ := hW.2.2 _ _ hM
  cases ha.symm.trans k1
  obtain ⟨ref, f1, f2⟩ := hf
  obtain ⟨n1, n2⟩ := xft_ok hv hv0
  have hl2 : k < fs'.length := by rw [xvs_len k3]; exact hlen
  have fin : ∀ (H1 : Heap) (locs1 : List Loc), va_P D classes (ws.set i (a, .inr (ci, fs'.set k w0))) H1 → va_D A (ws.set i (a, .inr (ci, fs'.set k w0))) → va_S A s.heap H1 locs1 → W p l e R s m args below meth c H1 locs1 cells slots F (F0 m (pc + 3) ls t1) := fun H1 locs1 hP1 hD1 hS1 =>
    kk p e R s m args below meth c A ad0 F H1 locs1 cells slots tys ad _ ls _ CC E hle ⟨hK, hP1, hD1, hS1, xWr_set hW ha ⟨_, rfl, xvs_set k3 k hv0⟩, hc1, hs1⟩ hst hl
  rcases hfin with hfin | ⟨hfin, hin, hdc⟩
  · exact va_put hx hb hts hC.2.1 ty hC.2.2.1 hC.2.2.2 hown hK hP hD hS i k2 hC.1 k hk (hts _ f1) (xFk_same (own := y.1.cls) hts f2) hfin (hC.2.2.1 k hk) n1 n2 hl2 hd fin
  · exact va_putF hx hb hts hC.2.1 ty hC.2.2.1 hC.2.2.2 hown hK hP hD hS i k2 hC.1 k hk (hts _ f1) (xFk_same (own := y.1.cls) hts f2) hfin (hnm.trans hin) hdc (hC.2.2.1 k hk) n1 n2 hl2 hd fin
theorem x_new {index ci N kc' ks' : Nat} {C : String} {T : u_T} {ty : Nat → FieldType} {fs : List Value} (hd : decode y.2.1 pc = .ok (.new index, 3)) (hC : xCk ci C T N ty) (h1 : Cond.classLink y.1.cls index C ∈ Gw) (h2 : Cond.instantiable C N ∈ Gw) (h3 : Cond.initialized C ∈ Gw) (hfs : ∀ j, j < N → defaultValue (ty j) = vp_V fs j) (hdf : xdf fs = true) (h4 : kc' + 1 ≤ kc) (h5 : ks' + N ≤ ks)
    (kk : Xw l D ρ y (pc + 3) L (.ref M.length :: st) (M ++ [cO ci fs]) d kc' ks' Q) : Xw l D ρ y pc L st M d kc ks Q := by
  intro p e R s m args below meth c A ad0 F H locs cells slots tys ad ws ls st' CC E hle X hst hl
  obtain ⟨hx, hb, hr, hml, hown, hts, hNw, hRO, hlk, hA, hfr, hlo, hnm⟩ := id CC
  obtain ⟨hK, hP, hD, hS, hW, hc1, hs1⟩ := id X
  refine va_new hx hb hts hC.2.1 ty hC.2.2.1 hown (hts _ h1) (hts _ h2) (hts _ h3) hK hP hD hS hA hC.1 hfs (by omega) (by omega) hd (fun q H1 hP1 hD1 hS1 => ?_)
  have hq : xle ad (ad ++ [q]) := ⟨[q], rfl⟩
  have hat : (ad ++ [q])[M.length]? = some q := by rw [← hW.1, List.getElem?_append_right (Nat.le_refl _), Nat.sub_self]; rfl
  exact kk p e R s m args below meth c A ad0 F H1 locs (cells + 1) (slots + N) tys (ad ++ [q]) _ ls _ CC E (xle_tr hle hq) ⟨hK, hP1, hD1, hS1, xWr_push hW (xle_rf _) ⟨fs, rfl, xdf_ok hdf⟩, by omega, by omega⟩ ⟨_, _, rfl, ⟨q, hat, rfl⟩, xvs_mono hq hst⟩ (xls_mono hq hl)
theorem x_newi {n : Int32} {N kc' ks' : Nat} (hd : decode y.2.1 pc = .ok (.newarray .int, 2)) (hw : Cond.arrayClass .int ∈ Gw) (hn : n = nI N) (hN : N ≤ 100000000) (h4 : kc' + 1 ≤ kc) (h5 : ks' + N ≤ ks)
    (kk : Xw l D ρ y (pc + 2) L (.ref M.length :: st) (M ++ [cI (List.replicate N 0)]) d kc' ks' Q) : Xw l D ρ y pc L (.int n :: st) M d kc ks Q := by
  intro p e R s m args below meth c A ad0 F H locs cells slots tys ad ws ls st' CC E hle X hst hl
  obtain ⟨hx, hb, hr, hml, hown, hts, hNw, hRO, hlk, hA, hfr, hlo, hnm⟩ := id CC
  obtain ⟨hK, hP, hD, hS, hW, hc1, hs1⟩ := id X
  obtain ⟨w0, t0, rfl, h0, hst⟩ := hst
  obtain rfl : w0 = _ := h0
  subst hn
  refine va_newa hx hb (atype := .int) (hts _ hw) (ty := .int) rfl hK hP hD hS hA (a0 := (N, .inl (fun _ => 0))) (fun _ => rfl) (nI_pos (by omega)) (nI_clamp (by omega)) (show N * 4 ≤ 536870912 by omega) (by omega) (by omega) hd (fun q cA H1 hK1 hP1 hD1 hS1 => ?_)
  have hq : xle ad (ad ++ [q]) := ⟨[q], rfl⟩
  have hat : (ad ++ [q])[M.length]? = some q := by rw [← hW.1, List.getElem?_append_right (Nat.le_refl _), Nat.sub_self]; rfl
  have hty : (tys ++ [(cA, FieldType.int)])[tys.length]? = some (cA, FieldType.int) := by rw [List.getElem?_append_right (Nat.le_refl _), Nat.sub_self]; rfl
  have hcell : xcr ρ (tys ++ [(cA, FieldType.int)]) (ad ++ [q]) (cI (List.replicate N 0)) (.inl (cA, N, .inl (fun _ => 0))) := ⟨tys.length, cA, fun _ => 0, hty, by rw [List.length_replicate], fun j x hj => (List.eq_of_mem_replicate (List.mem_of_getElem? hj)).symm⟩
  exact kk p e R s m args below meth c A ad0 F H1 locs (cells + 1) (slots + N) _ (ad ++ [q]) _ ls _ CC E (xle_tr hle hq) ⟨hK1, hP1, hD1, hS1, xWr_push hW ⟨_, rfl⟩ hcell, by omega, by omega⟩ ⟨_, _, rfl, ⟨q, hat, rfl⟩, xvs_mono hq hst⟩ (xls_mono hq hl)
theorem x_newq {index k : Nat} {n : Int32} {N kc' ks' : Nat} (hd : decode y.2.1 pc = .ok (.anewarray index, 3)) (h1 : Cond.classLink y.1.cls index (xEl k) ∈ Gw) (h2 : Cond.arrayOver (.object (xEl k)) ∈ Nw) (hn : n = nI N) (hN : N ≤ 100000000) (h4 : kc' + 1 ≤ kc) (h5 : ks' + N ≤ ks)
    (kk : Xw l D ρ y (pc + 3) L (.ref M.length :: st) (M ++ [cR k (List.replicate N none)]) d kc' ks' Q) : Xw l D ρ y pc L (.int n :: st) M d kc ks Q := by
  intro p e R s m args below meth c A ad0 F H locs cells slots tys ad ws ls st' CC E hle X hst hl
  obtain ⟨hx, hb, hr, hml, hown, hts, hNw, hRO, hlk, hA, hfr, hlo, hnm⟩ := id CC
  obtain ⟨hK, hP, hD, hS, hW, hc1, hs1⟩ := id X
  obtain ⟨w0, t0, rfl, h0, hst⟩ := hst
  obtain rfl : w0 = _ := h0
  subst hn
  refine va_newq hx hb hown (hts _ h1) (hNw _ h2) hK hP hD hS hA (N' := N) (nI_pos (by omega)) (nI_clamp (by omega)) (by omega) (by omega) (by omega) hd (fun q cA H1 hK1 hP1 hD1 hS1 => ?_)
  have hq : xle ad (ad ++ [q]) := ⟨[q], rfl⟩
  have hat : (ad ++ [q])[M.length]? = some q := by rw [← hW.1, List.getElem?_append_right (Nat.le_refl _), Nat.sub_self]; rfl
  have hty : (tys ++ [(cA, FieldType.object (xEl k))])[tys.length]? = some (cA, FieldType.object (xEl k)) := by rw [List.getElem?_append_right (Nat.le_refl _), Nat.sub_self]; rfl
  have hcell : xcr ρ (tys ++ [(cA, FieldType.object (xEl k))]) (ad ++ [q]) (cR k (List.replicate N none)) (.inl (cA, N, .inr (.inr (.inr (.inr (fun _ => none)))))) := ⟨tys.length, cA, fun _ => none, hty, by rw [List.length_replicate], fun j x hj => by rw [List.eq_of_mem_replicate (List.mem_of_getElem? hj)]; exact rfl⟩
  exact kk p e R s m args below meth c A ad0 F H1 locs (cells + 1) (slots + N) _ (ad ++ [q]) _ ls _ CC E (xle_tr hle hq) ⟨hK1, hP1, hD1, hS1, xWr_push hW ⟨_, rfl⟩ hcell, by omega, by omega⟩ ⟨_, _, rfl, ⟨q, hat, rfl⟩, xvs_mono hq hst⟩ (xls_mono hq hl)
theorem x_alenI {i : Nat} {a : List Int32} (hd : decode y.2.1 pc = .ok (.arraylength, 1)) (hM : M[i]? = some (cI a)) (kk : Xw l D ρ y (pc + 1) L (.int (nI a.length) :: st) M d kc ks Q) : Xw l D ρ y pc L (.ref i :: st) M d kc ks Q := by
  intro p e R s m args below meth c A ad0 F H locs cells slots tys ad ws ls st' CC E hle X hst hl
  obtain ⟨hK, hP, hD, hS, hW, hc1, hs1⟩ := id X
  obtain ⟨w0, t0, rfl, ⟨q, ha, rfl⟩, hst⟩ := hst
  obtain ⟨a', e', k1, k2, t1, cA, f, k3, rfl, k4⟩ := hW.2.2 _ _ hM
  cases ha.symm.trans k1
  exact va_alen CC.1 CC.2.1 hK hP i t1 k2 k3 rfl hd (kk p e R s m args below meth c A ad0 F H locs cells slots tys ad ws ls _ CC E hle X ⟨_, _, rfl, rfl, hst⟩ hl)
theorem x_alenR {i k : Nat} {a : List (Option Nat)} (hd : decode y.2.1 pc = .ok (.arraylength, 1)) (hM : M[i]? = some (cR k a)) (kk : Xw l D ρ y (pc + 1) L (.int (nI a.length) :: st) M d kc ks Q) : Xw l D ρ y pc L (.ref i :: st) M d kc ks Q := by
  intro p e R s m args below meth c A ad0 F H locs cells slots tys ad ws ls st' CC E hle X hst hl
  obtain ⟨hK, hP, hD, hS, hW, hc1, hs1⟩ := id X
  obtain ⟨w0, t0, rfl, ⟨q, ha, rfl⟩, hst⟩ := hst
  obtain ⟨a', e', k1, k2, t1, cA, f, k3, rfl, k4⟩ := hW.2.2 _ _ hM
  cases ha.symm.trans k1
  exact va_alen CC.1 CC.2.1 hK hP i t1 k2 k3 rfl hd (kk p e R s m args below meth c A ad0 F H locs cells slots tys ad ws ls _ CC E hle X ⟨_, _, rfl, rfl, hst⟩ hl)
theorem x_iald {i j : Nat} {a : List Int32} {n x : Int32} (hd : decode y.2.1 pc = .ok (.iaload, 1)) (hn : n = nI j) (hM : M[i]? = some (cI a)) (hj : a[j]? = some x) (hlen : a.length ≤ 100000000) (kk : Xw l D ρ y (pc + 1) L (.int x :: st) M d kc ks Q) : Xw l D ρ y pc L (.int n :: .ref i :: st) M d kc ks Q := by
  intro p e R s m args below meth c A ad0 F H locs cells slots tys ad ws ls st' CC E hle X hst hl
  obtain ⟨hK, hP, hD, hS, hW, hc1, hs1⟩ := id X
  obtain ⟨w1, t1, rfl, h0, hst⟩ := hst
  obtain rfl : w1 = _ := h0
  obtain ⟨w0, t0, rfl, ⟨q, ha, rfl⟩, hst⟩ := hst
  obtain ⟨a', e', k1, k2, t1, cA, f, k3, rfl, k4⟩ := hW.2.2 _ _ hM
  cases ha.symm.trans k1
  subst hn
  have hlt := (List.getElem?_eq_some_iff.mp hj).1
  refine va_iald CC.1 CC.2.1 hK hP i t1 k2 k3 (vp_in_nI hlt (show a.length < 2 ^ 31 by omega)) hd ?_
  rw [nI_clamp (show j < 2 ^ 31 by omega), k4 j x hj]
  exact kk p e R s m args below meth c A ad0 F H locs cells slots tys ad ws ls _ CC E hle X ⟨_, _, rfl, rfl, hst⟩ hl
theorem x_iast {i j : Nat} {a : List Int32} {n x : Int32} (hd : decode y.2.1 pc = .ok (.iastore, 1)) (hn : n = nI j) (hM : M[i]? = some (cI a)) (hj : j < a.length) (hlen : a.length ≤ 100000000) (kk : Xw l D ρ y (pc + 1) L st (M.set i (cI (a.set j x))) d kc ks Q) : Xw l D ρ y pc L (.int x :: .int n :: .ref i :: st) M d kc ks Q := by
  intro p e R s m args below meth c A ad0 F H locs cells slots tys ad ws ls st' CC E hle X hst hl
  obtain ⟨hK, hP, hD, hS, hW, hc1, hs1⟩ := id X
  obtain ⟨w2, t2, rfl, h0, hst⟩ := hst
  obtain rfl : w2 = _ := h0
  obtain ⟨w1, t1, rfl, h0, hst⟩ := hst
  obtain rfl : w1 = _ := h0
  obtain ⟨w0, t0, rfl, ⟨q, ha, rfl⟩, hst⟩ := hst
  obtain ⟨a', e', k1, k2, t1, cA, f, k3, rfl, k4⟩ := hW.2.2 _ _ hM
  cases ha.symm.trans k1
  subst hn
  refine va_iast CC.1 CC.2.1 hK hP hD hS i t1 k2 k3 (vp_in_nI hj (show a.length < 2 ^ 31 by omega)) hd (fun H1 locs1 hP1 hD1 hS1 => ?_)
  rw [nI_clamp (show j < 2 ^ 31 by omega)] at hP1 hD1
  have hcell : xcr ρ tys ad (cI (a.set j x)) (.inl (cA, a.length, .inl (upd f j x))) := ⟨t1, cA, upd f j x, k3, by rw [List.length_set], fun b z hb => by
    by_cases hbj : b = j
    · subst hbj
      rw [List.getElem?_set_self hj] at hb
      cases hb
      exact pk_us
    · rw [List.getElem?_set_ne (fun q => hbj q.symm)] at hb
      rw [pk_un hbj]
      exact k4 b z hb⟩
  exact kk p e R s m args below meth c A ad0 F H1 locs1 cells slots tys ad _ ls _ CC E hle ⟨hK, hP1, hD1, hS1, xWr_set hW ha hcell, hc1, hs1⟩ hst hl
theorem x_aald {i j k : Nat} {a : List (Option Nat)} {n : Int32} {o : Option Nat} (hd : decode y.2.1 pc = .ok (.aaload, 1)) (hn : n = nI j) (hM : M[i]? = some (cR k a)) (hj : a[j]? = some o) (hlen : a.length ≤ 100000000) (kk : Xw l D ρ y (pc + 1) L (xrv o :: st) M d kc ks Q) : Xw l D ρ y pc L (.int n :: .ref i :: st) M d kc ks Q := by
  intro p e R s m args below meth c A ad0 F H locs cells slots tys ad ws ls st' CC E hle X hst hl
  obtain ⟨hK, hP, hD, hS, hW, hc1, hs1⟩ := id X
  obtain ⟨w1, t1, rfl, h0, hst⟩ := hst
  obtain rfl : w1 = _ := h0
  obtain ⟨w0, t0, rfl, ⟨q, ha, rfl⟩, hst⟩ := hst
  obtain ⟨a', e', k1, k2, t1, cA, f, k3, rfl, k4⟩ := hW.2.2 _ _ hM
  cases ha.symm.trans k1
  subst hn
  have hlt : j < a.length := (List.getElem?_eq_some_iff.mp hj).1
  refine va_aldq CC.1 CC.2.1 hK hP i t1 k2 k3 (vp_in_nI hlt (show a.length < 2 ^ 31 by omega)) hd ?_
  rw [nI_clamp (show j < 2 ^ 31 by omega)]
  exact kk p e R s m args below meth c A ad0 F H locs cells slots tys ad ws ls _ CC E hle X ⟨_, _, rfl, xrv_ok (k4 j o hj), hst⟩ hl
theorem x_aast {i j k v ci N : Nat} {a : List (Option Nat)} {n : Int32} {C : String} {T : u_T} {ty : Nat → FieldType} {fs : List Value} (hd : decode y.2.1 pc = .ok (.aastore, 1)) (hn : n = nI j) (hM : M[i]? = some (cR k a)) (hj : j < a.length) (hlen : a.length ≤ 100000000) (hV : M[v]? = some (cO ci fs)) (hC : xCk ci C T N ty) (hE : C = xEl k ∨ Cond.castable C (xEl k) ∈ Nw)
    (kk : Xw l D ρ y (pc + 1) L st (M.set i (cR k (a.set j (some v)))) d kc ks Q) : Xw l D ρ y pc L (.ref v :: .int n :: .ref i :: st) M d kc ks Q := by
  intro p e R s m args below meth c A ad0 F H locs cells slots tys ad ws ls st' CC E hle X hst hl
  obtain ⟨hx, hb, hr, hml, hown, hts, hNw, hRO, hlk, hA, hfr, hlo, hnm⟩ := id CC
  obtain ⟨hK, hP, hD, hS, hW, hc1, hs1⟩ := id X
  obtain ⟨w2, t2, rfl, ⟨qv, hav, rfl⟩, hst⟩ := hst
  obtain ⟨w1, t1, rfl, h0, hst⟩ := hst
  obtain rfl : w1 = _ := h0
  obtain ⟨w0, t0, rfl, ⟨q, ha, rfl⟩, hst⟩ := hst
  obtain ⟨a', e', k1, k2, t1, cA, f, k3, rfl, k4⟩ := hW.2.2 _ _ hM
  obtain ⟨av', ev', j1, j2, fs', rfl, j3⟩ := hW.2.2 _ _ hV
  cases ha.symm.trans k1
  cases hav.symm.trans j1
  subst hn
  have hcell : xcr ρ tys ad (cR k (a.set j (some v))) (.inl (cA, a.length, .inr (.inr (.inr (.inr (va_up f j (some qv))))))) := ⟨t1, cA, va_up f j (some qv), k3, by rw [List.length_set], fun b z hb => by
    by_cases hbj : b = j
    · subst hbj
      rw [List.getElem?_set_self hj] at hb
      cases hb
      rw [va_up_self]
      exact ⟨qv, hav, rfl⟩
    · rw [List.getElem?_set_ne (fun q => hbj q.symm)] at hb
      rw [va_up_ne _ _ hbj]
      exact k4 b z hb⟩
  have fin : ∀ (H1 : Heap) (locs1 : List Loc), va_P D classes (ws.set i (q, .inl (cA, a.length, .inr (.inr (.inr (.inr (va_up f j (some qv)))))))) H1 → va_D A (ws.set i (q, .inl (cA, a.length, .inr (.inr (.inr (.inr (va_up f j (some qv)))))))) → va_S A s.heap H1 locs1 → W p l e R s m args below meth c H1 locs1 cells slots F (F0 m (pc + 1) ls t0) := fun H1 locs1 hP1 hD1 hS1 =>
    kk p e R s m args below meth c A ad0 F H1 locs1 cells slots tys ad _ ls _ CC E hle ⟨hK, hP1, hD1, hS1, xWr_set hW ha hcell, hc1, hs1⟩ hst hl
  have hcl : (nI j).toNatClampNeg = j := nI_clamp (by omega)
  rcases hE with hE | hE
  · refine va_astq hx hb hK hP hD hS i t1 v ci k2 (r := (C, T, N)) (by rw [hE]; exact k3) j2 hC.1 (vp_in_nI hj (show a.length < 2 ^ 31 by omega)) hd (fun H1 locs1 hP1 hD1 hS1 => ?_)
    rw [hcl] at hP1 hD1
    exact fin H1 locs1 hP1 hD1 hS1
  · refine va_astqO hx hb hK hP hD hS i t1 v ci k2 (r := (C, T, N)) k3 (hNw _ hE) j2 hC.1 (vp_in_nI hj (show a.length < 2 ^ 31 by omega)) hd (fun H1 locs1 hP1 hD1 hS1 => ?_)
    rw [hcl] at hP1 hD1
    exact fin H1 locs1 hP1 hD1 hS1
theorem x_aastN {i j k : Nat} {a : List (Option Nat)} {n : Int32} (hd : decode y.2.1 pc = .ok (.aastore, 1)) (hn : n = nI j) (hM : M[i]? = some (cR k a)) (hj : j < a.length) (hlen : a.length ≤ 100000000)
    (kk : Xw l D ρ y (pc + 1) L st (M.set i (cR k (a.set j none))) d kc ks Q) : Xw l D ρ y pc L (.null :: .int n :: .ref i :: st) M d kc ks Q := by
  intro p e R s m args below meth c A ad0 F H locs cells slots tys ad ws ls st' CC E hle X hst hl
  obtain ⟨hx, hb, hr, hml, hown, hts, hNw, hRO, hlk, hA, hfr, hlo, hnm⟩ := id CC
  obtain ⟨hK, hP, hD, hS, hW, hc1, hs1⟩ := id X
  obtain ⟨w2, t2, rfl, h0, hst⟩ := hst
  obtain rfl : w2 = _ := h0
  obtain ⟨w1, t1, rfl, h0, hst⟩ := hst
  obtain rfl : w1 = _ := h0
  obtain ⟨w0, t0, rfl, ⟨q, ha, rfl⟩, hst⟩ := hst
  obtain ⟨a', e', k1, k2, t1, cA, f, k3, rfl, k4⟩ := hW.2.2 _ _ hM
  cases ha.symm.trans k1
  subst hn
  have hcell : xcr ρ tys ad (cR k (a.set j none)) (.inl (cA, a.length, .inr (.inr (.inr (.inr (va_up f j none)))))) := ⟨t1, cA, va_up f j none, k3, by rw [List.length_set], fun b z hb => by
    by_cases hbj : b = j
    · subst hbj
      rw [List.getElem?_set_self hj] at hb
      cases hb
      rw [va_up_self]
      exact rfl
    · rw [List.getElem?_set_ne (fun q => hbj q.symm)] at hb
      rw [va_up_ne _ _ hbj]
      exact k4 b z hb⟩
  refine va_astqN hx hb hK hP hD hS i t1 k2 k3 (vp_in_nI hj (show a.length < 2 ^ 31 by omega)) hd (fun H1 locs1 hP1 hD1 hS1 => ?_)
  rw [nI_clamp (show j < 2 ^ 31 by omega)] at hP1 hD1
  exact kk p e R s m args below meth c A ad0 F H1 locs1 cells slots tys ad _ ls _ CC E hle ⟨hK, hP1, hD1, hS1, xWr_set hW ha hcell, hc1, hs1⟩ hst hl
/-- two references: the same number, the same cell -/
theorem xref_eq {tys : List (ClassId × FieldType)} {ad : List Nat} {ws : va_W} {A : Nat → Prop} (hW : xWr ρ tys ad ws M) (hD : va_D A ws) {i j a b : Nat} (ha : ad[i]? = some a) (hb : ad[j]? = some b) : a = b ↔ i = j := by
  constructor
  · intro h
    subst h
    obtain ⟨c1, e1, -, k1, -⟩ := xWr_len hW ha
    obtain ⟨c2, e2, -, k2, -⟩ := xWr_len hW hb
    exact hD.1 i j _ _ k1 k2 rfl
  · intro h
    subst h
    exact Option.some.inj (ha.symm.trans hb)
theorem x_acmp_ne {i j : Nat} {off : Int} {tgt : Nat} (hd : decode y.2.1 pc = .ok (.if_acmp .ne off, 3)) (ht : (pc : Int) + off = (tgt : Int)) (kt : ¬ i = j → Xw l D ρ y tgt L st M d kc ks Q) (kf : i = j → Xw l D ρ y (pc + 3) L st M d kc ks Q) : Xw l D ρ y pc L (.ref j :: .ref i :: st) M d kc ks Q := by
  intro p e R s m args below meth c A ad0 F H locs cells slots tys ad ws ls st' CC E hle X hst hl
  obtain ⟨hK, hP, hD, hS, hW, hc1, hs1⟩ := id X
  obtain ⟨w1, t1, rfl, ⟨b, hb, rfl⟩, hst⟩ := hst
  obtain ⟨w0, t0, rfl, ⟨a, ha, rfl⟩, hst⟩ := hst
  have hq := xref_eq hW hD ha hb
  exact lv_acmp_ne (rx := some a) (ry := some b) CC.1 CC.2.1 hd ht (fun z => kt (fun q => z (by rw [hq.mpr q])) p e R s m args below meth c A ad0 F H locs cells slots tys ad ws ls _ CC E hle X hst hl) (fun z => kf (hq.mp (Option.some.inj z)) p e R s m args below meth c A ad0 F H locs cells slots tys ad ws ls _ CC E hle X hst hl)
theorem x_acmp_eq {i j : Nat} {off : Int} {tgt : Nat} (hd : decode y.2.1 pc = .ok (.if_acmp .eq off, 3)) (ht : (pc : Int) + off = (tgt : Int)) (kt : i = j → Xw l D ρ y tgt L st M d kc ks Q) (kf : ¬ i = j → Xw l D ρ y (pc + 3) L st M d kc ks Q) : Xw l D ρ y pc L (.ref j :: .ref i :: st) M d kc ks Q := by
  intro p e R s m args below meth c A ad0 F H locs cells slots tys ad ws ls st' CC E hle X hst hl
  obtain ⟨hK, hP, hD, hS, hW, hc1, hs1⟩ := id X
  obtain ⟨w1, t1, rfl, ⟨b, hb, rfl⟩, hst⟩ := hst
  obtain ⟨w0, t0, rfl, ⟨a, ha, rfl⟩, hst⟩ := hst
  have hq := xref_eq hW hD ha hb
  exact lv_acmp_eq (rx := some a) (ry := some b) CC.1 CC.2.1 hd ht (fun z => kt (hq.mp (Option.some.inj z)) p e R s m args below meth c A ad0 F H locs cells slots tys ad ws ls _ CC E hle X hst hl) (fun z => kf (fun q => z (by rw [hq.mpr q])) p e R s m args below meth c A ad0 F H locs cells slots tys ad ws ls _ CC E hle X hst hl)
/-- a cast that holds -/
theorem x_cast {index i ci N : Nat} {C nm : String} {T : u_T} {ty : Nat → FieldType} {fs : List Value} (hd : decode y.2.1 pc = .ok (.checkcast index, 3)) (h1 : Cond.classLink y.1.cls index nm ∈ Gw) (hC : xCk ci C T N ty) (hM : M[i]? = some (cO ci fs)) (hE : C = nm ∨ Cond.castable C nm ∈ Nw)
    (kk : Xw l D ρ y (pc + 3) L (.ref i :: st) M d kc ks Q) : Xw l D ρ y pc L (.ref i :: st) M d kc ks Q := by
  intro p e R s m args below meth c A ad0 F H locs cells slots tys ad ws ls st' CC E hle X hst hl
  obtain ⟨hx, hb, hr, hml, hown, hts, hNw, hRO, hlk, hA, hfr, hlo, hnm⟩ := id CC
  obtain ⟨hK, hP, hD, hS, hW, hc1, hs1⟩ := id X
  obtain ⟨w0, t0, rfl, ⟨a, ha, rfl⟩, hst⟩ := hst
  obtain ⟨a', e', k1, k2, fs', rfl, k3⟩ := hW.2.2 _ _ hM
  cases ha.symm.trans k1
  have hrec := va_recv hK hP hC.1 k2
  have h4 := kk p e R s m args below meth c A ad0 F H locs cells slots tys ad ws ls _ CC E hle X ⟨_, _, rfl, ⟨a, ha, rfl⟩, hst⟩ hl
  rcases hE with rfl | hE
  · exact va_castS hx hb hown (hts _ h1) (hK.1 ci _ hC.1).2 hrec hd h4
  · exact va_castY hx hb hown (hts _ h1) (hNw _ hE) hrec hd h4
theorem x_objInit {index i : Nat} (hd : decode y.2.1 pc = .ok (.invokespecial index, 3)) (h1 : Cond.methodLink y.1.cls index Lib.objectInit ∈ Gw) (h2 : Cond.instanceMethod Lib.objectInit ∈ Gw) (h3 : Cond.code Lib.objectInit ⟨#[0xb1]⟩ 1 none ∈ Gw) (hst0 : (st.map fun v => v.category).sum ≤ 8) (hd0 : 1 ≤ d) (kk : Xw l D ρ y (pc + 3) L st M d kc ks Q) : Xw l D ρ y pc L (.ref i :: st) M d kc ks Q := by
  intro p e R s m args below meth c A ad0 F H locs cells slots tys ad ws ls st' CC E hle X hst hl
  obtain ⟨hx, hb, hr, hml, hown, hts, hNw, hRO, hlk, hA, hfr, hlo, hnm⟩ := id CC
  obtain ⟨w0, t0, rfl, ⟨a, ha, rfl⟩, hst⟩ := hst
  have hcat : (t0.map fun v => v.category).sum ≤ 8 := by rw [xvs_cat hst]; exact hst0
  have hroom := lv_room (m := m) (pc := pc) (ls := ls) (rest := Value.ref a :: t0) hcat
  refine W.objInit hx hb hown (hts _ h1) (hts _ h2) (hts _ h3) rfl (by rw [hml]; exact xls_size hl) rfl hd (by omega) (by omega) ?_
  exact kk p e R s m args below meth c A ad0 F H locs cells slots tys ad ws ls _ CC E hle X hst hl
end XH
theorem xrf_cat {v : Value} (h : xrf v) : v.category = 1 := by
  cases v with
  | ref i => rfl
  | null => rfl
  | retAddr i => rfl
  | _ => exact absurd h (fun z => z)
theorem xrf_opt (o : Option Nat) : xrf (xrv o) := by
  cases o <;> exact trivial
theorem xft_obj {n : String} {v : Value} (h : xrf v) : xft (.object n) v = true := by
  cases v with
  | ref i => rfl
  | null => rfl
  | retAddr i => rfl
  | _ => exact absurd h (fun z => z)
theorem xft_arr {n : FieldType} {v : Value} (h : xrf v) : xft (.array n) v = true := by
  cases v with
  | ref i => rfl
  | null => rfl
  | retAddr i => rfl
  | _ => exact absurd h (fun z => z)
/-! what is known of a world behind a write -/
theorem xset_eq {α : Type} {M : List α} {i : Nat} {c c' : α} (h : M[i]? = some c) : (M.set i c')[i]? = some c' := List.getElem?_set_self (List.getElem?_eq_some_iff.mp h).1
theorem xset_ne {M : List xCl} {i j : Nat} {c e c' : xCl} (h : M[i]? = some c) (k : M[j]? = some e) (hne : Nat.beq (xkd c) (xkd e) = false) : (M.set j c')[i]? = some c := by
  rw [List.getElem?_set_ne (fun q => by
    subst q
    obtain rfl := Option.some.inj (h.symm.trans k)
    rw [Nat.beq_refl] at hne
    cases hne)]
  exact h
theorem xset_at {α : Type} {M : List α} {i j : Nat} {c c' : α} (h : M[i]? = some c) (hne : j ≠ i) : (M.set j c')[i]? = some c := by
  rw [List.getElem?_set_ne hne]
  exact h
theorem xpush_at {α : Type} {M : List α} {i : Nat} {c c' : α} (h : M[i]? = some c) : (M ++ [c'])[i]? = some c := xle_at ⟨_, rfl⟩ h
theorem xpush_last {α : Type} {M : List α} {c' : α} : (M ++ [c'])[M.length]? = some c' := by
  rw [List.getElem?_append_right (Nat.le_refl _), Nat.sub_self]; rfl
section XA
variable {l : Launch} {D : va_G} {ρ : xR} {y : xM} {pc : Nat} {L : List (Nat × Value)} {st : List Value} {M : List xCl} {d kc ks : Nat} {Q : Option Value → List xCl → Prop}
theorem x_newl {n : Int32} {N kc' ks' : Nat} (hd : decode y.2.1 pc = .ok (.newarray .long, 2)) (hw : Cond.arrayClass .long ∈ Gw) (hn : n = nI N) (hN : N ≤ 10000000) (h4 : kc' + 1 ≤ kc) (h5 : ks' + N ≤ ks)
    (kk : Xw l D ρ y (pc + 2) L (.ref M.length :: st) (M ++ [cL (List.replicate N 0)]) d kc' ks' Q) : Xw l D ρ y pc L (.int n :: st) M d kc ks Q := by
  intro p e R s m args below meth c A ad0 F H locs cells slots tys ad ws ls st' CC E hle X hst hl
  obtain ⟨hx, hb, hr, hml, hown, hts, hNw, hRO, hlk, hA, hfr, hlo, hnm⟩ := id CC
  obtain ⟨hK, hP, hD, hS, hW, hc1, hs1⟩ := id X
  obtain ⟨w0, t0, rfl, h0, hst⟩ := hst
  obtain rfl : w0 = _ := h0
  subst hn
  refine va_newa hx hb (atype := .long) (hts _ hw) (ty := .long) rfl hK hP hD hS hA (a0 := (N, .inr (.inl (fun _ => 0)))) (fun _ => rfl) (nI_pos (by omega)) (nI_clamp (by omega)) (show N * 8 ≤ 536870912 by omega) (by omega) (by omega) hd (fun q cA H1 hK1 hP1 hD1 hS1 => ?_)
  have hq : xle ad (ad ++ [q]) := ⟨[q], rfl⟩
  have hat : (ad ++ [q])[M.length]? = some q := by rw [← hW.1, List.getElem?_append_right (Nat.le_refl _), Nat.sub_self]; rfl
  have hty : (tys ++ [(cA, FieldType.long)])[tys.length]? = some (cA, FieldType.long) := by rw [List.getElem?_append_right (Nat.le_refl _), Nat.sub_self]; rfl
  have hcell : xcr ρ (tys ++ [(cA, FieldType.long)]) (ad ++ [q]) (cL (List.replicate N 0)) (.inl (cA, N, .inr (.inl (fun _ => 0)))) := ⟨tys.length, cA, fun _ => 0, hty, by rw [List.length_replicate], fun j x hj => (List.eq_of_mem_replicate (List.mem_of_getElem? hj)).symm⟩
  exact kk p e R s m args below meth c A ad0 F H1 locs (cells + 1) (slots + N) _ (ad ++ [q]) _ ls _ CC E (xle_tr hle hq) ⟨hK1, hP1, hD1, hS1, xWr_push hW ⟨_, rfl⟩ hcell, by omega, by omega⟩ ⟨_, _, rfl, ⟨q, hat, rfl⟩, xvs_mono hq hst⟩ (xls_mono hq hl)
theorem x_newz {n : Int32} {N kc' ks' : Nat} (hd : decode y.2.1 pc = .ok (.newarray .boolean, 2)) (hw : Cond.arrayClass .boolean ∈ Gw) (hn : n = nI N) (hN : N ≤ 10000000) (h4 : kc' + 1 ≤ kc) (h5 : ks' + N ≤ ks)
    (kk : Xw l D ρ y (pc + 2) L (.ref M.length :: st) (M ++ [cZ (List.replicate N 0)]) d kc' ks' Q) : Xw l D ρ y pc L (.int n :: st) M d kc ks Q := by
  intro p e R s m args below meth c A ad0 F H locs cells slots tys ad ws ls st' CC E hle X hst hl
  obtain ⟨hx, hb, hr, hml, hown, hts, hNw, hRO, hlk, hA, hfr, hlo, hnm⟩ := id CC
  obtain ⟨hK, hP, hD, hS, hW, hc1, hs1⟩ := id X
  obtain ⟨w0, t0, rfl, h0, hst⟩ := hst
  obtain rfl : w0 = _ := h0
  subst hn
  refine va_newa hx hb (atype := .boolean) (hts _ hw) (ty := .boolean) rfl hK hP hD hS hA (a0 := (N, .inl (fun _ => 0))) (fun _ => rfl) (nI_pos (by omega)) (nI_clamp (by omega)) (show N * 1 ≤ 536870912 by omega) (by omega) (by omega) hd (fun q cA H1 hK1 hP1 hD1 hS1 => ?_)
  have hq : xle ad (ad ++ [q]) := ⟨[q], rfl⟩
  have hat : (ad ++ [q])[M.length]? = some q := by rw [← hW.1, List.getElem?_append_right (Nat.le_refl _), Nat.sub_self]; rfl
  have hty : (tys ++ [(cA, FieldType.boolean)])[tys.length]? = some (cA, FieldType.boolean) := by rw [List.getElem?_append_right (Nat.le_refl _), Nat.sub_self]; rfl
  have hcell : xcr ρ (tys ++ [(cA, FieldType.boolean)]) (ad ++ [q]) (cZ (List.replicate N 0)) (.inl (cA, N, .inl (fun _ => 0))) := ⟨tys.length, cA, fun _ => 0, hty, by rw [List.length_replicate], fun j x hj => (List.eq_of_mem_replicate (List.mem_of_getElem? hj)).symm⟩
  exact kk p e R s m args below meth c A ad0 F H1 locs (cells + 1) (slots + N) _ (ad ++ [q]) _ ls _ CC E (xle_tr hle hq) ⟨hK1, hP1, hD1, hS1, xWr_push hW ⟨_, rfl⟩ hcell, by omega, by omega⟩ ⟨_, _, rfl, ⟨q, hat, rfl⟩, xvs_mono hq hst⟩ (xls_mono hq hl)
theorem x_lald {i j : Nat} {a : List Int64} {n : Int32} {x : Int64} (hd : decode y.2.1 pc = .ok (.laload, 1)) (hn : n = nI j) (hM : M[i]? = some (cL a)) (hj : a[j]? = some x) (hlen : a.length ≤ 100000000) (kk : Xw l D ρ y (pc + 1) L (.long x :: st) M d kc ks Q) : Xw l D ρ y pc L (.int n :: .ref i :: st) M d kc ks Q := by
  intro p e R s m args below meth c A ad0 F H locs cells slots tys ad ws ls st' CC E hle X hst hl
  obtain ⟨hK, hP, hD, hS, hW, hc1, hs1⟩ := id X
  obtain ⟨w1, t1, rfl, h0, hst⟩ := hst
  obtain rfl : w1 = _ := h0
  obtain ⟨w0, t0, rfl, ⟨q, ha, rfl⟩, hst⟩ := hst
  obtain ⟨a', e', k1, k2, t1, cA, f, k3, rfl, k4⟩ := hW.2.2 _ _ hM
  cases ha.symm.trans k1
  subst hn
  have hlt := (List.getElem?_eq_some_iff.mp hj).1
  refine va_lald CC.1 CC.2.1 hK hP i t1 k2 k3 (vp_in_nI hlt (show a.length < 2 ^ 31 by omega)) hd ?_
  rw [nI_clamp (show j < 2 ^ 31 by omega), k4 j x hj]
  exact kk p e R s m args below meth c A ad0 F H locs cells slots tys ad ws ls _ CC E hle X ⟨_, _, rfl, rfl, hst⟩ hl
theorem x_zald {i j : Nat} {a : List Int32} {n x : Int32} (hd : decode y.2.1 pc = .ok (.baload, 1)) (hn : n = nI j) (hM : M[i]? = some (cZ a)) (hj : a[j]? = some x) (hlen : a.length ≤ 100000000) (kk : Xw l D ρ y (pc + 1) L (.int x :: st) M d kc ks Q) : Xw l D ρ y pc L (.int n :: .ref i :: st) M d kc ks Q := by
  intro p e R s m args below meth c A ad0 F H locs cells slots tys ad ws ls st' CC E hle X hst hl
  obtain ⟨hK, hP, hD, hS, hW, hc1, hs1⟩ := id X
  obtain ⟨w1, t1, rfl, h0, hst⟩ := hst
  obtain rfl : w1 = _ := h0
  obtain ⟨w0, t0, rfl, ⟨q, ha, rfl⟩, hst⟩ := hst
  obtain ⟨a', e', k1, k2, t1, cA, f, k3, rfl, k4⟩ := hW.2.2 _ _ hM
  cases ha.symm.trans k1
  subst hn
  have hlt := (List.getElem?_eq_some_iff.mp hj).1
  refine va_zald CC.1 CC.2.1 hK hP i t1 k2 k3 (vp_in_nI hlt (show a.length < 2 ^ 31 by omega)) hd ?_
  rw [nI_clamp (show j < 2 ^ 31 by omega), k4 j x hj]
  exact kk p e R s m args below meth c A ad0 F H locs cells slots tys ad ws ls _ CC E hle X ⟨_, _, rfl, rfl, hst⟩ hl
theorem x_last {i j : Nat} {a : List Int64} {n : Int32} {x : Int64} (hd : decode y.2.1 pc = .ok (.lastore, 1)) (hn : n = nI j) (hM : M[i]? = some (cL a)) (hj : j < a.length) (hlen : a.length ≤ 100000000) (kk : Xw l D ρ y (pc + 1) L st (M.set i (cL (a.set j x))) d kc ks Q) : Xw l D ρ y pc L (.long x :: .int n :: .ref i :: st) M d kc ks Q := by
  intro p e R s m args below meth c A ad0 F H locs cells slots tys ad ws ls st' CC E hle X hst hl
  obtain ⟨hK, hP, hD, hS, hW, hc1, hs1⟩ := id X
  obtain ⟨w2, t2, rfl, h0, hst⟩ := hst
  obtain rfl : w2 = _ := h0
  obtain ⟨w1, t1, rfl, h0, hst⟩ := hst
  obtain rfl : w1 = _ := h0
  obtain ⟨w0, t0, rfl, ⟨q, ha, rfl⟩, hst⟩ := hst
  obtain ⟨a', e', k1, k2, t1, cA, f, k3, rfl, k4⟩ := hW.2.2 _ _ hM
  cases ha.symm.trans k1
  subst hn
  refine va_last CC.1 CC.2.1 hK hP hD hS i t1 k2 k3 (vp_in_nI hj (show a.length < 2 ^ 31 by omega)) hd (fun H1 locs1 hP1 hD1 hS1 => ?_)
  rw [nI_clamp (show j < 2 ^ 31 by omega)] at hP1 hD1
  have hcell : xcr ρ tys ad (cL (a.set j x)) (.inl (cA, a.length, .inr (.inl (vp_updL f j x)))) := ⟨t1, cA, vp_updL f j x, k3, by rw [List.length_set], fun b z hb => by
    by_cases hbj : b = j
    · subst hbj
      rw [List.getElem?_set_self hj] at hb
      cases hb
      exact pk_uLs
    · rw [List.getElem?_set_ne (fun q => hbj q.symm)] at hb
      rw [pk_uLn hbj]
      exact k4 b z hb⟩
  exact kk p e R s m args below meth c A ad0 F H1 locs1 cells slots tys ad _ ls _ CC E hle ⟨hK, hP1, hD1, hS1, xWr_set hW ha hcell, hc1, hs1⟩ hst hl
theorem x_zast {i j : Nat} {a : List Int32} {n x : Int32} (hd : decode y.2.1 pc = .ok (.bastore, 1)) (hn : n = nI j) (hM : M[i]? = some (cZ a)) (hj : j < a.length) (hlen : a.length ≤ 100000000) (hx : x = 0 ∨ x = 1) (kk : Xw l D ρ y (pc + 1) L st (M.set i (cZ (a.set j x))) d kc ks Q) : Xw l D ρ y pc L (.int x :: .int n :: .ref i :: st) M d kc ks Q := by
  intro p e R s m args below meth c A ad0 F H locs cells slots tys ad ws ls st' CC E hle X hst hl
  obtain ⟨hK, hP, hD, hS, hW, hc1, hs1⟩ := id X
  obtain ⟨w2, t2, rfl, h0, hst⟩ := hst
  obtain rfl : w2 = _ := h0
  obtain ⟨w1, t1, rfl, h0, hst⟩ := hst
  obtain rfl : w1 = _ := h0
  obtain ⟨w0, t0, rfl, ⟨q, ha, rfl⟩, hst⟩ := hst
  obtain ⟨a', e', k1, k2, t1, cA, f, k3, rfl, k4⟩ := hW.2.2 _ _ hM
  cases ha.symm.trans k1
  subst hn
  refine va_zast CC.1 CC.2.1 hK hP hD hS i t1 k2 k3 (vp_in_nI hj (show a.length < 2 ^ 31 by omega)) hd (fun H1 locs1 hP1 hD1 hS1 => ?_)
  have hnar : vp_nar .boolean x = x := by rcases hx with rfl | rfl <;> decide
  rw [nI_clamp (show j < 2 ^ 31 by omega), hnar] at hP1 hD1
  have hcell : xcr ρ tys ad (cZ (a.set j x)) (.inl (cA, a.length, .inl (upd f j x))) := ⟨t1, cA, upd f j x, k3, by rw [List.length_set], fun b z hb => by
    by_cases hbj : b = j
    · subst hbj
      rw [List.getElem?_set_self hj] at hb
      cases hb
      exact pk_us
    · rw [List.getElem?_set_ne (fun q => hbj q.symm)] at hb
      rw [pk_un hbj]
      exact k4 b z hb⟩
  exact kk p e R s m args below meth c A ad0 F H1 locs1 cells slots tys ad _ ls _ CC E hle ⟨hK, hP1, hD1, hS1, xWr_set hW ha hcell, hc1, hs1⟩ hst hl
/-! old cells -/
theorem x_gets {index : Nat} (hd : decode y.2.1 pc = .ok (.getstatic index, 3)) (h1 : Cond.fieldLink y.1.cls index "java/util/ArrayList" "DEFAULTCAPACITY_EMPTY_ELEMENTDATA" "[Ljava/lang/Object;" ∈ Gw) (kk : Xw l D ρ y (pc + 3) L (.retAddr 1 :: st) M d kc ks Q) : Xw l D ρ y pc L st M d kc ks Q := by
  intro p e R s m args below meth c A ad0 F H locs cells slots tys ad ws ls st' CC E hle X hst hl
  obtain ⟨hx, hb, hr, hml, hown, hts, hNw, hRO, hlk, hA, hfr, hlo, hnm⟩ := id CC
  obtain ⟨hK, hP, hD, hS, hW, hc1, hs1⟩ := id X
  exact va_gets hx hb hRO.2.1 hS hown (hts _ h1) (fun _ z => z) hd (kk p e R s m args below meth c A ad0 F H locs cells slots tys ad ws ls _ CC E hle X ⟨_, _, rfl, rfl, hst⟩ hl)
theorem x_alenE (hd : decode y.2.1 pc = .ok (.arraylength, 1)) (kk : Xw l D ρ y (pc + 1) L (.int 0 :: st) M d kc ks Q) : Xw l D ρ y pc L (.retAddr 1 :: st) M d kc ks Q := by
  intro p e R s m args below meth c A ad0 F H locs cells slots tys ad ws ls st' CC E hle X hst hl
  obtain ⟨hx, hb, hr, hml, hown, hts, hNw, hRO, hlk, hA, hfr, hlo, hnm⟩ := id CC
  obtain ⟨hK, hP, hD, hS, hW, hc1, hs1⟩ := id X
  obtain ⟨w0, t0, rfl, h0, hst⟩ := hst
  obtain rfl : w0 = _ := h0
  exact va_tlen hx hb hRO.2.2.1 hS (v := 0) rfl hd (kk p e R s m args below meth c A ad0 F H locs cells slots tys ad ws ls _ CC E hle X ⟨_, _, rfl, rfl, hst⟩ hl)
theorem x_alenS (hd : decode y.2.1 pc = .ok (.arraylength, 1)) (kk : Xw l D ρ y (pc + 1) L (.int (nI ρ.2.1) :: st) M d kc ks Q) : Xw l D ρ y pc L (.retAddr 0 :: st) M d kc ks Q := by
  intro p e R s m args below meth c A ad0 F H locs cells slots tys ad ws ls st' CC E hle X hst hl
  obtain ⟨hx, hb, hr, hml, hown, hts, hNw, hRO, hlk, hA, hfr, hlo, hnm⟩ := id CC
  obtain ⟨hK, hP, hD, hS, hW, hc1, hs1⟩ := id X
  obtain ⟨w0, t0, rfl, h0, hst⟩ := hst
  obtain rfl : w0 = _ := h0
  exact va_tlen hx hb hRO.1 hS (v := nI ρ.2.1) rfl hd (kk p e R s m args below meth c A ad0 F H locs cells slots tys ad ws ls _ CC E hle X ⟨_, _, rfl, rfl, hst⟩ hl)
theorem x_ialdS {n : Int32} {j : Nat} (hd : decode y.2.1 pc = .ok (.iaload, 1)) (hn : n = nI j) (hj : j < ρ.2.1) (hlen : ρ.2.1 ≤ 100000000) (kk : Xw l D ρ y (pc + 1) L (.int (ρ.2.2 j) :: st) M d kc ks Q) : Xw l D ρ y pc L (.int n :: .retAddr 0 :: st) M d kc ks Q := by
  intro p e R s m args below meth c A ad0 F H locs cells slots tys ad ws ls st' CC E hle X hst hl
  obtain ⟨hx, hb, hr, hml, hown, hts, hNw, hRO, hlk, hA, hfr, hlo, hnm⟩ := id CC
  obtain ⟨hK, hP, hD, hS, hW, hc1, hs1⟩ := id X
  obtain ⟨w1, t1, rfl, h0, hst⟩ := hst
  obtain rfl : w1 = _ := h0
  obtain ⟨w0, t0, rfl, h0, hst⟩ := hst
  obtain rfl : w0 = _ := h0
  subst hn
  refine va_ti hx hb hRO.1 hS (vp_in_nI hj (by omega)) (v := .int (ρ.2.2 j)) (by rw [nI_clamp (show j < 2 ^ 31 by omega)]) hd ?_
  exact kk p e R s m args below meth c A ad0 F H locs cells slots tys ad ws ls _ CC E hle X ⟨_, _, rfl, rfl, hst⟩ hl
theorem x_acmpO_eq {k : Nat} {off : Int} {tgt : Nat} (hd : decode y.2.1 pc = .ok (.if_acmp .eq off, 3)) (ht : (pc : Int) + off = (tgt : Int)) (kt : Xw l D ρ y tgt L st M d kc ks Q) : Xw l D ρ y pc L (.retAddr k :: .retAddr k :: st) M d kc ks Q := by
  intro p e R s m args below meth c A ad0 F H locs cells slots tys ad ws ls st' CC E hle X hst hl
  obtain ⟨w1, t1, rfl, h0, hst⟩ := hst
  obtain rfl : w1 = _ := h0
  obtain ⟨w0, t0, rfl, h0, hst⟩ := hst
  obtain rfl : w0 = _ := h0
  exact lv_acmp_eq (rx := some (ρ.1 k)) (ry := some (ρ.1 k)) CC.1 CC.2.1 hd ht (fun z => kt p e R s m args below meth c A ad0 F H locs cells slots tys ad ws ls _ CC E hle X hst hl) (fun z => absurd rfl z)
theorem x_acmpO_ne {k : Nat} {off : Int} {tgt : Nat} (hd : decode y.2.1 pc = .ok (.if_acmp .ne off, 3)) (ht : (pc : Int) + off = (tgt : Int)) (kf : Xw l D ρ y (pc + 3) L st M d kc ks Q) : Xw l D ρ y pc L (.retAddr k :: .retAddr k :: st) M d kc ks Q := by
  intro p e R s m args below meth c A ad0 F H locs cells slots tys ad ws ls st' CC E hle X hst hl
  obtain ⟨w1, t1, rfl, h0, hst⟩ := hst
  obtain rfl : w1 = _ := h0
  obtain ⟨w0, t0, rfl, h0, hst⟩ := hst
  obtain rfl : w0 = _ := h0
  exact lv_acmp_ne (rx := some (ρ.1 k)) (ry := some (ρ.1 k)) CC.1 CC.2.1 hd ht (fun z => absurd rfl z) (fun z => kf p e R s m args below meth c A ad0 F H locs cells slots tys ad ws ls _ CC E hle X hst hl)
theorem x_ldcM {index : Nat} (hd : decode y.2.1 pc = .ok (.ldc index, 2)) (h1 : Cond.classLink y.1.cls index "[Ljava/lang/Object;" ∈ Gw) (kk : Xw l D ρ y (pc + 2) L (.retAddr 2 :: st) M d kc ks Q) : Xw l D ρ y pc L st M d kc ks Q := by
  intro p e R s m args below meth c A ad0 F H locs cells slots tys ad ws ls st' CC E hle X hst hl
  obtain ⟨hx, hb, hr, hml, hown, hts, hNw, hRO, hlk, hA, hfr, hlo, hnm⟩ := id CC
  exact va_ldcM hx hb hown (hts _ h1) hRO.2.2.2.1 hd (kk p e R s m args below meth c A ad0 F H locs cells slots tys ad ws ls _ CC E hle X ⟨_, _, rfl, rfl, hst⟩ hl)
abbrev y_getClass : MethodName := ⟨"java/lang/Object", "getClass", "()Ljava/lang/Class;"⟩
theorem x_getC {index i : Nat} {a : List (Option Nat)} (hd : decode y.2.1 pc = .ok (.invokevirtual index, 3)) (h1 : Cond.methodLink y.1.cls index y_getClass ∈ Gw) (h2 : Cond.selects "[Ljava/lang/Object;" y_getClass y_getClass ∈ Gw) (h3 : Cond.instanceMethod y_getClass ∈ Gw) (h4 : Cond.native y_getClass ∈ Gw) (hE : xEl 3 = "java/lang/Object") (hM : M[i]? = some (cR 3 a)) (hcat : (st.map fun v => v.category).sum ≤ 8) (hd0 : 1 ≤ d) (kk : Xw l D ρ y (pc + 3) L (.retAddr 2 :: st) M d kc ks Q) : Xw l D ρ y pc L (.ref i :: st) M d kc ks Q := by
  intro p e R s m args below meth c A ad0 F H locs cells slots tys ad ws ls st' CC E hle X hst hl
  obtain ⟨hx, hb, hr, hml, hown, hts, hNw, hRO, hlk, hA, hfr, hlo, hnm⟩ := id CC
  obtain ⟨hK, hP, hD, hS, hW, hc1, hs1⟩ := id X
  obtain ⟨w0, t0, rfl, ⟨q, ha, rfl⟩, hst⟩ := hst
  obtain ⟨a', e', k1, k2, t1, cA, f, k3, rfl, k4⟩ := hW.2.2 _ _ hM
  cases ha.symm.trans k1
  have hcat2 : (t0.map fun v => v.category).sum ≤ 8 := by rw [xvs_cat hst]; exact hcat
  obtain ⟨kA, comp, g1, g2, g3, g4⟩ := (hK.2 t1 _ k3).2
  have hrec : ∃ cell : Cell, H[q]? = some cell ∧ cell.vm.isStatics = false ∧ s.vm.findClass "[Ljava/lang/Object;" = some cell.cls := ⟨_, hP i _ k2, rfl, g4⟩
  refine va_getC hx hb (by rw [hml]; exact (xls_size hl).symm) hown (hts _ h1) (va_Dc.use hRO.2.2.2.2) (hts _ h2) (hts _ h3) (hts _ h4) hRO.2.2.2.1 hrec (by omega) (by omega) hd ?_
  exact kk p e R s m args below meth c A ad0 F H locs cells slots tys ad ws ls _ CC E hle X ⟨_, _, rfl, rfl, hst⟩ hl
/-- System.arraycopy of references -/
def xcp (f g : List (Option Nat)) (sp dp n : Nat) : List (Option Nat) := (List.range g.length).map fun k => if dp ≤ k ∧ k < dp + n then (f[sp + (k - dp)]?).getD none else (g[k]?).getD none
theorem xcp_len {f g : List (Option Nat)} {sp dp n : Nat} : (xcp f g sp dp n).length = g.length := by simp [xcp]
theorem xcp_at {f g : List (Option Nat)} {sp dp n k : Nat} (hk : k < g.length) : (xcp f g sp dp n)[k]? = some (if dp ≤ k ∧ k < dp + n then (f[sp + (k - dp)]?).getD none else (g[k]?).getD none) := by simp [xcp, hk]
theorem x_copy {index i0 i1 e0 a0 b0 n0 : Nat} {f g : List (Option Nat)} {sp dp n : Int32} (hd : decode y.2.1 pc = .ok (.invokestatic index, 3)) (h1 : Cond.methodLink y.1.cls index arraycopyName ∈ Gw) (h2 : Cond.native arraycopyName ∈ Gw) (h3 : Cond.static arraycopyName ∈ Gw) (h4 : Cond.initialized "java/lang/System" ∈ Gw)
    (hM0 : M[i0]? = some (cR e0 f)) (hM1 : M[i1]? = some (cR 3 g)) (es : sp = nI a0) (ed : dp = nI b0) (en : n = nI n0) (l0 : a0 + n0 ≤ f.length) (l1 : b0 + n0 ≤ g.length) (lf : f.length ≤ 100000000) (lg : g.length ≤ 100000000)
    (hel : ∀ k v, k < n0 → f[a0 + k]? = some (some v) → ∃ ci C T N ty fs, M[v]? = some (cO ci fs) ∧ xCk ci C T N ty ∧ Cond.castable C (xEl 3) ∈ Nw) (hcat : (st.map fun v => v.category).sum ≤ 8) (hd0 : 1 ≤ d)
    (kk : Xw l D ρ y (pc + 3) L st (M.set i1 (cR 3 (xcp f g a0 b0 n0))) d kc ks Q) : Xw l D ρ y pc L (.int n :: .int dp :: .ref i1 :: .int sp :: .ref i0 :: st) M d kc ks Q := by
  intro p e R s m args below meth c A ad0 F H locs cells slots tys ad ws ls st' CC E hle X hst hl
  obtain ⟨hx, hb, hr, hml, hown, hts, hNw, hRO, hlk, hA, hfr, hlo, hnm⟩ := id CC
  obtain ⟨hK, hP, hD, hS, hW, hc1, hs1⟩ := id X
  obtain ⟨w4, t4, rfl, h0, hst⟩ := hst
  obtain rfl : w4 = _ := h0
  obtain ⟨w3, t3, rfl, h0, hst⟩ := hst
  obtain rfl : w3 = _ := h0
  obtain ⟨w2, t2, rfl, ⟨q1, ha1, rfl⟩, hst⟩ := hst
  obtain ⟨w1, t1, rfl, h0, hst⟩ := hst
  obtain rfl : w1 = _ := h0
  obtain ⟨w0, t0, rfl, ⟨q0, ha0, rfl⟩, hst⟩ := hst
  obtain ⟨x0, y0, k1, k2, p0, cA0, F0f, k3, rfl, k4⟩ := hW.2.2 _ _ hM0
  obtain ⟨x1, y1, j1, j2, p1, cA1, F1f, j3, rfl, j4⟩ := hW.2.2 _ _ hM1
  cases ha0.symm.trans k1
  cases ha1.symm.trans j1
  subst es; subst ed; subst en
  have hcat2 : (t0.map fun v => v.category).sum ≤ 8 := by rw [xvs_cat hst]; exact hcat
  have c1 : (nI a0).toNatClampNeg = a0 := nI_clamp (by omega)
  have c2 : (nI b0).toNatClampNeg = b0 := nI_clamp (by omega)
  have c3 : (nI n0).toNatClampNeg = n0 := nI_clamp (by omega)
  have hwords : nativeFrameWords "java/lang/System" "arraycopy" 5 + 11 ≤ 37 := by decide +kernel
  refine va_copyM hx hb (by rw [hml]; exact (xls_size hl).symm) hown (hts _ h1) (hts _ h2) (hts _ h3) (hts _ h4) hK hP hD hS i0 i1 p0 p1 k2 j2 k3 j3 (nI_pos (by omega)) (nI_pos (by omega)) (nI_pos (by omega)) (by rw [c1, c3]; exact l0) (by rw [c2, c3]; exact l1) ?_ (by omega) (by omega) hd (fun H1 locs1 hP1 hD1 hS1 => ?_)
  · intro k hk v hv
    rw [c3] at hk
    rw [c1] at hv
    have hlt : a0 + k < f.length := by omega
    have hfk : f[a0 + k]? = some f[a0 + k] := List.getElem?_eq_getElem hlt
    have h5 := k4 _ _ hfk
    rw [hv] at h5
    cases hfv : f[a0 + k] with
    | none => rw [hfv] at h5; cases h5
    | some w =>
      rw [hfv] at h5 hfk
      obtain ⟨b, hb1, hb2⟩ := h5
      cases hb2
      obtain ⟨ci, C, T, N, ty, fs, m1, m2, m3⟩ := hel k w hk hfk
      obtain ⟨x2, y2, r1, r2, fs', rfl, r3⟩ := hW.2.2 _ _ m1
      cases hb1.symm.trans r1
      refine va_rAny hK hP r2 m2.1 (fun comp c0 z1 z2 => ?_)
      obtain ⟨c3, c4, z3, z4, z5⟩ := Cond.castable_spec (hNw _ m3)
      cases z2.symm.trans z3
      cases z1.symm.trans z4
      exact z5
  · rw [c1, c2, c3] at hP1 hD1
    have hcell : xcr ρ tys ad (cR 3 (xcp f g a0 b0 n0)) (.inl (cA1, g.length, .inr (.inr (.inr (.inr (va_cpy F0f F1f a0 b0 n0)))))) := ⟨p1, cA1, va_cpy F0f F1f a0 b0 n0, j3, by rw [xcp_len], fun b z hb => by
      have hbl : b < g.length := by
        have := (List.getElem?_eq_some_iff.mp hb).1
        rw [xcp_len] at this
        exact this
      rw [xcp_at hbl] at hb
      cases hb
      by_cases hc : b0 ≤ b ∧ b < b0 + n0
      · rw [if_pos hc, show va_cpy F0f F1f a0 b0 n0 b = F0f (a0 + (b - b0)) from if_pos hc]
        have hlt : a0 + (b - b0) < f.length := by omega
        have hfk : f[a0 + (b - b0)]? = some f[a0 + (b - b0)] := List.getElem?_eq_getElem hlt
        rw [hfk]
        exact k4 _ _ hfk
      · rw [if_neg hc, show va_cpy F0f F1f a0 b0 n0 b = F1f b from if_neg hc]
        have hfk : g[b]? = some g[b] := List.getElem?_eq_getElem hbl
        rw [hfk]
        exact j4 _ _ hfk⟩
    exact kk p e R s m args below meth c A ad0 F H1 locs1 cells slots tys ad _ ls _ CC E hle ⟨hK, hP1, hD1, hS1, xWr_set hW ha1 hcell, hc1, hs1⟩ hst hl
end XA
end
section
/-! CALLS -/
theorem xnw_warm {w : Cond} (h : xnw w = true) {s U : State} (hW : s.WarmedH U.vm) (k : va_Nw w s) : va_Nw w U := by
  cases w with
  | fieldLinkNest a i b n d h => exact va_Nw.warmF hW k
  | methodLinkNest a i x h => exact va_Nw.warmM hW k
  | castable C T => exact va_Nw.warmC hW k
  | arrayOver t =>
    cases t with
    | object C => exact va_AO.moved hW.alike k
    | _ => simp [xnw] at h
  | _ => simp [xnw] at h
theorem xnw_same {w : Cond} (h : xnw w = true) {s U : State} (hW : s.vm = U.vm) (k : va_Nw w s) : va_Nw w U := by
  cases w with
  | fieldLinkNest a i b n d h => exact va_Nw.same rfl hW k
  | methodLinkNest a i x h => exact va_Nw.same rfl hW k
  | castable C T => exact va_Nw.same rfl hW k
  | arrayOver t =>
    cases t with
    | object C => exact va_AO.moved (hW ▸ Vm.Alike.refl s.vm) k
    | _ => simp [xnw] at h
  | _ => simp [xnw] at h
def xPc (D : va_G) (ρ : xR) (As : List Value) (tys : List (ClassId × FieldType)) (ws : va_W) (sz : Nat) : Array Value → State → Prop :=
  va_Pc As (fun U => U.heap.size = sz ∧ va_P D classes ws U.heap ∧ va_K D classes tys U ∧ va_D (fun _ => True) ws ∧ (∀ w ∈ Nw, va_Nw w U) ∧ xRO ρ (va_A ws sz) U U.heap)
def xQ (D : va_G) (ρ : xR) (ad : List Nat) (A : Nat → Prop) (Q : Option Value → List xCl → Prop) : Array Value → State → Outcome → State → Prop := fun _ st oc t =>
  (∃ (r r1 : Option Value) (tys1 : List (ClassId × FieldType)) (ad1 : List Nat) (ws1 : va_W) (M1 : List xCl), oc = .returned r1 ∧ Q r M1 ∧ xret ρ ad1 r r1 ∧ va_P D classes ws1 t.heap ∧ va_K D classes tys1 t ∧ va_D A ws1 ∧ xWr ρ tys1 ad1 ws1 M1 ∧ xle ad ad1) ∧ va_F A st t
def xrm (d kc ks : Nat) : Room := { frames := d, cells := kc, slots := ks, locals := d * 45 }
def xws (z : xM) : List Cond := Cond.code z.1 z.2.1 z.2.2.1 z.2.2.2 :: Gw
theorem xblind {D : va_G} {ρ : xR} {As : List Value} {tys : List (ClassId × FieldType)} {ws : va_W} {sz : Nat} : FrameBlind (xPc D ρ As tys ws sz) := by
  intro a U g mk h
  obtain ⟨h1, h2, h3, h4, h5, h6, h7⟩ := h
  exact ⟨h1, h2, h3, va_K.moved (u := U) (U := U.calling g mk a) (Vm.Alike.refl U.vm) h4, h5, fun w hw => xnw_same (Nw_ok w hw) (s := U) rfl (h6 w hw), xRO_moved (u := U) (U := U.calling g mk a) (Vm.Alike.refl U.vm) h7⟩
section XC
variable {l : Launch} {D : va_G} {ρ : xR} {y z : xM} {pc : Nat} {L : List (Nat × Value)} {st : List Value} {M : List xCl} {d kc ks : Nat} {Q : Option Value → List xCl → Prop}
theorem x_met {As As' : List Value} (kz : Xw l D ρ z 0 (lv_args 0 As) [] M d kc ks Q) (hy : plainFor z.1 = true) (hsl : (lg_sl As).length ≤ z.2.2.1) {tys : List (ClassId × FieldType)} {ad : List Nat} {ws : va_W} (sz : Nat) (hW : xWr ρ tys ad ws M) (hAs : xvs ρ ad As As') :
    Met l z.1 (xws z) (xrm d kc ks) (xPc D ρ As' tys ws sz) (xQ D ρ ad (va_A ws sz) Q) kc ks (va_A ws sz) := by
  refine va_MetF (cc := z.2.1) (maxL := z.2.2.1) (ret := z.2.2.2) hy rfl ?_
  intro p e s m args below meth c s₁ B hml hv
  obtain ⟨rfl, hsz, hP, hK, hD0, hN, hRO⟩ := hv
  subst hsz
  have hx := B.exec
  have hb := B.bytes
  have hr := B.returns
  have hlocks := B.notSynchronized
  have hts : ∀ w ∈ Gw, w.before As'.toArray s = true := fun w hw => atoms_spec (ws := xws z) B.pre w (List.mem_cons_of_mem _ hw)
  have hl := lv_entry As' (n := z.2.2.1) (by rw [xsl_len hAs]; exact hsl)
  rw [lg_entry_eq]
  generalize (lg_sl As' ++ List.replicate (z.2.2.1 - (lg_sl As').length) Slot.unset).toArray = ls at hl ⊢
  refine kz p e _ s m _ below meth c (va_A ws s.heap.size) ad _ s.heap [] 0 0 tys ad ws ls [] ⟨hx, hb, hr, hml, findClass_of_methodNamed B.named, hts, hN, hRO, hlocks, fun q h => Or.inr h, Nat.le_refl _, Nat.le_refl _, (name_of_methodNamed B.named B.method).1⟩ ?_ (xle_rf _) ⟨hK, hP, hD0.self, va_S.rf, hW, Nat.le_of_eq (Nat.zero_add _), Nat.le_of_eq (Nat.zero_add _)⟩ rfl ⟨_, hl, xlr_args hAs 0⟩
  intro H locs cells slots tys1 ad1 ws1 M1 r r1 pc1 ls1 g0 gX gQ gr gt
  obtain ⟨b1, b2, b3, b4, b5, b6, b7⟩ := gX
  have fin : ∀ t : State, t.heap = H → s.WarmedH t.vm → xQ D ρ ad (va_A ws s.heap.size) Q As'.toArray s (.returned r1) t := fun t ht hWm => ⟨⟨r, r1, tys1, ad1, ws1, M1, rfl, gQ, gr, by rw [ht]; exact b2, va_K.moved hWm.alike b1, b3, b5, g0⟩, b4.F ht⟩
  refine W.widen (k := kc) (n := ks) b6 b7 ?_
  cases r with
  | none =>
    obtain rfl : r1 = none := gr
    exact W.vret hx hb (hr.trans gt.1) fin b4.2.2 gt.2
  | some v =>
    obtain ⟨w, rfl, gw⟩ := gr
    cases v with
    | int x =>
      obtain rfl : w = _ := gw
      obtain ⟨ty, t1, t2, t3⟩ := gt
      exact W.zret hx hb (hr.trans t1) t2 fin b4.2.2 t3
    | long x =>
      obtain rfl : w = _ := gw
      exact W.lret hx hb (hr.trans gt.1) fin b4.2.2 gt.2
    | float x => exact absurd gt (fun z => z)
    | double x => exact absurd gt (fun z => z)
    | null =>
      obtain ⟨⟨rt, t1, t2⟩, t3⟩ := gt
      exact W.aret hx hb (hr.trans t1) t2 (xrf_or (v := .null) trivial gw) fin b4.2.2 t3
    | ref i =>
      obtain ⟨⟨rt, t1, t2⟩, t3⟩ := gt
      exact W.aret hx hb (hr.trans t1) t2 (xrf_or (v := .ref i) trivial gw) fin b4.2.2 t3
    | retAddr i =>
      obtain ⟨⟨rt, t1, t2⟩, t3⟩ := gt
      exact W.aret hx hb (hr.trans t1) t2 (xrf_or (v := .retAddr i) trivial gw) fin b4.2.2 t3
theorem x_back {p : Program} {e : Env} {R : Room} {s : State} {m : MethodId} {args : Array Value} {below : List Frame} {meth : Method} {c : Code} {A : Nat → Prop} {ad0 : List Nat} {F : State → Prop} {H : Heap} {locs : List Loc} {cells slots : Nat} {tys : List (ClassId × FieldType)} {ad : List Nat} {ws : va_W} {ls : Array Slot} {st0 rest : List Value} {a : Array Value} {kc1 ks1 kc2 ks2 : Nat} {Q1 : Option Value → List xCl → Prop}
    (hr : va_Run p l e R s m args below meth c H locs cells slots kc1 ks1 (F0 m pc ls st0) rest (xQ D ρ ad (va_A ws H.size) Q1 a) (va_A ws H.size)) (CC : xCx ρ y p R s m args meth c A d) (E : xEn l D ρ y p e R s m args below meth c A ad0 F Q) (hle : xle ad0 ad) (X : xWo D ρ R s A H locs cells slots tys ad ws M kc ks) (hst : xvs ρ ad st rest) (hl : xls ρ ad y.2.2.1 L ls) (h2 : kc1 + kc2 ≤ kc) (h3 : ks1 + ks2 ≤ ks)
    (kk : ∀ r N, Q1 r N → Xw l D ρ y (pc + 3) L (r.toList ++ st) N d kc2 ks2 Q) : W p l e R s m args below meth c H locs cells slots F (F0 m pc ls st0) := by
  obtain ⟨hx, hb, hr', hml, hown, hts, hNw, hRO, hlk, hA, hfr, hlo, hnm⟩ := id CC
  obtain ⟨hK, hP, hD, hS, hW, hc1, hs1⟩ := id X
  intro T hT Xs
  obtain ⟨v, st₀, t, T', Lc, g0, X', hL, e1, e2, ⟨⟨r, r1, tys1, ad1, ws1, M1, hv, hq, hret, hP1, hK1, hD1, hW1, hle1⟩, hz, hk⟩, stp⟩ := hr T hT Xs
  cases hv
  rw [g0] at hz hk
  have hfree : ∀ q, va_A ws H.size q → A q := by
    rintro q (⟨k, e', h⟩ | h)
    · exact hD.2 k _ h
    · exact hA q (Nat.le_trans hS.1 h)
  have hS1 : va_S A s.heap T'.heap (locs ++ Lc) := ⟨Nat.le_trans hS.1 (by rw [e1]; exact hz), fun q h1 h2 => by
      rw [e1, hk q (Nat.lt_of_lt_of_le h1 hS.1) (fun z => h2 (hfree q z))]
      exact hS.2.1 q h1 h2, fun q hq' => by
      rcases List.mem_append.mp hq' with h | h
      · exact hS.2.2 q h
      · exact hfree _ (hL q h)⟩
  have hvm : s.vm.Alike t.vm := by rw [← e2]; exact X'.warmed.alike
  obtain ⟨t2, a1, b1⟩ := kk r M1 hq p e R s m args below meth c A ad0 F T'.heap (locs ++ Lc) (cells + kc1) (slots + ks1) tys1 ad1 ws1 ls (v.toList ++ rest) CC E (xle_tr hle hle1) ⟨va_K.moved hvm.symm hK1, by rw [e1]; exact hP1, hD1.weaken (fun k q _ h => hfree _ h), hS1, hW1, by omega, by omega⟩ (xvs_app (xret_list hret) (xvs_mono hle1 hst)) (xls_mono hle1 hl) T' rfl X'
  exact ⟨t2, stp t2 a1, b1⟩
/-- what the tables say of a method -/
def xMk (z : xM) (n : Nat) : Prop := Cond.code z.1 z.2.1 z.2.2.1 z.2.2.2 ∈ Gw ∧ Cond.initialized z.1.cls ∈ Gw ∧ (z.1.cls ≠ "java/lang/invoke/MethodHandle" ∧ z.1.cls ≠ "java/lang/invoke/VarHandle") ∧ (parseMethodDescriptor z.1.desc).map (fun d => d.parameters.length) = some n ∧ plainFor z.1 = true ∧ z.2.2.1 ≤ 26
theorem xgood (z : xM) (h : Cond.code z.1 z.2.1 z.2.2.1 z.2.2.2 ∈ Gw) : GoodIn Gw (xws z) := by
  intro w hw
  rcases List.mem_cons.mp hw with rfl | hw
  · exact ⟨h, Gw_ok _ h⟩
  · exact ⟨hw, Gw_ok _ hw⟩
theorem x_callB {n index kc1 ks1 d1 : Nat} {p : Program} {R : Room} {s : State} {m : MethodId} {args : Array Value} {meth : Method} {c : Code} {A : Nat → Prop} (CC : xCx ρ y p R s m args meth c A d) (hz : xMk z n) (hdp : d1 + 1 ≤ d) (hlk : Cond.methodLink y.1.cls index z.1 ∈ Gw) :
    CallB R s args y.1.cls index z.1 z.2.1 z.2.2.1 z.2.2.2 (xws z) (xrm d1 kc1 ks1) kc1 ks1 n := by
  obtain ⟨hx, hb, hr', hml, hown, hts, hNw, hRO, hlk', hA, hfr, hlo, hnm⟩ := CC
  obtain ⟨z1, z2, z3, z4, z5, z6⟩ := hz
  exact callB_of n hts (xgood z z1) rfl rfl rfl (hts _ z2) (hts _ hlk) ⟨z3.1, z3.2, z4⟩ ⟨by show d1 + 1 ≤ R.frames; omega, by show 8 + (z.2.2.1 + 11) + d1 * 45 ≤ R.locals; omega⟩
theorem x_callN {n index kc1 ks1 d1 : Nat} {host : String} {p : Program} {R : Room} {s : State} {m : MethodId} {args : Array Value} {meth : Method} {c : Code} {A : Nat → Prop} (CC : xCx ρ y p R s m args meth c A d) (hz : xMk z n) (hdp : d1 + 1 ≤ d) (hlk : Cond.methodLinkNest y.1.cls index z.1 host ∈ Nw) :
    va_CN R s args y.1.cls index z.1 host z.2.1 z.2.2.1 z.2.2.2 (xws z) (xrm d1 kc1 ks1) kc1 ks1 n := by
  obtain ⟨hx, hb, hr', hml, hown, hts, hNw, hRO, hlk', hA, hfr, hlo, hnm⟩ := CC
  obtain ⟨z1, z2, z3, z4, z5, z6⟩ := hz
  exact va_cnB n hts (xgood z z1) rfl rfl rfl (hNw _ hlk) (hts _ z2) ⟨z3.1, z3.2, z4⟩ ⟨by show d1 + 1 ≤ R.frames; omega, by show 8 + (z.2.2.1 + 11) + d1 * 45 ≤ R.locals; omega⟩
/-- the callee's start, out of the caller's world -/
theorem x_pre {p : Program} {R : Room} {s : State} {m : MethodId} {args : Array Value} {meth : Method} {c : Code} {A : Nat → Prop} {H : Heap} {locs : List Loc} {cells slots : Nat} {tys : List (ClassId × FieldType)} {ad : List Nat} {ws : va_W} {As' : List Value} (CC : xCx ρ y p R s m args meth c A d) (X : xWo D ρ R s A H locs cells slots tys ad ws M kc ks) :
    PreS s H (xPc D ρ As' tys ws H.size) As' := by
  obtain ⟨hx, hb, hr', hml, hown, hts, hNw, hRO, hlk', hA, hfr, hlo, hnm⟩ := CC
  obtain ⟨hK, hP, hD, hS, hW, hc1, hs1⟩ := X
  have hfree : ∀ q, va_A ws H.size q → A q := by
    rintro q (⟨k, e', h⟩ | h)
    · exact hD.2 k _ h
    · exact hA q (Nat.le_trans hS.1 h)
  refine ⟨xblind, fun U hU hWm => ⟨rfl, by rw [hU], by rw [hU]; exact hP, va_K.moved hWm.alike hK, hD.weaken (fun _ _ _ _ => trivial), fun w hw => xnw_warm (Nw_ok w hw) hWm (hNw w hw), ?_⟩⟩
  rw [hU]
  exact xRO_narrow (xRO_kept (xRO_moved hWm.alike hRO) (fun a h1 h2 => hS.2.1 a h1 h2)) hfree
theorem x_args {tys : List (ClassId × FieldType)} {ad : List Nat} {As stk st' : List Value} (h : xvs ρ ad (As.reverse ++ st) st') : ∃ As' rest, st' = As'.reverse ++ rest ∧ xvs ρ ad As As' ∧ xvs ρ ad st rest := by
  obtain ⟨t1, t2, rfl, h1, h2⟩ := xvs_split h
  refine ⟨t1.reverse, t2, by rw [List.reverse_reverse], ?_, h2⟩
  have := xvs_rev h1
  rw [List.reverse_reverse] at this
  exact this
variable {n index d1 kc1 ks1 kc2 ks2 i ci N : Nat} {As stk : List Value} {Q1 : Option Value → List xCl → Prop} {T : u_T} {ty : Nat → FieldType} {fs : List Value} {host : String}
theorem x_callS (hd : decode y.2.1 pc = .ok (.invokestatic index, 3)) (hstk : stk = As.reverse ++ st) (hz : xMk z n) (hsta : Cond.static z.1 ∈ Gw) (hlk : Cond.methodLink y.1.cls index z.1 ∈ Gw ∨ Cond.methodLinkNest y.1.cls index z.1 host ∈ Nw) (hn : As.length = n) (hsl : (lg_sl As).length ≤ z.2.2.1) (hcat : (st.map fun v => v.category).sum ≤ 8) (hdp : d1 + 1 ≤ d) (h2 : kc1 + kc2 ≤ kc) (h3 : ks1 + ks2 ≤ ks)
    (kz : Xw l D ρ z 0 (lv_args 0 As) [] M d1 kc1 ks1 Q1) (kk : ∀ r N, Q1 r N → Xw l D ρ y (pc + 3) L (r.toList ++ st) N d kc2 ks2 Q) : Xw l D ρ y pc L stk M d kc ks Q := by
  intro p e R s m args below meth c A ad0 F H locs cells slots tys ad ws ls st' CC E hle X hst hl
  subst hstk
  obtain ⟨As', rest, hsteq, hAs, hst2⟩ := x_args (tys := tys) (stk := []) hst
  clear hst
  subst hsteq
  rename xvs ρ ad _ rest => hst
  obtain ⟨hx, hb, hr', hml, hown, hts, hNw, hRO, hlk', hA, hfr, hlo, hnm⟩ := id CC
  obtain ⟨hK, hP, hD, hS, hW, hc1, hs1⟩ := id X
  have hMet := x_met kz hz.2.2.2.2.1 hsl H.size hW hAs
  have hc0 : 2 * (F0 m pc ls (As'.reverse ++ rest)).monitorRoom + (rest.map fun v => v.category).sum ≤ 8 := lv_room (by rw [xvs_cat hst]; exact hcat)
  rcases hlk with hlk | hlk
  · exact x_back (va_runS (As := As') (rest := rest) ⟨hx, hb, hml, hown, hts⟩ hMet ⟨x_callB CC hz hdp hlk, hts _ hsta⟩ (x_pre CC X) rfl ((xvs_len hAs).trans hn) (xls_size hl) rfl hc0 hd ⟨by omega, by omega⟩) CC E hle X hst hl h2 h3 kk
  · exact x_back (va_runSN (As := As') (rest := rest) ⟨hx, hb, hml, hown, hts⟩ hMet ⟨x_callN CC hz hdp hlk, hts _ hsta, trivial⟩ (x_pre CC X) rfl ((xvs_len hAs).trans hn) (xls_size hl) rfl hc0 hd ⟨by omega, by omega⟩) CC E hle X hst hl h2 h3 kk
theorem x_callI (hd : decode y.2.1 pc = .ok (.invokespecial index, 3)) (hstk : stk = As.reverse ++ .ref i :: st) (hz : xMk z n) (hret : z.2.2.2 = none) (hini : z.1.name = "<init>") (hins : Cond.instanceMethod z.1 ∈ Gw) (hlk : Cond.methodLink y.1.cls index z.1 ∈ Gw) (hn : As.length = n) (hsl : (lg_sl (.ref i :: As)).length ≤ z.2.2.1) (hcat : (st.map fun v => v.category).sum ≤ 8) (hdp : d1 + 1 ≤ d) (h2 : kc1 + kc2 ≤ kc) (h3 : ks1 + ks2 ≤ ks)
    (kz : Xw l D ρ z 0 (lv_args 0 (.ref i :: As)) [] M d1 kc1 ks1 Q1) (kk : ∀ r N, Q1 r N → Xw l D ρ y (pc + 3) L (r.toList ++ st) N d kc2 ks2 Q) : Xw l D ρ y pc L stk M d kc ks Q := by
  intro p e R s m args below meth c A ad0 F H locs cells slots tys ad ws ls st' CC E hle X hst hl
  subst hstk
  obtain ⟨As', rest, hsteq, hAs, hst2⟩ := x_args (tys := tys) (stk := []) hst
  clear hst
  subst hsteq
  rename xvs ρ ad _ rest => hst
  obtain ⟨w0, t0, rfl, hri, hst⟩ := hst
  obtain ⟨a, ha, rfl⟩ := id hri
  obtain ⟨hx, hb, hr', hml, hown, hts, hNw, hRO, hlk', hA, hfr, hlo, hnm⟩ := id CC
  obtain ⟨hK, hP, hD, hS, hW, hc1, hs1⟩ := id X
  have hMet := x_met kz hz.2.2.2.2.1 hsl H.size hW (As' := .ref a :: As') ⟨_, _, rfl, hri, hAs⟩
  have hc0 : 2 * (F0 m pc ls (As'.reverse ++ Value.ref a :: t0)).monitorRoom + (t0.map fun v => v.category).sum ≤ 8 := lv_room (by rw [xvs_cat hst]; exact hcat)
  have hB := x_callB (kc1 := kc1) (ks1 := ks1) CC hz hdp hlk
  rw [hret] at hB
  exact x_back (va_runI (As := As') (rest := t0) ⟨hx, hb, hml, hown, hts⟩ hMet ⟨hB, hini, hts _ hins⟩ (x_pre CC X) rfl ((xvs_len hAs).trans hn) (xls_size hl) rfl hc0 hd ⟨by omega, by omega⟩) CC E hle X hst hl h2 h3 kk
theorem x_callV (hd : decode y.2.1 pc = .ok (.invokevirtual index, 3)) (hstk : stk = As.reverse ++ .ref i :: st) (hz : xMk z n) (hins : Cond.instanceMethod z.1 ∈ Gw) (hsel : Cond.selects z.1.cls z.1 z.1 ∈ Gw) (hlk : Cond.methodLink y.1.cls index z.1 ∈ Gw ∨ Cond.methodLinkNest y.1.cls index z.1 host ∈ Nw) (hn : As.length = n) (hsl : (lg_sl (.ref i :: As)).length ≤ z.2.2.1) (hcat : (st.map fun v => v.category).sum ≤ 8) (hC : xCk ci z.1.cls T N ty) (hM : M[i]? = some (.inl (ci, fs))) (hdp : d1 + 1 ≤ d) (h2 : kc1 + kc2 ≤ kc) (h3 : ks1 + ks2 ≤ ks)
    (kz : Xw l D ρ z 0 (lv_args 0 (.ref i :: As)) [] M d1 kc1 ks1 Q1) (kk : ∀ r N, Q1 r N → Xw l D ρ y (pc + 3) L (r.toList ++ st) N d kc2 ks2 Q) : Xw l D ρ y pc L stk M d kc ks Q := by
  intro p e R s m args below meth c A ad0 F H locs cells slots tys ad ws ls st' CC E hle X hst hl
  subst hstk
  obtain ⟨As', rest, hsteq, hAs, hst2⟩ := x_args (tys := tys) (stk := []) hst
  clear hst
  subst hsteq
  rename xvs ρ ad _ rest => hst
  obtain ⟨w0, t0, rfl, hri, hst⟩ := hst
  obtain ⟨a, ha, rfl⟩ := id hri
  obtain ⟨hx, hb, hr', hml, hown, hts, hNw, hRO, hlk', hA, hfr, hlo, hnm⟩ := id CC
  obtain ⟨hK, hP, hD, hS, hW, hc1, hs1⟩ := id X
  obtain ⟨a', e', k1, k2, fs', rfl, k3⟩ := hW.2.2 _ _ hM
  cases ha.symm.trans k1
  have hrec := va_recv hK hP hC.1 k2
  have hMet := x_met kz hz.2.2.2.2.1 hsl H.size hW (As' := .ref a :: As') ⟨_, _, rfl, hri, hAs⟩
  have hc0 : 2 * (F0 m pc ls (As'.reverse ++ Value.ref a :: t0)).monitorRoom + (t0.map fun v => v.category).sum ≤ 8 := lv_room (by rw [xvs_cat hst]; exact hcat)
  have hpre := x_pre (As' := .ref a :: As') CC X
  rcases hlk with hlk | hlk
  · exact x_back (va_runV (As := As') (rest := t0) ⟨hx, hb, hml, hown, hts⟩ hMet ⟨x_callB CC hz hdp hlk, hts _ hins, hts _ hsel⟩ ⟨hpre.1, hrec, hpre.2⟩ rfl ((xvs_len hAs).trans hn) (xls_size hl) rfl hc0 hd ⟨by omega, by omega⟩) CC E hle X hst hl h2 h3 kk
  · exact x_back (va_runVN (As := As') (rest := t0) ⟨hx, hb, hml, hown, hts⟩ hMet ⟨x_callN CC hz hdp hlk, hts _ hins, hts _ hsel⟩ ⟨hpre.1, hrec, hpre.2⟩ rfl ((xvs_len hAs).trans hn) (xls_size hl) rfl hc0 hd ⟨by omega, by omega⟩) CC E hle X hst hl h2 h3 kk
end XC
end
section
theorem lay_ContentStore : ∀ k, k < 8 → u_lay "ContentStore" F_ContentStore k ∈ Gw := fun k hk => by
  match k, hk with
  | 0, _ => exact (gw 121 (by decide +kernel) rfl)
  | 1, _ => exact (gw 123 (by decide +kernel) rfl)
  | 2, _ => exact (gw 125 (by decide +kernel) rfl)
  | 3, _ => exact (gw 127 (by decide +kernel) rfl)
  | 4, _ => exact (gw 129 (by decide +kernel) rfl)
  | 5, _ => exact (gw 131 (by decide +kernel) rfl)
  | 6, _ => exact (gw 133 (by decide +kernel) rfl)
  | 7, _ => exact (gw 135 (by decide +kernel) rfl)
  | k + 8, h => exact absurd h (by omega)
theorem ck_ContentStore : xCk 0 "ContentStore" F_ContentStore 8 t_ContentStore := ⟨rfl, fun w hw => by
    obtain ⟨k, hk, rfl⟩ := List.mem_map.mp hw
    exact lay_ContentStore k (List.mem_range.mp hk), by decide +kernel, by decide +kernel⟩
theorem df_ContentStore : ∀ j, j < 8 → defaultValue (t_ContentStore j) = vp_V [.null, .null, .null, .null, .int 0, .int 0, .int 0, .int 0] j := by decide +kernel
theorem ki_ContentStore : Cond.instantiable "ContentStore" 8 ∈ Gw := (gw 52 (by decide +kernel) rfl)
theorem kz_ContentStore : Cond.initialized "ContentStore" ∈ Gw := (gw 36 (by decide +kernel) rfl)
theorem lay_Shelf : ∀ k, k < 3 → u_lay "ContentStore$Shelf" F_Shelf k ∈ Gw := fun k hk => by
  match k, hk with
  | 0, _ => exact (gw 102 (by decide +kernel) rfl)
  | 1, _ => exact (gw 104 (by decide +kernel) rfl)
  | 2, _ => exact (gw 106 (by decide +kernel) rfl)
  | k + 3, h => exact absurd h (by omega)
theorem ck_Shelf : xCk 1 "ContentStore$Shelf" F_Shelf 3 t_Shelf := ⟨rfl, fun w hw => by
    obtain ⟨k, hk, rfl⟩ := List.mem_map.mp hw
    exact lay_Shelf k (List.mem_range.mp hk), by decide +kernel, by decide +kernel⟩
theorem df_Shelf : ∀ j, j < 3 → defaultValue (t_Shelf j) = vp_V [.int 0, .null, .int 0] j := by decide +kernel
theorem ki_Shelf : Cond.instantiable "ContentStore$Shelf" 3 ∈ Gw := (gw 60 (by decide +kernel) rfl)
theorem kz_Shelf : Cond.initialized "ContentStore$Shelf" ∈ Gw := (gw 37 (by decide +kernel) rfl)
theorem lay_ArrayList : ∀ k, k < 3 → u_lay "java/util/ArrayList" F_ArrayList k ∈ Gw := fun k hk => by
  match k, hk with
  | 0, _ => exact (gw 90 (by decide +kernel) rfl)
  | 1, _ => exact (gw 92 (by decide +kernel) rfl)
  | 2, _ => exact (gw 94 (by decide +kernel) rfl)
  | k + 3, h => exact absurd h (by omega)
theorem ck_ArrayList : xCk 2 "java/util/ArrayList" F_ArrayList 3 t_ArrayList := ⟨rfl, fun w hw => by
    obtain ⟨k, hk, rfl⟩ := List.mem_map.mp hw
    exact lay_ArrayList k (List.mem_range.mp hk), by decide +kernel, by decide +kernel⟩
theorem df_ArrayList : ∀ j, j < 3 → defaultValue (t_ArrayList j) = vp_V [.null, .int 0, .int 0] j := by decide +kernel
theorem ki_ArrayList : Cond.instantiable "java/util/ArrayList" 3 ∈ Gw := (gw 72 (by decide +kernel) rfl)
theorem kz_ArrayList : Cond.initialized "java/util/ArrayList" ∈ Gw := (gw 41 (by decide +kernel) rfl)
theorem lay_Put : ∀ k, k < 4 → u_lay "ContentStore$Put" F_Put k ∈ Gw := fun k hk => by
  match k, hk with
  | 0, _ => exact (gw 156 (by decide +kernel) rfl)
  | 1, _ => exact (gw 158 (by decide +kernel) rfl)
  | 2, _ => exact (gw 160 (by decide +kernel) rfl)
  | 3, _ => exact (gw 162 (by decide +kernel) rfl)
  | k + 4, h => exact absurd h (by omega)
theorem ck_Put : xCk 3 "ContentStore$Put" F_Put 4 t_Put := ⟨rfl, fun w hw => by
    obtain ⟨k, hk, rfl⟩ := List.mem_map.mp hw
    exact lay_Put k (List.mem_range.mp hk), by decide +kernel, by decide +kernel⟩
theorem df_Put : ∀ j, j < 4 → defaultValue (t_Put j) = vp_V [.null, .long 0, .int 0, .int 0] j := by decide +kernel
theorem ki_Put : Cond.instantiable "ContentStore$Put" 4 ∈ Gw := (gw 143 (by decide +kernel) rfl)
theorem kz_Put : Cond.initialized "ContentStore$Put" ∈ Gw := (gw 43 (by decide +kernel) rfl)
theorem lay_Blob : ∀ k, k < 7 → u_lay "ContentStore$Blob" F_Blob k ∈ Gw := fun k hk => by
  match k, hk with
  | 0, _ => exact (gw 349 (by decide +kernel) rfl)
  | 1, _ => exact (gw 351 (by decide +kernel) rfl)
  | 2, _ => exact (gw 353 (by decide +kernel) rfl)
  | 3, _ => exact (gw 355 (by decide +kernel) rfl)
  | 4, _ => exact (gw 357 (by decide +kernel) rfl)
  | 5, _ => exact (gw 359 (by decide +kernel) rfl)
  | 6, _ => exact (gw 361 (by decide +kernel) rfl)
  | k + 7, h => exact absurd h (by omega)
theorem ck_Blob : xCk 4 "ContentStore$Blob" F_Blob 7 t_Blob := ⟨rfl, fun w hw => by
    obtain ⟨k, hk, rfl⟩ := List.mem_map.mp hw
    exact lay_Blob k (List.mem_range.mp hk), by decide +kernel, by decide +kernel⟩
theorem df_Blob : ∀ j, j < 7 → defaultValue (t_Blob j) = vp_V [.int 0, .int 0, .long 0, .null, .null, .int 0, .int 0] j := by decide +kernel
theorem ki_Blob : Cond.instantiable "ContentStore$Blob" 7 ∈ Gw := (gw 252 (by decide +kernel) rfl)
theorem kz_Blob : Cond.initialized "ContentStore$Blob" ∈ Gw := (gw 46 (by decide +kernel) rfl)
theorem lay_Part : ∀ k, k < 2 → u_lay "ContentStore$Part" F_Part k ∈ Gw := fun k hk => by
  match k, hk with
  | 0, _ => exact (gw 273 (by decide +kernel) rfl)
  | 1, _ => exact (gw 275 (by decide +kernel) rfl)
  | k + 2, h => exact absurd h (by omega)
theorem ck_Part : xCk 5 "ContentStore$Part" F_Part 2 t_Part := ⟨rfl, fun w hw => by
    obtain ⟨k, hk, rfl⟩ := List.mem_map.mp hw
    exact lay_Part k (List.mem_range.mp hk), by decide +kernel, by decide +kernel⟩
theorem df_Part : ∀ j, j < 2 → defaultValue (t_Part j) = vp_V [.null, .int 0] j := by decide +kernel
theorem ki_Part : Cond.instantiable "ContentStore$Part" 2 ∈ Gw := (gw 263 (by decide +kernel) rfl)
theorem kz_Part : Cond.initialized "ContentStore$Part" ∈ Gw := (gw 47 (by decide +kernel) rfl)
theorem lay_ContentStoreModel : ∀ k, k < 24 → u_lay "ContentStoreModel" F_ContentStoreModel k ∈ Gw := fun k hk => by
  match k, hk with
  | 0, _ => exact (gw 521 (by decide +kernel) rfl)
  | 1, _ => exact (gw 523 (by decide +kernel) rfl)
  | 2, _ => exact (gw 525 (by decide +kernel) rfl)
  | 3, _ => exact (gw 527 (by decide +kernel) rfl)
  | 4, _ => exact (gw 529 (by decide +kernel) rfl)
  | 5, _ => exact (gw 531 (by decide +kernel) rfl)
  | 6, _ => exact (gw 533 (by decide +kernel) rfl)
  | 7, _ => exact (gw 535 (by decide +kernel) rfl)
  | 8, _ => exact (gw 537 (by decide +kernel) rfl)
  | 9, _ => exact (gw 539 (by decide +kernel) rfl)
  | 10, _ => exact (gw 541 (by decide +kernel) rfl)
  | 11, _ => exact (gw 543 (by decide +kernel) rfl)
  | 12, _ => exact (gw 545 (by decide +kernel) rfl)
  | 13, _ => exact (gw 547 (by decide +kernel) rfl)
  | 14, _ => exact (gw 549 (by decide +kernel) rfl)
  | 15, _ => exact (gw 551 (by decide +kernel) rfl)
  | 16, _ => exact (gw 553 (by decide +kernel) rfl)
  | 17, _ => exact (gw 555 (by decide +kernel) rfl)
  | 18, _ => exact (gw 557 (by decide +kernel) rfl)
  | 19, _ => exact (gw 559 (by decide +kernel) rfl)
  | 20, _ => exact (gw 561 (by decide +kernel) rfl)
  | 21, _ => exact (gw 563 (by decide +kernel) rfl)
  | 22, _ => exact (gw 565 (by decide +kernel) rfl)
  | 23, _ => exact (gw 567 (by decide +kernel) rfl)
  | k + 24, h => exact absurd h (by omega)
theorem ck_ContentStoreModel : xCk 6 "ContentStoreModel" F_ContentStoreModel 24 t_ContentStoreModel := ⟨rfl, fun w hw => by
    obtain ⟨k, hk, rfl⟩ := List.mem_map.mp hw
    exact lay_ContentStoreModel k (List.mem_range.mp hk), by decide +kernel, by decide +kernel⟩
theorem df_ContentStoreModel : ∀ j, j < 24 → defaultValue (t_ContentStoreModel j) = vp_V [.int 0, .int 0, .int 0, .null, .null, .null, .null, .null, .int 0, .null, .null, .null, .int 0, .null, .null, .null, .null, .null, .null, .null, .null, .null, .int 0, .null] j := by decide +kernel
theorem ki_ContentStoreModel : Cond.instantiable "ContentStoreModel" 24 ∈ Gw := (gw 492 (by decide +kernel) rfl)
theorem kz_ContentStoreModel : Cond.initialized "ContentStoreModel" ∈ Gw := (gw 42 (by decide +kernel) rfl)
theorem fk_ArrayList_9 : xFk "java/util/ArrayList" 9 F_ArrayList 0 := ⟨"java/util/ArrayList", (gw 85 (by decide +kernel) rfl), Or.inl rfl⟩
theorem fk_ArrayList_48 : xFk "java/util/ArrayList" 48 F_ArrayList 1 := ⟨"java/util/ArrayList", (gw 86 (by decide +kernel) rfl), Or.inl rfl⟩
theorem fk_ArrayList_63 : xFk "java/util/ArrayList" 63 F_ArrayList 2 := ⟨"java/util/ArrayList", (gw 88 (by decide +kernel) rfl), Or.inr (gw 89 (by decide +kernel) rfl)⟩
theorem fk_Shelf_9 : xFk "ContentStore$Shelf" 9 F_Shelf 0 := ⟨"ContentStore$Shelf", (gw 97 (by decide +kernel) rfl), Or.inl rfl⟩
theorem fk_Shelf_18 : xFk "ContentStore$Shelf" 18 F_Shelf 1 := ⟨"ContentStore$Shelf", (gw 98 (by decide +kernel) rfl), Or.inl rfl⟩
theorem fk_ContentStore_159 : xFk "ContentStore" 159 F_Shelf 1 := ⟨"ContentStore$Shelf", (gw 99 (by decide +kernel) rfl), Or.inl rfl⟩
theorem fk_Shelf_34 : xFk "ContentStore$Shelf" 34 F_Shelf 2 := ⟨"ContentStore$Shelf", (gw 100 (by decide +kernel) rfl), Or.inl rfl⟩
theorem fk_ContentStore_167 : xFk "ContentStore" 167 F_Shelf 2 := ⟨"ContentStore$Shelf", (gw 101 (by decide +kernel) rfl), Or.inl rfl⟩
theorem fk_ContentStore_23 : xFk "ContentStore" 23 F_ContentStore 0 := ⟨"ContentStore", (gw 113 (by decide +kernel) rfl), Or.inl rfl⟩
theorem fk_ContentStore_29 : xFk "ContentStore" 29 F_ContentStore 1 := ⟨"ContentStore", (gw 114 (by decide +kernel) rfl), Or.inl rfl⟩
theorem fk_ContentStore_35 : xFk "ContentStore" 35 F_ContentStore 2 := ⟨"ContentStore", (gw 115 (by decide +kernel) rfl), Or.inl rfl⟩
theorem fk_ContentStore_39 : xFk "ContentStore" 39 F_ContentStore 3 := ⟨"ContentStore", (gw 116 (by decide +kernel) rfl), Or.inl rfl⟩
theorem fk_ContentStore_47 : xFk "ContentStore" 47 F_ContentStore 4 := ⟨"ContentStore", (gw 117 (by decide +kernel) rfl), Or.inl rfl⟩
theorem fk_ContentStore_43 : xFk "ContentStore" 43 F_ContentStore 5 := ⟨"ContentStore", (gw 118 (by decide +kernel) rfl), Or.inl rfl⟩
theorem fk_ContentStore_139 : xFk "ContentStore" 139 F_ContentStore 6 := ⟨"ContentStore", (gw 119 (by decide +kernel) rfl), Or.inl rfl⟩
theorem fk_ContentStore_153 : xFk "ContentStore" 153 F_ContentStore 7 := ⟨"ContentStore", (gw 120 (by decide +kernel) rfl), Or.inl rfl⟩
theorem fk_Put_15 : xFk "ContentStore$Put" 15 F_Put 0 := ⟨"ContentStore$Put", (gw 149 (by decide +kernel) rfl), Or.inl rfl⟩
theorem fk_ContentStore_76 : xFk "ContentStore" 76 F_Put 0 := ⟨"ContentStore$Put", (gw 150 (by decide +kernel) rfl), Or.inl rfl⟩
theorem fk_Put_21 : xFk "ContentStore$Put" 21 F_Put 1 := ⟨"ContentStore$Put", (gw 151 (by decide +kernel) rfl), Or.inl rfl⟩
theorem fk_Put_29 : xFk "ContentStore$Put" 29 F_Put 2 := ⟨"ContentStore$Put", (gw 152 (by decide +kernel) rfl), Or.inl rfl⟩
theorem fk_ContentStore_65 : xFk "ContentStore" 65 F_Put 2 := ⟨"ContentStore$Put", (gw 153 (by decide +kernel) rfl), Or.inl rfl⟩
theorem fk_Put_25 : xFk "ContentStore$Put" 25 F_Put 3 := ⟨"ContentStore$Put", (gw 154 (by decide +kernel) rfl), Or.inl rfl⟩
theorem fk_ContentStore_68 : xFk "ContentStore" 68 F_Put 3 := ⟨"ContentStore$Put", (gw 155 (by decide +kernel) rfl), Or.inl rfl⟩
theorem fk_Part_13 : xFk "ContentStore$Part" 13 F_Part 0 := ⟨"ContentStore$Part", (gw 269 (by decide +kernel) rfl), Or.inl rfl⟩
theorem fk_Shelf_39 : xFk "ContentStore$Shelf" 39 F_Part 0 := ⟨"ContentStore$Part", (gw 270 (by decide +kernel) rfl), Or.inl rfl⟩
theorem fk_Blob_41 : xFk "ContentStore$Blob" 41 F_Part 0 := ⟨"ContentStore$Part", (gw 271 (by decide +kernel) rfl), Or.inl rfl⟩
theorem fk_Shelf_50 : xFk "ContentStore$Shelf" 50 F_Part 1 := ⟨"ContentStore$Part", (gw 272 (by decide +kernel) rfl), Or.inl rfl⟩
theorem fk_Blob_9 : xFk "ContentStore$Blob" 9 F_Blob 0 := ⟨"ContentStore$Blob", (gw 336 (by decide +kernel) rfl), Or.inl rfl⟩
theorem fk_ContentStore_94 : xFk "ContentStore" 94 F_Blob 0 := ⟨"ContentStore$Blob", (gw 337 (by decide +kernel) rfl), Or.inl rfl⟩
theorem fk_Blob_19 : xFk "ContentStore$Blob" 19 F_Blob 1 := ⟨"ContentStore$Blob", (gw 338 (by decide +kernel) rfl), Or.inl rfl⟩
theorem fk_Blob_26 : xFk "ContentStore$Blob" 26 F_Blob 2 := ⟨"ContentStore$Blob", (gw 339 (by decide +kernel) rfl), Or.inl rfl⟩
theorem fk_ContentStore_90 : xFk "ContentStore" 90 F_Blob 2 := ⟨"ContentStore$Blob", (gw 340 (by decide +kernel) rfl), Or.inl rfl⟩
theorem fk_Blob_30 : xFk "ContentStore$Blob" 30 F_Blob 3 := ⟨"ContentStore$Blob", (gw 341 (by decide +kernel) rfl), Or.inl rfl⟩
theorem fk_ContentStore_127 : xFk "ContentStore" 127 F_Blob 3 := ⟨"ContentStore$Blob", (gw 342 (by decide +kernel) rfl), Or.inl rfl⟩
theorem fk_Blob_51 : xFk "ContentStore$Blob" 51 F_Blob 4 := ⟨"ContentStore$Blob", (gw 343 (by decide +kernel) rfl), Or.inl rfl⟩
theorem fk_ContentStore_120 : xFk "ContentStore" 120 F_Blob 4 := ⟨"ContentStore$Blob", (gw 344 (by decide +kernel) rfl), Or.inl rfl⟩
theorem fk_Blob_34 : xFk "ContentStore$Blob" 34 F_Blob 5 := ⟨"ContentStore$Blob", (gw 345 (by decide +kernel) rfl), Or.inl rfl⟩
theorem fk_ContentStore_142 : xFk "ContentStore" 142 F_Blob 5 := ⟨"ContentStore$Blob", (gw 346 (by decide +kernel) rfl), Or.inl rfl⟩
theorem fk_Blob_37 : xFk "ContentStore$Blob" 37 F_Blob 6 := ⟨"ContentStore$Blob", (gw 347 (by decide +kernel) rfl), Or.inl rfl⟩
theorem fk_ContentStore_176 : xFk "ContentStore" 176 F_Blob 6 := ⟨"ContentStore$Blob", (gw 348 (by decide +kernel) rfl), Or.inl rfl⟩
theorem fk_ContentStoreModel_70 : xFk "ContentStoreModel" 70 F_ContentStoreModel 0 := ⟨"ContentStoreModel", (gw 497 (by decide +kernel) rfl), Or.inl rfl⟩
theorem fk_ContentStoreModel_66 : xFk "ContentStoreModel" 66 F_ContentStoreModel 1 := ⟨"ContentStoreModel", (gw 498 (by decide +kernel) rfl), Or.inl rfl⟩
theorem fk_ContentStoreModel_80 : xFk "ContentStoreModel" 80 F_ContentStoreModel 2 := ⟨"ContentStoreModel", (gw 499 (by decide +kernel) rfl), Or.inl rfl⟩
theorem fk_ContentStoreModel_7 : xFk "ContentStoreModel" 7 F_ContentStoreModel 3 := ⟨"ContentStoreModel", (gw 500 (by decide +kernel) rfl), Or.inl rfl⟩
theorem fk_ContentStoreModel_13 : xFk "ContentStoreModel" 13 F_ContentStoreModel 4 := ⟨"ContentStoreModel", (gw 501 (by decide +kernel) rfl), Or.inl rfl⟩
theorem fk_ContentStoreModel_17 : xFk "ContentStoreModel" 17 F_ContentStoreModel 5 := ⟨"ContentStoreModel", (gw 502 (by decide +kernel) rfl), Or.inl rfl⟩
theorem fk_ContentStoreModel_21 : xFk "ContentStoreModel" 21 F_ContentStoreModel 6 := ⟨"ContentStoreModel", (gw 503 (by decide +kernel) rfl), Or.inl rfl⟩
theorem fk_ContentStoreModel_24 : xFk "ContentStoreModel" 24 F_ContentStoreModel 7 := ⟨"ContentStoreModel", (gw 504 (by decide +kernel) rfl), Or.inl rfl⟩
theorem fk_ContentStoreModel_137 : xFk "ContentStoreModel" 137 F_ContentStoreModel 8 := ⟨"ContentStoreModel", (gw 505 (by decide +kernel) rfl), Or.inl rfl⟩
theorem fk_ContentStoreModel_27 : xFk "ContentStoreModel" 27 F_ContentStoreModel 9 := ⟨"ContentStoreModel", (gw 506 (by decide +kernel) rfl), Or.inl rfl⟩
theorem fk_ContentStoreModel_30 : xFk "ContentStoreModel" 30 F_ContentStoreModel 10 := ⟨"ContentStoreModel", (gw 507 (by decide +kernel) rfl), Or.inl rfl⟩
theorem fk_ContentStoreModel_33 : xFk "ContentStoreModel" 33 F_ContentStoreModel 11 := ⟨"ContentStoreModel", (gw 508 (by decide +kernel) rfl), Or.inl rfl⟩
theorem fk_ContentStoreModel_73 : xFk "ContentStoreModel" 73 F_ContentStoreModel 12 := ⟨"ContentStoreModel", (gw 509 (by decide +kernel) rfl), Or.inl rfl⟩
theorem fk_ContentStoreModel_36 : xFk "ContentStoreModel" 36 F_ContentStoreModel 13 := ⟨"ContentStoreModel", (gw 510 (by decide +kernel) rfl), Or.inl rfl⟩
theorem fk_ContentStoreModel_39 : xFk "ContentStoreModel" 39 F_ContentStoreModel 14 := ⟨"ContentStoreModel", (gw 511 (by decide +kernel) rfl), Or.inl rfl⟩
theorem fk_ContentStoreModel_42 : xFk "ContentStoreModel" 42 F_ContentStoreModel 15 := ⟨"ContentStoreModel", (gw 512 (by decide +kernel) rfl), Or.inl rfl⟩
theorem fk_ContentStoreModel_45 : xFk "ContentStoreModel" 45 F_ContentStoreModel 16 := ⟨"ContentStoreModel", (gw 513 (by decide +kernel) rfl), Or.inl rfl⟩
theorem fk_ContentStoreModel_48 : xFk "ContentStoreModel" 48 F_ContentStoreModel 17 := ⟨"ContentStoreModel", (gw 514 (by decide +kernel) rfl), Or.inl rfl⟩
theorem fk_ContentStoreModel_51 : xFk "ContentStoreModel" 51 F_ContentStoreModel 18 := ⟨"ContentStoreModel", (gw 515 (by decide +kernel) rfl), Or.inl rfl⟩
theorem fk_ContentStoreModel_54 : xFk "ContentStoreModel" 54 F_ContentStoreModel 19 := ⟨"ContentStoreModel", (gw 516 (by decide +kernel) rfl), Or.inl rfl⟩
theorem fk_ContentStoreModel_57 : xFk "ContentStoreModel" 57 F_ContentStoreModel 20 := ⟨"ContentStoreModel", (gw 517 (by decide +kernel) rfl), Or.inl rfl⟩
theorem fk_ContentStoreModel_60 : xFk "ContentStoreModel" 60 F_ContentStoreModel 21 := ⟨"ContentStoreModel", (gw 518 (by decide +kernel) rfl), Or.inl rfl⟩
theorem fk_ContentStoreModel_159 : xFk "ContentStoreModel" 159 F_ContentStoreModel 22 := ⟨"ContentStoreModel", (gw 519 (by decide +kernel) rfl), Or.inl rfl⟩
theorem fk_ContentStoreModel_63 : xFk "ContentStoreModel" 63 F_ContentStoreModel 23 := ⟨"ContentStoreModel", (gw 520 (by decide +kernel) rfl), Or.inl rfl⟩
theorem kn_ContentStoreLaw_7 : Cond.classLink "ContentStoreLaw" 7 "ContentStore" ∈ Gw := (gw 51 (by decide +kernel) rfl)
theorem kn_ContentStore_7 : Cond.classLink "ContentStore" 7 "ContentStore$Shelf" ∈ Gw := (gw 59 (by decide +kernel) rfl)
theorem kn_Shelf_15 : Cond.classLink "ContentStore$Shelf" 15 "java/util/ArrayList" ∈ Gw := (gw 71 (by decide +kernel) rfl)
theorem kn_ContentStore_27 : Cond.classLink "ContentStore" 27 "ContentStore$Put" ∈ Gw := (gw 109 (by decide +kernel) rfl)
theorem kn_ContentStore_33 : Cond.classLink "ContentStore" 33 "ContentStore$Blob" ∈ Gw := (gw 111 (by decide +kernel) rfl)
theorem kn_Shelf_37 : Cond.classLink "ContentStore$Shelf" 37 "ContentStore$Part" ∈ Gw := (gw 245 (by decide +kernel) rfl)
theorem kn_ContentStore_105 : Cond.classLink "ContentStore" 105 "ContentStore$Part" ∈ Gw := (gw 253 (by decide +kernel) rfl)
theorem kn_Arrays_110 : Cond.classLink "java/util/Arrays" 110 "[Ljava/lang/Object;" ∈ Gw := (gw 319 (by decide +kernel) rfl)
theorem kn_Arrays_2 : Cond.classLink "java/util/Arrays" 2 "java/lang/Object" ∈ Gw := (gw 321 (by decide +kernel) rfl)
theorem kn_ArrayList_7 : Cond.classLink "java/util/ArrayList" 7 "java/lang/Object" ∈ Gw := (gw 327 (by decide +kernel) rfl)
theorem kn_ContentStoreLaw_18 : Cond.classLink "ContentStoreLaw" 18 "ContentStoreModel" ∈ Gw := (gw 491 (by decide +kernel) rfl)
theorem kl_ContentStoreLaw_15 : Cond.methodLink "ContentStoreLaw" 15 ⟨"ContentStore", "<init>", "(I)V"⟩ ∈ Gw := (gw 53 (by decide +kernel) rfl)
theorem kl_ContentStore_1 : Cond.methodLink "ContentStore" 1 ⟨"java/lang/Object", "<init>", "()V"⟩ ∈ Gw := (gw 56 (by decide +kernel) rfl)
theorem kl_ContentStore_11 : Cond.methodLink "ContentStore" 11 ⟨"java/lang/Math", "min", "(II)I"⟩ ∈ Gw := (gw 61 (by decide +kernel) rfl)
theorem kl_ContentStore_17 : Cond.methodLink "ContentStore" 17 ⟨"java/lang/Math", "max", "(II)I"⟩ ∈ Gw := (gw 64 (by decide +kernel) rfl)
theorem kl_ContentStore_20 : Cond.methodLink "ContentStore" 20 ⟨"ContentStore$Shelf", "<init>", "(I)V"⟩ ∈ Gw := (gw 67 (by decide +kernel) rfl)
theorem kl_Shelf_3 : Cond.methodLink "ContentStore$Shelf" 3 ⟨"java/lang/Object", "<init>", "()V"⟩ ∈ Gw := (gw 70 (by decide +kernel) rfl)
theorem kl_Shelf_17 : Cond.methodLink "ContentStore$Shelf" 17 ⟨"java/util/ArrayList", "<init>", "()V"⟩ ∈ Gw := (gw 73 (by decide +kernel) rfl)
theorem kl_ArrayList_1 : Cond.methodLink "java/util/ArrayList" 1 ⟨"java/util/AbstractList", "<init>", "()V"⟩ ∈ Gw := (gw 76 (by decide +kernel) rfl)
theorem kl_AbstractList_1 : Cond.methodLink "java/util/AbstractList" 1 ⟨"java/util/AbstractCollection", "<init>", "()V"⟩ ∈ Gw := (gw 79 (by decide +kernel) rfl)
theorem kl_AbstractCollection_1 : Cond.methodLink "java/util/AbstractCollection" 1 ⟨"java/lang/Object", "<init>", "()V"⟩ ∈ Gw := (gw 82 (by decide +kernel) rfl)
theorem kl_ContentStoreLaw_23 : Cond.methodLink "ContentStoreLaw" 23 ⟨"ContentStore", "begin", "(IJ)I"⟩ ∈ Gw := (gw 139 (by decide +kernel) rfl)
theorem kl_ContentStore_50 : Cond.methodLink "ContentStore" 50 ⟨"ContentStore$Put", "<init>", "(IJ)V"⟩ ∈ Gw := (gw 144 (by decide +kernel) rfl)
theorem kl_Put_3 : Cond.methodLink "ContentStore$Put" 3 ⟨"java/lang/Object", "<init>", "()V"⟩ ∈ Gw := (gw 147 (by decide +kernel) rfl)
theorem kl_Put_9 : Cond.methodLink "ContentStore$Put" 9 ⟨"java/lang/Math", "max", "(II)I"⟩ ∈ Gw := (gw 148 (by decide +kernel) rfl)
theorem kl_ContentStoreLaw_28 : Cond.methodLink "ContentStoreLaw" 28 ⟨"ContentStore", "add", "(IJI)I"⟩ ∈ Gw := (gw 165 (by decide +kernel) rfl)
theorem kl_ContentStore_53 : Cond.methodLink "ContentStore" 53 ⟨"ContentStore", "openPut", "(I)LContentStore$Put;"⟩ ∈ Gw := (gw 169 (by decide +kernel) rfl)
theorem kl_ContentStore_57 : Cond.methodLink "ContentStore" 57 ⟨"ContentStore$Put", "lacking", "()I"⟩ ∈ Gw := (gw 173 (by decide +kernel) rfl)
theorem kl_ContentStore_61 : Cond.methodLink "ContentStore" 61 ⟨"ContentStore$Put", "take", "(JI)V"⟩ ∈ Gw := (gw 177 (by decide +kernel) rfl)
theorem kl_ContentStoreLaw_33 : Cond.methodLink "ContentStoreLaw" 33 ⟨"ContentStore", "end", "(I)I"⟩ ∈ Gw := (gw 181 (by decide +kernel) rfl)
theorem kl_ContentStore_72 : Cond.methodLink "ContentStore" 72 ⟨"ContentStore$Put", "differs", "()Z"⟩ ∈ Gw := (gw 185 (by decide +kernel) rfl)
theorem kl_ContentStore_79 : Cond.methodLink "ContentStore" 79 ⟨"ContentStore", "soundBlobWith", "([I)I"⟩ ∈ Gw := (gw 189 (by decide +kernel) rfl)
theorem kl_ContentStore_86 : Cond.methodLink "ContentStore" 86 ⟨"ContentStore", "blobAt", "(I)LContentStore$Blob;"⟩ ∈ Gw := (gw 193 (by decide +kernel) rfl)
theorem kl_ContentStore_179 : Cond.methodLink "ContentStore" 179 ⟨"ContentStore$Blob", "hasBytes", "([I)Z"⟩ ∈ Gw := (gw 197 (by decide +kernel) rfl)
theorem kl_ContentStore_192 : Cond.methodLink "ContentStore" 192 ⟨"ContentStore", "partLength", "([II)I"⟩ ∈ Gw := (gw 204 (by decide +kernel) rfl)
theorem kl_ContentStore_101 : Cond.methodLink "ContentStore" 101 ⟨"ContentStore$Blob", "isSound", "()Z"⟩ ∈ Gw := (gw 207 (by decide +kernel) rfl)
theorem kl_ContentStore_83 : Cond.methodLink "ContentStore" 83 ⟨"ContentStore", "newBlobWith", "([I)I"⟩ ∈ Gw := (gw 215 (by decide +kernel) rfl)
theorem kl_ContentStore_123 : Cond.methodLink "ContentStore" 123 ⟨"ContentStore$Shelf", "hasRoomFor", "([I)Z"⟩ ∈ Gw := (gw 219 (by decide +kernel) rfl)
theorem kl_Shelf_22 : Cond.methodLink "ContentStore$Shelf" 22 ⟨"ContentStore$Shelf", "found", "([II)LContentStore$Part;"⟩ ∈ Gw := (gw 223 (by decide +kernel) rfl)
theorem kl_Shelf_64 : Cond.methodLink "ContentStore$Shelf" 64 ⟨"java/util/ArrayList", "size", "()I"⟩ ∈ Gw := (gw 227 (by decide +kernel) rfl)
theorem kl_Shelf_68 : Cond.methodLink "ContentStore$Shelf" 68 ⟨"java/util/ArrayList", "get", "(I)Ljava/lang/Object;"⟩ ∈ Gw := (gw 231 (by decide +kernel) rfl)
theorem kl_ArrayList_118 : Cond.methodLink "java/util/ArrayList" 118 ⟨"java/util/Objects", "checkIndex", "(II)I"⟩ ∈ Gw := (gw 235 (by decide +kernel) rfl)
theorem kl_Objects_105 : Cond.methodLink "java/util/Objects" 105 ⟨"jdk/internal/util/Preconditions", "checkIndex", "(IILjava/util/function/BiFunction;)I"⟩ ∈ Gw := (gw 238 (by decide +kernel) rfl)
theorem kl_ArrayList_123 : Cond.methodLink "java/util/ArrayList" 123 ⟨"java/util/ArrayList", "elementData", "(I)Ljava/lang/Object;"⟩ ∈ Gw := (gw 241 (by decide +kernel) rfl)
theorem kl_Shelf_26 : Cond.methodLink "ContentStore$Shelf" 26 ⟨"ContentStore$Shelf", "comesEarlier", "([II)Z"⟩ ∈ Gw := (gw 247 (by decide +kernel) rfl)
theorem kl_ContentStore_131 : Cond.methodLink "ContentStore" 131 ⟨"ContentStore$Shelf", "rowOf", "([I[LContentStore$Part;)[LContentStore$Part;"⟩ ∈ Gw := (gw 255 (by decide +kernel) rfl)
theorem kl_Shelf_47 : Cond.methodLink "ContentStore$Shelf" 47 ⟨"ContentStore$Shelf", "made", "([II)LContentStore$Part;"⟩ ∈ Gw := (gw 259 (by decide +kernel) rfl)
theorem kl_Shelf_57 : Cond.methodLink "ContentStore$Shelf" 57 ⟨"ContentStore$Part", "<init>", "([II)V"⟩ ∈ Gw := (gw 264 (by decide +kernel) rfl)
theorem kl_Part_3 : Cond.methodLink "ContentStore$Part" 3 ⟨"java/lang/Object", "<init>", "()V"⟩ ∈ Gw := (gw 267 (by decide +kernel) rfl)
theorem kl_Shelf_60 : Cond.methodLink "ContentStore$Shelf" 60 ⟨"java/util/ArrayList", "add", "(Ljava/lang/Object;)Z"⟩ ∈ Gw := (gw 278 (by decide +kernel) rfl)
theorem kl_ArrayList_131 : Cond.methodLink "java/util/ArrayList" 131 ⟨"java/util/ArrayList", "add", "(Ljava/lang/Object;[Ljava/lang/Object;I)V"⟩ ∈ Gw := (gw 282 (by decide +kernel) rfl)
theorem kl_ArrayList_129 : Cond.methodLink "java/util/ArrayList" 129 ⟨"java/util/ArrayList", "grow", "()[Ljava/lang/Object;"⟩ ∈ Gw := (gw 286 (by decide +kernel) rfl)
theorem kl_ArrayList_69 : Cond.methodLink "java/util/ArrayList" 69 ⟨"java/util/ArrayList", "grow", "(I)[Ljava/lang/Object;"⟩ ∈ Gw := (gw 290 (by decide +kernel) rfl)
theorem kl_ArrayList_73 : Cond.methodLink "java/util/ArrayList" 73 ⟨"jdk/internal/util/ArraysSupport", "newLength", "(III)I"⟩ ∈ Gw := (gw 294 (by decide +kernel) rfl)
theorem kl_ArraysSupport_194 : Cond.methodLink "jdk/internal/util/ArraysSupport" 194 ⟨"java/lang/Math", "max", "(II)I"⟩ ∈ Gw := (gw 297 (by decide +kernel) rfl)
theorem kl_ArraysSupport_201 : Cond.methodLink "jdk/internal/util/ArraysSupport" 201 ⟨"jdk/internal/util/ArraysSupport", "hugeLength", "(II)I"⟩ ∈ Gw := (gw 299 (by decide +kernel) rfl)
theorem kl_ArrayList_66 : Cond.methodLink "java/util/ArrayList" 66 ⟨"java/util/Arrays", "copyOf", "([Ljava/lang/Object;I)[Ljava/lang/Object;"⟩ ∈ Gw := (gw 302 (by decide +kernel) rfl)
theorem kl_Arrays_86 : Cond.methodLink "java/util/Arrays" 86 ⟨"java/lang/Object", "getClass", "()Ljava/lang/Class;"⟩ ∈ Gw := (gw 305 (by decide +kernel) rfl)
theorem kl_Arrays_300 : Cond.methodLink "java/util/Arrays" 300 ⟨"java/util/Arrays", "copyOf", "([Ljava/lang/Object;ILjava/lang/Class;)[Ljava/lang/Object;"⟩ ∈ Gw := (gw 316 (by decide +kernel) rfl)
theorem kl_Arrays_304 : Cond.methodLink "java/util/Arrays" 304 ⟨"java/lang/Math", "min", "(II)I"⟩ ∈ Gw := (gw 322 (by decide +kernel) rfl)
theorem kl_Arrays_150 : Cond.methodLink "java/util/Arrays" 150 ⟨"java/lang/System", "arraycopy", "(Ljava/lang/Object;ILjava/lang/Object;II)V"⟩ ∈ Gw := (gw 323 (by decide +kernel) rfl)
theorem kl_ArrayList_79 : Cond.methodLink "java/util/ArrayList" 79 ⟨"java/lang/Math", "max", "(II)I"⟩ ∈ Gw := (gw 326 (by decide +kernel) rfl)
theorem kl_ContentStore_182 : Cond.methodLink "ContentStore" 182 ⟨"ContentStore$Blob", "<init>", "([I[LContentStore$Part;)V"⟩ ∈ Gw := (gw 328 (by decide +kernel) rfl)
theorem kl_Blob_3 : Cond.methodLink "ContentStore$Blob" 3 ⟨"java/lang/Object", "<init>", "()V"⟩ ∈ Gw := (gw 331 (by decide +kernel) rfl)
theorem kl_ContentStoreLaw_38 : Cond.methodLink "ContentStoreLaw" 38 ⟨"ContentStore", "there", "(I)Z"⟩ ∈ Gw := (gw 364 (by decide +kernel) rfl)
theorem kl_ContentStoreLaw_43 : Cond.methodLink "ContentStoreLaw" 43 ⟨"ContentStore", "digest", "(I)J"⟩ ∈ Gw := (gw 368 (by decide +kernel) rfl)
theorem kl_ContentStoreLaw_48 : Cond.methodLink "ContentStoreLaw" 48 ⟨"ContentStore", "size", "(I)I"⟩ ∈ Gw := (gw 372 (by decide +kernel) rfl)
theorem kl_ContentStoreLaw_52 : Cond.methodLink "ContentStoreLaw" 52 ⟨"ContentStore", "get", "(II)I"⟩ ∈ Gw := (gw 376 (by decide +kernel) rfl)
theorem kl_ContentStore_97 : Cond.methodLink "ContentStore" 97 ⟨"ContentStore$Blob", "partOf", "(I)LContentStore$Part;"⟩ ∈ Gw := (gw 380 (by decide +kernel) rfl)
theorem kl_ContentStore_104 : Cond.methodLink "ContentStore" 104 ⟨"ContentStore$Part", "byteAt", "(I)I"⟩ ∈ Gw := (gw 384 (by decide +kernel) rfl)
theorem kl_ContentStoreLaw_57 : Cond.methodLink "ContentStoreLaw" 57 ⟨"ContentStore", "poison", "(III)Z"⟩ ∈ Gw := (gw 388 (by decide +kernel) rfl)
theorem kl_ContentStore_110 : Cond.methodLink "ContentStore" 110 ⟨"ContentStore$Part", "alter", "(II)Z"⟩ ∈ Gw := (gw 392 (by decide +kernel) rfl)
theorem kl_ContentStoreLaw_62 : Cond.methodLink "ContentStoreLaw" 62 ⟨"ContentStore", "sound", "(I)Z"⟩ ∈ Gw := (gw 396 (by decide +kernel) rfl)
theorem kl_ContentStoreLaw_66 : Cond.methodLink "ContentStoreLaw" 66 ⟨"ContentStore", "mirror", "(I)Z"⟩ ∈ Gw := (gw 400 (by decide +kernel) rfl)
theorem kl_ContentStore_114 : Cond.methodLink "ContentStore" 114 ⟨"ContentStore$Blob", "copyBytes", "()V"⟩ ∈ Gw := (gw 404 (by decide +kernel) rfl)
theorem kl_Blob_54 : Cond.methodLink "ContentStore$Blob" 54 ⟨"ContentStore$Blob", "partOf", "(I)LContentStore$Part;"⟩ ∈ Gw := (gw 408 (by decide +kernel) rfl)
theorem kl_Blob_58 : Cond.methodLink "ContentStore$Blob" 58 ⟨"ContentStore$Part", "byteAt", "(I)I"⟩ ∈ Gw := (gw 409 (by decide +kernel) rfl)
theorem kl_ContentStoreLaw_70 : Cond.methodLink "ContentStoreLaw" 70 ⟨"ContentStore", "repair", "(I)I"⟩ ∈ Gw := (gw 410 (by decide +kernel) rfl)
theorem kl_ContentStore_117 : Cond.methodLink "ContentStore" 117 ⟨"ContentStore$Blob", "hasRightCopy", "()Z"⟩ ∈ Gw := (gw 414 (by decide +kernel) rfl)
theorem kl_ContentStore_135 : Cond.methodLink "ContentStore" 135 ⟨"ContentStore$Shelf", "leave", "([LContentStore$Part;)V"⟩ ∈ Gw := (gw 418 (by decide +kernel) rfl)
theorem kl_Shelf_53 : Cond.methodLink "ContentStore$Shelf" 53 ⟨"ContentStore$Shelf", "drop", "(LContentStore$Part;)V"⟩ ∈ Gw := (gw 422 (by decide +kernel) rfl)
theorem kl_Shelf_72 : Cond.methodLink "ContentStore$Shelf" 72 ⟨"java/util/ArrayList", "remove", "(I)Ljava/lang/Object;"⟩ ∈ Gw := (gw 426 (by decide +kernel) rfl)
theorem kl_ArrayList_144 : Cond.methodLink "java/util/ArrayList" 144 ⟨"java/util/ArrayList", "fastRemove", "([Ljava/lang/Object;I)V"⟩ ∈ Gw := (gw 430 (by decide +kernel) rfl)
theorem kl_ArrayList_112 : Cond.methodLink "java/util/ArrayList" 112 ⟨"java/lang/System", "arraycopy", "(Ljava/lang/Object;ILjava/lang/Object;II)V"⟩ ∈ Gw := (gw 434 (by decide +kernel) rfl)
theorem kl_ContentStoreLaw_74 : Cond.methodLink "ContentStoreLaw" 74 ⟨"ContentStore", "refer", "(II)Z"⟩ ∈ Gw := (gw 435 (by decide +kernel) rfl)
theorem kl_ContentStoreLaw_79 : Cond.methodLink "ContentStoreLaw" 79 ⟨"ContentStore", "referred", "(I)I"⟩ ∈ Gw := (gw 439 (by decide +kernel) rfl)
theorem kl_ContentStoreLaw_83 : Cond.methodLink "ContentStoreLaw" 83 ⟨"ContentStore", "sweep", "()I"⟩ ∈ Gw := (gw 443 (by decide +kernel) rfl)
theorem kl_ContentStore_145 : Cond.methodLink "ContentStore" 145 ⟨"ContentStore", "isReferredTo", "(I)Z"⟩ ∈ Gw := (gw 447 (by decide +kernel) rfl)
theorem kl_ContentStore_149 : Cond.methodLink "ContentStore" 149 ⟨"ContentStore", "letGo", "(LContentStore$Blob;)V"⟩ ∈ Gw := (gw 451 (by decide +kernel) rfl)
theorem kl_ContentStoreLaw_88 : Cond.methodLink "ContentStoreLaw" 88 ⟨"ContentStore", "pack", "()I"⟩ ∈ Gw := (gw 455 (by decide +kernel) rfl)
theorem kl_ContentStoreLaw_92 : Cond.methodLink "ContentStoreLaw" 92 ⟨"ContentStore", "cut", "(II)I"⟩ ∈ Gw := (gw 459 (by decide +kernel) rfl)
theorem kl_ContentStore_156 : Cond.methodLink "ContentStore" 156 ⟨"ContentStore", "forget", "(I)V"⟩ ∈ Gw := (gw 463 (by decide +kernel) rfl)
theorem kl_ContentStoreLaw_96 : Cond.methodLink "ContentStoreLaw" 96 ⟨"ContentStore", "packOf", "(I)I"⟩ ∈ Gw := (gw 467 (by decide +kernel) rfl)
theorem kl_ContentStoreLaw_100 : Cond.methodLink "ContentStoreLaw" 100 ⟨"ContentStore", "count", "(I)I"⟩ ∈ Gw := (gw 471 (by decide +kernel) rfl)
theorem kl_ContentStore_162 : Cond.methodLink "ContentStore" 162 ⟨"java/util/ArrayList", "size", "()I"⟩ ∈ Gw := (gw 475 (by decide +kernel) rfl)
theorem kl_ContentStore_170 : Cond.methodLink "ContentStore" 170 ⟨"ContentStore", "blobsThere", "()I"⟩ ∈ Gw := (gw 476 (by decide +kernel) rfl)
theorem kl_ContentStore_173 : Cond.methodLink "ContentStore" 173 ⟨"ContentStore", "sharersOfFirst", "(I)I"⟩ ∈ Gw := (gw 480 (by decide +kernel) rfl)
theorem kl_ContentStore_185 : Cond.methodLink "ContentStore" 185 ⟨"ContentStore$Blob", "hasPart", "(LContentStore$Part;)Z"⟩ ∈ Gw := (gw 484 (by decide +kernel) rfl)
theorem kl_ContentStoreLaw_9 : Cond.methodLink "ContentStoreLaw" 9 ⟨"ContentStoreLaw", "cell", "([II)I"⟩ ∈ Gw := (gw 488 (by decide +kernel) rfl)
theorem kl_ContentStoreLaw_20 : Cond.methodLink "ContentStoreLaw" 20 ⟨"ContentStoreModel", "<init>", "(I)V"⟩ ∈ Gw := (gw 493 (by decide +kernel) rfl)
theorem kl_ContentStoreModel_1 : Cond.methodLink "ContentStoreModel" 1 ⟨"java/lang/Object", "<init>", "()V"⟩ ∈ Gw := (gw 496 (by decide +kernel) rfl)
theorem kl_ContentStoreLaw_27 : Cond.methodLink "ContentStoreLaw" 27 ⟨"ContentStoreModel", "begin", "(IJ)I"⟩ ∈ Gw := (gw 572 (by decide +kernel) rfl)
theorem kl_ContentStoreModel_76 : Cond.methodLink "ContentStoreModel" 76 ⟨"ContentStoreModel", "in", "(III)Z"⟩ ∈ Gw := (gw 576 (by decide +kernel) rfl)
theorem kl_ContentStoreLaw_32 : Cond.methodLink "ContentStoreLaw" 32 ⟨"ContentStoreModel", "add", "(IJI)I"⟩ ∈ Gw := (gw 579 (by decide +kernel) rfl)
theorem kl_ContentStoreModel_84 : Cond.methodLink "ContentStoreModel" 84 ⟨"ContentStoreModel", "isOpen", "(I)Z"⟩ ∈ Gw := (gw 583 (by decide +kernel) rfl)
theorem kl_ContentStoreLaw_37 : Cond.methodLink "ContentStoreLaw" 37 ⟨"ContentStoreModel", "end", "(I)I"⟩ ∈ Gw := (gw 587 (by decide +kernel) rfl)
theorem kl_ContentStoreModel_88 : Cond.methodLink "ContentStoreModel" 88 ⟨"ContentStoreModel", "isSound", "(I)Z"⟩ ∈ Gw := (gw 591 (by decide +kernel) rfl)
theorem kl_ContentStoreModel_146 : Cond.methodLink "ContentStoreModel" 146 ⟨"ContentStoreModel", "byteOf", "(II)I"⟩ ∈ Gw := (gw 595 (by decide +kernel) rfl)
theorem kl_ContentStoreModel_114 : Cond.methodLink "ContentStoreModel" 114 ⟨"ContentStoreModel", "turned", "(II)I"⟩ ∈ Gw := (gw 599 (by decide +kernel) rfl)
theorem kl_ContentStoreModel_91 : Cond.methodLink "ContentStoreModel" 91 ⟨"ContentStoreModel", "isWork", "(I)Z"⟩ ∈ Gw := (gw 603 (by decide +kernel) rfl)
theorem kl_ContentStoreModel_94 : Cond.methodLink "ContentStoreModel" 94 ⟨"ContentStoreModel", "used", "()I"⟩ ∈ Gw := (gw 607 (by decide +kernel) rfl)
theorem kl_ContentStoreModel_98 : Cond.methodLink "ContentStoreModel" 98 ⟨"ContentStoreModel", "missing", "(II)I"⟩ ∈ Gw := (gw 611 (by decide +kernel) rfl)
theorem kl_ContentStoreModel_125 : Cond.methodLink "ContentStoreModel" 125 ⟨"ContentStoreModel", "parts", "(I)I"⟩ ∈ Gw := (gw 615 (by decide +kernel) rfl)
theorem kl_ContentStoreModel_128 : Cond.methodLink "ContentStoreModel" 128 ⟨"ContentStoreModel", "stays", "(III)Z"⟩ ∈ Gw := (gw 618 (by decide +kernel) rfl)
theorem kl_ContentStoreModel_122 : Cond.methodLink "ContentStoreModel" 122 ⟨"ContentStoreModel", "isPart", "(III)Z"⟩ ∈ Gw := (gw 622 (by decide +kernel) rfl)
theorem kl_ContentStoreModel_119 : Cond.methodLink "ContentStoreModel" 119 ⟨"ContentStoreModel", "wide", "(II)I"⟩ ∈ Gw := (gw 626 (by decide +kernel) rfl)
theorem kl_ContentStoreModel_131 : Cond.methodLink "ContentStoreModel" 131 ⟨"ContentStoreModel", "find", "(II)I"⟩ ∈ Gw := (gw 629 (by decide +kernel) rfl)
theorem kl_ContentStoreModel_134 : Cond.methodLink "ContentStoreModel" 134 ⟨"ContentStoreModel", "areAlike", "(III)Z"⟩ ∈ Gw := (gw 633 (by decide +kernel) rfl)
theorem kl_ContentStoreModel_102 : Cond.methodLink "ContentStoreModel" 102 ⟨"ContentStoreModel", "sumOfWork", "(I)I"⟩ ∈ Gw := (gw 637 (by decide +kernel) rfl)
theorem kl_ContentStoreModel_106 : Cond.methodLink "ContentStoreModel" 106 ⟨"ContentStoreModel", "digestOfWork", "(I)J"⟩ ∈ Gw := (gw 641 (by decide +kernel) rfl)
theorem kl_ContentStoreModel_110 : Cond.methodLink "ContentStoreModel" 110 ⟨"ContentStoreModel", "take", "(IZ)V"⟩ ∈ Gw := (gw 646 (by decide +kernel) rfl)
theorem kl_ContentStoreModel_140 : Cond.methodLink "ContentStoreModel" 140 ⟨"ContentStoreModel", "made", "(II)I"⟩ ∈ Gw := (gw 650 (by decide +kernel) rfl)
theorem kl_ContentStoreLaw_42 : Cond.methodLink "ContentStoreLaw" 42 ⟨"ContentStoreModel", "there", "(I)Z"⟩ ∈ Gw := (gw 654 (by decide +kernel) rfl)
theorem kl_ContentStoreModel_149 : Cond.methodLink "ContentStoreModel" 149 ⟨"ContentStoreModel", "isBlob", "(I)Z"⟩ ∈ Gw := (gw 658 (by decide +kernel) rfl)
theorem kl_ContentStoreLaw_47 : Cond.methodLink "ContentStoreLaw" 47 ⟨"ContentStoreModel", "digest", "(I)J"⟩ ∈ Gw := (gw 662 (by decide +kernel) rfl)
theorem kl_ContentStoreLaw_51 : Cond.methodLink "ContentStoreLaw" 51 ⟨"ContentStoreModel", "size", "(I)I"⟩ ∈ Gw := (gw 666 (by decide +kernel) rfl)
theorem kl_ContentStoreLaw_56 : Cond.methodLink "ContentStoreLaw" 56 ⟨"ContentStoreModel", "get", "(II)I"⟩ ∈ Gw := (gw 670 (by decide +kernel) rfl)
theorem kl_ContentStoreLaw_61 : Cond.methodLink "ContentStoreLaw" 61 ⟨"ContentStoreModel", "poison", "(III)Z"⟩ ∈ Gw := (gw 674 (by decide +kernel) rfl)
theorem kl_ContentStoreLaw_65 : Cond.methodLink "ContentStoreLaw" 65 ⟨"ContentStoreModel", "sound", "(I)Z"⟩ ∈ Gw := (gw 678 (by decide +kernel) rfl)
theorem kl_ContentStoreLaw_69 : Cond.methodLink "ContentStoreLaw" 69 ⟨"ContentStoreModel", "mirror", "(I)Z"⟩ ∈ Gw := (gw 682 (by decide +kernel) rfl)
theorem kl_ContentStoreLaw_73 : Cond.methodLink "ContentStoreLaw" 73 ⟨"ContentStoreModel", "repair", "(I)I"⟩ ∈ Gw := (gw 686 (by decide +kernel) rfl)
theorem kl_ContentStoreModel_152 : Cond.methodLink "ContentStoreModel" 152 ⟨"ContentStoreModel", "tidy", "()V"⟩ ∈ Gw := (gw 690 (by decide +kernel) rfl)
theorem kl_ContentStoreModel_143 : Cond.methodLink "ContentStoreModel" 143 ⟨"ContentStoreModel", "having", "(I)I"⟩ ∈ Gw := (gw 694 (by decide +kernel) rfl)
theorem kl_ContentStoreLaw_78 : Cond.methodLink "ContentStoreLaw" 78 ⟨"ContentStoreModel", "refer", "(II)Z"⟩ ∈ Gw := (gw 698 (by decide +kernel) rfl)
theorem kl_ContentStoreLaw_82 : Cond.methodLink "ContentStoreLaw" 82 ⟨"ContentStoreModel", "referred", "(I)I"⟩ ∈ Gw := (gw 702 (by decide +kernel) rfl)
theorem kl_ContentStoreLaw_87 : Cond.methodLink "ContentStoreLaw" 87 ⟨"ContentStoreModel", "sweep", "()I"⟩ ∈ Gw := (gw 706 (by decide +kernel) rfl)
theorem kl_ContentStoreModel_155 : Cond.methodLink "ContentStoreModel" 155 ⟨"ContentStoreModel", "goes", "(I)V"⟩ ∈ Gw := (gw 710 (by decide +kernel) rfl)
theorem kl_ContentStoreLaw_91 : Cond.methodLink "ContentStoreLaw" 91 ⟨"ContentStoreModel", "pack", "()I"⟩ ∈ Gw := (gw 714 (by decide +kernel) rfl)
theorem kl_ContentStoreLaw_95 : Cond.methodLink "ContentStoreLaw" 95 ⟨"ContentStoreModel", "cut", "(II)I"⟩ ∈ Gw := (gw 718 (by decide +kernel) rfl)
theorem kl_ContentStoreLaw_99 : Cond.methodLink "ContentStoreLaw" 99 ⟨"ContentStoreModel", "packOf", "(I)I"⟩ ∈ Gw := (gw 722 (by decide +kernel) rfl)
theorem kl_ContentStoreLaw_103 : Cond.methodLink "ContentStoreLaw" 103 ⟨"ContentStoreModel", "count", "(I)I"⟩ ∈ Gw := (gw 726 (by decide +kernel) rfl)
theorem kl_Blob_47 : Cond.methodLinkNest "ContentStore$Blob" 47 ⟨"ContentStore", "areAlike", "([II[II)Z"⟩ "ContentStore" ∈ Nw := (nw 201 (by decide +kernel) rfl)
theorem kl_Blob_15 : Cond.methodLinkNest "ContentStore$Blob" 15 ⟨"ContentStore", "sumBehind", "(I[I)I"⟩ "ContentStore" ∈ Nw := (nw 211 (by decide +kernel) rfl)
theorem kl_Shelf_43 : Cond.methodLinkNest "ContentStore$Shelf" 43 ⟨"ContentStore", "areAlike", "([II[II)Z"⟩ "ContentStore" ∈ Nw := (nw 246 (by decide +kernel) rfl)
theorem kl_Shelf_30 : Cond.methodLinkNest "ContentStore$Shelf" 30 ⟨"ContentStore", "partLength", "([II)I"⟩ "ContentStore" ∈ Nw := (nw 251 (by decide +kernel) rfl)
theorem kl_Part_9 : Cond.methodLinkNest "ContentStore$Part" 9 ⟨"ContentStore", "partLength", "([II)I"⟩ "ContentStore" ∈ Nw := (nw 268 (by decide +kernel) rfl)
theorem kl_Blob_22 : Cond.methodLinkNest "ContentStore$Blob" 22 ⟨"ContentStore", "digestOf", "([I)J"⟩ "ContentStore" ∈ Nw := (nw 332 (by decide +kernel) rfl)
theorem kc_ContentStore_189 : Cond.constant "ContentStore" 189 (-2048144777) ∈ Gw := (gw 214 (by decide +kernel) rfl)
theorem kc_ArraysSupport_200 : Cond.constant "jdk/internal/util/ArraysSupport" 200 (2147483639) ∈ Gw := (gw 298 (by decide +kernel) rfl)
theorem kc_ContentStoreModel_83 : Cond.constant "ContentStoreModel" 83 (-2048144777) ∈ Gw := (gw 602 (by decide +kernel) rfl)
theorem kc_ContentStore_190 : Cond.constantLong "ContentStore" 190 (1099511628211) ∈ Gw := (gw 335 (by decide +kernel) rfl)
theorem kc_ContentStoreModel_117 : Cond.constantLong "ContentStoreModel" 117 (1099511628211) ∈ Gw := (gw 645 (by decide +kernel) rfl)
theorem kc_ContentStoreLaw_21 : Cond.constantLong "ContentStoreLaw" 21 (4294967295) ∈ Gw := (gw 730 (by decide +kernel) rfl)
theorem kw_int : Cond.arrayClass .int ∈ Gw := (gw 138 (by decide +kernel) rfl)
theorem kw_long : Cond.arrayClass .long ∈ Gw := (gw 570 (by decide +kernel) rfl)
theorem kw_boolean : Cond.arrayClass .boolean ∈ Gw := (gw 571 (by decide +kernel) rfl)
theorem ka_0 : Cond.arrayOver (.object "ContentStore$Put") ∈ Nw := (nw 110 (by decide +kernel) rfl)
theorem ka_1 : Cond.arrayOver (.object "ContentStore$Blob") ∈ Nw := (nw 112 (by decide +kernel) rfl)
theorem ka_2 : Cond.arrayOver (.object "ContentStore$Part") ∈ Nw := (nw 254 (by decide +kernel) rfl)
theorem ka_3 : Cond.arrayOver (.object "java/lang/Object") ∈ Nw := (nw 320 (by decide +kernel) rfl)
theorem kb_Part_Part : Cond.castable "ContentStore$Part" "ContentStore$Part" ∈ Nw := (nw 731 (by decide +kernel) rfl)
theorem kb_ContentStore_Object : Cond.castable "ContentStore" "java/lang/Object" ∈ Nw := (nw 735 (by decide +kernel) rfl)
theorem kb_Shelf_Object : Cond.castable "ContentStore$Shelf" "java/lang/Object" ∈ Nw := (nw 736 (by decide +kernel) rfl)
theorem kb_ContentStoreModel_Object : Cond.castable "ContentStoreModel" "java/lang/Object" ∈ Nw := (nw 737 (by decide +kernel) rfl)
theorem kb_Put_Object : Cond.castable "ContentStore$Put" "java/lang/Object" ∈ Nw := (nw 738 (by decide +kernel) rfl)
theorem kb_Blob_Object : Cond.castable "ContentStore$Blob" "java/lang/Object" ∈ Nw := (nw 739 (by decide +kernel) rfl)
theorem kb_Part_Object : Cond.castable "ContentStore$Part" "java/lang/Object" ∈ Nw := (nw 740 (by decide +kernel) rfl)
theorem ko_ins : Cond.instanceMethod Lib.objectInit ∈ Gw := (gw 57 (by decide +kernel) rfl)
theorem ko_code : Cond.code Lib.objectInit ⟨#[0xb1]⟩ 1 none ∈ Gw := (gw 58 (by decide +kernel) rfl)
end
section
abbrev m_ContentStore_init : xM := (⟨"ContentStore", "<init>", "(I)V"⟩, prog_1_method_1_code, 3, none)
theorem mk_ContentStore_init : xMk m_ContentStore_init 1 := ⟨(gw 55 (by decide +kernel) rfl), (gw 36 (by decide +kernel) rfl), ⟨by decide +kernel, by decide +kernel⟩, by decide +kernel, by decide +kernel, by decide⟩
theorem mi_ContentStore_init : Cond.instanceMethod m_ContentStore_init.1 ∈ Gw := (gw 54 (by decide +kernel) rfl)
abbrev m_Math_min : xM := (⟨"java/lang/Math", "min", "(II)I"⟩, prog_11_method_69_code, 2, (some .int))
theorem mk_Math_min : xMk m_Math_min 2 := ⟨(gw 63 (by decide +kernel) rfl), (gw 38 (by decide +kernel) rfl), ⟨by decide +kernel, by decide +kernel⟩, by decide +kernel, by decide +kernel, by decide⟩
theorem ms_Math_min : Cond.static m_Math_min.1 ∈ Gw := (gw 62 (by decide +kernel) rfl)
abbrev m_Math_max : xM := (⟨"java/lang/Math", "max", "(II)I"⟩, prog_11_method_65_code, 2, (some .int))
theorem mk_Math_max : xMk m_Math_max 2 := ⟨(gw 66 (by decide +kernel) rfl), (gw 38 (by decide +kernel) rfl), ⟨by decide +kernel, by decide +kernel⟩, by decide +kernel, by decide +kernel, by decide⟩
theorem ms_Math_max : Cond.static m_Math_max.1 ∈ Gw := (gw 65 (by decide +kernel) rfl)
abbrev m_Shelf_init : xM := (⟨"ContentStore$Shelf", "<init>", "(I)V"⟩, prog_5_method_1_code, 2, none)
theorem mk_Shelf_init : xMk m_Shelf_init 1 := ⟨(gw 69 (by decide +kernel) rfl), (gw 37 (by decide +kernel) rfl), ⟨by decide +kernel, by decide +kernel⟩, by decide +kernel, by decide +kernel, by decide⟩
theorem mi_Shelf_init : Cond.instanceMethod m_Shelf_init.1 ∈ Gw := (gw 68 (by decide +kernel) rfl)
abbrev m_ArrayList_init : xM := (⟨"java/util/ArrayList", "<init>", "()V"⟩, prog_15_method_2_code, 1, none)
theorem mk_ArrayList_init : xMk m_ArrayList_init 0 := ⟨(gw 75 (by decide +kernel) rfl), (gw 41 (by decide +kernel) rfl), ⟨by decide +kernel, by decide +kernel⟩, by decide +kernel, by decide +kernel, by decide⟩
theorem mi_ArrayList_init : Cond.instanceMethod m_ArrayList_init.1 ∈ Gw := (gw 74 (by decide +kernel) rfl)
abbrev m_AbstractList_init : xM := (⟨"java/util/AbstractList", "<init>", "()V"⟩, prog_14_method_1_code, 1, none)
theorem mk_AbstractList_init : xMk m_AbstractList_init 0 := ⟨(gw 78 (by decide +kernel) rfl), (gw 40 (by decide +kernel) rfl), ⟨by decide +kernel, by decide +kernel⟩, by decide +kernel, by decide +kernel, by decide⟩
theorem mi_AbstractList_init : Cond.instanceMethod m_AbstractList_init.1 ∈ Gw := (gw 77 (by decide +kernel) rfl)
abbrev m_AbstractCollection_init : xM := (⟨"java/util/AbstractCollection", "<init>", "()V"⟩, prog_13_method_1_code, 1, none)
theorem mk_AbstractCollection_init : xMk m_AbstractCollection_init 0 := ⟨(gw 81 (by decide +kernel) rfl), (gw 39 (by decide +kernel) rfl), ⟨by decide +kernel, by decide +kernel⟩, by decide +kernel, by decide +kernel, by decide⟩
theorem mi_AbstractCollection_init : Cond.instanceMethod m_AbstractCollection_init.1 ∈ Gw := (gw 80 (by decide +kernel) rfl)
abbrev m_ContentStore_begin : xM := (⟨"ContentStore", "begin", "(IJ)I"⟩, prog_1_method_2_code, 5, (some .int))
theorem mk_ContentStore_begin : xMk m_ContentStore_begin 2 := ⟨(gw 142 (by decide +kernel) rfl), (gw 36 (by decide +kernel) rfl), ⟨by decide +kernel, by decide +kernel⟩, by decide +kernel, by decide +kernel, by decide⟩
theorem mi_ContentStore_begin : Cond.instanceMethod m_ContentStore_begin.1 ∈ Gw := (gw 140 (by decide +kernel) rfl)
theorem mv_ContentStore_begin : Cond.selects m_ContentStore_begin.1.cls m_ContentStore_begin.1 m_ContentStore_begin.1 ∈ Gw := (gw 141 (by decide +kernel) rfl)
abbrev m_Put_init : xM := (⟨"ContentStore$Put", "<init>", "(IJ)V"⟩, prog_4_method_1_code, 4, none)
theorem mk_Put_init : xMk m_Put_init 2 := ⟨(gw 146 (by decide +kernel) rfl), (gw 43 (by decide +kernel) rfl), ⟨by decide +kernel, by decide +kernel⟩, by decide +kernel, by decide +kernel, by decide⟩
theorem mi_Put_init : Cond.instanceMethod m_Put_init.1 ∈ Gw := (gw 145 (by decide +kernel) rfl)
abbrev m_ContentStore_add : xM := (⟨"ContentStore", "add", "(IJI)I"⟩, prog_1_method_3_code, 6, (some .int))
theorem mk_ContentStore_add : xMk m_ContentStore_add 3 := ⟨(gw 168 (by decide +kernel) rfl), (gw 36 (by decide +kernel) rfl), ⟨by decide +kernel, by decide +kernel⟩, by decide +kernel, by decide +kernel, by decide⟩
theorem mi_ContentStore_add : Cond.instanceMethod m_ContentStore_add.1 ∈ Gw := (gw 166 (by decide +kernel) rfl)
theorem mv_ContentStore_add : Cond.selects m_ContentStore_add.1.cls m_ContentStore_add.1 m_ContentStore_add.1 ∈ Gw := (gw 167 (by decide +kernel) rfl)
abbrev m_ContentStore_openPut : xM := (⟨"ContentStore", "openPut", "(I)LContentStore$Put;"⟩, prog_1_method_20_code, 3, (some (.object "ContentStore$Put")))
theorem mk_ContentStore_openPut : xMk m_ContentStore_openPut 1 := ⟨(gw 172 (by decide +kernel) rfl), (gw 36 (by decide +kernel) rfl), ⟨by decide +kernel, by decide +kernel⟩, by decide +kernel, by decide +kernel, by decide⟩
theorem mi_ContentStore_openPut : Cond.instanceMethod m_ContentStore_openPut.1 ∈ Gw := (gw 171 (by decide +kernel) rfl)
theorem mv_ContentStore_openPut : Cond.selects m_ContentStore_openPut.1.cls m_ContentStore_openPut.1 m_ContentStore_openPut.1 ∈ Gw := (gw 0 (by decide +kernel) rfl)
abbrev m_Put_lacking : xM := (⟨"ContentStore$Put", "lacking", "()I"⟩, prog_4_method_2_code, 1, (some .int))
theorem mk_Put_lacking : xMk m_Put_lacking 0 := ⟨(gw 176 (by decide +kernel) rfl), (gw 43 (by decide +kernel) rfl), ⟨by decide +kernel, by decide +kernel⟩, by decide +kernel, by decide +kernel, by decide⟩
theorem mi_Put_lacking : Cond.instanceMethod m_Put_lacking.1 ∈ Gw := (gw 174 (by decide +kernel) rfl)
theorem mv_Put_lacking : Cond.selects m_Put_lacking.1.cls m_Put_lacking.1 m_Put_lacking.1 ∈ Gw := (gw 175 (by decide +kernel) rfl)
abbrev m_Put_take : xM := (⟨"ContentStore$Put", "take", "(JI)V"⟩, prog_4_method_3_code, 5, none)
theorem mk_Put_take : xMk m_Put_take 2 := ⟨(gw 180 (by decide +kernel) rfl), (gw 43 (by decide +kernel) rfl), ⟨by decide +kernel, by decide +kernel⟩, by decide +kernel, by decide +kernel, by decide⟩
theorem mi_Put_take : Cond.instanceMethod m_Put_take.1 ∈ Gw := (gw 178 (by decide +kernel) rfl)
theorem mv_Put_take : Cond.selects m_Put_take.1.cls m_Put_take.1 m_Put_take.1 ∈ Gw := (gw 179 (by decide +kernel) rfl)
abbrev m_ContentStore_end : xM := (⟨"ContentStore", "end", "(I)I"⟩, prog_1_method_4_code, 4, (some .int))
theorem mk_ContentStore_end : xMk m_ContentStore_end 1 := ⟨(gw 184 (by decide +kernel) rfl), (gw 36 (by decide +kernel) rfl), ⟨by decide +kernel, by decide +kernel⟩, by decide +kernel, by decide +kernel, by decide⟩
theorem mi_ContentStore_end : Cond.instanceMethod m_ContentStore_end.1 ∈ Gw := (gw 182 (by decide +kernel) rfl)
theorem mv_ContentStore_end : Cond.selects m_ContentStore_end.1.cls m_ContentStore_end.1 m_ContentStore_end.1 ∈ Gw := (gw 183 (by decide +kernel) rfl)
abbrev m_Put_differs : xM := (⟨"ContentStore$Put", "differs", "()Z"⟩, prog_4_method_4_code, 1, (some .boolean))
theorem mk_Put_differs : xMk m_Put_differs 0 := ⟨(gw 188 (by decide +kernel) rfl), (gw 43 (by decide +kernel) rfl), ⟨by decide +kernel, by decide +kernel⟩, by decide +kernel, by decide +kernel, by decide⟩
theorem mi_Put_differs : Cond.instanceMethod m_Put_differs.1 ∈ Gw := (gw 186 (by decide +kernel) rfl)
theorem mv_Put_differs : Cond.selects m_Put_differs.1.cls m_Put_differs.1 m_Put_differs.1 ∈ Gw := (gw 187 (by decide +kernel) rfl)
abbrev m_ContentStore_soundBlobWith : xM := (⟨"ContentStore", "soundBlobWith", "([I)I"⟩, prog_1_method_22_code, 4, (some .int))
theorem mk_ContentStore_soundBlobWith : xMk m_ContentStore_soundBlobWith 1 := ⟨(gw 192 (by decide +kernel) rfl), (gw 36 (by decide +kernel) rfl), ⟨by decide +kernel, by decide +kernel⟩, by decide +kernel, by decide +kernel, by decide⟩
theorem mi_ContentStore_soundBlobWith : Cond.instanceMethod m_ContentStore_soundBlobWith.1 ∈ Gw := (gw 191 (by decide +kernel) rfl)
theorem mv_ContentStore_soundBlobWith : Cond.selects m_ContentStore_soundBlobWith.1.cls m_ContentStore_soundBlobWith.1 m_ContentStore_soundBlobWith.1 ∈ Gw := (gw 1 (by decide +kernel) rfl)
abbrev m_ContentStore_blobAt : xM := (⟨"ContentStore", "blobAt", "(I)LContentStore$Blob;"⟩, prog_1_method_21_code, 3, (some (.object "ContentStore$Blob")))
theorem mk_ContentStore_blobAt : xMk m_ContentStore_blobAt 1 := ⟨(gw 196 (by decide +kernel) rfl), (gw 36 (by decide +kernel) rfl), ⟨by decide +kernel, by decide +kernel⟩, by decide +kernel, by decide +kernel, by decide⟩
theorem mi_ContentStore_blobAt : Cond.instanceMethod m_ContentStore_blobAt.1 ∈ Gw := (gw 195 (by decide +kernel) rfl)
theorem mv_ContentStore_blobAt : Cond.selects m_ContentStore_blobAt.1.cls m_ContentStore_blobAt.1 m_ContentStore_blobAt.1 ∈ Gw := (gw 2 (by decide +kernel) rfl)
abbrev m_Blob_hasBytes : xM := (⟨"ContentStore$Blob", "hasBytes", "([I)Z"⟩, prog_2_method_4_code, 3, (some .boolean))
theorem mk_Blob_hasBytes : xMk m_Blob_hasBytes 1 := ⟨(gw 200 (by decide +kernel) rfl), (gw 46 (by decide +kernel) rfl), ⟨by decide +kernel, by decide +kernel⟩, by decide +kernel, by decide +kernel, by decide⟩
theorem mi_Blob_hasBytes : Cond.instanceMethod m_Blob_hasBytes.1 ∈ Gw := (gw 198 (by decide +kernel) rfl)
theorem mv_Blob_hasBytes : Cond.selects m_Blob_hasBytes.1.cls m_Blob_hasBytes.1 m_Blob_hasBytes.1 ∈ Gw := (gw 199 (by decide +kernel) rfl)
abbrev m_ContentStore_areAlike : xM := (⟨"ContentStore", "areAlike", "([II[II)Z"⟩, prog_1_method_32_code, 6, (some .boolean))
theorem mk_ContentStore_areAlike : xMk m_ContentStore_areAlike 4 := ⟨(gw 203 (by decide +kernel) rfl), (gw 36 (by decide +kernel) rfl), ⟨by decide +kernel, by decide +kernel⟩, by decide +kernel, by decide +kernel, by decide⟩
theorem ms_ContentStore_areAlike : Cond.static m_ContentStore_areAlike.1 ∈ Gw := (gw 202 (by decide +kernel) rfl)
abbrev m_ContentStore_partLength : xM := (⟨"ContentStore", "partLength", "([II)I"⟩, prog_1_method_31_code, 2, (some .int))
theorem mk_ContentStore_partLength : xMk m_ContentStore_partLength 2 := ⟨(gw 206 (by decide +kernel) rfl), (gw 36 (by decide +kernel) rfl), ⟨by decide +kernel, by decide +kernel⟩, by decide +kernel, by decide +kernel, by decide⟩
theorem ms_ContentStore_partLength : Cond.static m_ContentStore_partLength.1 ∈ Gw := (gw 205 (by decide +kernel) rfl)
abbrev m_Blob_isSound : xM := (⟨"ContentStore$Blob", "isSound", "()Z"⟩, prog_2_method_5_code, 3, (some .boolean))
theorem mk_Blob_isSound : xMk m_Blob_isSound 0 := ⟨(gw 210 (by decide +kernel) rfl), (gw 46 (by decide +kernel) rfl), ⟨by decide +kernel, by decide +kernel⟩, by decide +kernel, by decide +kernel, by decide⟩
theorem mi_Blob_isSound : Cond.instanceMethod m_Blob_isSound.1 ∈ Gw := (gw 208 (by decide +kernel) rfl)
theorem mv_Blob_isSound : Cond.selects m_Blob_isSound.1.cls m_Blob_isSound.1 m_Blob_isSound.1 ∈ Gw := (gw 209 (by decide +kernel) rfl)
abbrev m_ContentStore_sumBehind : xM := (⟨"ContentStore", "sumBehind", "(I[I)I"⟩, prog_1_method_29_code, 5, (some .int))
theorem mk_ContentStore_sumBehind : xMk m_ContentStore_sumBehind 2 := ⟨(gw 213 (by decide +kernel) rfl), (gw 36 (by decide +kernel) rfl), ⟨by decide +kernel, by decide +kernel⟩, by decide +kernel, by decide +kernel, by decide⟩
theorem ms_ContentStore_sumBehind : Cond.static m_ContentStore_sumBehind.1 ∈ Gw := (gw 212 (by decide +kernel) rfl)
abbrev m_ContentStore_newBlobWith : xM := (⟨"ContentStore", "newBlobWith", "([I)I"⟩, prog_1_method_23_code, 3, (some .int))
theorem mk_ContentStore_newBlobWith : xMk m_ContentStore_newBlobWith 1 := ⟨(gw 218 (by decide +kernel) rfl), (gw 36 (by decide +kernel) rfl), ⟨by decide +kernel, by decide +kernel⟩, by decide +kernel, by decide +kernel, by decide⟩
theorem mi_ContentStore_newBlobWith : Cond.instanceMethod m_ContentStore_newBlobWith.1 ∈ Gw := (gw 217 (by decide +kernel) rfl)
theorem mv_ContentStore_newBlobWith : Cond.selects m_ContentStore_newBlobWith.1.cls m_ContentStore_newBlobWith.1 m_ContentStore_newBlobWith.1 ∈ Gw := (gw 3 (by decide +kernel) rfl)
abbrev m_Shelf_hasRoomFor : xM := (⟨"ContentStore$Shelf", "hasRoomFor", "([I)Z"⟩, prog_5_method_2_code, 4, (some .boolean))
theorem mk_Shelf_hasRoomFor : xMk m_Shelf_hasRoomFor 1 := ⟨(gw 222 (by decide +kernel) rfl), (gw 37 (by decide +kernel) rfl), ⟨by decide +kernel, by decide +kernel⟩, by decide +kernel, by decide +kernel, by decide⟩
theorem mi_Shelf_hasRoomFor : Cond.instanceMethod m_Shelf_hasRoomFor.1 ∈ Gw := (gw 220 (by decide +kernel) rfl)
theorem mv_Shelf_hasRoomFor : Cond.selects m_Shelf_hasRoomFor.1.cls m_Shelf_hasRoomFor.1 m_Shelf_hasRoomFor.1 ∈ Gw := (gw 221 (by decide +kernel) rfl)
abbrev m_Shelf_found : xM := (⟨"ContentStore$Shelf", "found", "([II)LContentStore$Part;"⟩, prog_5_method_6_code, 5, (some (.object "ContentStore$Part")))
theorem mk_Shelf_found : xMk m_Shelf_found 2 := ⟨(gw 226 (by decide +kernel) rfl), (gw 37 (by decide +kernel) rfl), ⟨by decide +kernel, by decide +kernel⟩, by decide +kernel, by decide +kernel, by decide⟩
theorem mi_Shelf_found : Cond.instanceMethod m_Shelf_found.1 ∈ Gw := (gw 225 (by decide +kernel) rfl)
theorem mv_Shelf_found : Cond.selects m_Shelf_found.1.cls m_Shelf_found.1 m_Shelf_found.1 ∈ Gw := (gw 4 (by decide +kernel) rfl)
abbrev m_ArrayList_size : xM := (⟨"java/util/ArrayList", "size", "()I"⟩, prog_15_method_8_code, 1, (some .int))
theorem mk_ArrayList_size : xMk m_ArrayList_size 0 := ⟨(gw 230 (by decide +kernel) rfl), (gw 41 (by decide +kernel) rfl), ⟨by decide +kernel, by decide +kernel⟩, by decide +kernel, by decide +kernel, by decide⟩
theorem mi_ArrayList_size : Cond.instanceMethod m_ArrayList_size.1 ∈ Gw := (gw 228 (by decide +kernel) rfl)
theorem mv_ArrayList_size : Cond.selects m_ArrayList_size.1.cls m_ArrayList_size.1 m_ArrayList_size.1 ∈ Gw := (gw 229 (by decide +kernel) rfl)
abbrev m_ArrayList_get : xM := (⟨"java/util/ArrayList", "get", "(I)Ljava/lang/Object;"⟩, prog_15_method_20_code, 2, (some (.object "java/lang/Object")))
theorem mk_ArrayList_get : xMk m_ArrayList_get 1 := ⟨(gw 234 (by decide +kernel) rfl), (gw 41 (by decide +kernel) rfl), ⟨by decide +kernel, by decide +kernel⟩, by decide +kernel, by decide +kernel, by decide⟩
theorem mi_ArrayList_get : Cond.instanceMethod m_ArrayList_get.1 ∈ Gw := (gw 232 (by decide +kernel) rfl)
theorem mv_ArrayList_get : Cond.selects m_ArrayList_get.1.cls m_ArrayList_get.1 m_ArrayList_get.1 ∈ Gw := (gw 233 (by decide +kernel) rfl)
abbrev m_Objects_checkIndex : xM := (⟨"java/util/Objects", "checkIndex", "(II)I"⟩, prog_19_method_17_code, 2, (some .int))
theorem mk_Objects_checkIndex : xMk m_Objects_checkIndex 2 := ⟨(gw 237 (by decide +kernel) rfl), (gw 44 (by decide +kernel) rfl), ⟨by decide +kernel, by decide +kernel⟩, by decide +kernel, by decide +kernel, by decide⟩
theorem ms_Objects_checkIndex : Cond.static m_Objects_checkIndex.1 ∈ Gw := (gw 236 (by decide +kernel) rfl)
abbrev m_Preconditions_checkIndex : xM := (⟨"jdk/internal/util/Preconditions", "checkIndex", "(IILjava/util/function/BiFunction;)I"⟩, prog_23_method_11_code, 3, (some .int))
theorem mk_Preconditions_checkIndex : xMk m_Preconditions_checkIndex 3 := ⟨(gw 240 (by decide +kernel) rfl), (gw 45 (by decide +kernel) rfl), ⟨by decide +kernel, by decide +kernel⟩, by decide +kernel, by decide +kernel, by decide⟩
theorem ms_Preconditions_checkIndex : Cond.static m_Preconditions_checkIndex.1 ∈ Gw := (gw 239 (by decide +kernel) rfl)
abbrev m_ArrayList_elementData : xM := (⟨"java/util/ArrayList", "elementData", "(I)Ljava/lang/Object;"⟩, prog_15_method_18_code, 2, (some (.object "java/lang/Object")))
theorem mk_ArrayList_elementData : xMk m_ArrayList_elementData 1 := ⟨(gw 244 (by decide +kernel) rfl), (gw 41 (by decide +kernel) rfl), ⟨by decide +kernel, by decide +kernel⟩, by decide +kernel, by decide +kernel, by decide⟩
theorem mi_ArrayList_elementData : Cond.instanceMethod m_ArrayList_elementData.1 ∈ Gw := (gw 242 (by decide +kernel) rfl)
theorem mv_ArrayList_elementData : Cond.selects m_ArrayList_elementData.1.cls m_ArrayList_elementData.1 m_ArrayList_elementData.1 ∈ Gw := (gw 243 (by decide +kernel) rfl)
abbrev m_Shelf_comesEarlier : xM := (⟨"ContentStore$Shelf", "comesEarlier", "([II)Z"⟩, prog_5_method_7_code, 4, (some .boolean))
theorem mk_Shelf_comesEarlier : xMk m_Shelf_comesEarlier 2 := ⟨(gw 250 (by decide +kernel) rfl), (gw 37 (by decide +kernel) rfl), ⟨by decide +kernel, by decide +kernel⟩, by decide +kernel, by decide +kernel, by decide⟩
theorem mi_Shelf_comesEarlier : Cond.instanceMethod m_Shelf_comesEarlier.1 ∈ Gw := (gw 249 (by decide +kernel) rfl)
theorem mv_Shelf_comesEarlier : Cond.selects m_Shelf_comesEarlier.1.cls m_Shelf_comesEarlier.1 m_Shelf_comesEarlier.1 ∈ Gw := (gw 5 (by decide +kernel) rfl)
abbrev m_Shelf_rowOf : xM := (⟨"ContentStore$Shelf", "rowOf", "([I[LContentStore$Part;)[LContentStore$Part;"⟩, prog_5_method_3_code, 7, (some (.array (.object "ContentStore$Part"))))
theorem mk_Shelf_rowOf : xMk m_Shelf_rowOf 2 := ⟨(gw 258 (by decide +kernel) rfl), (gw 37 (by decide +kernel) rfl), ⟨by decide +kernel, by decide +kernel⟩, by decide +kernel, by decide +kernel, by decide⟩
theorem mi_Shelf_rowOf : Cond.instanceMethod m_Shelf_rowOf.1 ∈ Gw := (gw 256 (by decide +kernel) rfl)
theorem mv_Shelf_rowOf : Cond.selects m_Shelf_rowOf.1.cls m_Shelf_rowOf.1 m_Shelf_rowOf.1 ∈ Gw := (gw 257 (by decide +kernel) rfl)
abbrev m_Shelf_made : xM := (⟨"ContentStore$Shelf", "made", "([II)LContentStore$Part;"⟩, prog_5_method_5_code, 4, (some (.object "ContentStore$Part")))
theorem mk_Shelf_made : xMk m_Shelf_made 2 := ⟨(gw 262 (by decide +kernel) rfl), (gw 37 (by decide +kernel) rfl), ⟨by decide +kernel, by decide +kernel⟩, by decide +kernel, by decide +kernel, by decide⟩
theorem mi_Shelf_made : Cond.instanceMethod m_Shelf_made.1 ∈ Gw := (gw 261 (by decide +kernel) rfl)
theorem mv_Shelf_made : Cond.selects m_Shelf_made.1.cls m_Shelf_made.1 m_Shelf_made.1 ∈ Gw := (gw 6 (by decide +kernel) rfl)
abbrev m_Part_init : xM := (⟨"ContentStore$Part", "<init>", "([II)V"⟩, prog_3_method_1_code, 5, none)
theorem mk_Part_init : xMk m_Part_init 2 := ⟨(gw 266 (by decide +kernel) rfl), (gw 47 (by decide +kernel) rfl), ⟨by decide +kernel, by decide +kernel⟩, by decide +kernel, by decide +kernel, by decide⟩
theorem mi_Part_init : Cond.instanceMethod m_Part_init.1 ∈ Gw := (gw 265 (by decide +kernel) rfl)
abbrev m_ArrayList_add : xM := (⟨"java/util/ArrayList", "add", "(Ljava/lang/Object;)Z"⟩, prog_15_method_25_code, 2, (some .boolean))
theorem mk_ArrayList_add : xMk m_ArrayList_add 1 := ⟨(gw 281 (by decide +kernel) rfl), (gw 41 (by decide +kernel) rfl), ⟨by decide +kernel, by decide +kernel⟩, by decide +kernel, by decide +kernel, by decide⟩
theorem mi_ArrayList_add : Cond.instanceMethod m_ArrayList_add.1 ∈ Gw := (gw 279 (by decide +kernel) rfl)
theorem mv_ArrayList_add : Cond.selects m_ArrayList_add.1.cls m_ArrayList_add.1 m_ArrayList_add.1 ∈ Gw := (gw 280 (by decide +kernel) rfl)
abbrev m_ArrayList_add2 : xM := (⟨"java/util/ArrayList", "add", "(Ljava/lang/Object;[Ljava/lang/Object;I)V"⟩, prog_15_method_24_code, 4, none)
theorem mk_ArrayList_add2 : xMk m_ArrayList_add2 3 := ⟨(gw 285 (by decide +kernel) rfl), (gw 41 (by decide +kernel) rfl), ⟨by decide +kernel, by decide +kernel⟩, by decide +kernel, by decide +kernel, by decide⟩
theorem mi_ArrayList_add2 : Cond.instanceMethod m_ArrayList_add2.1 ∈ Gw := (gw 284 (by decide +kernel) rfl)
theorem mv_ArrayList_add2 : Cond.selects m_ArrayList_add2.1.cls m_ArrayList_add2.1 m_ArrayList_add2.1 ∈ Gw := (gw 7 (by decide +kernel) rfl)
abbrev m_ArrayList_grow : xM := (⟨"java/util/ArrayList", "grow", "()[Ljava/lang/Object;"⟩, prog_15_method_7_code, 1, (some (.array (.object "java/lang/Object"))))
theorem mk_ArrayList_grow : xMk m_ArrayList_grow 0 := ⟨(gw 289 (by decide +kernel) rfl), (gw 41 (by decide +kernel) rfl), ⟨by decide +kernel, by decide +kernel⟩, by decide +kernel, by decide +kernel, by decide⟩
theorem mi_ArrayList_grow : Cond.instanceMethod m_ArrayList_grow.1 ∈ Gw := (gw 288 (by decide +kernel) rfl)
theorem mv_ArrayList_grow : Cond.selects m_ArrayList_grow.1.cls m_ArrayList_grow.1 m_ArrayList_grow.1 ∈ Gw := (gw 8 (by decide +kernel) rfl)
abbrev m_ArrayList_grow2 : xM := (⟨"java/util/ArrayList", "grow", "(I)[Ljava/lang/Object;"⟩, prog_15_method_6_code, 4, (some (.array (.object "java/lang/Object"))))
theorem mk_ArrayList_grow2 : xMk m_ArrayList_grow2 1 := ⟨(gw 293 (by decide +kernel) rfl), (gw 41 (by decide +kernel) rfl), ⟨by decide +kernel, by decide +kernel⟩, by decide +kernel, by decide +kernel, by decide⟩
theorem mi_ArrayList_grow2 : Cond.instanceMethod m_ArrayList_grow2.1 ∈ Gw := (gw 292 (by decide +kernel) rfl)
theorem mv_ArrayList_grow2 : Cond.selects m_ArrayList_grow2.1.cls m_ArrayList_grow2.1 m_ArrayList_grow2.1 ∈ Gw := (gw 9 (by decide +kernel) rfl)
abbrev m_ArraysSupport_newLength : xM := (⟨"jdk/internal/util/ArraysSupport", "newLength", "(III)I"⟩, prog_22_method_27_code, 4, (some .int))
theorem mk_ArraysSupport_newLength : xMk m_ArraysSupport_newLength 3 := ⟨(gw 296 (by decide +kernel) rfl), (gw 48 (by decide +kernel) rfl), ⟨by decide +kernel, by decide +kernel⟩, by decide +kernel, by decide +kernel, by decide⟩
theorem ms_ArraysSupport_newLength : Cond.static m_ArraysSupport_newLength.1 ∈ Gw := (gw 295 (by decide +kernel) rfl)
abbrev m_ArraysSupport_hugeLength : xM := (⟨"jdk/internal/util/ArraysSupport", "hugeLength", "(II)I"⟩, prog_22_method_28_code, 3, (some .int))
theorem mk_ArraysSupport_hugeLength : xMk m_ArraysSupport_hugeLength 2 := ⟨(gw 301 (by decide +kernel) rfl), (gw 48 (by decide +kernel) rfl), ⟨by decide +kernel, by decide +kernel⟩, by decide +kernel, by decide +kernel, by decide⟩
theorem ms_ArraysSupport_hugeLength : Cond.static m_ArraysSupport_hugeLength.1 ∈ Gw := (gw 300 (by decide +kernel) rfl)
abbrev m_Arrays_copyOf : xM := (⟨"java/util/Arrays", "copyOf", "([Ljava/lang/Object;I)[Ljava/lang/Object;"⟩, prog_16_method_119_code, 2, (some (.array (.object "java/lang/Object"))))
theorem mk_Arrays_copyOf : xMk m_Arrays_copyOf 2 := ⟨(gw 304 (by decide +kernel) rfl), (gw 49 (by decide +kernel) rfl), ⟨by decide +kernel, by decide +kernel⟩, by decide +kernel, by decide +kernel, by decide⟩
theorem ms_Arrays_copyOf : Cond.static m_Arrays_copyOf.1 ∈ Gw := (gw 303 (by decide +kernel) rfl)
abbrev m_Arrays_copyOf2 : xM := (⟨"java/util/Arrays", "copyOf", "([Ljava/lang/Object;ILjava/lang/Class;)[Ljava/lang/Object;"⟩, prog_16_method_120_code, 4, (some (.array (.object "java/lang/Object"))))
theorem mk_Arrays_copyOf2 : xMk m_Arrays_copyOf2 3 := ⟨(gw 318 (by decide +kernel) rfl), (gw 49 (by decide +kernel) rfl), ⟨by decide +kernel, by decide +kernel⟩, by decide +kernel, by decide +kernel, by decide⟩
theorem ms_Arrays_copyOf2 : Cond.static m_Arrays_copyOf2.1 ∈ Gw := (gw 317 (by decide +kernel) rfl)
abbrev m_Blob_init : xM := (⟨"ContentStore$Blob", "<init>", "([I[LContentStore$Part;)V"⟩, prog_2_method_1_code, 3, none)
theorem mk_Blob_init : xMk m_Blob_init 2 := ⟨(gw 330 (by decide +kernel) rfl), (gw 46 (by decide +kernel) rfl), ⟨by decide +kernel, by decide +kernel⟩, by decide +kernel, by decide +kernel, by decide⟩
theorem mi_Blob_init : Cond.instanceMethod m_Blob_init.1 ∈ Gw := (gw 329 (by decide +kernel) rfl)
abbrev m_ContentStore_digestOf : xM := (⟨"ContentStore", "digestOf", "([I)J"⟩, prog_1_method_30_code, 4, (some .long))
theorem mk_ContentStore_digestOf : xMk m_ContentStore_digestOf 1 := ⟨(gw 334 (by decide +kernel) rfl), (gw 36 (by decide +kernel) rfl), ⟨by decide +kernel, by decide +kernel⟩, by decide +kernel, by decide +kernel, by decide⟩
theorem ms_ContentStore_digestOf : Cond.static m_ContentStore_digestOf.1 ∈ Gw := (gw 333 (by decide +kernel) rfl)
abbrev m_ContentStore_there : xM := (⟨"ContentStore", "there", "(I)Z"⟩, prog_1_method_5_code, 2, (some .boolean))
theorem mk_ContentStore_there : xMk m_ContentStore_there 1 := ⟨(gw 367 (by decide +kernel) rfl), (gw 36 (by decide +kernel) rfl), ⟨by decide +kernel, by decide +kernel⟩, by decide +kernel, by decide +kernel, by decide⟩
theorem mi_ContentStore_there : Cond.instanceMethod m_ContentStore_there.1 ∈ Gw := (gw 365 (by decide +kernel) rfl)
theorem mv_ContentStore_there : Cond.selects m_ContentStore_there.1.cls m_ContentStore_there.1 m_ContentStore_there.1 ∈ Gw := (gw 366 (by decide +kernel) rfl)
abbrev m_ContentStore_digest : xM := (⟨"ContentStore", "digest", "(I)J"⟩, prog_1_method_6_code, 3, (some .long))
theorem mk_ContentStore_digest : xMk m_ContentStore_digest 1 := ⟨(gw 371 (by decide +kernel) rfl), (gw 36 (by decide +kernel) rfl), ⟨by decide +kernel, by decide +kernel⟩, by decide +kernel, by decide +kernel, by decide⟩
theorem mi_ContentStore_digest : Cond.instanceMethod m_ContentStore_digest.1 ∈ Gw := (gw 369 (by decide +kernel) rfl)
theorem mv_ContentStore_digest : Cond.selects m_ContentStore_digest.1.cls m_ContentStore_digest.1 m_ContentStore_digest.1 ∈ Gw := (gw 370 (by decide +kernel) rfl)
abbrev m_ContentStore_size : xM := (⟨"ContentStore", "size", "(I)I"⟩, prog_1_method_7_code, 3, (some .int))
theorem mk_ContentStore_size : xMk m_ContentStore_size 1 := ⟨(gw 375 (by decide +kernel) rfl), (gw 36 (by decide +kernel) rfl), ⟨by decide +kernel, by decide +kernel⟩, by decide +kernel, by decide +kernel, by decide⟩
theorem mi_ContentStore_size : Cond.instanceMethod m_ContentStore_size.1 ∈ Gw := (gw 373 (by decide +kernel) rfl)
theorem mv_ContentStore_size : Cond.selects m_ContentStore_size.1.cls m_ContentStore_size.1 m_ContentStore_size.1 ∈ Gw := (gw 374 (by decide +kernel) rfl)
abbrev m_ContentStore_get : xM := (⟨"ContentStore", "get", "(II)I"⟩, prog_1_method_8_code, 5, (some .int))
theorem mk_ContentStore_get : xMk m_ContentStore_get 2 := ⟨(gw 379 (by decide +kernel) rfl), (gw 36 (by decide +kernel) rfl), ⟨by decide +kernel, by decide +kernel⟩, by decide +kernel, by decide +kernel, by decide⟩
theorem mi_ContentStore_get : Cond.instanceMethod m_ContentStore_get.1 ∈ Gw := (gw 377 (by decide +kernel) rfl)
theorem mv_ContentStore_get : Cond.selects m_ContentStore_get.1.cls m_ContentStore_get.1 m_ContentStore_get.1 ∈ Gw := (gw 378 (by decide +kernel) rfl)
abbrev m_Blob_partOf : xM := (⟨"ContentStore$Blob", "partOf", "(I)LContentStore$Part;"⟩, prog_2_method_2_code, 3, (some (.object "ContentStore$Part")))
theorem mk_Blob_partOf : xMk m_Blob_partOf 1 := ⟨(gw 383 (by decide +kernel) rfl), (gw 46 (by decide +kernel) rfl), ⟨by decide +kernel, by decide +kernel⟩, by decide +kernel, by decide +kernel, by decide⟩
theorem mi_Blob_partOf : Cond.instanceMethod m_Blob_partOf.1 ∈ Gw := (gw 381 (by decide +kernel) rfl)
theorem mv_Blob_partOf : Cond.selects m_Blob_partOf.1.cls m_Blob_partOf.1 m_Blob_partOf.1 ∈ Gw := (gw 382 (by decide +kernel) rfl)
abbrev m_Part_byteAt : xM := (⟨"ContentStore$Part", "byteAt", "(I)I"⟩, prog_3_method_2_code, 2, (some .int))
theorem mk_Part_byteAt : xMk m_Part_byteAt 1 := ⟨(gw 387 (by decide +kernel) rfl), (gw 47 (by decide +kernel) rfl), ⟨by decide +kernel, by decide +kernel⟩, by decide +kernel, by decide +kernel, by decide⟩
theorem mi_Part_byteAt : Cond.instanceMethod m_Part_byteAt.1 ∈ Gw := (gw 385 (by decide +kernel) rfl)
theorem mv_Part_byteAt : Cond.selects m_Part_byteAt.1.cls m_Part_byteAt.1 m_Part_byteAt.1 ∈ Gw := (gw 386 (by decide +kernel) rfl)
abbrev m_ContentStore_poison : xM := (⟨"ContentStore", "poison", "(III)Z"⟩, prog_1_method_9_code, 7, (some .boolean))
theorem mk_ContentStore_poison : xMk m_ContentStore_poison 3 := ⟨(gw 391 (by decide +kernel) rfl), (gw 36 (by decide +kernel) rfl), ⟨by decide +kernel, by decide +kernel⟩, by decide +kernel, by decide +kernel, by decide⟩
theorem mi_ContentStore_poison : Cond.instanceMethod m_ContentStore_poison.1 ∈ Gw := (gw 389 (by decide +kernel) rfl)
theorem mv_ContentStore_poison : Cond.selects m_ContentStore_poison.1.cls m_ContentStore_poison.1 m_ContentStore_poison.1 ∈ Gw := (gw 390 (by decide +kernel) rfl)
abbrev m_Part_alter : xM := (⟨"ContentStore$Part", "alter", "(II)Z"⟩, prog_3_method_3_code, 3, (some .boolean))
theorem mk_Part_alter : xMk m_Part_alter 2 := ⟨(gw 395 (by decide +kernel) rfl), (gw 47 (by decide +kernel) rfl), ⟨by decide +kernel, by decide +kernel⟩, by decide +kernel, by decide +kernel, by decide⟩
theorem mi_Part_alter : Cond.instanceMethod m_Part_alter.1 ∈ Gw := (gw 393 (by decide +kernel) rfl)
theorem mv_Part_alter : Cond.selects m_Part_alter.1.cls m_Part_alter.1 m_Part_alter.1 ∈ Gw := (gw 394 (by decide +kernel) rfl)
abbrev m_ContentStore_sound : xM := (⟨"ContentStore", "sound", "(I)Z"⟩, prog_1_method_10_code, 3, (some .boolean))
theorem mk_ContentStore_sound : xMk m_ContentStore_sound 1 := ⟨(gw 399 (by decide +kernel) rfl), (gw 36 (by decide +kernel) rfl), ⟨by decide +kernel, by decide +kernel⟩, by decide +kernel, by decide +kernel, by decide⟩
theorem mi_ContentStore_sound : Cond.instanceMethod m_ContentStore_sound.1 ∈ Gw := (gw 397 (by decide +kernel) rfl)
theorem mv_ContentStore_sound : Cond.selects m_ContentStore_sound.1.cls m_ContentStore_sound.1 m_ContentStore_sound.1 ∈ Gw := (gw 398 (by decide +kernel) rfl)
abbrev m_ContentStore_mirror : xM := (⟨"ContentStore", "mirror", "(I)Z"⟩, prog_1_method_11_code, 3, (some .boolean))
theorem mk_ContentStore_mirror : xMk m_ContentStore_mirror 1 := ⟨(gw 403 (by decide +kernel) rfl), (gw 36 (by decide +kernel) rfl), ⟨by decide +kernel, by decide +kernel⟩, by decide +kernel, by decide +kernel, by decide⟩
theorem mi_ContentStore_mirror : Cond.instanceMethod m_ContentStore_mirror.1 ∈ Gw := (gw 401 (by decide +kernel) rfl)
theorem mv_ContentStore_mirror : Cond.selects m_ContentStore_mirror.1.cls m_ContentStore_mirror.1 m_ContentStore_mirror.1 ∈ Gw := (gw 402 (by decide +kernel) rfl)
abbrev m_Blob_copyBytes : xM := (⟨"ContentStore$Blob", "copyBytes", "()V"⟩, prog_2_method_6_code, 3, none)
theorem mk_Blob_copyBytes : xMk m_Blob_copyBytes 0 := ⟨(gw 407 (by decide +kernel) rfl), (gw 46 (by decide +kernel) rfl), ⟨by decide +kernel, by decide +kernel⟩, by decide +kernel, by decide +kernel, by decide⟩
theorem mi_Blob_copyBytes : Cond.instanceMethod m_Blob_copyBytes.1 ∈ Gw := (gw 405 (by decide +kernel) rfl)
theorem mv_Blob_copyBytes : Cond.selects m_Blob_copyBytes.1.cls m_Blob_copyBytes.1 m_Blob_copyBytes.1 ∈ Gw := (gw 406 (by decide +kernel) rfl)
abbrev m_ContentStore_repair : xM := (⟨"ContentStore", "repair", "(I)I"⟩, prog_1_method_12_code, 4, (some .int))
theorem mk_ContentStore_repair : xMk m_ContentStore_repair 1 := ⟨(gw 413 (by decide +kernel) rfl), (gw 36 (by decide +kernel) rfl), ⟨by decide +kernel, by decide +kernel⟩, by decide +kernel, by decide +kernel, by decide⟩
theorem mi_ContentStore_repair : Cond.instanceMethod m_ContentStore_repair.1 ∈ Gw := (gw 411 (by decide +kernel) rfl)
theorem mv_ContentStore_repair : Cond.selects m_ContentStore_repair.1.cls m_ContentStore_repair.1 m_ContentStore_repair.1 ∈ Gw := (gw 412 (by decide +kernel) rfl)
abbrev m_Blob_hasRightCopy : xM := (⟨"ContentStore$Blob", "hasRightCopy", "()Z"⟩, prog_2_method_7_code, 1, (some .boolean))
theorem mk_Blob_hasRightCopy : xMk m_Blob_hasRightCopy 0 := ⟨(gw 417 (by decide +kernel) rfl), (gw 46 (by decide +kernel) rfl), ⟨by decide +kernel, by decide +kernel⟩, by decide +kernel, by decide +kernel, by decide⟩
theorem mi_Blob_hasRightCopy : Cond.instanceMethod m_Blob_hasRightCopy.1 ∈ Gw := (gw 415 (by decide +kernel) rfl)
theorem mv_Blob_hasRightCopy : Cond.selects m_Blob_hasRightCopy.1.cls m_Blob_hasRightCopy.1 m_Blob_hasRightCopy.1 ∈ Gw := (gw 416 (by decide +kernel) rfl)
abbrev m_Shelf_leave : xM := (⟨"ContentStore$Shelf", "leave", "([LContentStore$Part;)V"⟩, prog_5_method_4_code, 4, none)
theorem mk_Shelf_leave : xMk m_Shelf_leave 1 := ⟨(gw 421 (by decide +kernel) rfl), (gw 37 (by decide +kernel) rfl), ⟨by decide +kernel, by decide +kernel⟩, by decide +kernel, by decide +kernel, by decide⟩
theorem mi_Shelf_leave : Cond.instanceMethod m_Shelf_leave.1 ∈ Gw := (gw 419 (by decide +kernel) rfl)
theorem mv_Shelf_leave : Cond.selects m_Shelf_leave.1.cls m_Shelf_leave.1 m_Shelf_leave.1 ∈ Gw := (gw 420 (by decide +kernel) rfl)
abbrev m_Shelf_drop : xM := (⟨"ContentStore$Shelf", "drop", "(LContentStore$Part;)V"⟩, prog_5_method_8_code, 3, none)
theorem mk_Shelf_drop : xMk m_Shelf_drop 1 := ⟨(gw 425 (by decide +kernel) rfl), (gw 37 (by decide +kernel) rfl), ⟨by decide +kernel, by decide +kernel⟩, by decide +kernel, by decide +kernel, by decide⟩
theorem mi_Shelf_drop : Cond.instanceMethod m_Shelf_drop.1 ∈ Gw := (gw 424 (by decide +kernel) rfl)
theorem mv_Shelf_drop : Cond.selects m_Shelf_drop.1.cls m_Shelf_drop.1 m_Shelf_drop.1 ∈ Gw := (gw 10 (by decide +kernel) rfl)
abbrev m_ArrayList_remove : xM := (⟨"java/util/ArrayList", "remove", "(I)Ljava/lang/Object;"⟩, prog_15_method_29_code, 4, (some (.object "java/lang/Object")))
theorem mk_ArrayList_remove : xMk m_ArrayList_remove 1 := ⟨(gw 429 (by decide +kernel) rfl), (gw 41 (by decide +kernel) rfl), ⟨by decide +kernel, by decide +kernel⟩, by decide +kernel, by decide +kernel, by decide⟩
theorem mi_ArrayList_remove : Cond.instanceMethod m_ArrayList_remove.1 ∈ Gw := (gw 427 (by decide +kernel) rfl)
theorem mv_ArrayList_remove : Cond.selects m_ArrayList_remove.1.cls m_ArrayList_remove.1 m_ArrayList_remove.1 ∈ Gw := (gw 428 (by decide +kernel) rfl)
abbrev m_ArrayList_fastRemove : xM := (⟨"java/util/ArrayList", "fastRemove", "([Ljava/lang/Object;I)V"⟩, prog_15_method_39_code, 4, none)
theorem mk_ArrayList_fastRemove : xMk m_ArrayList_fastRemove 2 := ⟨(gw 433 (by decide +kernel) rfl), (gw 41 (by decide +kernel) rfl), ⟨by decide +kernel, by decide +kernel⟩, by decide +kernel, by decide +kernel, by decide⟩
theorem mi_ArrayList_fastRemove : Cond.instanceMethod m_ArrayList_fastRemove.1 ∈ Gw := (gw 432 (by decide +kernel) rfl)
theorem mv_ArrayList_fastRemove : Cond.selects m_ArrayList_fastRemove.1.cls m_ArrayList_fastRemove.1 m_ArrayList_fastRemove.1 ∈ Gw := (gw 11 (by decide +kernel) rfl)
abbrev m_ContentStore_refer : xM := (⟨"ContentStore", "refer", "(II)Z"⟩, prog_1_method_13_code, 3, (some .boolean))
theorem mk_ContentStore_refer : xMk m_ContentStore_refer 2 := ⟨(gw 438 (by decide +kernel) rfl), (gw 36 (by decide +kernel) rfl), ⟨by decide +kernel, by decide +kernel⟩, by decide +kernel, by decide +kernel, by decide⟩
theorem mi_ContentStore_refer : Cond.instanceMethod m_ContentStore_refer.1 ∈ Gw := (gw 436 (by decide +kernel) rfl)
theorem mv_ContentStore_refer : Cond.selects m_ContentStore_refer.1.cls m_ContentStore_refer.1 m_ContentStore_refer.1 ∈ Gw := (gw 437 (by decide +kernel) rfl)
abbrev m_ContentStore_referred : xM := (⟨"ContentStore", "referred", "(I)I"⟩, prog_1_method_14_code, 2, (some .int))
theorem mk_ContentStore_referred : xMk m_ContentStore_referred 1 := ⟨(gw 442 (by decide +kernel) rfl), (gw 36 (by decide +kernel) rfl), ⟨by decide +kernel, by decide +kernel⟩, by decide +kernel, by decide +kernel, by decide⟩
theorem mi_ContentStore_referred : Cond.instanceMethod m_ContentStore_referred.1 ∈ Gw := (gw 440 (by decide +kernel) rfl)
theorem mv_ContentStore_referred : Cond.selects m_ContentStore_referred.1.cls m_ContentStore_referred.1 m_ContentStore_referred.1 ∈ Gw := (gw 441 (by decide +kernel) rfl)
abbrev m_ContentStore_sweep : xM := (⟨"ContentStore", "sweep", "()I"⟩, prog_1_method_15_code, 4, (some .int))
theorem mk_ContentStore_sweep : xMk m_ContentStore_sweep 0 := ⟨(gw 446 (by decide +kernel) rfl), (gw 36 (by decide +kernel) rfl), ⟨by decide +kernel, by decide +kernel⟩, by decide +kernel, by decide +kernel, by decide⟩
theorem mi_ContentStore_sweep : Cond.instanceMethod m_ContentStore_sweep.1 ∈ Gw := (gw 444 (by decide +kernel) rfl)
theorem mv_ContentStore_sweep : Cond.selects m_ContentStore_sweep.1.cls m_ContentStore_sweep.1 m_ContentStore_sweep.1 ∈ Gw := (gw 445 (by decide +kernel) rfl)
abbrev m_ContentStore_isReferredTo : xM := (⟨"ContentStore", "isReferredTo", "(I)Z"⟩, prog_1_method_25_code, 3, (some .boolean))
theorem mk_ContentStore_isReferredTo : xMk m_ContentStore_isReferredTo 1 := ⟨(gw 450 (by decide +kernel) rfl), (gw 36 (by decide +kernel) rfl), ⟨by decide +kernel, by decide +kernel⟩, by decide +kernel, by decide +kernel, by decide⟩
theorem mi_ContentStore_isReferredTo : Cond.instanceMethod m_ContentStore_isReferredTo.1 ∈ Gw := (gw 449 (by decide +kernel) rfl)
theorem mv_ContentStore_isReferredTo : Cond.selects m_ContentStore_isReferredTo.1.cls m_ContentStore_isReferredTo.1 m_ContentStore_isReferredTo.1 ∈ Gw := (gw 12 (by decide +kernel) rfl)
abbrev m_ContentStore_letGo : xM := (⟨"ContentStore", "letGo", "(LContentStore$Blob;)V"⟩, prog_1_method_24_code, 2, none)
theorem mk_ContentStore_letGo : xMk m_ContentStore_letGo 1 := ⟨(gw 454 (by decide +kernel) rfl), (gw 36 (by decide +kernel) rfl), ⟨by decide +kernel, by decide +kernel⟩, by decide +kernel, by decide +kernel, by decide⟩
theorem mi_ContentStore_letGo : Cond.instanceMethod m_ContentStore_letGo.1 ∈ Gw := (gw 453 (by decide +kernel) rfl)
theorem mv_ContentStore_letGo : Cond.selects m_ContentStore_letGo.1.cls m_ContentStore_letGo.1 m_ContentStore_letGo.1 ∈ Gw := (gw 13 (by decide +kernel) rfl)
abbrev m_ContentStore_pack : xM := (⟨"ContentStore", "pack", "()I"⟩, prog_1_method_16_code, 4, (some .int))
theorem mk_ContentStore_pack : xMk m_ContentStore_pack 0 := ⟨(gw 458 (by decide +kernel) rfl), (gw 36 (by decide +kernel) rfl), ⟨by decide +kernel, by decide +kernel⟩, by decide +kernel, by decide +kernel, by decide⟩
theorem mi_ContentStore_pack : Cond.instanceMethod m_ContentStore_pack.1 ∈ Gw := (gw 456 (by decide +kernel) rfl)
theorem mv_ContentStore_pack : Cond.selects m_ContentStore_pack.1.cls m_ContentStore_pack.1 m_ContentStore_pack.1 ∈ Gw := (gw 457 (by decide +kernel) rfl)
abbrev m_ContentStore_cut : xM := (⟨"ContentStore", "cut", "(II)I"⟩, prog_1_method_17_code, 7, (some .int))
theorem mk_ContentStore_cut : xMk m_ContentStore_cut 2 := ⟨(gw 462 (by decide +kernel) rfl), (gw 36 (by decide +kernel) rfl), ⟨by decide +kernel, by decide +kernel⟩, by decide +kernel, by decide +kernel, by decide⟩
theorem mi_ContentStore_cut : Cond.instanceMethod m_ContentStore_cut.1 ∈ Gw := (gw 460 (by decide +kernel) rfl)
theorem mv_ContentStore_cut : Cond.selects m_ContentStore_cut.1.cls m_ContentStore_cut.1 m_ContentStore_cut.1 ∈ Gw := (gw 461 (by decide +kernel) rfl)
abbrev m_ContentStore_forget : xM := (⟨"ContentStore", "forget", "(I)V"⟩, prog_1_method_26_code, 3, none)
theorem mk_ContentStore_forget : xMk m_ContentStore_forget 1 := ⟨(gw 466 (by decide +kernel) rfl), (gw 36 (by decide +kernel) rfl), ⟨by decide +kernel, by decide +kernel⟩, by decide +kernel, by decide +kernel, by decide⟩
theorem mi_ContentStore_forget : Cond.instanceMethod m_ContentStore_forget.1 ∈ Gw := (gw 465 (by decide +kernel) rfl)
theorem mv_ContentStore_forget : Cond.selects m_ContentStore_forget.1.cls m_ContentStore_forget.1 m_ContentStore_forget.1 ∈ Gw := (gw 14 (by decide +kernel) rfl)
abbrev m_ContentStore_packOf : xM := (⟨"ContentStore", "packOf", "(I)I"⟩, prog_1_method_18_code, 3, (some .int))
theorem mk_ContentStore_packOf : xMk m_ContentStore_packOf 1 := ⟨(gw 470 (by decide +kernel) rfl), (gw 36 (by decide +kernel) rfl), ⟨by decide +kernel, by decide +kernel⟩, by decide +kernel, by decide +kernel, by decide⟩
theorem mi_ContentStore_packOf : Cond.instanceMethod m_ContentStore_packOf.1 ∈ Gw := (gw 468 (by decide +kernel) rfl)
theorem mv_ContentStore_packOf : Cond.selects m_ContentStore_packOf.1.cls m_ContentStore_packOf.1 m_ContentStore_packOf.1 ∈ Gw := (gw 469 (by decide +kernel) rfl)
abbrev m_ContentStore_count : xM := (⟨"ContentStore", "count", "(I)I"⟩, prog_1_method_19_code, 2, (some .int))
theorem mk_ContentStore_count : xMk m_ContentStore_count 1 := ⟨(gw 474 (by decide +kernel) rfl), (gw 36 (by decide +kernel) rfl), ⟨by decide +kernel, by decide +kernel⟩, by decide +kernel, by decide +kernel, by decide⟩
theorem mi_ContentStore_count : Cond.instanceMethod m_ContentStore_count.1 ∈ Gw := (gw 472 (by decide +kernel) rfl)
theorem mv_ContentStore_count : Cond.selects m_ContentStore_count.1.cls m_ContentStore_count.1 m_ContentStore_count.1 ∈ Gw := (gw 473 (by decide +kernel) rfl)
abbrev m_ContentStore_blobsThere : xM := (⟨"ContentStore", "blobsThere", "()I"⟩, prog_1_method_27_code, 3, (some .int))
theorem mk_ContentStore_blobsThere : xMk m_ContentStore_blobsThere 0 := ⟨(gw 479 (by decide +kernel) rfl), (gw 36 (by decide +kernel) rfl), ⟨by decide +kernel, by decide +kernel⟩, by decide +kernel, by decide +kernel, by decide⟩
theorem mi_ContentStore_blobsThere : Cond.instanceMethod m_ContentStore_blobsThere.1 ∈ Gw := (gw 478 (by decide +kernel) rfl)
theorem mv_ContentStore_blobsThere : Cond.selects m_ContentStore_blobsThere.1.cls m_ContentStore_blobsThere.1 m_ContentStore_blobsThere.1 ∈ Gw := (gw 15 (by decide +kernel) rfl)
abbrev m_ContentStore_sharersOfFirst : xM := (⟨"ContentStore", "sharersOfFirst", "(I)I"⟩, prog_1_method_28_code, 7, (some .int))
theorem mk_ContentStore_sharersOfFirst : xMk m_ContentStore_sharersOfFirst 1 := ⟨(gw 483 (by decide +kernel) rfl), (gw 36 (by decide +kernel) rfl), ⟨by decide +kernel, by decide +kernel⟩, by decide +kernel, by decide +kernel, by decide⟩
theorem mi_ContentStore_sharersOfFirst : Cond.instanceMethod m_ContentStore_sharersOfFirst.1 ∈ Gw := (gw 482 (by decide +kernel) rfl)
theorem mv_ContentStore_sharersOfFirst : Cond.selects m_ContentStore_sharersOfFirst.1.cls m_ContentStore_sharersOfFirst.1 m_ContentStore_sharersOfFirst.1 ∈ Gw := (gw 16 (by decide +kernel) rfl)
abbrev m_Blob_hasPart : xM := (⟨"ContentStore$Blob", "hasPart", "(LContentStore$Part;)Z"⟩, prog_2_method_3_code, 3, (some .boolean))
theorem mk_Blob_hasPart : xMk m_Blob_hasPart 1 := ⟨(gw 487 (by decide +kernel) rfl), (gw 46 (by decide +kernel) rfl), ⟨by decide +kernel, by decide +kernel⟩, by decide +kernel, by decide +kernel, by decide⟩
theorem mi_Blob_hasPart : Cond.instanceMethod m_Blob_hasPart.1 ∈ Gw := (gw 485 (by decide +kernel) rfl)
theorem mv_Blob_hasPart : Cond.selects m_Blob_hasPart.1.cls m_Blob_hasPart.1 m_Blob_hasPart.1 ∈ Gw := (gw 486 (by decide +kernel) rfl)
abbrev m_ContentStoreLaw_cell : xM := (⟨"ContentStoreLaw", "cell", "([II)I"⟩, method_2_code, 2, (some .int))
theorem mk_ContentStoreLaw_cell : xMk m_ContentStoreLaw_cell 2 := ⟨(gw 490 (by decide +kernel) rfl), (gw 35 (by decide +kernel) rfl), ⟨by decide +kernel, by decide +kernel⟩, by decide +kernel, by decide +kernel, by decide⟩
theorem ms_ContentStoreLaw_cell : Cond.static m_ContentStoreLaw_cell.1 ∈ Gw := (gw 489 (by decide +kernel) rfl)
abbrev m_ContentStoreModel_init : xM := (⟨"ContentStoreModel", "<init>", "(I)V"⟩, prog_7_method_1_code, 3, none)
theorem mk_ContentStoreModel_init : xMk m_ContentStoreModel_init 1 := ⟨(gw 495 (by decide +kernel) rfl), (gw 42 (by decide +kernel) rfl), ⟨by decide +kernel, by decide +kernel⟩, by decide +kernel, by decide +kernel, by decide⟩
theorem mi_ContentStoreModel_init : Cond.instanceMethod m_ContentStoreModel_init.1 ∈ Gw := (gw 494 (by decide +kernel) rfl)
abbrev m_ContentStoreModel_begin : xM := (⟨"ContentStoreModel", "begin", "(IJ)I"⟩, prog_7_method_7_code, 6, (some .int))
theorem mk_ContentStoreModel_begin : xMk m_ContentStoreModel_begin 2 := ⟨(gw 575 (by decide +kernel) rfl), (gw 42 (by decide +kernel) rfl), ⟨by decide +kernel, by decide +kernel⟩, by decide +kernel, by decide +kernel, by decide⟩
theorem mi_ContentStoreModel_begin : Cond.instanceMethod m_ContentStoreModel_begin.1 ∈ Gw := (gw 573 (by decide +kernel) rfl)
theorem mv_ContentStoreModel_begin : Cond.selects m_ContentStoreModel_begin.1.cls m_ContentStoreModel_begin.1 m_ContentStoreModel_begin.1 ∈ Gw := (gw 574 (by decide +kernel) rfl)
abbrev m_ContentStoreModel_in : xM := (⟨"ContentStoreModel", "in", "(III)Z"⟩, prog_7_method_3_code, 3, (some .boolean))
theorem mk_ContentStoreModel_in : xMk m_ContentStoreModel_in 3 := ⟨(gw 578 (by decide +kernel) rfl), (gw 42 (by decide +kernel) rfl), ⟨by decide +kernel, by decide +kernel⟩, by decide +kernel, by decide +kernel, by decide⟩
theorem ms_ContentStoreModel_in : Cond.static m_ContentStoreModel_in.1 ∈ Gw := (gw 577 (by decide +kernel) rfl)
abbrev m_ContentStoreModel_add : xM := (⟨"ContentStoreModel", "add", "(IJI)I"⟩, prog_7_method_8_code, 6, (some .int))
theorem mk_ContentStoreModel_add : xMk m_ContentStoreModel_add 3 := ⟨(gw 582 (by decide +kernel) rfl), (gw 42 (by decide +kernel) rfl), ⟨by decide +kernel, by decide +kernel⟩, by decide +kernel, by decide +kernel, by decide⟩
theorem mi_ContentStoreModel_add : Cond.instanceMethod m_ContentStoreModel_add.1 ∈ Gw := (gw 580 (by decide +kernel) rfl)
theorem mv_ContentStoreModel_add : Cond.selects m_ContentStoreModel_add.1.cls m_ContentStoreModel_add.1 m_ContentStoreModel_add.1 ∈ Gw := (gw 581 (by decide +kernel) rfl)
abbrev m_ContentStoreModel_isOpen : xM := (⟨"ContentStoreModel", "isOpen", "(I)Z"⟩, prog_7_method_5_code, 2, (some .boolean))
theorem mk_ContentStoreModel_isOpen : xMk m_ContentStoreModel_isOpen 1 := ⟨(gw 586 (by decide +kernel) rfl), (gw 42 (by decide +kernel) rfl), ⟨by decide +kernel, by decide +kernel⟩, by decide +kernel, by decide +kernel, by decide⟩
theorem mi_ContentStoreModel_isOpen : Cond.instanceMethod m_ContentStoreModel_isOpen.1 ∈ Gw := (gw 585 (by decide +kernel) rfl)
theorem mv_ContentStoreModel_isOpen : Cond.selects m_ContentStoreModel_isOpen.1.cls m_ContentStoreModel_isOpen.1 m_ContentStoreModel_isOpen.1 ∈ Gw := (gw 17 (by decide +kernel) rfl)
abbrev m_ContentStoreModel_end : xM := (⟨"ContentStoreModel", "end", "(I)I"⟩, prog_7_method_9_code, 4, (some .int))
theorem mk_ContentStoreModel_end : xMk m_ContentStoreModel_end 1 := ⟨(gw 590 (by decide +kernel) rfl), (gw 42 (by decide +kernel) rfl), ⟨by decide +kernel, by decide +kernel⟩, by decide +kernel, by decide +kernel, by decide⟩
theorem mi_ContentStoreModel_end : Cond.instanceMethod m_ContentStoreModel_end.1 ∈ Gw := (gw 588 (by decide +kernel) rfl)
theorem mv_ContentStoreModel_end : Cond.selects m_ContentStoreModel_end.1.cls m_ContentStoreModel_end.1 m_ContentStoreModel_end.1 ∈ Gw := (gw 589 (by decide +kernel) rfl)
abbrev m_ContentStoreModel_isSound : xM := (⟨"ContentStoreModel", "isSound", "(I)Z"⟩, prog_7_method_26_code, 4, (some .boolean))
theorem mk_ContentStoreModel_isSound : xMk m_ContentStoreModel_isSound 1 := ⟨(gw 594 (by decide +kernel) rfl), (gw 42 (by decide +kernel) rfl), ⟨by decide +kernel, by decide +kernel⟩, by decide +kernel, by decide +kernel, by decide⟩
theorem mi_ContentStoreModel_isSound : Cond.instanceMethod m_ContentStoreModel_isSound.1 ∈ Gw := (gw 593 (by decide +kernel) rfl)
theorem mv_ContentStoreModel_isSound : Cond.selects m_ContentStoreModel_isSound.1.cls m_ContentStoreModel_isSound.1 m_ContentStoreModel_isSound.1 ∈ Gw := (gw 18 (by decide +kernel) rfl)
abbrev m_ContentStoreModel_byteOf : xM := (⟨"ContentStoreModel", "byteOf", "(II)I"⟩, prog_7_method_14_code, 3, (some .int))
theorem mk_ContentStoreModel_byteOf : xMk m_ContentStoreModel_byteOf 2 := ⟨(gw 598 (by decide +kernel) rfl), (gw 42 (by decide +kernel) rfl), ⟨by decide +kernel, by decide +kernel⟩, by decide +kernel, by decide +kernel, by decide⟩
theorem mi_ContentStoreModel_byteOf : Cond.instanceMethod m_ContentStoreModel_byteOf.1 ∈ Gw := (gw 597 (by decide +kernel) rfl)
theorem mv_ContentStoreModel_byteOf : Cond.selects m_ContentStoreModel_byteOf.1.cls m_ContentStoreModel_byteOf.1 m_ContentStoreModel_byteOf.1 ∈ Gw := (gw 19 (by decide +kernel) rfl)
abbrev m_ContentStoreModel_turned : xM := (⟨"ContentStoreModel", "turned", "(II)I"⟩, prog_7_method_6_code, 3, (some .int))
theorem mk_ContentStoreModel_turned : xMk m_ContentStoreModel_turned 2 := ⟨(gw 601 (by decide +kernel) rfl), (gw 42 (by decide +kernel) rfl), ⟨by decide +kernel, by decide +kernel⟩, by decide +kernel, by decide +kernel, by decide⟩
theorem ms_ContentStoreModel_turned : Cond.static m_ContentStoreModel_turned.1 ∈ Gw := (gw 600 (by decide +kernel) rfl)
abbrev m_ContentStoreModel_isWork : xM := (⟨"ContentStoreModel", "isWork", "(I)Z"⟩, prog_7_method_25_code, 4, (some .boolean))
theorem mk_ContentStoreModel_isWork : xMk m_ContentStoreModel_isWork 1 := ⟨(gw 606 (by decide +kernel) rfl), (gw 42 (by decide +kernel) rfl), ⟨by decide +kernel, by decide +kernel⟩, by decide +kernel, by decide +kernel, by decide⟩
theorem mi_ContentStoreModel_isWork : Cond.instanceMethod m_ContentStoreModel_isWork.1 ∈ Gw := (gw 605 (by decide +kernel) rfl)
theorem mv_ContentStoreModel_isWork : Cond.selects m_ContentStoreModel_isWork.1.cls m_ContentStoreModel_isWork.1 m_ContentStoreModel_isWork.1 ∈ Gw := (gw 20 (by decide +kernel) rfl)
abbrev m_ContentStoreModel_used : xM := (⟨"ContentStoreModel", "used", "()I"⟩, prog_7_method_20_code, 3, (some .int))
theorem mk_ContentStoreModel_used : xMk m_ContentStoreModel_used 0 := ⟨(gw 610 (by decide +kernel) rfl), (gw 42 (by decide +kernel) rfl), ⟨by decide +kernel, by decide +kernel⟩, by decide +kernel, by decide +kernel, by decide⟩
theorem mi_ContentStoreModel_used : Cond.instanceMethod m_ContentStoreModel_used.1 ∈ Gw := (gw 609 (by decide +kernel) rfl)
theorem mv_ContentStoreModel_used : Cond.selects m_ContentStoreModel_used.1.cls m_ContentStoreModel_used.1 m_ContentStoreModel_used.1 ∈ Gw := (gw 21 (by decide +kernel) rfl)
abbrev m_ContentStoreModel_missing : xM := (⟨"ContentStoreModel", "missing", "(II)I"⟩, prog_7_method_19_code, 7, (some .int))
theorem mk_ContentStoreModel_missing : xMk m_ContentStoreModel_missing 2 := ⟨(gw 614 (by decide +kernel) rfl), (gw 42 (by decide +kernel) rfl), ⟨by decide +kernel, by decide +kernel⟩, by decide +kernel, by decide +kernel, by decide⟩
theorem mi_ContentStoreModel_missing : Cond.instanceMethod m_ContentStoreModel_missing.1 ∈ Gw := (gw 613 (by decide +kernel) rfl)
theorem mv_ContentStoreModel_missing : Cond.selects m_ContentStoreModel_missing.1.cls m_ContentStoreModel_missing.1 m_ContentStoreModel_missing.1 ∈ Gw := (gw 22 (by decide +kernel) rfl)
abbrev m_ContentStoreModel_parts : xM := (⟨"ContentStoreModel", "parts", "(I)I"⟩, prog_7_method_12_code, 1, (some .int))
theorem mk_ContentStoreModel_parts : xMk m_ContentStoreModel_parts 1 := ⟨(gw 617 (by decide +kernel) rfl), (gw 42 (by decide +kernel) rfl), ⟨by decide +kernel, by decide +kernel⟩, by decide +kernel, by decide +kernel, by decide⟩
theorem ms_ContentStoreModel_parts : Cond.static m_ContentStoreModel_parts.1 ∈ Gw := (gw 616 (by decide +kernel) rfl)
abbrev m_ContentStoreModel_stays : xM := (⟨"ContentStoreModel", "stays", "(III)Z"⟩, prog_7_method_18_code, 4, (some .boolean))
theorem mk_ContentStoreModel_stays : xMk m_ContentStoreModel_stays 3 := ⟨(gw 621 (by decide +kernel) rfl), (gw 42 (by decide +kernel) rfl), ⟨by decide +kernel, by decide +kernel⟩, by decide +kernel, by decide +kernel, by decide⟩
theorem mi_ContentStoreModel_stays : Cond.instanceMethod m_ContentStoreModel_stays.1 ∈ Gw := (gw 620 (by decide +kernel) rfl)
theorem mv_ContentStoreModel_stays : Cond.selects m_ContentStoreModel_stays.1.cls m_ContentStoreModel_stays.1 m_ContentStoreModel_stays.1 ∈ Gw := (gw 23 (by decide +kernel) rfl)
abbrev m_ContentStoreModel_isPart : xM := (⟨"ContentStoreModel", "isPart", "(III)Z"⟩, prog_7_method_15_code, 6, (some .boolean))
theorem mk_ContentStoreModel_isPart : xMk m_ContentStoreModel_isPart 3 := ⟨(gw 625 (by decide +kernel) rfl), (gw 42 (by decide +kernel) rfl), ⟨by decide +kernel, by decide +kernel⟩, by decide +kernel, by decide +kernel, by decide⟩
theorem mi_ContentStoreModel_isPart : Cond.instanceMethod m_ContentStoreModel_isPart.1 ∈ Gw := (gw 624 (by decide +kernel) rfl)
theorem mv_ContentStoreModel_isPart : Cond.selects m_ContentStoreModel_isPart.1.cls m_ContentStoreModel_isPart.1 m_ContentStoreModel_isPart.1 ∈ Gw := (gw 24 (by decide +kernel) rfl)
abbrev m_ContentStoreModel_wide : xM := (⟨"ContentStoreModel", "wide", "(II)I"⟩, prog_7_method_13_code, 2, (some .int))
theorem mk_ContentStoreModel_wide : xMk m_ContentStoreModel_wide 2 := ⟨(gw 628 (by decide +kernel) rfl), (gw 42 (by decide +kernel) rfl), ⟨by decide +kernel, by decide +kernel⟩, by decide +kernel, by decide +kernel, by decide⟩
theorem ms_ContentStoreModel_wide : Cond.static m_ContentStoreModel_wide.1 ∈ Gw := (gw 627 (by decide +kernel) rfl)
abbrev m_ContentStoreModel_find : xM := (⟨"ContentStoreModel", "find", "(II)I"⟩, prog_7_method_16_code, 5, (some .int))
theorem mk_ContentStoreModel_find : xMk m_ContentStoreModel_find 2 := ⟨(gw 632 (by decide +kernel) rfl), (gw 42 (by decide +kernel) rfl), ⟨by decide +kernel, by decide +kernel⟩, by decide +kernel, by decide +kernel, by decide⟩
theorem mi_ContentStoreModel_find : Cond.instanceMethod m_ContentStoreModel_find.1 ∈ Gw := (gw 631 (by decide +kernel) rfl)
theorem mv_ContentStoreModel_find : Cond.selects m_ContentStoreModel_find.1.cls m_ContentStoreModel_find.1 m_ContentStoreModel_find.1 ∈ Gw := (gw 25 (by decide +kernel) rfl)
abbrev m_ContentStoreModel_areAlike : xM := (⟨"ContentStoreModel", "areAlike", "(III)Z"⟩, prog_7_method_17_code, 6, (some .boolean))
theorem mk_ContentStoreModel_areAlike : xMk m_ContentStoreModel_areAlike 3 := ⟨(gw 636 (by decide +kernel) rfl), (gw 42 (by decide +kernel) rfl), ⟨by decide +kernel, by decide +kernel⟩, by decide +kernel, by decide +kernel, by decide⟩
theorem mi_ContentStoreModel_areAlike : Cond.instanceMethod m_ContentStoreModel_areAlike.1 ∈ Gw := (gw 635 (by decide +kernel) rfl)
theorem mv_ContentStoreModel_areAlike : Cond.selects m_ContentStoreModel_areAlike.1.cls m_ContentStoreModel_areAlike.1 m_ContentStoreModel_areAlike.1 ∈ Gw := (gw 26 (by decide +kernel) rfl)
abbrev m_ContentStoreModel_sumOfWork : xM := (⟨"ContentStoreModel", "sumOfWork", "(I)I"⟩, prog_7_method_10_code, 4, (some .int))
theorem mk_ContentStoreModel_sumOfWork : xMk m_ContentStoreModel_sumOfWork 1 := ⟨(gw 640 (by decide +kernel) rfl), (gw 42 (by decide +kernel) rfl), ⟨by decide +kernel, by decide +kernel⟩, by decide +kernel, by decide +kernel, by decide⟩
theorem mi_ContentStoreModel_sumOfWork : Cond.instanceMethod m_ContentStoreModel_sumOfWork.1 ∈ Gw := (gw 639 (by decide +kernel) rfl)
theorem mv_ContentStoreModel_sumOfWork : Cond.selects m_ContentStoreModel_sumOfWork.1.cls m_ContentStoreModel_sumOfWork.1 m_ContentStoreModel_sumOfWork.1 ∈ Gw := (gw 27 (by decide +kernel) rfl)
abbrev m_ContentStoreModel_digestOfWork : xM := (⟨"ContentStoreModel", "digestOfWork", "(I)J"⟩, prog_7_method_11_code, 5, (some .long))
theorem mk_ContentStoreModel_digestOfWork : xMk m_ContentStoreModel_digestOfWork 1 := ⟨(gw 644 (by decide +kernel) rfl), (gw 42 (by decide +kernel) rfl), ⟨by decide +kernel, by decide +kernel⟩, by decide +kernel, by decide +kernel, by decide⟩
theorem mi_ContentStoreModel_digestOfWork : Cond.instanceMethod m_ContentStoreModel_digestOfWork.1 ∈ Gw := (gw 643 (by decide +kernel) rfl)
theorem mv_ContentStoreModel_digestOfWork : Cond.selects m_ContentStoreModel_digestOfWork.1.cls m_ContentStoreModel_digestOfWork.1 m_ContentStoreModel_digestOfWork.1 ∈ Gw := (gw 28 (by decide +kernel) rfl)
abbrev m_ContentStoreModel_take : xM := (⟨"ContentStoreModel", "take", "(IZ)V"⟩, prog_7_method_22_code, 6, none)
theorem mk_ContentStoreModel_take : xMk m_ContentStoreModel_take 2 := ⟨(gw 649 (by decide +kernel) rfl), (gw 42 (by decide +kernel) rfl), ⟨by decide +kernel, by decide +kernel⟩, by decide +kernel, by decide +kernel, by decide⟩
theorem mi_ContentStoreModel_take : Cond.instanceMethod m_ContentStoreModel_take.1 ∈ Gw := (gw 648 (by decide +kernel) rfl)
theorem mv_ContentStoreModel_take : Cond.selects m_ContentStoreModel_take.1.cls m_ContentStoreModel_take.1 m_ContentStoreModel_take.1 ∈ Gw := (gw 29 (by decide +kernel) rfl)
abbrev m_ContentStoreModel_made : xM := (⟨"ContentStoreModel", "made", "(II)I"⟩, prog_7_method_21_code, 5, (some .int))
theorem mk_ContentStoreModel_made : xMk m_ContentStoreModel_made 2 := ⟨(gw 653 (by decide +kernel) rfl), (gw 42 (by decide +kernel) rfl), ⟨by decide +kernel, by decide +kernel⟩, by decide +kernel, by decide +kernel, by decide⟩
theorem mi_ContentStoreModel_made : Cond.instanceMethod m_ContentStoreModel_made.1 ∈ Gw := (gw 652 (by decide +kernel) rfl)
theorem mv_ContentStoreModel_made : Cond.selects m_ContentStoreModel_made.1.cls m_ContentStoreModel_made.1 m_ContentStoreModel_made.1 ∈ Gw := (gw 30 (by decide +kernel) rfl)
abbrev m_ContentStoreModel_there : xM := (⟨"ContentStoreModel", "there", "(I)Z"⟩, prog_7_method_27_code, 2, (some .boolean))
theorem mk_ContentStoreModel_there : xMk m_ContentStoreModel_there 1 := ⟨(gw 657 (by decide +kernel) rfl), (gw 42 (by decide +kernel) rfl), ⟨by decide +kernel, by decide +kernel⟩, by decide +kernel, by decide +kernel, by decide⟩
theorem mi_ContentStoreModel_there : Cond.instanceMethod m_ContentStoreModel_there.1 ∈ Gw := (gw 655 (by decide +kernel) rfl)
theorem mv_ContentStoreModel_there : Cond.selects m_ContentStoreModel_there.1.cls m_ContentStoreModel_there.1 m_ContentStoreModel_there.1 ∈ Gw := (gw 656 (by decide +kernel) rfl)
abbrev m_ContentStoreModel_isBlob : xM := (⟨"ContentStoreModel", "isBlob", "(I)Z"⟩, prog_7_method_4_code, 2, (some .boolean))
theorem mk_ContentStoreModel_isBlob : xMk m_ContentStoreModel_isBlob 1 := ⟨(gw 661 (by decide +kernel) rfl), (gw 42 (by decide +kernel) rfl), ⟨by decide +kernel, by decide +kernel⟩, by decide +kernel, by decide +kernel, by decide⟩
theorem mi_ContentStoreModel_isBlob : Cond.instanceMethod m_ContentStoreModel_isBlob.1 ∈ Gw := (gw 660 (by decide +kernel) rfl)
theorem mv_ContentStoreModel_isBlob : Cond.selects m_ContentStoreModel_isBlob.1.cls m_ContentStoreModel_isBlob.1 m_ContentStoreModel_isBlob.1 ∈ Gw := (gw 31 (by decide +kernel) rfl)
abbrev m_ContentStoreModel_digest : xM := (⟨"ContentStoreModel", "digest", "(I)J"⟩, prog_7_method_28_code, 2, (some .long))
theorem mk_ContentStoreModel_digest : xMk m_ContentStoreModel_digest 1 := ⟨(gw 665 (by decide +kernel) rfl), (gw 42 (by decide +kernel) rfl), ⟨by decide +kernel, by decide +kernel⟩, by decide +kernel, by decide +kernel, by decide⟩
theorem mi_ContentStoreModel_digest : Cond.instanceMethod m_ContentStoreModel_digest.1 ∈ Gw := (gw 663 (by decide +kernel) rfl)
theorem mv_ContentStoreModel_digest : Cond.selects m_ContentStoreModel_digest.1.cls m_ContentStoreModel_digest.1 m_ContentStoreModel_digest.1 ∈ Gw := (gw 664 (by decide +kernel) rfl)
abbrev m_ContentStoreModel_size : xM := (⟨"ContentStoreModel", "size", "(I)I"⟩, prog_7_method_29_code, 2, (some .int))
theorem mk_ContentStoreModel_size : xMk m_ContentStoreModel_size 1 := ⟨(gw 669 (by decide +kernel) rfl), (gw 42 (by decide +kernel) rfl), ⟨by decide +kernel, by decide +kernel⟩, by decide +kernel, by decide +kernel, by decide⟩
theorem mi_ContentStoreModel_size : Cond.instanceMethod m_ContentStoreModel_size.1 ∈ Gw := (gw 667 (by decide +kernel) rfl)
theorem mv_ContentStoreModel_size : Cond.selects m_ContentStoreModel_size.1.cls m_ContentStoreModel_size.1 m_ContentStoreModel_size.1 ∈ Gw := (gw 668 (by decide +kernel) rfl)
abbrev m_ContentStoreModel_get : xM := (⟨"ContentStoreModel", "get", "(II)I"⟩, prog_7_method_30_code, 3, (some .int))
theorem mk_ContentStoreModel_get : xMk m_ContentStoreModel_get 2 := ⟨(gw 673 (by decide +kernel) rfl), (gw 42 (by decide +kernel) rfl), ⟨by decide +kernel, by decide +kernel⟩, by decide +kernel, by decide +kernel, by decide⟩
theorem mi_ContentStoreModel_get : Cond.instanceMethod m_ContentStoreModel_get.1 ∈ Gw := (gw 671 (by decide +kernel) rfl)
theorem mv_ContentStoreModel_get : Cond.selects m_ContentStoreModel_get.1.cls m_ContentStoreModel_get.1 m_ContentStoreModel_get.1 ∈ Gw := (gw 672 (by decide +kernel) rfl)
abbrev m_ContentStoreModel_poison : xM := (⟨"ContentStoreModel", "poison", "(III)Z"⟩, prog_7_method_31_code, 5, (some .boolean))
theorem mk_ContentStoreModel_poison : xMk m_ContentStoreModel_poison 3 := ⟨(gw 677 (by decide +kernel) rfl), (gw 42 (by decide +kernel) rfl), ⟨by decide +kernel, by decide +kernel⟩, by decide +kernel, by decide +kernel, by decide⟩
theorem mi_ContentStoreModel_poison : Cond.instanceMethod m_ContentStoreModel_poison.1 ∈ Gw := (gw 675 (by decide +kernel) rfl)
theorem mv_ContentStoreModel_poison : Cond.selects m_ContentStoreModel_poison.1.cls m_ContentStoreModel_poison.1 m_ContentStoreModel_poison.1 ∈ Gw := (gw 676 (by decide +kernel) rfl)
abbrev m_ContentStoreModel_sound : xM := (⟨"ContentStoreModel", "sound", "(I)Z"⟩, prog_7_method_32_code, 2, (some .boolean))
theorem mk_ContentStoreModel_sound : xMk m_ContentStoreModel_sound 1 := ⟨(gw 681 (by decide +kernel) rfl), (gw 42 (by decide +kernel) rfl), ⟨by decide +kernel, by decide +kernel⟩, by decide +kernel, by decide +kernel, by decide⟩
theorem mi_ContentStoreModel_sound : Cond.instanceMethod m_ContentStoreModel_sound.1 ∈ Gw := (gw 679 (by decide +kernel) rfl)
theorem mv_ContentStoreModel_sound : Cond.selects m_ContentStoreModel_sound.1.cls m_ContentStoreModel_sound.1 m_ContentStoreModel_sound.1 ∈ Gw := (gw 680 (by decide +kernel) rfl)
abbrev m_ContentStoreModel_mirror : xM := (⟨"ContentStoreModel", "mirror", "(I)Z"⟩, prog_7_method_33_code, 3, (some .boolean))
theorem mk_ContentStoreModel_mirror : xMk m_ContentStoreModel_mirror 1 := ⟨(gw 685 (by decide +kernel) rfl), (gw 42 (by decide +kernel) rfl), ⟨by decide +kernel, by decide +kernel⟩, by decide +kernel, by decide +kernel, by decide⟩
theorem mi_ContentStoreModel_mirror : Cond.instanceMethod m_ContentStoreModel_mirror.1 ∈ Gw := (gw 683 (by decide +kernel) rfl)
theorem mv_ContentStoreModel_mirror : Cond.selects m_ContentStoreModel_mirror.1.cls m_ContentStoreModel_mirror.1 m_ContentStoreModel_mirror.1 ∈ Gw := (gw 684 (by decide +kernel) rfl)
abbrev m_ContentStoreModel_repair : xM := (⟨"ContentStoreModel", "repair", "(I)I"⟩, prog_7_method_34_code, 4, (some .int))
theorem mk_ContentStoreModel_repair : xMk m_ContentStoreModel_repair 1 := ⟨(gw 689 (by decide +kernel) rfl), (gw 42 (by decide +kernel) rfl), ⟨by decide +kernel, by decide +kernel⟩, by decide +kernel, by decide +kernel, by decide⟩
theorem mi_ContentStoreModel_repair : Cond.instanceMethod m_ContentStoreModel_repair.1 ∈ Gw := (gw 687 (by decide +kernel) rfl)
theorem mv_ContentStoreModel_repair : Cond.selects m_ContentStoreModel_repair.1.cls m_ContentStoreModel_repair.1 m_ContentStoreModel_repair.1 ∈ Gw := (gw 688 (by decide +kernel) rfl)
abbrev m_ContentStoreModel_tidy : xM := (⟨"ContentStoreModel", "tidy", "()V"⟩, prog_7_method_24_code, 2, none)
theorem mk_ContentStoreModel_tidy : xMk m_ContentStoreModel_tidy 0 := ⟨(gw 693 (by decide +kernel) rfl), (gw 42 (by decide +kernel) rfl), ⟨by decide +kernel, by decide +kernel⟩, by decide +kernel, by decide +kernel, by decide⟩
theorem mi_ContentStoreModel_tidy : Cond.instanceMethod m_ContentStoreModel_tidy.1 ∈ Gw := (gw 692 (by decide +kernel) rfl)
theorem mv_ContentStoreModel_tidy : Cond.selects m_ContentStoreModel_tidy.1.cls m_ContentStoreModel_tidy.1 m_ContentStoreModel_tidy.1 ∈ Gw := (gw 32 (by decide +kernel) rfl)
abbrev m_ContentStoreModel_having : xM := (⟨"ContentStoreModel", "having", "(I)I"⟩, prog_7_method_23_code, 6, (some .int))
theorem mk_ContentStoreModel_having : xMk m_ContentStoreModel_having 1 := ⟨(gw 697 (by decide +kernel) rfl), (gw 42 (by decide +kernel) rfl), ⟨by decide +kernel, by decide +kernel⟩, by decide +kernel, by decide +kernel, by decide⟩
theorem mi_ContentStoreModel_having : Cond.instanceMethod m_ContentStoreModel_having.1 ∈ Gw := (gw 696 (by decide +kernel) rfl)
theorem mv_ContentStoreModel_having : Cond.selects m_ContentStoreModel_having.1.cls m_ContentStoreModel_having.1 m_ContentStoreModel_having.1 ∈ Gw := (gw 33 (by decide +kernel) rfl)
abbrev m_ContentStoreModel_refer : xM := (⟨"ContentStoreModel", "refer", "(II)Z"⟩, prog_7_method_36_code, 3, (some .boolean))
theorem mk_ContentStoreModel_refer : xMk m_ContentStoreModel_refer 2 := ⟨(gw 701 (by decide +kernel) rfl), (gw 42 (by decide +kernel) rfl), ⟨by decide +kernel, by decide +kernel⟩, by decide +kernel, by decide +kernel, by decide⟩
theorem mi_ContentStoreModel_refer : Cond.instanceMethod m_ContentStoreModel_refer.1 ∈ Gw := (gw 699 (by decide +kernel) rfl)
theorem mv_ContentStoreModel_refer : Cond.selects m_ContentStoreModel_refer.1.cls m_ContentStoreModel_refer.1 m_ContentStoreModel_refer.1 ∈ Gw := (gw 700 (by decide +kernel) rfl)
abbrev m_ContentStoreModel_referred : xM := (⟨"ContentStoreModel", "referred", "(I)I"⟩, prog_7_method_37_code, 2, (some .int))
theorem mk_ContentStoreModel_referred : xMk m_ContentStoreModel_referred 1 := ⟨(gw 705 (by decide +kernel) rfl), (gw 42 (by decide +kernel) rfl), ⟨by decide +kernel, by decide +kernel⟩, by decide +kernel, by decide +kernel, by decide⟩
theorem mi_ContentStoreModel_referred : Cond.instanceMethod m_ContentStoreModel_referred.1 ∈ Gw := (gw 703 (by decide +kernel) rfl)
theorem mv_ContentStoreModel_referred : Cond.selects m_ContentStoreModel_referred.1.cls m_ContentStoreModel_referred.1 m_ContentStoreModel_referred.1 ∈ Gw := (gw 704 (by decide +kernel) rfl)
abbrev m_ContentStoreModel_sweep : xM := (⟨"ContentStoreModel", "sweep", "()I"⟩, prog_7_method_38_code, 5, (some .int))
theorem mk_ContentStoreModel_sweep : xMk m_ContentStoreModel_sweep 0 := ⟨(gw 709 (by decide +kernel) rfl), (gw 42 (by decide +kernel) rfl), ⟨by decide +kernel, by decide +kernel⟩, by decide +kernel, by decide +kernel, by decide⟩
theorem mi_ContentStoreModel_sweep : Cond.instanceMethod m_ContentStoreModel_sweep.1 ∈ Gw := (gw 707 (by decide +kernel) rfl)
theorem mv_ContentStoreModel_sweep : Cond.selects m_ContentStoreModel_sweep.1.cls m_ContentStoreModel_sweep.1 m_ContentStoreModel_sweep.1 ∈ Gw := (gw 708 (by decide +kernel) rfl)
abbrev m_ContentStoreModel_goes : xM := (⟨"ContentStoreModel", "goes", "(I)V"⟩, prog_7_method_35_code, 3, none)
theorem mk_ContentStoreModel_goes : xMk m_ContentStoreModel_goes 1 := ⟨(gw 713 (by decide +kernel) rfl), (gw 42 (by decide +kernel) rfl), ⟨by decide +kernel, by decide +kernel⟩, by decide +kernel, by decide +kernel, by decide⟩
theorem mi_ContentStoreModel_goes : Cond.instanceMethod m_ContentStoreModel_goes.1 ∈ Gw := (gw 712 (by decide +kernel) rfl)
theorem mv_ContentStoreModel_goes : Cond.selects m_ContentStoreModel_goes.1.cls m_ContentStoreModel_goes.1 m_ContentStoreModel_goes.1 ∈ Gw := (gw 34 (by decide +kernel) rfl)
abbrev m_ContentStoreModel_pack : xM := (⟨"ContentStoreModel", "pack", "()I"⟩, prog_7_method_39_code, 3, (some .int))
theorem mk_ContentStoreModel_pack : xMk m_ContentStoreModel_pack 0 := ⟨(gw 717 (by decide +kernel) rfl), (gw 42 (by decide +kernel) rfl), ⟨by decide +kernel, by decide +kernel⟩, by decide +kernel, by decide +kernel, by decide⟩
theorem mi_ContentStoreModel_pack : Cond.instanceMethod m_ContentStoreModel_pack.1 ∈ Gw := (gw 715 (by decide +kernel) rfl)
theorem mv_ContentStoreModel_pack : Cond.selects m_ContentStoreModel_pack.1.cls m_ContentStoreModel_pack.1 m_ContentStoreModel_pack.1 ∈ Gw := (gw 716 (by decide +kernel) rfl)
abbrev m_ContentStoreModel_cut : xM := (⟨"ContentStoreModel", "cut", "(II)I"⟩, prog_7_method_40_code, 6, (some .int))
theorem mk_ContentStoreModel_cut : xMk m_ContentStoreModel_cut 2 := ⟨(gw 721 (by decide +kernel) rfl), (gw 42 (by decide +kernel) rfl), ⟨by decide +kernel, by decide +kernel⟩, by decide +kernel, by decide +kernel, by decide⟩
theorem mi_ContentStoreModel_cut : Cond.instanceMethod m_ContentStoreModel_cut.1 ∈ Gw := (gw 719 (by decide +kernel) rfl)
theorem mv_ContentStoreModel_cut : Cond.selects m_ContentStoreModel_cut.1.cls m_ContentStoreModel_cut.1 m_ContentStoreModel_cut.1 ∈ Gw := (gw 720 (by decide +kernel) rfl)
abbrev m_ContentStoreModel_packOf : xM := (⟨"ContentStoreModel", "packOf", "(I)I"⟩, prog_7_method_41_code, 2, (some .int))
theorem mk_ContentStoreModel_packOf : xMk m_ContentStoreModel_packOf 1 := ⟨(gw 725 (by decide +kernel) rfl), (gw 42 (by decide +kernel) rfl), ⟨by decide +kernel, by decide +kernel⟩, by decide +kernel, by decide +kernel, by decide⟩
theorem mi_ContentStoreModel_packOf : Cond.instanceMethod m_ContentStoreModel_packOf.1 ∈ Gw := (gw 723 (by decide +kernel) rfl)
theorem mv_ContentStoreModel_packOf : Cond.selects m_ContentStoreModel_packOf.1.cls m_ContentStoreModel_packOf.1 m_ContentStoreModel_packOf.1 ∈ Gw := (gw 724 (by decide +kernel) rfl)
abbrev m_ContentStoreModel_count : xM := (⟨"ContentStoreModel", "count", "(I)I"⟩, prog_7_method_42_code, 4, (some .int))
theorem mk_ContentStoreModel_count : xMk m_ContentStoreModel_count 1 := ⟨(gw 729 (by decide +kernel) rfl), (gw 42 (by decide +kernel) rfl), ⟨by decide +kernel, by decide +kernel⟩, by decide +kernel, by decide +kernel, by decide⟩
theorem mi_ContentStoreModel_count : Cond.instanceMethod m_ContentStoreModel_count.1 ∈ Gw := (gw 727 (by decide +kernel) rfl)
theorem mv_ContentStoreModel_count : Cond.selects m_ContentStoreModel_count.1.cls m_ContentStoreModel_count.1 m_ContentStoreModel_count.1 ∈ Gw := (gw 728 (by decide +kernel) rfl)
abbrev m_law : xM := (⟨"ContentStoreLaw", "law", "([I)Z"⟩, code, 4, (some .boolean))
end
