/-! the words that every method has, and those that are carried by hand -/
def Gw : List Cond := lw_tbl.filter goodWord
theorem Gw_ok : ∀ w ∈ Gw, (w.onTables && w.keeps) = true ∨ ∃ ty, w = .arrayClass ty := fun w hw => good_of_word (List.mem_filter.mp hw).2
theorem gw {w : Cond} (i : Nat) (h : lw_tbl[i]? = some w) (hg : goodWord w = true) : w ∈ Gw := List.mem_filter.mpr ⟨List.mem_of_getElem? h, hg⟩
def xnw (w : Cond) : Bool := match w with
  | .fieldLinkNest .. => true
  | .methodLinkNest .. => true
  | .castable .. => true
  | .arrayOver (.object _) => true
  | _ => false
def Nw : List Cond := lw_tbl.filter xnw
theorem Nw_ok : ∀ w ∈ Nw, xnw w = true := fun w hw => (List.mem_filter.mp hw).2
theorem nw {w : Cond} (i : Nat) (h : lw_tbl[i]? = some w) (hg : xnw w = true) : w ∈ Nw := List.mem_filter.mpr ⟨List.mem_of_getElem? h, hg⟩
def xEl : Nat → String := fun k => match k with
  | 0 => "ContentStore$Put"
  | 1 => "ContentStore$Blob"
  | 2 => "ContentStore$Part"
  | _ => "java/lang/Object"
def F_ContentStore : u_T := fun k => match k with
  | 0 => ("ContentStore", "shelf", "LContentStore$Shelf;", true)
  | 1 => ("ContentStore", "puts", "[LContentStore$Put;", true)
  | 2 => ("ContentStore", "blobs", "[LContentStore$Blob;", true)
  | 3 => ("ContentStore", "references", "[I", true)
  | 4 => ("ContentStore", "putCount", "I", false)
  | 5 => ("ContentStore", "openCount", "I", false)
  | 6 => ("ContentStore", "blobCount", "I", false)
  | _ => ("ContentStore", "packCount", "I", false)
def t_ContentStore : Nat → FieldType := fun k => match k with
  | 0 => (.object "ContentStore$Shelf")
  | 1 => (.array (.object "ContentStore$Put"))
  | 2 => (.array (.object "ContentStore$Blob"))
  | 3 => (.array .int)
  | 4 => .int
  | 5 => .int
  | 6 => .int
  | _ => .int
def F_Shelf : u_T := fun k => match k with
  | 0 => ("ContentStore$Shelf", "room", "I", true)
  | 1 => ("ContentStore$Shelf", "parts", "Ljava/util/ArrayList;", true)
  | _ => ("ContentStore$Shelf", "used", "I", false)
def t_Shelf : Nat → FieldType := fun k => match k with
  | 0 => .int
  | 1 => (.object "java/util/ArrayList")
  | _ => .int
def F_ArrayList : u_T := fun k => match k with
  | 0 => ("java/util/ArrayList", "elementData", "[Ljava/lang/Object;", false)
  | 1 => ("java/util/ArrayList", "size", "I", false)
  | _ => ("java/util/AbstractList", "modCount", "I", false)
def t_ArrayList : Nat → FieldType := fun k => match k with
  | 0 => (.array (.object "java/lang/Object"))
  | 1 => .int
  | _ => .int
def F_Put : u_T := fun k => match k with
  | 0 => ("ContentStore$Put", "bytes", "[I", true)
  | 1 => ("ContentStore$Put", "xor", "J", true)
  | 2 => ("ContentStore$Put", "had", "I", false)
  | _ => ("ContentStore$Put", "isOpen", "Z", false)
def t_Put : Nat → FieldType := fun k => match k with
  | 0 => (.array .int)
  | 1 => .long
  | 2 => .int
  | _ => .boolean
def F_Blob : u_T := fun k => match k with
  | 0 => ("ContentStore$Blob", "length", "I", true)
  | 1 => ("ContentStore$Blob", "sum", "I", true)
  | 2 => ("ContentStore$Blob", "digest", "J", true)
  | 3 => ("ContentStore$Blob", "parts", "[LContentStore$Part;", false)
  | 4 => ("ContentStore$Blob", "copy", "[I", false)
  | 5 => ("ContentStore$Blob", "pack", "I", false)
  | _ => ("ContentStore$Blob", "isThere", "Z", false)
def t_Blob : Nat → FieldType := fun k => match k with
  | 0 => .int
  | 1 => .int
  | 2 => .long
  | 3 => (.array (.object "ContentStore$Part"))
  | 4 => (.array .int)
  | 5 => .int
  | _ => .boolean
def F_Part : u_T := fun k => match k with
  | 0 => ("ContentStore$Part", "bytes", "[I", true)
  | _ => ("ContentStore$Part", "holders", "I", false)
def t_Part : Nat → FieldType := fun k => match k with
  | 0 => (.array .int)
  | _ => .int
def F_ContentStoreModel : u_T := fun k => match k with
  | 0 => ("ContentStoreModel", "code", "I", false)
  | 1 => ("ContentStoreModel", "room", "I", true)
  | 2 => ("ContentStoreModel", "puts", "I", false)
  | 3 => ("ContentStoreModel", "told", "[I", true)
  | 4 => ("ContentStoreModel", "mask", "[J", true)
  | 5 => ("ContentStoreModel", "open", "[Z", true)
  | 6 => ("ContentStoreModel", "came", "[I", true)
  | 7 => ("ContentStoreModel", "bytes", "[I", true)
  | 8 => ("ContentStoreModel", "stamps", "I", false)
  | 9 => ("ContentStoreModel", "partSize", "[I", true)
  | 10 => ("ContentStoreModel", "stamp", "[I", true)
  | 11 => ("ContentStoreModel", "partBytes", "[I", true)
  | 12 => ("ContentStoreModel", "blobs", "I", false)
  | 13 => ("ContentStoreModel", "isThere", "[Z", true)
  | 14 => ("ContentStoreModel", "length", "[I", true)
  | 15 => ("ContentStoreModel", "slot", "[I", true)
  | 16 => ("ContentStoreModel", "sum", "[I", true)
  | 17 => ("ContentStoreModel", "digest", "[J", true)
  | 18 => ("ContentStoreModel", "packed", "[I", true)
  | 19 => ("ContentStoreModel", "hasCopy", "[Z", true)
  | 20 => ("ContentStoreModel", "copy", "[I", true)
  | 21 => ("ContentStoreModel", "action", "[I", true)
  | 22 => ("ContentStoreModel", "packs", "I", false)
  | _ => ("ContentStoreModel", "work", "[I", true)
def t_ContentStoreModel : Nat → FieldType := fun k => match k with
  | 0 => .int
  | 1 => .int
  | 2 => .int
  | 3 => (.array .int)
  | 4 => (.array .long)
  | 5 => (.array .boolean)
  | 6 => (.array .int)
  | 7 => (.array .int)
  | 8 => .int
  | 9 => (.array .int)
  | 10 => (.array .int)
  | 11 => (.array .int)
  | 12 => .int
  | 13 => (.array .boolean)
  | 14 => (.array .int)
  | 15 => (.array .int)
  | 16 => (.array .int)
  | 17 => (.array .long)
  | 18 => (.array .int)
  | 19 => (.array .boolean)
  | 20 => (.array .int)
  | 21 => (.array .int)
  | 22 => .int
  | _ => (.array .int)
abbrev classes : List vw_C := [("ContentStore", F_ContentStore, 8), ("ContentStore$Shelf", F_Shelf, 3), ("java/util/ArrayList", F_ArrayList, 3), ("ContentStore$Put", F_Put, 4), ("ContentStore$Blob", F_Blob, 7), ("ContentStore$Part", F_Part, 2), ("ContentStoreModel", F_ContentStoreModel, 24)]
