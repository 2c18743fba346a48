/-! THE MODEL'S STATE: one object and eighteen rows, one behind the other -/
abbrev mS : Type := Nat × Nat × List Int32 × List Int64 × List Int32 × List Int32 × List Int32 × Nat × List Int32 × List Int32 × List Int32 × Nat × List Int32 × List Int32 × List Int32 × List Int32 × List Int64 × List Int32 × List Int32 × List Int32 × List Int32 × Nat × List Int32
abbrev g_room (s : mS) : Nat := s.1
abbrev g_puts (s : mS) : Nat := s.2.1
abbrev g_told (s : mS) : List Int32 := s.2.2.1
abbrev g_mask (s : mS) : List Int64 := s.2.2.2.1
abbrev g_open (s : mS) : List Int32 := s.2.2.2.2.1
abbrev g_came (s : mS) : List Int32 := s.2.2.2.2.2.1
abbrev g_byts (s : mS) : List Int32 := s.2.2.2.2.2.2.1
abbrev g_stamps (s : mS) : Nat := s.2.2.2.2.2.2.2.1
abbrev g_psz (s : mS) : List Int32 := s.2.2.2.2.2.2.2.2.1
abbrev g_stp (s : mS) : List Int32 := s.2.2.2.2.2.2.2.2.2.1
abbrev g_pby (s : mS) : List Int32 := s.2.2.2.2.2.2.2.2.2.2.1
abbrev g_blobs (s : mS) : Nat := s.2.2.2.2.2.2.2.2.2.2.2.1
abbrev g_isT (s : mS) : List Int32 := s.2.2.2.2.2.2.2.2.2.2.2.2.1
abbrev g_len (s : mS) : List Int32 := s.2.2.2.2.2.2.2.2.2.2.2.2.2.1
abbrev g_slot (s : mS) : List Int32 := s.2.2.2.2.2.2.2.2.2.2.2.2.2.2.1
abbrev g_sum (s : mS) : List Int32 := s.2.2.2.2.2.2.2.2.2.2.2.2.2.2.2.1
abbrev g_dig (s : mS) : List Int64 := s.2.2.2.2.2.2.2.2.2.2.2.2.2.2.2.2.1
abbrev g_pkd (s : mS) : List Int32 := s.2.2.2.2.2.2.2.2.2.2.2.2.2.2.2.2.2.1
abbrev g_hasC (s : mS) : List Int32 := s.2.2.2.2.2.2.2.2.2.2.2.2.2.2.2.2.2.2.1
abbrev g_copy (s : mS) : List Int32 := s.2.2.2.2.2.2.2.2.2.2.2.2.2.2.2.2.2.2.2.1
abbrev g_act (s : mS) : List Int32 := s.2.2.2.2.2.2.2.2.2.2.2.2.2.2.2.2.2.2.2.2.1
abbrev g_packs (s : mS) : Nat := s.2.2.2.2.2.2.2.2.2.2.2.2.2.2.2.2.2.2.2.2.2.1
abbrev g_work (s : mS) : List Int32 := s.2.2.2.2.2.2.2.2.2.2.2.2.2.2.2.2.2.2.2.2.2.2
abbrev p_room (s : mS) (x : Nat) : mS := (x, s.2)
abbrev p_puts (s : mS) (x : Nat) : mS := (s.1, x, s.2.2)
abbrev p_told (s : mS) (x : List Int32) : mS := (s.1, s.2.1, x, s.2.2.2)
abbrev p_mask (s : mS) (x : List Int64) : mS := (s.1, s.2.1, s.2.2.1, x, s.2.2.2.2)
abbrev p_open (s : mS) (x : List Int32) : mS := (s.1, s.2.1, s.2.2.1, s.2.2.2.1, x, s.2.2.2.2.2)
abbrev p_came (s : mS) (x : List Int32) : mS := (s.1, s.2.1, s.2.2.1, s.2.2.2.1, s.2.2.2.2.1, x, s.2.2.2.2.2.2)
abbrev p_byts (s : mS) (x : List Int32) : mS := (s.1, s.2.1, s.2.2.1, s.2.2.2.1, s.2.2.2.2.1, s.2.2.2.2.2.1, x, s.2.2.2.2.2.2.2)
abbrev p_stamps (s : mS) (x : Nat) : mS := (s.1, s.2.1, s.2.2.1, s.2.2.2.1, s.2.2.2.2.1, s.2.2.2.2.2.1, s.2.2.2.2.2.2.1, x, s.2.2.2.2.2.2.2.2)
abbrev p_psz (s : mS) (x : List Int32) : mS := (s.1, s.2.1, s.2.2.1, s.2.2.2.1, s.2.2.2.2.1, s.2.2.2.2.2.1, s.2.2.2.2.2.2.1, s.2.2.2.2.2.2.2.1, x, s.2.2.2.2.2.2.2.2.2)
abbrev p_stp (s : mS) (x : List Int32) : mS := (s.1, s.2.1, s.2.2.1, s.2.2.2.1, s.2.2.2.2.1, s.2.2.2.2.2.1, s.2.2.2.2.2.2.1, s.2.2.2.2.2.2.2.1, s.2.2.2.2.2.2.2.2.1, x, s.2.2.2.2.2.2.2.2.2.2)
abbrev p_pby (s : mS) (x : List Int32) : mS := (s.1, s.2.1, s.2.2.1, s.2.2.2.1, s.2.2.2.2.1, s.2.2.2.2.2.1, s.2.2.2.2.2.2.1, s.2.2.2.2.2.2.2.1, s.2.2.2.2.2.2.2.2.1, s.2.2.2.2.2.2.2.2.2.1, x, s.2.2.2.2.2.2.2.2.2.2.2)
abbrev p_blobs (s : mS) (x : Nat) : mS := (s.1, s.2.1, s.2.2.1, s.2.2.2.1, s.2.2.2.2.1, s.2.2.2.2.2.1, s.2.2.2.2.2.2.1, s.2.2.2.2.2.2.2.1, s.2.2.2.2.2.2.2.2.1, s.2.2.2.2.2.2.2.2.2.1, s.2.2.2.2.2.2.2.2.2.2.1, x, s.2.2.2.2.2.2.2.2.2.2.2.2)
abbrev p_isT (s : mS) (x : List Int32) : mS := (s.1, s.2.1, s.2.2.1, s.2.2.2.1, s.2.2.2.2.1, s.2.2.2.2.2.1, s.2.2.2.2.2.2.1, s.2.2.2.2.2.2.2.1, s.2.2.2.2.2.2.2.2.1, s.2.2.2.2.2.2.2.2.2.1, s.2.2.2.2.2.2.2.2.2.2.1, s.2.2.2.2.2.2.2.2.2.2.2.1, x, s.2.2.2.2.2.2.2.2.2.2.2.2.2)
abbrev p_len (s : mS) (x : List Int32) : mS := (s.1, s.2.1, s.2.2.1, s.2.2.2.1, s.2.2.2.2.1, s.2.2.2.2.2.1, s.2.2.2.2.2.2.1, s.2.2.2.2.2.2.2.1, s.2.2.2.2.2.2.2.2.1, s.2.2.2.2.2.2.2.2.2.1, s.2.2.2.2.2.2.2.2.2.2.1, s.2.2.2.2.2.2.2.2.2.2.2.1, s.2.2.2.2.2.2.2.2.2.2.2.2.1, x, s.2.2.2.2.2.2.2.2.2.2.2.2.2.2)
abbrev p_slot (s : mS) (x : List Int32) : mS := (s.1, s.2.1, s.2.2.1, s.2.2.2.1, s.2.2.2.2.1, s.2.2.2.2.2.1, s.2.2.2.2.2.2.1, s.2.2.2.2.2.2.2.1, s.2.2.2.2.2.2.2.2.1, s.2.2.2.2.2.2.2.2.2.1, s.2.2.2.2.2.2.2.2.2.2.1, s.2.2.2.2.2.2.2.2.2.2.2.1, s.2.2.2.2.2.2.2.2.2.2.2.2.1, s.2.2.2.2.2.2.2.2.2.2.2.2.2.1, x, s.2.2.2.2.2.2.2.2.2.2.2.2.2.2.2)
abbrev p_sum (s : mS) (x : List Int32) : mS := (s.1, s.2.1, s.2.2.1, s.2.2.2.1, s.2.2.2.2.1, s.2.2.2.2.2.1, s.2.2.2.2.2.2.1, s.2.2.2.2.2.2.2.1, s.2.2.2.2.2.2.2.2.1, s.2.2.2.2.2.2.2.2.2.1, s.2.2.2.2.2.2.2.2.2.2.1, s.2.2.2.2.2.2.2.2.2.2.2.1, s.2.2.2.2.2.2.2.2.2.2.2.2.1, s.2.2.2.2.2.2.2.2.2.2.2.2.2.1, s.2.2.2.2.2.2.2.2.2.2.2.2.2.2.1, x, s.2.2.2.2.2.2.2.2.2.2.2.2.2.2.2.2)
abbrev p_dig (s : mS) (x : List Int64) : mS := (s.1, s.2.1, s.2.2.1, s.2.2.2.1, s.2.2.2.2.1, s.2.2.2.2.2.1, s.2.2.2.2.2.2.1, s.2.2.2.2.2.2.2.1, s.2.2.2.2.2.2.2.2.1, s.2.2.2.2.2.2.2.2.2.1, s.2.2.2.2.2.2.2.2.2.2.1, s.2.2.2.2.2.2.2.2.2.2.2.1, s.2.2.2.2.2.2.2.2.2.2.2.2.1, s.2.2.2.2.2.2.2.2.2.2.2.2.2.1, s.2.2.2.2.2.2.2.2.2.2.2.2.2.2.1, s.2.2.2.2.2.2.2.2.2.2.2.2.2.2.2.1, x, s.2.2.2.2.2.2.2.2.2.2.2.2.2.2.2.2.2)
abbrev p_pkd (s : mS) (x : List Int32) : mS := (s.1, s.2.1, s.2.2.1, s.2.2.2.1, s.2.2.2.2.1, s.2.2.2.2.2.1, s.2.2.2.2.2.2.1, s.2.2.2.2.2.2.2.1, s.2.2.2.2.2.2.2.2.1, s.2.2.2.2.2.2.2.2.2.1, s.2.2.2.2.2.2.2.2.2.2.1, s.2.2.2.2.2.2.2.2.2.2.2.1, s.2.2.2.2.2.2.2.2.2.2.2.2.1, s.2.2.2.2.2.2.2.2.2.2.2.2.2.1, s.2.2.2.2.2.2.2.2.2.2.2.2.2.2.1, s.2.2.2.2.2.2.2.2.2.2.2.2.2.2.2.1, s.2.2.2.2.2.2.2.2.2.2.2.2.2.2.2.2.1, x, s.2.2.2.2.2.2.2.2.2.2.2.2.2.2.2.2.2.2)
abbrev p_hasC (s : mS) (x : List Int32) : mS := (s.1, s.2.1, s.2.2.1, s.2.2.2.1, s.2.2.2.2.1, s.2.2.2.2.2.1, s.2.2.2.2.2.2.1, s.2.2.2.2.2.2.2.1, s.2.2.2.2.2.2.2.2.1, s.2.2.2.2.2.2.2.2.2.1, s.2.2.2.2.2.2.2.2.2.2.1, s.2.2.2.2.2.2.2.2.2.2.2.1, s.2.2.2.2.2.2.2.2.2.2.2.2.1, s.2.2.2.2.2.2.2.2.2.2.2.2.2.1, s.2.2.2.2.2.2.2.2.2.2.2.2.2.2.1, s.2.2.2.2.2.2.2.2.2.2.2.2.2.2.2.1, s.2.2.2.2.2.2.2.2.2.2.2.2.2.2.2.2.1, s.2.2.2.2.2.2.2.2.2.2.2.2.2.2.2.2.2.1, x, s.2.2.2.2.2.2.2.2.2.2.2.2.2.2.2.2.2.2.2)
abbrev p_copy (s : mS) (x : List Int32) : mS := (s.1, s.2.1, s.2.2.1, s.2.2.2.1, s.2.2.2.2.1, s.2.2.2.2.2.1, s.2.2.2.2.2.2.1, s.2.2.2.2.2.2.2.1, s.2.2.2.2.2.2.2.2.1, s.2.2.2.2.2.2.2.2.2.1, s.2.2.2.2.2.2.2.2.2.2.1, s.2.2.2.2.2.2.2.2.2.2.2.1, s.2.2.2.2.2.2.2.2.2.2.2.2.1, s.2.2.2.2.2.2.2.2.2.2.2.2.2.1, s.2.2.2.2.2.2.2.2.2.2.2.2.2.2.1, s.2.2.2.2.2.2.2.2.2.2.2.2.2.2.2.1, s.2.2.2.2.2.2.2.2.2.2.2.2.2.2.2.2.1, s.2.2.2.2.2.2.2.2.2.2.2.2.2.2.2.2.2.1, s.2.2.2.2.2.2.2.2.2.2.2.2.2.2.2.2.2.2.1, x, s.2.2.2.2.2.2.2.2.2.2.2.2.2.2.2.2.2.2.2.2)
abbrev p_act (s : mS) (x : List Int32) : mS := (s.1, s.2.1, s.2.2.1, s.2.2.2.1, s.2.2.2.2.1, s.2.2.2.2.2.1, s.2.2.2.2.2.2.1, s.2.2.2.2.2.2.2.1, s.2.2.2.2.2.2.2.2.1, s.2.2.2.2.2.2.2.2.2.1, s.2.2.2.2.2.2.2.2.2.2.1, s.2.2.2.2.2.2.2.2.2.2.2.1, s.2.2.2.2.2.2.2.2.2.2.2.2.1, s.2.2.2.2.2.2.2.2.2.2.2.2.2.1, s.2.2.2.2.2.2.2.2.2.2.2.2.2.2.1, s.2.2.2.2.2.2.2.2.2.2.2.2.2.2.2.1, s.2.2.2.2.2.2.2.2.2.2.2.2.2.2.2.2.1, s.2.2.2.2.2.2.2.2.2.2.2.2.2.2.2.2.2.1, s.2.2.2.2.2.2.2.2.2.2.2.2.2.2.2.2.2.2.1, s.2.2.2.2.2.2.2.2.2.2.2.2.2.2.2.2.2.2.2.1, x, s.2.2.2.2.2.2.2.2.2.2.2.2.2.2.2.2.2.2.2.2.2)
abbrev p_packs (s : mS) (x : Nat) : mS := (s.1, s.2.1, s.2.2.1, s.2.2.2.1, s.2.2.2.2.1, s.2.2.2.2.2.1, s.2.2.2.2.2.2.1, s.2.2.2.2.2.2.2.1, s.2.2.2.2.2.2.2.2.1, s.2.2.2.2.2.2.2.2.2.1, s.2.2.2.2.2.2.2.2.2.2.1, s.2.2.2.2.2.2.2.2.2.2.2.1, s.2.2.2.2.2.2.2.2.2.2.2.2.1, s.2.2.2.2.2.2.2.2.2.2.2.2.2.1, s.2.2.2.2.2.2.2.2.2.2.2.2.2.2.1, s.2.2.2.2.2.2.2.2.2.2.2.2.2.2.2.1, s.2.2.2.2.2.2.2.2.2.2.2.2.2.2.2.2.1, s.2.2.2.2.2.2.2.2.2.2.2.2.2.2.2.2.2.1, s.2.2.2.2.2.2.2.2.2.2.2.2.2.2.2.2.2.2.1, s.2.2.2.2.2.2.2.2.2.2.2.2.2.2.2.2.2.2.2.1, s.2.2.2.2.2.2.2.2.2.2.2.2.2.2.2.2.2.2.2.2.1, x, s.2.2.2.2.2.2.2.2.2.2.2.2.2.2.2.2.2.2.2.2.2.2)
abbrev p_work (s : mS) (x : List Int32) : mS := (s.1, s.2.1, s.2.2.1, s.2.2.2.1, s.2.2.2.2.1, s.2.2.2.2.2.1, s.2.2.2.2.2.2.1, s.2.2.2.2.2.2.2.1, s.2.2.2.2.2.2.2.2.1, s.2.2.2.2.2.2.2.2.2.1, s.2.2.2.2.2.2.2.2.2.2.1, s.2.2.2.2.2.2.2.2.2.2.2.1, s.2.2.2.2.2.2.2.2.2.2.2.2.1, s.2.2.2.2.2.2.2.2.2.2.2.2.2.1, s.2.2.2.2.2.2.2.2.2.2.2.2.2.2.1, s.2.2.2.2.2.2.2.2.2.2.2.2.2.2.2.1, s.2.2.2.2.2.2.2.2.2.2.2.2.2.2.2.2.1, s.2.2.2.2.2.2.2.2.2.2.2.2.2.2.2.2.2.1, s.2.2.2.2.2.2.2.2.2.2.2.2.2.2.2.2.2.2.1, s.2.2.2.2.2.2.2.2.2.2.2.2.2.2.2.2.2.2.2.1, s.2.2.2.2.2.2.2.2.2.2.2.2.2.2.2.2.2.2.2.2.1, s.2.2.2.2.2.2.2.2.2.2.2.2.2.2.2.2.2.2.2.2.2.1, x)
abbrev mO (m : Nat) (s : mS) : xCl := cO 6 [.int 0, .int (nI (g_room s)), .int (nI (g_puts s)), .ref (m + 1), .ref (m + 2), .ref (m + 3), .ref (m + 4), .ref (m + 5), .int (nI (g_stamps s)), .ref (m + 6), .ref (m + 7), .ref (m + 8), .int (nI (g_blobs s)), .ref (m + 9), .ref (m + 10), .ref (m + 11), .ref (m + 12), .ref (m + 13), .ref (m + 14), .ref (m + 15), .ref (m + 16), .ref (m + 17), .int (nI (g_packs s)), .ref (m + 18)]
def mC (m : Nat) (s : mS) : List xCl := [mO m s, cI (g_told s), cL (g_mask s), cZ (g_open s), cI (g_came s), cI (g_byts s), cI (g_psz s), cI (g_stp s), cI (g_pby s), cZ (g_isT s), cI (g_len s), cI (g_slot s), cI (g_sum s), cL (g_dig s), cI (g_pkd s), cZ (g_hasC s), cI (g_copy s), cI (g_act s), cI (g_work s)]
def mH (pre post : List xCl) (s : mS) : List xCl := pre ++ (mC pre.length s ++ post)
theorem seg_at {α : Type} (pre L : List α) (i : Nat) : (pre ++ L)[pre.length + i]? = L[i]? := by rw [List.getElem?_append_right (Nat.le_add_right _ _), Nat.add_sub_cancel_left]
theorem seg_set {α : Type} (pre L : List α) (i : Nat) (x : α) : (pre ++ L).set (pre.length + i) x = pre ++ L.set i x := by rw [List.set_append_right _ _ (Nat.le_add_right _ _), Nat.add_sub_cancel_left]
section MSTATE
variable {pre post : List xCl} {s : mS}
theorem h_obj : (mH pre post s)[pre.length]? = some (mO pre.length s) := (seg_at pre _ 0).trans rfl
theorem h_told : (mH pre post s)[pre.length + 1]? = some (cI (g_told s)) := (seg_at pre _ 1).trans rfl
theorem h_mask : (mH pre post s)[pre.length + 2]? = some (cL (g_mask s)) := (seg_at pre _ 2).trans rfl
theorem h_open : (mH pre post s)[pre.length + 3]? = some (cZ (g_open s)) := (seg_at pre _ 3).trans rfl
theorem h_came : (mH pre post s)[pre.length + 4]? = some (cI (g_came s)) := (seg_at pre _ 4).trans rfl
theorem h_byts : (mH pre post s)[pre.length + 5]? = some (cI (g_byts s)) := (seg_at pre _ 5).trans rfl
theorem h_psz : (mH pre post s)[pre.length + 6]? = some (cI (g_psz s)) := (seg_at pre _ 6).trans rfl
theorem h_stp : (mH pre post s)[pre.length + 7]? = some (cI (g_stp s)) := (seg_at pre _ 7).trans rfl
theorem h_pby : (mH pre post s)[pre.length + 8]? = some (cI (g_pby s)) := (seg_at pre _ 8).trans rfl
theorem h_isT : (mH pre post s)[pre.length + 9]? = some (cZ (g_isT s)) := (seg_at pre _ 9).trans rfl
theorem h_len : (mH pre post s)[pre.length + 10]? = some (cI (g_len s)) := (seg_at pre _ 10).trans rfl
theorem h_slot : (mH pre post s)[pre.length + 11]? = some (cI (g_slot s)) := (seg_at pre _ 11).trans rfl
theorem h_sum : (mH pre post s)[pre.length + 12]? = some (cI (g_sum s)) := (seg_at pre _ 12).trans rfl
theorem h_dig : (mH pre post s)[pre.length + 13]? = some (cL (g_dig s)) := (seg_at pre _ 13).trans rfl
theorem h_pkd : (mH pre post s)[pre.length + 14]? = some (cI (g_pkd s)) := (seg_at pre _ 14).trans rfl
theorem h_hasC : (mH pre post s)[pre.length + 15]? = some (cZ (g_hasC s)) := (seg_at pre _ 15).trans rfl
theorem h_copy : (mH pre post s)[pre.length + 16]? = some (cI (g_copy s)) := (seg_at pre _ 16).trans rfl
theorem h_act : (mH pre post s)[pre.length + 17]? = some (cI (g_act s)) := (seg_at pre _ 17).trans rfl
theorem h_work : (mH pre post s)[pre.length + 18]? = some (cI (g_work s)) := (seg_at pre _ 18).trans rfl
theorem w_puts {x : Nat} : (mH pre post s).set pre.length (mO pre.length (p_puts s x)) = mH pre post (p_puts s x) := (seg_set pre _ 0 _).trans rfl
theorem w_told {x : List Int32} : (mH pre post s).set (pre.length + 1) (cI x) = mH pre post (p_told s x) := (seg_set pre _ 1 _).trans rfl
theorem w_mask {x : List Int64} : (mH pre post s).set (pre.length + 2) (cL x) = mH pre post (p_mask s x) := (seg_set pre _ 2 _).trans rfl
theorem w_open {x : List Int32} : (mH pre post s).set (pre.length + 3) (cZ x) = mH pre post (p_open s x) := (seg_set pre _ 3 _).trans rfl
theorem w_came {x : List Int32} : (mH pre post s).set (pre.length + 4) (cI x) = mH pre post (p_came s x) := (seg_set pre _ 4 _).trans rfl
theorem w_byts {x : List Int32} : (mH pre post s).set (pre.length + 5) (cI x) = mH pre post (p_byts s x) := (seg_set pre _ 5 _).trans rfl
theorem w_stamps {x : Nat} : (mH pre post s).set pre.length (mO pre.length (p_stamps s x)) = mH pre post (p_stamps s x) := (seg_set pre _ 0 _).trans rfl
theorem w_psz {x : List Int32} : (mH pre post s).set (pre.length + 6) (cI x) = mH pre post (p_psz s x) := (seg_set pre _ 6 _).trans rfl
theorem w_stp {x : List Int32} : (mH pre post s).set (pre.length + 7) (cI x) = mH pre post (p_stp s x) := (seg_set pre _ 7 _).trans rfl
theorem w_pby {x : List Int32} : (mH pre post s).set (pre.length + 8) (cI x) = mH pre post (p_pby s x) := (seg_set pre _ 8 _).trans rfl
theorem w_blobs {x : Nat} : (mH pre post s).set pre.length (mO pre.length (p_blobs s x)) = mH pre post (p_blobs s x) := (seg_set pre _ 0 _).trans rfl
theorem w_isT {x : List Int32} : (mH pre post s).set (pre.length + 9) (cZ x) = mH pre post (p_isT s x) := (seg_set pre _ 9 _).trans rfl
theorem w_len {x : List Int32} : (mH pre post s).set (pre.length + 10) (cI x) = mH pre post (p_len s x) := (seg_set pre _ 10 _).trans rfl
theorem w_slot {x : List Int32} : (mH pre post s).set (pre.length + 11) (cI x) = mH pre post (p_slot s x) := (seg_set pre _ 11 _).trans rfl
theorem w_sum {x : List Int32} : (mH pre post s).set (pre.length + 12) (cI x) = mH pre post (p_sum s x) := (seg_set pre _ 12 _).trans rfl
theorem w_dig {x : List Int64} : (mH pre post s).set (pre.length + 13) (cL x) = mH pre post (p_dig s x) := (seg_set pre _ 13 _).trans rfl
theorem w_pkd {x : List Int32} : (mH pre post s).set (pre.length + 14) (cI x) = mH pre post (p_pkd s x) := (seg_set pre _ 14 _).trans rfl
theorem w_hasC {x : List Int32} : (mH pre post s).set (pre.length + 15) (cZ x) = mH pre post (p_hasC s x) := (seg_set pre _ 15 _).trans rfl
theorem w_copy {x : List Int32} : (mH pre post s).set (pre.length + 16) (cI x) = mH pre post (p_copy s x) := (seg_set pre _ 16 _).trans rfl
theorem w_act {x : List Int32} : (mH pre post s).set (pre.length + 17) (cI x) = mH pre post (p_act s x) := (seg_set pre _ 17 _).trans rfl
theorem w_packs {x : Nat} : (mH pre post s).set pre.length (mO pre.length (p_packs s x)) = mH pre post (p_packs s x) := (seg_set pre _ 0 _).trans rfl
theorem w_work {x : List Int32} : (mH pre post s).set (pre.length + 18) (cI x) = mH pre post (p_work s x) := (seg_set pre _ 18 _).trans rfl
theorem w_obj : (mH pre post s).set pre.length (mO pre.length s) = mH pre post s := (seg_set pre _ 0 _).trans rfl
end MSTATE
