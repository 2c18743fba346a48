theorem lay_ContentStore : ∀ k, k < 8 → u_lay "ContentStore" F_ContentStore k ∈ Gw := fun k hk => by
  match k, hk with
  | 0, _ => exact (gw 121 (by decide +kernel) rfl)
  | 1, _ => exact (gw 123 (by decide +kernel) rfl)
  | 2, _ => exact (gw 125 (by decide +kernel) rfl)
  | 3, _ => exact (gw 127 (by decide +kernel) rfl)
  | 4, _ => exact (gw 129 (by decide +kernel) rfl)
  | 5, _ => exact (gw 131 (by decide +kernel) rfl)
  | 6, _ => exact (gw 133 (by decide +kernel) rfl)
  | 7, _ => exact (gw 135 (by decide +kernel) rfl)
  | k + 8, h => exact absurd h (by omega)
theorem ck_ContentStore : xCk 0 "ContentStore" F_ContentStore 8 t_ContentStore := ⟨rfl, fun w hw => by
    obtain ⟨k, hk, rfl⟩ := List.mem_map.mp hw
    exact lay_ContentStore k (List.mem_range.mp hk), by decide +kernel, by decide +kernel⟩
theorem df_ContentStore : ∀ j, j < 8 → defaultValue (t_ContentStore j) = vp_V [.null, .null, .null, .null, .int 0, .int 0, .int 0, .int 0] j := by decide +kernel
theorem ki_ContentStore : Cond.instantiable "ContentStore" 8 ∈ Gw := (gw 52 (by decide +kernel) rfl)
theorem kz_ContentStore : Cond.initialized "ContentStore" ∈ Gw := (gw 36 (by decide +kernel) rfl)
theorem lay_Shelf : ∀ k, k < 3 → u_lay "ContentStore$Shelf" F_Shelf k ∈ Gw := fun k hk => by
  match k, hk with
  | 0, _ => exact (gw 102 (by decide +kernel) rfl)
  | 1, _ => exact (gw 104 (by decide +kernel) rfl)
  | 2, _ => exact (gw 106 (by decide +kernel) rfl)
  | k + 3, h => exact absurd h (by omega)
theorem ck_Shelf : xCk 1 "ContentStore$Shelf" F_Shelf 3 t_Shelf := ⟨rfl, fun w hw => by
    obtain ⟨k, hk, rfl⟩ := List.mem_map.mp hw
    exact lay_Shelf k (List.mem_range.mp hk), by decide +kernel, by decide +kernel⟩
theorem df_Shelf : ∀ j, j < 3 → defaultValue (t_Shelf j) = vp_V [.int 0, .null, .int 0] j := by decide +kernel
theorem ki_Shelf : Cond.instantiable "ContentStore$Shelf" 3 ∈ Gw := (gw 60 (by decide +kernel) rfl)
theorem kz_Shelf : Cond.initialized "ContentStore$Shelf" ∈ Gw := (gw 37 (by decide +kernel) rfl)
theorem lay_ArrayList : ∀ k, k < 3 → u_lay "java/util/ArrayList" F_ArrayList k ∈ Gw := fun k hk => by
  match k, hk with
  | 0, _ => exact (gw 90 (by decide +kernel) rfl)
  | 1, _ => exact (gw 92 (by decide +kernel) rfl)
  | 2, _ => exact (gw 94 (by decide +kernel) rfl)
  | k + 3, h => exact absurd h (by omega)
theorem ck_ArrayList : xCk 2 "java/util/ArrayList" F_ArrayList 3 t_ArrayList := ⟨rfl, fun w hw => by
    obtain ⟨k, hk, rfl⟩ := List.mem_map.mp hw
    exact lay_ArrayList k (List.mem_range.mp hk), by decide +kernel, by decide +kernel⟩
theorem df_ArrayList : ∀ j, j < 3 → defaultValue (t_ArrayList j) = vp_V [.null, .int 0, .int 0] j := by decide +kernel
theorem ki_ArrayList : Cond.instantiable "java/util/ArrayList" 3 ∈ Gw := (gw 72 (by decide +kernel) rfl)
theorem kz_ArrayList : Cond.initialized "java/util/ArrayList" ∈ Gw := (gw 41 (by decide +kernel) rfl)
theorem lay_Put : ∀ k, k < 4 → u_lay "ContentStore$Put" F_Put k ∈ Gw := fun k hk => by
  match k, hk with
  | 0, _ => exact (gw 156 (by decide +kernel) rfl)
  | 1, _ => exact (gw 158 (by decide +kernel) rfl)
  | 2, _ => exact (gw 160 (by decide +kernel) rfl)
  | 3, _ => exact (gw 162 (by decide +kernel) rfl)
  | k + 4, h => exact absurd h (by omega)
theorem ck_Put : xCk 3 "ContentStore$Put" F_Put 4 t_Put := ⟨rfl, fun w hw => by
    obtain ⟨k, hk, rfl⟩ := List.mem_map.mp hw
    exact lay_Put k (List.mem_range.mp hk), by decide +kernel, by decide +kernel⟩
theorem df_Put : ∀ j, j < 4 → defaultValue (t_Put j) = vp_V [.null, .long 0, .int 0, .int 0] j := by decide +kernel
theorem ki_Put : Cond.instantiable "ContentStore$Put" 4 ∈ Gw := (gw 143 (by decide +kernel) rfl)
theorem kz_Put : Cond.initialized "ContentStore$Put" ∈ Gw := (gw 43 (by decide +kernel) rfl)
theorem lay_Blob : ∀ k, k < 7 → u_lay "ContentStore$Blob" F_Blob k ∈ Gw := fun k hk => by
  match k, hk with
  | 0, _ => exact (gw 349 (by decide +kernel) rfl)
  | 1, _ => exact (gw 351 (by decide +kernel) rfl)
  | 2, _ => exact (gw 353 (by decide +kernel) rfl)
  | 3, _ => exact (gw 355 (by decide +kernel) rfl)
  | 4, _ => exact (gw 357 (by decide +kernel) rfl)
  | 5, _ => exact (gw 359 (by decide +kernel) rfl)
  | 6, _ => exact (gw 361 (by decide +kernel) rfl)
  | k + 7, h => exact absurd h (by omega)
theorem ck_Blob : xCk 4 "ContentStore$Blob" F_Blob 7 t_Blob := ⟨rfl, fun w hw => by
    obtain ⟨k, hk, rfl⟩ := List.mem_map.mp hw
    exact lay_Blob k (List.mem_range.mp hk), by decide +kernel, by decide +kernel⟩
theorem df_Blob : ∀ j, j < 7 → defaultValue (t_Blob j) = vp_V [.int 0, .int 0, .long 0, .null, .null, .int 0, .int 0] j := by decide +kernel
theorem ki_Blob : Cond.instantiable "ContentStore$Blob" 7 ∈ Gw := (gw 252 (by decide +kernel) rfl)
theorem kz_Blob : Cond.initialized "ContentStore$Blob" ∈ Gw := (gw 46 (by decide +kernel) rfl)
theorem lay_Part : ∀ k, k < 2 → u_lay "ContentStore$Part" F_Part k ∈ Gw := fun k hk => by
  match k, hk with
  | 0, _ => exact (gw 273 (by decide +kernel) rfl)
  | 1, _ => exact (gw 275 (by decide +kernel) rfl)
  | k + 2, h => exact absurd h (by omega)
theorem ck_Part : xCk 5 "ContentStore$Part" F_Part 2 t_Part := ⟨rfl, fun w hw => by
    obtain ⟨k, hk, rfl⟩ := List.mem_map.mp hw
    exact lay_Part k (List.mem_range.mp hk), by decide +kernel, by decide +kernel⟩
theorem df_Part : ∀ j, j < 2 → defaultValue (t_Part j) = vp_V [.null, .int 0] j := by decide +kernel
theorem ki_Part : Cond.instantiable "ContentStore$Part" 2 ∈ Gw := (gw 263 (by decide +kernel) rfl)
theorem kz_Part : Cond.initialized "ContentStore$Part" ∈ Gw := (gw 47 (by decide +kernel) rfl)
theorem lay_ContentStoreModel : ∀ k, k < 24 → u_lay "ContentStoreModel" F_ContentStoreModel k ∈ Gw := fun k hk => by
  match k, hk with
  | 0, _ => exact (gw 521 (by decide +kernel) rfl)
  | 1, _ => exact (gw 523 (by decide +kernel) rfl)
  | 2, _ => exact (gw 525 (by decide +kernel) rfl)
  | 3, _ => exact (gw 527 (by decide +kernel) rfl)
  | 4, _ => exact (gw 529 (by decide +kernel) rfl)
  | 5, _ => exact (gw 531 (by decide +kernel) rfl)
  | 6, _ => exact (gw 533 (by decide +kernel) rfl)
  | 7, _ => exact (gw 535 (by decide +kernel) rfl)
  | 8, _ => exact (gw 537 (by decide +kernel) rfl)
  | 9, _ => exact (gw 539 (by decide +kernel) rfl)
  | 10, _ => exact (gw 541 (by decide +kernel) rfl)
  | 11, _ => exact (gw 543 (by decide +kernel) rfl)
  | 12, _ => exact (gw 545 (by decide +kernel) rfl)
  | 13, _ => exact (gw 547 (by decide +kernel) rfl)
  | 14, _ => exact (gw 549 (by decide +kernel) rfl)
  | 15, _ => exact (gw 551 (by decide +kernel) rfl)
  | 16, _ => exact (gw 553 (by decide +kernel) rfl)
  | 17, _ => exact (gw 555 (by decide +kernel) rfl)
  | 18, _ => exact (gw 557 (by decide +kernel) rfl)
  | 19, _ => exact (gw 559 (by decide +kernel) rfl)
  | 20, _ => exact (gw 561 (by decide +kernel) rfl)
  | 21, _ => exact (gw 563 (by decide +kernel) rfl)
  | 22, _ => exact (gw 565 (by decide +kernel) rfl)
  | 23, _ => exact (gw 567 (by decide +kernel) rfl)
  | k + 24, h => exact absurd h (by omega)
theorem ck_ContentStoreModel : xCk 6 "ContentStoreModel" F_ContentStoreModel 24 t_ContentStoreModel := ⟨rfl, fun w hw => by
    obtain ⟨k, hk, rfl⟩ := List.mem_map.mp hw
    exact lay_ContentStoreModel k (List.mem_range.mp hk), by decide +kernel, by decide +kernel⟩
theorem df_ContentStoreModel : ∀ j, j < 24 → defaultValue (t_ContentStoreModel j) = vp_V [.int 0, .int 0, .int 0, .null, .null, .null, .null, .null, .int 0, .null, .null, .null, .int 0, .null, .null, .null, .null, .null, .null, .null, .null, .null, .int 0, .null] j := by decide +kernel
theorem ki_ContentStoreModel : Cond.instantiable "ContentStoreModel" 24 ∈ Gw := (gw 492 (by decide +kernel) rfl)
theorem kz_ContentStoreModel : Cond.initialized "ContentStoreModel" ∈ Gw := (gw 42 (by decide +kernel) rfl)
theorem fk_ArrayList_9 : xFk "java/util/ArrayList" 9 F_ArrayList 0 := ⟨"java/util/ArrayList", (gw 85 (by decide +kernel) rfl), Or.inl rfl⟩
theorem fk_ArrayList_48 : xFk "java/util/ArrayList" 48 F_ArrayList 1 := ⟨"java/util/ArrayList", (gw 86 (by decide +kernel) rfl), Or.inl rfl⟩
theorem fk_AbstractList_7 : xFk "java/util/AbstractList" 7 F_ArrayList 2 := ⟨"java/util/AbstractList", (gw 87 (by decide +kernel) rfl), Or.inl rfl⟩
theorem fk_ArrayList_63 : xFk "java/util/ArrayList" 63 F_ArrayList 2 := ⟨"java/util/ArrayList", (gw 88 (by decide +kernel) rfl), Or.inr (gw 89 (by decide +kernel) rfl)⟩
theorem fk_Shelf_9 : xFk "ContentStore$Shelf" 9 F_Shelf 0 := ⟨"ContentStore$Shelf", (gw 97 (by decide +kernel) rfl), Or.inl rfl⟩
theorem fk_Shelf_18 : xFk "ContentStore$Shelf" 18 F_Shelf 1 := ⟨"ContentStore$Shelf", (gw 98 (by decide +kernel) rfl), Or.inl rfl⟩
theorem fk_ContentStore_159 : xFk "ContentStore" 159 F_Shelf 1 := ⟨"ContentStore$Shelf", (gw 99 (by decide +kernel) rfl), Or.inl rfl⟩
theorem fk_Shelf_34 : xFk "ContentStore$Shelf" 34 F_Shelf 2 := ⟨"ContentStore$Shelf", (gw 100 (by decide +kernel) rfl), Or.inl rfl⟩
theorem fk_ContentStore_167 : xFk "ContentStore" 167 F_Shelf 2 := ⟨"ContentStore$Shelf", (gw 101 (by decide +kernel) rfl), Or.inl rfl⟩
theorem fk_ContentStore_23 : xFk "ContentStore" 23 F_ContentStore 0 := ⟨"ContentStore", (gw 113 (by decide +kernel) rfl), Or.inl rfl⟩
theorem fk_ContentStore_29 : xFk "ContentStore" 29 F_ContentStore 1 := ⟨"ContentStore", (gw 114 (by decide +kernel) rfl), Or.inl rfl⟩
theorem fk_ContentStore_35 : xFk "ContentStore" 35 F_ContentStore 2 := ⟨"ContentStore", (gw 115 (by decide +kernel) rfl), Or.inl rfl⟩
theorem fk_ContentStore_39 : xFk "ContentStore" 39 F_ContentStore 3 := ⟨"ContentStore", (gw 116 (by decide +kernel) rfl), Or.inl rfl⟩
theorem fk_ContentStore_47 : xFk "ContentStore" 47 F_ContentStore 4 := ⟨"ContentStore", (gw 117 (by decide +kernel) rfl), Or.inl rfl⟩
theorem fk_ContentStore_43 : xFk "ContentStore" 43 F_ContentStore 5 := ⟨"ContentStore", (gw 118 (by decide +kernel) rfl), Or.inl rfl⟩
theorem fk_ContentStore_139 : xFk "ContentStore" 139 F_ContentStore 6 := ⟨"ContentStore", (gw 119 (by decide +kernel) rfl), Or.inl rfl⟩
theorem fk_ContentStore_153 : xFk "ContentStore" 153 F_ContentStore 7 := ⟨"ContentStore", (gw 120 (by decide +kernel) rfl), Or.inl rfl⟩
theorem fk_Put_15 : xFk "ContentStore$Put" 15 F_Put 0 := ⟨"ContentStore$Put", (gw 149 (by decide +kernel) rfl), Or.inl rfl⟩
theorem fk_ContentStore_76 : xFk "ContentStore" 76 F_Put 0 := ⟨"ContentStore$Put", (gw 150 (by decide +kernel) rfl), Or.inl rfl⟩
theorem fk_Put_21 : xFk "ContentStore$Put" 21 F_Put 1 := ⟨"ContentStore$Put", (gw 151 (by decide +kernel) rfl), Or.inl rfl⟩
theorem fk_Put_29 : xFk "ContentStore$Put" 29 F_Put 2 := ⟨"ContentStore$Put", (gw 152 (by decide +kernel) rfl), Or.inl rfl⟩
theorem fk_ContentStore_65 : xFk "ContentStore" 65 F_Put 2 := ⟨"ContentStore$Put", (gw 153 (by decide +kernel) rfl), Or.inl rfl⟩
theorem fk_Put_25 : xFk "ContentStore$Put" 25 F_Put 3 := ⟨"ContentStore$Put", (gw 154 (by decide +kernel) rfl), Or.inl rfl⟩
theorem fk_ContentStore_68 : xFk "ContentStore" 68 F_Put 3 := ⟨"ContentStore$Put", (gw 155 (by decide +kernel) rfl), Or.inl rfl⟩
theorem fk_Part_13 : xFk "ContentStore$Part" 13 F_Part 0 := ⟨"ContentStore$Part", (gw 269 (by decide +kernel) rfl), Or.inl rfl⟩
theorem fk_Shelf_39 : xFk "ContentStore$Shelf" 39 F_Part 0 := ⟨"ContentStore$Part", (gw 270 (by decide +kernel) rfl), Or.inl rfl⟩
theorem fk_Blob_41 : xFk "ContentStore$Blob" 41 F_Part 0 := ⟨"ContentStore$Part", (gw 271 (by decide +kernel) rfl), Or.inl rfl⟩
theorem fk_Shelf_50 : xFk "ContentStore$Shelf" 50 F_Part 1 := ⟨"ContentStore$Part", (gw 272 (by decide +kernel) rfl), Or.inl rfl⟩
theorem fk_Blob_9 : xFk "ContentStore$Blob" 9 F_Blob 0 := ⟨"ContentStore$Blob", (gw 336 (by decide +kernel) rfl), Or.inl rfl⟩
theorem fk_ContentStore_94 : xFk "ContentStore" 94 F_Blob 0 := ⟨"ContentStore$Blob", (gw 337 (by decide +kernel) rfl), Or.inl rfl⟩
theorem fk_Blob_19 : xFk "ContentStore$Blob" 19 F_Blob 1 := ⟨"ContentStore$Blob", (gw 338 (by decide +kernel) rfl), Or.inl rfl⟩
theorem fk_Blob_26 : xFk "ContentStore$Blob" 26 F_Blob 2 := ⟨"ContentStore$Blob", (gw 339 (by decide +kernel) rfl), Or.inl rfl⟩
theorem fk_ContentStore_90 : xFk "ContentStore" 90 F_Blob 2 := ⟨"ContentStore$Blob", (gw 340 (by decide +kernel) rfl), Or.inl rfl⟩
theorem fk_Blob_30 : xFk "ContentStore$Blob" 30 F_Blob 3 := ⟨"ContentStore$Blob", (gw 341 (by decide +kernel) rfl), Or.inl rfl⟩
theorem fk_ContentStore_127 : xFk "ContentStore" 127 F_Blob 3 := ⟨"ContentStore$Blob", (gw 342 (by decide +kernel) rfl), Or.inl rfl⟩
theorem fk_Blob_51 : xFk "ContentStore$Blob" 51 F_Blob 4 := ⟨"ContentStore$Blob", (gw 343 (by decide +kernel) rfl), Or.inl rfl⟩
theorem fk_ContentStore_120 : xFk "ContentStore" 120 F_Blob 4 := ⟨"ContentStore$Blob", (gw 344 (by decide +kernel) rfl), Or.inl rfl⟩
theorem fk_Blob_34 : xFk "ContentStore$Blob" 34 F_Blob 5 := ⟨"ContentStore$Blob", (gw 345 (by decide +kernel) rfl), Or.inl rfl⟩
theorem fk_ContentStore_142 : xFk "ContentStore" 142 F_Blob 5 := ⟨"ContentStore$Blob", (gw 346 (by decide +kernel) rfl), Or.inl rfl⟩
theorem fk_Blob_37 : xFk "ContentStore$Blob" 37 F_Blob 6 := ⟨"ContentStore$Blob", (gw 347 (by decide +kernel) rfl), Or.inl rfl⟩
theorem fk_ContentStore_176 : xFk "ContentStore" 176 F_Blob 6 := ⟨"ContentStore$Blob", (gw 348 (by decide +kernel) rfl), Or.inl rfl⟩
theorem fk_ContentStoreModel_70 : xFk "ContentStoreModel" 70 F_ContentStoreModel 0 := ⟨"ContentStoreModel", (gw 497 (by decide +kernel) rfl), Or.inl rfl⟩
theorem fk_ContentStoreModel_66 : xFk "ContentStoreModel" 66 F_ContentStoreModel 1 := ⟨"ContentStoreModel", (gw 498 (by decide +kernel) rfl), Or.inl rfl⟩
theorem fk_ContentStoreModel_80 : xFk "ContentStoreModel" 80 F_ContentStoreModel 2 := ⟨"ContentStoreModel", (gw 499 (by decide +kernel) rfl), Or.inl rfl⟩
theorem fk_ContentStoreModel_7 : xFk "ContentStoreModel" 7 F_ContentStoreModel 3 := ⟨"ContentStoreModel", (gw 500 (by decide +kernel) rfl), Or.inl rfl⟩
theorem fk_ContentStoreModel_13 : xFk "ContentStoreModel" 13 F_ContentStoreModel 4 := ⟨"ContentStoreModel", (gw 501 (by decide +kernel) rfl), Or.inl rfl⟩
theorem fk_ContentStoreModel_17 : xFk "ContentStoreModel" 17 F_ContentStoreModel 5 := ⟨"ContentStoreModel", (gw 502 (by decide +kernel) rfl), Or.inl rfl⟩
theorem fk_ContentStoreModel_21 : xFk "ContentStoreModel" 21 F_ContentStoreModel 6 := ⟨"ContentStoreModel", (gw 503 (by decide +kernel) rfl), Or.inl rfl⟩
theorem fk_ContentStoreModel_24 : xFk "ContentStoreModel" 24 F_ContentStoreModel 7 := ⟨"ContentStoreModel", (gw 504 (by decide +kernel) rfl), Or.inl rfl⟩
theorem fk_ContentStoreModel_137 : xFk "ContentStoreModel" 137 F_ContentStoreModel 8 := ⟨"ContentStoreModel", (gw 505 (by decide +kernel) rfl), Or.inl rfl⟩
theorem fk_ContentStoreModel_27 : xFk "ContentStoreModel" 27 F_ContentStoreModel 9 := ⟨"ContentStoreModel", (gw 506 (by decide +kernel) rfl), Or.inl rfl⟩
theorem fk_ContentStoreModel_30 : xFk "ContentStoreModel" 30 F_ContentStoreModel 10 := ⟨"ContentStoreModel", (gw 507 (by decide +kernel) rfl), Or.inl rfl⟩
theorem fk_ContentStoreModel_33 : xFk "ContentStoreModel" 33 F_ContentStoreModel 11 := ⟨"ContentStoreModel", (gw 508 (by decide +kernel) rfl), Or.inl rfl⟩
theorem fk_ContentStoreModel_73 : xFk "ContentStoreModel" 73 F_ContentStoreModel 12 := ⟨"ContentStoreModel", (gw 509 (by decide +kernel) rfl), Or.inl rfl⟩
theorem fk_ContentStoreModel_36 : xFk "ContentStoreModel" 36 F_ContentStoreModel 13 := ⟨"ContentStoreModel", (gw 510 (by decide +kernel) rfl), Or.inl rfl⟩
theorem fk_ContentStoreModel_39 : xFk "ContentStoreModel" 39 F_ContentStoreModel 14 := ⟨"ContentStoreModel", (gw 511 (by decide +kernel) rfl), Or.inl rfl⟩
theorem fk_ContentStoreModel_42 : xFk "ContentStoreModel" 42 F_ContentStoreModel 15 := ⟨"ContentStoreModel", (gw 512 (by decide +kernel) rfl), Or.inl rfl⟩
theorem fk_ContentStoreModel_45 : xFk "ContentStoreModel" 45 F_ContentStoreModel 16 := ⟨"ContentStoreModel", (gw 513 (by decide +kernel) rfl), Or.inl rfl⟩
theorem fk_ContentStoreModel_48 : xFk "ContentStoreModel" 48 F_ContentStoreModel 17 := ⟨"ContentStoreModel", (gw 514 (by decide +kernel) rfl), Or.inl rfl⟩
theorem fk_ContentStoreModel_51 : xFk "ContentStoreModel" 51 F_ContentStoreModel 18 := ⟨"ContentStoreModel", (gw 515 (by decide +kernel) rfl), Or.inl rfl⟩
theorem fk_ContentStoreModel_54 : xFk "ContentStoreModel" 54 F_ContentStoreModel 19 := ⟨"ContentStoreModel", (gw 516 (by decide +kernel) rfl), Or.inl rfl⟩
theorem fk_ContentStoreModel_57 : xFk "ContentStoreModel" 57 F_ContentStoreModel 20 := ⟨"ContentStoreModel", (gw 517 (by decide +kernel) rfl), Or.inl rfl⟩
theorem fk_ContentStoreModel_60 : xFk "ContentStoreModel" 60 F_ContentStoreModel 21 := ⟨"ContentStoreModel", (gw 518 (by decide +kernel) rfl), Or.inl rfl⟩
theorem fk_ContentStoreModel_159 : xFk "ContentStoreModel" 159 F_ContentStoreModel 22 := ⟨"ContentStoreModel", (gw 519 (by decide +kernel) rfl), Or.inl rfl⟩
theorem fk_ContentStoreModel_63 : xFk "ContentStoreModel" 63 F_ContentStoreModel 23 := ⟨"ContentStoreModel", (gw 520 (by decide +kernel) rfl), Or.inl rfl⟩
theorem kn_ContentStoreLaw_7 : Cond.classLink "ContentStoreLaw" 7 "ContentStore" ∈ Gw := (gw 51 (by decide +kernel) rfl)
theorem kn_ContentStore_7 : Cond.classLink "ContentStore" 7 "ContentStore$Shelf" ∈ Gw := (gw 59 (by decide +kernel) rfl)
theorem kn_Shelf_15 : Cond.classLink "ContentStore$Shelf" 15 "java/util/ArrayList" ∈ Gw := (gw 71 (by decide +kernel) rfl)
theorem kn_ContentStore_27 : Cond.classLink "ContentStore" 27 "ContentStore$Put" ∈ Gw := (gw 109 (by decide +kernel) rfl)
theorem kn_ContentStore_33 : Cond.classLink "ContentStore" 33 "ContentStore$Blob" ∈ Gw := (gw 111 (by decide +kernel) rfl)
theorem kn_Shelf_37 : Cond.classLink "ContentStore$Shelf" 37 "ContentStore$Part" ∈ Gw := (gw 245 (by decide +kernel) rfl)
theorem kn_ContentStore_105 : Cond.classLink "ContentStore" 105 "ContentStore$Part" ∈ Gw := (gw 253 (by decide +kernel) rfl)
theorem kn_Arrays_110 : Cond.classLink "java/util/Arrays" 110 "[Ljava/lang/Object;" ∈ Gw := (gw 319 (by decide +kernel) rfl)
theorem kn_Arrays_2 : Cond.classLink "java/util/Arrays" 2 "java/lang/Object" ∈ Gw := (gw 321 (by decide +kernel) rfl)
theorem kn_ArrayList_7 : Cond.classLink "java/util/ArrayList" 7 "java/lang/Object" ∈ Gw := (gw 327 (by decide +kernel) rfl)
theorem kn_ContentStoreLaw_18 : Cond.classLink "ContentStoreLaw" 18 "ContentStoreModel" ∈ Gw := (gw 491 (by decide +kernel) rfl)
theorem kl_ContentStoreLaw_15 : Cond.methodLink "ContentStoreLaw" 15 ⟨"ContentStore", "<init>", "(I)V"⟩ ∈ Gw := (gw 53 (by decide +kernel) rfl)
theorem kl_ContentStore_1 : Cond.methodLink "ContentStore" 1 ⟨"java/lang/Object", "<init>", "()V"⟩ ∈ Gw := (gw 56 (by decide +kernel) rfl)
theorem kl_ContentStore_11 : Cond.methodLink "ContentStore" 11 ⟨"java/lang/Math", "min", "(II)I"⟩ ∈ Gw := (gw 61 (by decide +kernel) rfl)
theorem kl_ContentStore_17 : Cond.methodLink "ContentStore" 17 ⟨"java/lang/Math", "max", "(II)I"⟩ ∈ Gw := (gw 64 (by decide +kernel) rfl)
theorem kl_ContentStore_20 : Cond.methodLink "ContentStore" 20 ⟨"ContentStore$Shelf", "<init>", "(I)V"⟩ ∈ Gw := (gw 67 (by decide +kernel) rfl)
theorem kl_Shelf_3 : Cond.methodLink "ContentStore$Shelf" 3 ⟨"java/lang/Object", "<init>", "()V"⟩ ∈ Gw := (gw 70 (by decide +kernel) rfl)
theorem kl_Shelf_17 : Cond.methodLink "ContentStore$Shelf" 17 ⟨"java/util/ArrayList", "<init>", "()V"⟩ ∈ Gw := (gw 73 (by decide +kernel) rfl)
theorem kl_ArrayList_1 : Cond.methodLink "java/util/ArrayList" 1 ⟨"java/util/AbstractList", "<init>", "()V"⟩ ∈ Gw := (gw 76 (by decide +kernel) rfl)
theorem kl_AbstractList_1 : Cond.methodLink "java/util/AbstractList" 1 ⟨"java/util/AbstractCollection", "<init>", "()V"⟩ ∈ Gw := (gw 79 (by decide +kernel) rfl)
theorem kl_AbstractCollection_1 : Cond.methodLink "java/util/AbstractCollection" 1 ⟨"java/lang/Object", "<init>", "()V"⟩ ∈ Gw := (gw 82 (by decide +kernel) rfl)
theorem kl_ContentStoreLaw_23 : Cond.methodLink "ContentStoreLaw" 23 ⟨"ContentStore", "begin", "(IJ)I"⟩ ∈ Gw := (gw 139 (by decide +kernel) rfl)
theorem kl_ContentStore_50 : Cond.methodLink "ContentStore" 50 ⟨"ContentStore$Put", "<init>", "(IJ)V"⟩ ∈ Gw := (gw 144 (by decide +kernel) rfl)
theorem kl_Put_3 : Cond.methodLink "ContentStore$Put" 3 ⟨"java/lang/Object", "<init>", "()V"⟩ ∈ Gw := (gw 147 (by decide +kernel) rfl)
theorem kl_Put_9 : Cond.methodLink "ContentStore$Put" 9 ⟨"java/lang/Math", "max", "(II)I"⟩ ∈ Gw := (gw 148 (by decide +kernel) rfl)
theorem kl_ContentStoreLaw_28 : Cond.methodLink "ContentStoreLaw" 28 ⟨"ContentStore", "add", "(IJI)I"⟩ ∈ Gw := (gw 165 (by decide +kernel) rfl)
theorem kl_ContentStore_53 : Cond.methodLink "ContentStore" 53 ⟨"ContentStore", "openPut", "(I)LContentStore$Put;"⟩ ∈ Gw := (gw 169 (by decide +kernel) rfl)
theorem kl_ContentStore_57 : Cond.methodLink "ContentStore" 57 ⟨"ContentStore$Put", "lacking", "()I"⟩ ∈ Gw := (gw 173 (by decide +kernel) rfl)
theorem kl_ContentStore_61 : Cond.methodLink "ContentStore" 61 ⟨"ContentStore$Put", "take", "(JI)V"⟩ ∈ Gw := (gw 177 (by decide +kernel) rfl)
theorem kl_ContentStoreLaw_33 : Cond.methodLink "ContentStoreLaw" 33 ⟨"ContentStore", "end", "(I)I"⟩ ∈ Gw := (gw 181 (by decide +kernel) rfl)
theorem kl_ContentStore_72 : Cond.methodLink "ContentStore" 72 ⟨"ContentStore$Put", "differs", "()Z"⟩ ∈ Gw := (gw 185 (by decide +kernel) rfl)
theorem kl_ContentStore_79 : Cond.methodLink "ContentStore" 79 ⟨"ContentStore", "soundBlobWith", "([I)I"⟩ ∈ Gw := (gw 189 (by decide +kernel) rfl)
theorem kl_ContentStore_86 : Cond.methodLink "ContentStore" 86 ⟨"ContentStore", "blobAt", "(I)LContentStore$Blob;"⟩ ∈ Gw := (gw 193 (by decide +kernel) rfl)
theorem kl_ContentStore_179 : Cond.methodLink "ContentStore" 179 ⟨"ContentStore$Blob", "hasBytes", "([I)Z"⟩ ∈ Gw := (gw 197 (by decide +kernel) rfl)
theorem kl_ContentStore_192 : Cond.methodLink "ContentStore" 192 ⟨"ContentStore", "partLength", "([II)I"⟩ ∈ Gw := (gw 204 (by decide +kernel) rfl)
theorem kl_ContentStore_101 : Cond.methodLink "ContentStore" 101 ⟨"ContentStore$Blob", "isSound", "()Z"⟩ ∈ Gw := (gw 207 (by decide +kernel) rfl)
theorem kl_ContentStore_83 : Cond.methodLink "ContentStore" 83 ⟨"ContentStore", "newBlobWith", "([I)I"⟩ ∈ Gw := (gw 215 (by decide +kernel) rfl)
theorem kl_ContentStore_123 : Cond.methodLink "ContentStore" 123 ⟨"ContentStore$Shelf", "hasRoomFor", "([I)Z"⟩ ∈ Gw := (gw 219 (by decide +kernel) rfl)
theorem kl_Shelf_22 : Cond.methodLink "ContentStore$Shelf" 22 ⟨"ContentStore$Shelf", "found", "([II)LContentStore$Part;"⟩ ∈ Gw := (gw 223 (by decide +kernel) rfl)
theorem kl_Shelf_64 : Cond.methodLink "ContentStore$Shelf" 64 ⟨"java/util/ArrayList", "size", "()I"⟩ ∈ Gw := (gw 227 (by decide +kernel) rfl)
theorem kl_Shelf_68 : Cond.methodLink "ContentStore$Shelf" 68 ⟨"java/util/ArrayList", "get", "(I)Ljava/lang/Object;"⟩ ∈ Gw := (gw 231 (by decide +kernel) rfl)
theorem kl_ArrayList_118 : Cond.methodLink "java/util/ArrayList" 118 ⟨"java/util/Objects", "checkIndex", "(II)I"⟩ ∈ Gw := (gw 235 (by decide +kernel) rfl)
theorem kl_Objects_105 : Cond.methodLink "java/util/Objects" 105 ⟨"jdk/internal/util/Preconditions", "checkIndex", "(IILjava/util/function/BiFunction;)I"⟩ ∈ Gw := (gw 238 (by decide +kernel) rfl)
theorem kl_ArrayList_123 : Cond.methodLink "java/util/ArrayList" 123 ⟨"java/util/ArrayList", "elementData", "(I)Ljava/lang/Object;"⟩ ∈ Gw := (gw 241 (by decide +kernel) rfl)
theorem kl_Shelf_26 : Cond.methodLink "ContentStore$Shelf" 26 ⟨"ContentStore$Shelf", "comesEarlier", "([II)Z"⟩ ∈ Gw := (gw 247 (by decide +kernel) rfl)
theorem kl_ContentStore_131 : Cond.methodLink "ContentStore" 131 ⟨"ContentStore$Shelf", "rowOf", "([I[LContentStore$Part;)[LContentStore$Part;"⟩ ∈ Gw := (gw 255 (by decide +kernel) rfl)
theorem kl_Shelf_47 : Cond.methodLink "ContentStore$Shelf" 47 ⟨"ContentStore$Shelf", "made", "([II)LContentStore$Part;"⟩ ∈ Gw := (gw 259 (by decide +kernel) rfl)
theorem kl_Shelf_57 : Cond.methodLink "ContentStore$Shelf" 57 ⟨"ContentStore$Part", "<init>", "([II)V"⟩ ∈ Gw := (gw 264 (by decide +kernel) rfl)
theorem kl_Part_3 : Cond.methodLink "ContentStore$Part" 3 ⟨"java/lang/Object", "<init>", "()V"⟩ ∈ Gw := (gw 267 (by decide +kernel) rfl)
theorem kl_Shelf_60 : Cond.methodLink "ContentStore$Shelf" 60 ⟨"java/util/ArrayList", "add", "(Ljava/lang/Object;)Z"⟩ ∈ Gw := (gw 278 (by decide +kernel) rfl)
theorem kl_ArrayList_131 : Cond.methodLink "java/util/ArrayList" 131 ⟨"java/util/ArrayList", "add", "(Ljava/lang/Object;[Ljava/lang/Object;I)V"⟩ ∈ Gw := (gw 282 (by decide +kernel) rfl)
theorem kl_ArrayList_129 : Cond.methodLink "java/util/ArrayList" 129 ⟨"java/util/ArrayList", "grow", "()[Ljava/lang/Object;"⟩ ∈ Gw := (gw 286 (by decide +kernel) rfl)
theorem kl_ArrayList_69 : Cond.methodLink "java/util/ArrayList" 69 ⟨"java/util/ArrayList", "grow", "(I)[Ljava/lang/Object;"⟩ ∈ Gw := (gw 290 (by decide +kernel) rfl)
theorem kl_ArrayList_73 : Cond.methodLink "java/util/ArrayList" 73 ⟨"jdk/internal/util/ArraysSupport", "newLength", "(III)I"⟩ ∈ Gw := (gw 294 (by decide +kernel) rfl)
theorem kl_ArraysSupport_194 : Cond.methodLink "jdk/internal/util/ArraysSupport" 194 ⟨"java/lang/Math", "max", "(II)I"⟩ ∈ Gw := (gw 297 (by decide +kernel) rfl)
theorem kl_ArraysSupport_201 : Cond.methodLink "jdk/internal/util/ArraysSupport" 201 ⟨"jdk/internal/util/ArraysSupport", "hugeLength", "(II)I"⟩ ∈ Gw := (gw 299 (by decide +kernel) rfl)
theorem kl_ArrayList_66 : Cond.methodLink "java/util/ArrayList" 66 ⟨"java/util/Arrays", "copyOf", "([Ljava/lang/Object;I)[Ljava/lang/Object;"⟩ ∈ Gw := (gw 302 (by decide +kernel) rfl)
theorem kl_Arrays_86 : Cond.methodLink "java/util/Arrays" 86 ⟨"java/lang/Object", "getClass", "()Ljava/lang/Class;"⟩ ∈ Gw := (gw 305 (by decide +kernel) rfl)
theorem kl_Arrays_300 : Cond.methodLink "java/util/Arrays" 300 ⟨"java/util/Arrays", "copyOf", "([Ljava/lang/Object;ILjava/lang/Class;)[Ljava/lang/Object;"⟩ ∈ Gw := (gw 316 (by decide +kernel) rfl)
theorem kl_Arrays_304 : Cond.methodLink "java/util/Arrays" 304 ⟨"java/lang/Math", "min", "(II)I"⟩ ∈ Gw := (gw 322 (by decide +kernel) rfl)
theorem kl_Arrays_150 : Cond.methodLink "java/util/Arrays" 150 ⟨"java/lang/System", "arraycopy", "(Ljava/lang/Object;ILjava/lang/Object;II)V"⟩ ∈ Gw := (gw 323 (by decide +kernel) rfl)
theorem kl_ArrayList_79 : Cond.methodLink "java/util/ArrayList" 79 ⟨"java/lang/Math", "max", "(II)I"⟩ ∈ Gw := (gw 326 (by decide +kernel) rfl)
theorem kl_ContentStore_182 : Cond.methodLink "ContentStore" 182 ⟨"ContentStore$Blob", "<init>", "([I[LContentStore$Part;)V"⟩ ∈ Gw := (gw 328 (by decide +kernel) rfl)
theorem kl_Blob_3 : Cond.methodLink "ContentStore$Blob" 3 ⟨"java/lang/Object", "<init>", "()V"⟩ ∈ Gw := (gw 331 (by decide +kernel) rfl)
theorem kl_ContentStoreLaw_38 : Cond.methodLink "ContentStoreLaw" 38 ⟨"ContentStore", "there", "(I)Z"⟩ ∈ Gw := (gw 364 (by decide +kernel) rfl)
theorem kl_ContentStoreLaw_43 : Cond.methodLink "ContentStoreLaw" 43 ⟨"ContentStore", "digest", "(I)J"⟩ ∈ Gw := (gw 368 (by decide +kernel) rfl)
theorem kl_ContentStoreLaw_48 : Cond.methodLink "ContentStoreLaw" 48 ⟨"ContentStore", "size", "(I)I"⟩ ∈ Gw := (gw 372 (by decide +kernel) rfl)
theorem kl_ContentStoreLaw_52 : Cond.methodLink "ContentStoreLaw" 52 ⟨"ContentStore", "get", "(II)I"⟩ ∈ Gw := (gw 376 (by decide +kernel) rfl)
theorem kl_ContentStore_97 : Cond.methodLink "ContentStore" 97 ⟨"ContentStore$Blob", "partOf", "(I)LContentStore$Part;"⟩ ∈ Gw := (gw 380 (by decide +kernel) rfl)
theorem kl_ContentStore_104 : Cond.methodLink "ContentStore" 104 ⟨"ContentStore$Part", "byteAt", "(I)I"⟩ ∈ Gw := (gw 384 (by decide +kernel) rfl)
theorem kl_ContentStoreLaw_57 : Cond.methodLink "ContentStoreLaw" 57 ⟨"ContentStore", "poison", "(III)Z"⟩ ∈ Gw := (gw 388 (by decide +kernel) rfl)
theorem kl_ContentStore_110 : Cond.methodLink "ContentStore" 110 ⟨"ContentStore$Part", "alter", "(II)Z"⟩ ∈ Gw := (gw 392 (by decide +kernel) rfl)
theorem kl_ContentStoreLaw_62 : Cond.methodLink "ContentStoreLaw" 62 ⟨"ContentStore", "sound", "(I)Z"⟩ ∈ Gw := (gw 396 (by decide +kernel) rfl)
theorem kl_ContentStoreLaw_66 : Cond.methodLink "ContentStoreLaw" 66 ⟨"ContentStore", "mirror", "(I)Z"⟩ ∈ Gw := (gw 400 (by decide +kernel) rfl)
theorem kl_ContentStore_114 : Cond.methodLink "ContentStore" 114 ⟨"ContentStore$Blob", "copyBytes", "()V"⟩ ∈ Gw := (gw 404 (by decide +kernel) rfl)
theorem kl_Blob_54 : Cond.methodLink "ContentStore$Blob" 54 ⟨"ContentStore$Blob", "partOf", "(I)LContentStore$Part;"⟩ ∈ Gw := (gw 408 (by decide +kernel) rfl)
theorem kl_Blob_58 : Cond.methodLink "ContentStore$Blob" 58 ⟨"ContentStore$Part", "byteAt", "(I)I"⟩ ∈ Gw := (gw 409 (by decide +kernel) rfl)
theorem kl_ContentStoreLaw_70 : Cond.methodLink "ContentStoreLaw" 70 ⟨"ContentStore", "repair", "(I)I"⟩ ∈ Gw := (gw 410 (by decide +kernel) rfl)
theorem kl_ContentStore_117 : Cond.methodLink "ContentStore" 117 ⟨"ContentStore$Blob", "hasRightCopy", "()Z"⟩ ∈ Gw := (gw 414 (by decide +kernel) rfl)
theorem kl_ContentStore_135 : Cond.methodLink "ContentStore" 135 ⟨"ContentStore$Shelf", "leave", "([LContentStore$Part;)V"⟩ ∈ Gw := (gw 418 (by decide +kernel) rfl)
theorem kl_Shelf_53 : Cond.methodLink "ContentStore$Shelf" 53 ⟨"ContentStore$Shelf", "drop", "(LContentStore$Part;)V"⟩ ∈ Gw := (gw 422 (by decide +kernel) rfl)
theorem kl_Shelf_72 : Cond.methodLink "ContentStore$Shelf" 72 ⟨"java/util/ArrayList", "remove", "(I)Ljava/lang/Object;"⟩ ∈ Gw := (gw 426 (by decide +kernel) rfl)
theorem kl_ArrayList_144 : Cond.methodLink "java/util/ArrayList" 144 ⟨"java/util/ArrayList", "fastRemove", "([Ljava/lang/Object;I)V"⟩ ∈ Gw := (gw 430 (by decide +kernel) rfl)
theorem kl_ArrayList_112 : Cond.methodLink "java/util/ArrayList" 112 ⟨"java/lang/System", "arraycopy", "(Ljava/lang/Object;ILjava/lang/Object;II)V"⟩ ∈ Gw := (gw 434 (by decide +kernel) rfl)
theorem kl_ContentStoreLaw_74 : Cond.methodLink "ContentStoreLaw" 74 ⟨"ContentStore", "refer", "(II)Z"⟩ ∈ Gw := (gw 435 (by decide +kernel) rfl)
theorem kl_ContentStoreLaw_79 : Cond.methodLink "ContentStoreLaw" 79 ⟨"ContentStore", "referred", "(I)I"⟩ ∈ Gw := (gw 439 (by decide +kernel) rfl)
theorem kl_ContentStoreLaw_83 : Cond.methodLink "ContentStoreLaw" 83 ⟨"ContentStore", "sweep", "()I"⟩ ∈ Gw := (gw 443 (by decide +kernel) rfl)
theorem kl_ContentStore_145 : Cond.methodLink "ContentStore" 145 ⟨"ContentStore", "isReferredTo", "(I)Z"⟩ ∈ Gw := (gw 447 (by decide +kernel) rfl)
theorem kl_ContentStore_149 : Cond.methodLink "ContentStore" 149 ⟨"ContentStore", "letGo", "(LContentStore$Blob;)V"⟩ ∈ Gw := (gw 451 (by decide +kernel) rfl)
theorem kl_ContentStoreLaw_88 : Cond.methodLink "ContentStoreLaw" 88 ⟨"ContentStore", "pack", "()I"⟩ ∈ Gw := (gw 455 (by decide +kernel) rfl)
theorem kl_ContentStoreLaw_92 : Cond.methodLink "ContentStoreLaw" 92 ⟨"ContentStore", "cut", "(II)I"⟩ ∈ Gw := (gw 459 (by decide +kernel) rfl)
theorem kl_ContentStore_156 : Cond.methodLink "ContentStore" 156 ⟨"ContentStore", "forget", "(I)V"⟩ ∈ Gw := (gw 463 (by decide +kernel) rfl)
theorem kl_ContentStoreLaw_96 : Cond.methodLink "ContentStoreLaw" 96 ⟨"ContentStore", "packOf", "(I)I"⟩ ∈ Gw := (gw 467 (by decide +kernel) rfl)
theorem kl_ContentStoreLaw_100 : Cond.methodLink "ContentStoreLaw" 100 ⟨"ContentStore", "count", "(I)I"⟩ ∈ Gw := (gw 471 (by decide +kernel) rfl)
theorem kl_ContentStore_162 : Cond.methodLink "ContentStore" 162 ⟨"java/util/ArrayList", "size", "()I"⟩ ∈ Gw := (gw 475 (by decide +kernel) rfl)
theorem kl_ContentStore_170 : Cond.methodLink "ContentStore" 170 ⟨"ContentStore", "blobsThere", "()I"⟩ ∈ Gw := (gw 476 (by decide +kernel) rfl)
theorem kl_ContentStore_173 : Cond.methodLink "ContentStore" 173 ⟨"ContentStore", "sharersOfFirst", "(I)I"⟩ ∈ Gw := (gw 480 (by decide +kernel) rfl)
theorem kl_ContentStore_185 : Cond.methodLink "ContentStore" 185 ⟨"ContentStore$Blob", "hasPart", "(LContentStore$Part;)Z"⟩ ∈ Gw := (gw 484 (by decide +kernel) rfl)
theorem kl_ContentStoreLaw_9 : Cond.methodLink "ContentStoreLaw" 9 ⟨"ContentStoreLaw", "cell", "([II)I"⟩ ∈ Gw := (gw 488 (by decide +kernel) rfl)
theorem kl_ContentStoreLaw_20 : Cond.methodLink "ContentStoreLaw" 20 ⟨"ContentStoreModel", "<init>", "(I)V"⟩ ∈ Gw := (gw 493 (by decide +kernel) rfl)
theorem kl_ContentStoreModel_1 : Cond.methodLink "ContentStoreModel" 1 ⟨"java/lang/Object", "<init>", "()V"⟩ ∈ Gw := (gw 496 (by decide +kernel) rfl)
theorem kl_ContentStoreLaw_27 : Cond.methodLink "ContentStoreLaw" 27 ⟨"ContentStoreModel", "begin", "(IJ)I"⟩ ∈ Gw := (gw 572 (by decide +kernel) rfl)
theorem kl_ContentStoreModel_76 : Cond.methodLink "ContentStoreModel" 76 ⟨"ContentStoreModel", "in", "(III)Z"⟩ ∈ Gw := (gw 576 (by decide +kernel) rfl)
theorem kl_ContentStoreLaw_32 : Cond.methodLink "ContentStoreLaw" 32 ⟨"ContentStoreModel", "add", "(IJI)I"⟩ ∈ Gw := (gw 579 (by decide +kernel) rfl)
theorem kl_ContentStoreModel_84 : Cond.methodLink "ContentStoreModel" 84 ⟨"ContentStoreModel", "isOpen", "(I)Z"⟩ ∈ Gw := (gw 583 (by decide +kernel) rfl)
theorem kl_ContentStoreLaw_37 : Cond.methodLink "ContentStoreLaw" 37 ⟨"ContentStoreModel", "end", "(I)I"⟩ ∈ Gw := (gw 587 (by decide +kernel) rfl)
theorem kl_ContentStoreModel_88 : Cond.methodLink "ContentStoreModel" 88 ⟨"ContentStoreModel", "isSound", "(I)Z"⟩ ∈ Gw := (gw 591 (by decide +kernel) rfl)
theorem kl_ContentStoreModel_146 : Cond.methodLink "ContentStoreModel" 146 ⟨"ContentStoreModel", "byteOf", "(II)I"⟩ ∈ Gw := (gw 595 (by decide +kernel) rfl)
theorem kl_ContentStoreModel_114 : Cond.methodLink "ContentStoreModel" 114 ⟨"ContentStoreModel", "turned", "(II)I"⟩ ∈ Gw := (gw 599 (by decide +kernel) rfl)
theorem kl_ContentStoreModel_91 : Cond.methodLink "ContentStoreModel" 91 ⟨"ContentStoreModel", "isWork", "(I)Z"⟩ ∈ Gw := (gw 603 (by decide +kernel) rfl)
theorem kl_ContentStoreModel_94 : Cond.methodLink "ContentStoreModel" 94 ⟨"ContentStoreModel", "used", "()I"⟩ ∈ Gw := (gw 607 (by decide +kernel) rfl)
theorem kl_ContentStoreModel_98 : Cond.methodLink "ContentStoreModel" 98 ⟨"ContentStoreModel", "missing", "(II)I"⟩ ∈ Gw := (gw 611 (by decide +kernel) rfl)
theorem kl_ContentStoreModel_125 : Cond.methodLink "ContentStoreModel" 125 ⟨"ContentStoreModel", "parts", "(I)I"⟩ ∈ Gw := (gw 615 (by decide +kernel) rfl)
theorem kl_ContentStoreModel_128 : Cond.methodLink "ContentStoreModel" 128 ⟨"ContentStoreModel", "stays", "(III)Z"⟩ ∈ Gw := (gw 618 (by decide +kernel) rfl)
theorem kl_ContentStoreModel_122 : Cond.methodLink "ContentStoreModel" 122 ⟨"ContentStoreModel", "isPart", "(III)Z"⟩ ∈ Gw := (gw 622 (by decide +kernel) rfl)
theorem kl_ContentStoreModel_119 : Cond.methodLink "ContentStoreModel" 119 ⟨"ContentStoreModel", "wide", "(II)I"⟩ ∈ Gw := (gw 626 (by decide +kernel) rfl)
theorem kl_ContentStoreModel_131 : Cond.methodLink "ContentStoreModel" 131 ⟨"ContentStoreModel", "find", "(II)I"⟩ ∈ Gw := (gw 629 (by decide +kernel) rfl)
theorem kl_ContentStoreModel_134 : Cond.methodLink "ContentStoreModel" 134 ⟨"ContentStoreModel", "areAlike", "(III)Z"⟩ ∈ Gw := (gw 633 (by decide +kernel) rfl)
theorem kl_ContentStoreModel_102 : Cond.methodLink "ContentStoreModel" 102 ⟨"ContentStoreModel", "sumOfWork", "(I)I"⟩ ∈ Gw := (gw 637 (by decide +kernel) rfl)
theorem kl_ContentStoreModel_106 : Cond.methodLink "ContentStoreModel" 106 ⟨"ContentStoreModel", "digestOfWork", "(I)J"⟩ ∈ Gw := (gw 641 (by decide +kernel) rfl)
theorem kl_ContentStoreModel_110 : Cond.methodLink "ContentStoreModel" 110 ⟨"ContentStoreModel", "take", "(IZ)V"⟩ ∈ Gw := (gw 646 (by decide +kernel) rfl)
theorem kl_ContentStoreModel_140 : Cond.methodLink "ContentStoreModel" 140 ⟨"ContentStoreModel", "made", "(II)I"⟩ ∈ Gw := (gw 650 (by decide +kernel) rfl)
theorem kl_ContentStoreLaw_42 : Cond.methodLink "ContentStoreLaw" 42 ⟨"ContentStoreModel", "there", "(I)Z"⟩ ∈ Gw := (gw 654 (by decide +kernel) rfl)
theorem kl_ContentStoreModel_149 : Cond.methodLink "ContentStoreModel" 149 ⟨"ContentStoreModel", "isBlob", "(I)Z"⟩ ∈ Gw := (gw 658 (by decide +kernel) rfl)
theorem kl_ContentStoreLaw_47 : Cond.methodLink "ContentStoreLaw" 47 ⟨"ContentStoreModel", "digest", "(I)J"⟩ ∈ Gw := (gw 662 (by decide +kernel) rfl)
theorem kl_ContentStoreLaw_51 : Cond.methodLink "ContentStoreLaw" 51 ⟨"ContentStoreModel", "size", "(I)I"⟩ ∈ Gw := (gw 666 (by decide +kernel) rfl)
theorem kl_ContentStoreLaw_56 : Cond.methodLink "ContentStoreLaw" 56 ⟨"ContentStoreModel", "get", "(II)I"⟩ ∈ Gw := (gw 670 (by decide +kernel) rfl)
theorem kl_ContentStoreLaw_61 : Cond.methodLink "ContentStoreLaw" 61 ⟨"ContentStoreModel", "poison", "(III)Z"⟩ ∈ Gw := (gw 674 (by decide +kernel) rfl)
theorem kl_ContentStoreLaw_65 : Cond.methodLink "ContentStoreLaw" 65 ⟨"ContentStoreModel", "sound", "(I)Z"⟩ ∈ Gw := (gw 678 (by decide +kernel) rfl)
theorem kl_ContentStoreLaw_69 : Cond.methodLink "ContentStoreLaw" 69 ⟨"ContentStoreModel", "mirror", "(I)Z"⟩ ∈ Gw := (gw 682 (by decide +kernel) rfl)
theorem kl_ContentStoreLaw_73 : Cond.methodLink "ContentStoreLaw" 73 ⟨"ContentStoreModel", "repair", "(I)I"⟩ ∈ Gw := (gw 686 (by decide +kernel) rfl)
theorem kl_ContentStoreModel_152 : Cond.methodLink "ContentStoreModel" 152 ⟨"ContentStoreModel", "tidy", "()V"⟩ ∈ Gw := (gw 690 (by decide +kernel) rfl)
theorem kl_ContentStoreModel_143 : Cond.methodLink "ContentStoreModel" 143 ⟨"ContentStoreModel", "having", "(I)I"⟩ ∈ Gw := (gw 694 (by decide +kernel) rfl)
theorem kl_ContentStoreLaw_78 : Cond.methodLink "ContentStoreLaw" 78 ⟨"ContentStoreModel", "refer", "(II)Z"⟩ ∈ Gw := (gw 698 (by decide +kernel) rfl)
theorem kl_ContentStoreLaw_82 : Cond.methodLink "ContentStoreLaw" 82 ⟨"ContentStoreModel", "referred", "(I)I"⟩ ∈ Gw := (gw 702 (by decide +kernel) rfl)
theorem kl_ContentStoreLaw_87 : Cond.methodLink "ContentStoreLaw" 87 ⟨"ContentStoreModel", "sweep", "()I"⟩ ∈ Gw := (gw 706 (by decide +kernel) rfl)
theorem kl_ContentStoreModel_155 : Cond.methodLink "ContentStoreModel" 155 ⟨"ContentStoreModel", "goes", "(I)V"⟩ ∈ Gw := (gw 710 (by decide +kernel) rfl)
theorem kl_ContentStoreLaw_91 : Cond.methodLink "ContentStoreLaw" 91 ⟨"ContentStoreModel", "pack", "()I"⟩ ∈ Gw := (gw 714 (by decide +kernel) rfl)
theorem kl_ContentStoreLaw_95 : Cond.methodLink "ContentStoreLaw" 95 ⟨"ContentStoreModel", "cut", "(II)I"⟩ ∈ Gw := (gw 718 (by decide +kernel) rfl)
theorem kl_ContentStoreLaw_99 : Cond.methodLink "ContentStoreLaw" 99 ⟨"ContentStoreModel", "packOf", "(I)I"⟩ ∈ Gw := (gw 722 (by decide +kernel) rfl)
theorem kl_ContentStoreLaw_103 : Cond.methodLink "ContentStoreLaw" 103 ⟨"ContentStoreModel", "count", "(I)I"⟩ ∈ Gw := (gw 726 (by decide +kernel) rfl)
theorem kl_Blob_47 : Cond.methodLinkNest "ContentStore$Blob" 47 ⟨"ContentStore", "areAlike", "([II[II)Z"⟩ "ContentStore" ∈ Nw := (nw 201 (by decide +kernel) rfl)
theorem kl_Blob_15 : Cond.methodLinkNest "ContentStore$Blob" 15 ⟨"ContentStore", "sumBehind", "(I[I)I"⟩ "ContentStore" ∈ Nw := (nw 211 (by decide +kernel) rfl)
theorem kl_Shelf_43 : Cond.methodLinkNest "ContentStore$Shelf" 43 ⟨"ContentStore", "areAlike", "([II[II)Z"⟩ "ContentStore" ∈ Nw := (nw 246 (by decide +kernel) rfl)
theorem kl_Shelf_30 : Cond.methodLinkNest "ContentStore$Shelf" 30 ⟨"ContentStore", "partLength", "([II)I"⟩ "ContentStore" ∈ Nw := (nw 251 (by decide +kernel) rfl)
theorem kl_Part_9 : Cond.methodLinkNest "ContentStore$Part" 9 ⟨"ContentStore", "partLength", "([II)I"⟩ "ContentStore" ∈ Nw := (nw 268 (by decide +kernel) rfl)
theorem kl_Blob_22 : Cond.methodLinkNest "ContentStore$Blob" 22 ⟨"ContentStore", "digestOf", "([I)J"⟩ "ContentStore" ∈ Nw := (nw 332 (by decide +kernel) rfl)
theorem kc_ContentStore_189 : Cond.constant "ContentStore" 189 (-2048144777) ∈ Gw := (gw 214 (by decide +kernel) rfl)
theorem kc_ArraysSupport_200 : Cond.constant "jdk/internal/util/ArraysSupport" 200 (2147483639) ∈ Gw := (gw 298 (by decide +kernel) rfl)
theorem kc_ContentStoreModel_83 : Cond.constant "ContentStoreModel" 83 (-2048144777) ∈ Gw := (gw 602 (by decide +kernel) rfl)
theorem kc_ContentStore_190 : Cond.constantLong "ContentStore" 190 (1099511628211) ∈ Gw := (gw 335 (by decide +kernel) rfl)
theorem kc_ContentStoreModel_117 : Cond.constantLong "ContentStoreModel" 117 (1099511628211) ∈ Gw := (gw 645 (by decide +kernel) rfl)
theorem kc_ContentStoreLaw_21 : Cond.constantLong "ContentStoreLaw" 21 (4294967295) ∈ Gw := (gw 730 (by decide +kernel) rfl)
theorem kw_int : Cond.arrayClass .int ∈ Gw := (gw 138 (by decide +kernel) rfl)
theorem kw_long : Cond.arrayClass .long ∈ Gw := (gw 570 (by decide +kernel) rfl)
theorem kw_boolean : Cond.arrayClass .boolean ∈ Gw := (gw 571 (by decide +kernel) rfl)
theorem ka_0 : Cond.arrayOver (.object "ContentStore$Put") ∈ Nw := (nw 110 (by decide +kernel) rfl)
theorem ka_1 : Cond.arrayOver (.object "ContentStore$Blob") ∈ Nw := (nw 112 (by decide +kernel) rfl)
theorem ka_2 : Cond.arrayOver (.object "ContentStore$Part") ∈ Nw := (nw 254 (by decide +kernel) rfl)
theorem ka_3 : Cond.arrayOver (.object "java/lang/Object") ∈ Nw := (nw 320 (by decide +kernel) rfl)
theorem kb_Part_Part : Cond.castable "ContentStore$Part" "ContentStore$Part" ∈ Nw := (nw 731 (by decide +kernel) rfl)
theorem kb_ContentStore_Object : Cond.castable "ContentStore" "java/lang/Object" ∈ Nw := (nw 735 (by decide +kernel) rfl)
theorem kb_Shelf_Object : Cond.castable "ContentStore$Shelf" "java/lang/Object" ∈ Nw := (nw 736 (by decide +kernel) rfl)
theorem kb_ContentStoreModel_Object : Cond.castable "ContentStoreModel" "java/lang/Object" ∈ Nw := (nw 737 (by decide +kernel) rfl)
theorem kb_Put_Object : Cond.castable "ContentStore$Put" "java/lang/Object" ∈ Nw := (nw 738 (by decide +kernel) rfl)
theorem kb_Blob_Object : Cond.castable "ContentStore$Blob" "java/lang/Object" ∈ Nw := (nw 739 (by decide +kernel) rfl)
theorem kb_Part_Object : Cond.castable "ContentStore$Part" "java/lang/Object" ∈ Nw := (nw 740 (by decide +kernel) rfl)
theorem ks_ArrayList_39 : Cond.fieldLink "java/util/ArrayList" 39 "java/util/ArrayList" "DEFAULTCAPACITY_EMPTY_ELEMENTDATA" "[Ljava/lang/Object;" ∈ Gw := (gw 83 (by decide +kernel) rfl)
theorem kg_sel : Cond.selects "[Ljava/lang/Object;" y_getClass y_getClass ∈ Gw := (gw 733 (by decide +kernel) rfl)
theorem kg_im : Cond.instanceMethod y_getClass ∈ Gw := (gw 306 (by decide +kernel) rfl)
theorem kg_nat : Cond.native y_getClass ∈ Gw := (gw 315 (by decide +kernel) rfl)
theorem kg_cnat : Cond.native arraycopyName ∈ Gw := (gw 325 (by decide +kernel) rfl)
theorem kg_cst : Cond.static arraycopyName ∈ Gw := (gw 324 (by decide +kernel) rfl)
theorem kg_cin : Cond.initialized "java/lang/System" ∈ Gw := (gw 50 (by decide +kernel) rfl)
theorem ko_ins : Cond.instanceMethod Lib.objectInit ∈ Gw := (gw 57 (by decide +kernel) rfl)
theorem ko_code : Cond.code Lib.objectInit ⟨#[0xb1]⟩ 1 none ∈ Gw := (gw 58 (by decide +kernel) rfl)
