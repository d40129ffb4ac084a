/-! THE PROGRAM (9): written by program: every method's small code is its bytes' own. -/
theorem mzj_440 : mz_Pm (12, ⟨"KeptHouseModel", "token", "()V"⟩, prog_14_method_49_code, 2, none, [], mk_440, []) := by
  refine ⟨Nat.le_of_ble_eq_true rfl, ?_, mz_hok0 rfl rfl⟩
  show mz_cok _ 0 (mk_440.drop 0)
  refine mz_piece (e := 76) (pc' := 149) (mz_ck (ini := false) rfl (fun h => by cases h) (mz_hbw mzw_440_0) mzk_440_0) (by decide +kernel) rfl ?_
  refine mz_piece (e := 154) (pc' := 299) (mz_ck (ini := false) rfl (fun h => by cases h) (mz_hbw mzw_440_1) mzk_440_1) (by decide +kernel) rfl ?_
  exact mz_piece (e := 160) (mz_ck (ini := false) rfl (fun h => by cases h) (mz_hbw mzw_440_2) mzk_440_2) rfl rfl (mz_none (by decide +kernel))
theorem mzj_441 : mz_Pm (12, ⟨"KeptHouseModel", "isLetter", "(I)Z"⟩, prog_14_method_46_code, 1, (some .boolean), [], mk_441, []) := ⟨Nat.le_of_ble_eq_true rfl, mz_ck (ini := false) rfl (fun h => by cases h) (fun _ _ h => h) mzk_441, mz_hok0 rfl rfl⟩
theorem mzj_442 : mz_Pm (12, ⟨"KeptHouseModel", "isDigit", "(I)Z"⟩, prog_14_method_47_code, 1, (some .boolean), [], mk_442, []) := ⟨Nat.le_of_ble_eq_true rfl, mz_ck (ini := false) rfl (fun h => by cases h) (fun _ _ h => h) mzk_442, mz_hok0 rfl rfl⟩
theorem mzj_443 : mz_Pm (12, ⟨"KeptHouseModel", "blame", "(I)V"⟩, prog_14_method_48_code, 2, none, [], mk_443, []) := ⟨Nat.le_of_ble_eq_true rfl, mz_ck (ini := false) rfl (fun h => by cases h) (fun _ _ h => h) mzk_443, mz_hok0 rfl rfl⟩
theorem mzj_444 : mz_Pm (12, ⟨"KeptHouseModel", "isSign", "(I)Z"⟩, prog_14_method_50_code, 1, (some .boolean), [], mk_444, []) := ⟨Nat.le_of_ble_eq_true rfl, mz_ck (ini := false) rfl (fun h => by cases h) (fun _ _ h => h) mzk_444, mz_hok0 rfl rfl⟩
theorem mzj_445 : mz_Pm (12, ⟨"KeptHouseModel", "statement", "()V"⟩, prog_14_method_65_code, 2, none, [], mk_445, []) := ⟨Nat.le_of_ble_eq_true rfl, mz_ck (ini := false) rfl (fun h => by cases h) (fun _ _ h => h) mzk_445, mz_hok0 rfl rfl⟩
theorem mzj_446 : mz_Pm (12, ⟨"KeptHouseModel", "nameOf", "()I"⟩, prog_14_method_51_code, 4, (some .int), [], mk_446, []) := by
  refine ⟨Nat.le_of_ble_eq_true rfl, ?_, mz_hok0 rfl rfl⟩
  show mz_cok _ 0 (mk_446.drop 0)
  refine mz_piece (e := 68) (pc' := 116) (mz_ck (ini := false) rfl (fun h => by cases h) (mz_hbw mzw_446_0) mzk_446_0) (by decide +kernel) rfl ?_
  exact mz_piece (e := 97) (mz_ck (ini := false) rfl (fun h => by cases h) (mz_hbw mzw_446_1) mzk_446_1) rfl rfl (mz_none (by decide +kernel))
theorem mzj_447 : mz_Pm (12, ⟨"KeptHouseModel", "expression", "()V"⟩, prog_14_method_63_code, 3, none, [], mk_447, []) := ⟨Nat.le_of_ble_eq_true rfl, mz_ck (ini := false) rfl (fun h => by cases h) (fun _ _ h => h) mzk_447, mz_hok0 rfl rfl⟩
theorem mzj_448 : mz_Pm (12, ⟨"KeptHouseModel", "factor", "()Z"⟩, prog_14_method_61_code, 2, (some .boolean), [], mk_448, []) := ⟨Nat.le_of_ble_eq_true rfl, mz_ck (ini := false) rfl (fun h => by cases h) (fun _ _ h => h) mzk_448, mz_hok0 rfl rfl⟩
theorem mzj_449 : mz_Pm (12, ⟨"KeptHouseModel", "put", "(II)V"⟩, prog_14_method_52_code, 3, none, [], mk_449, []) := ⟨Nat.le_of_ble_eq_true rfl, mz_ck (ini := false) rfl (fun h => by cases h) (fun _ _ h => h) mzk_449, mz_hok0 rfl rfl⟩
theorem mzj_450 : mz_Pm (12, ⟨"KeptHouseModel", "turnedBack", "()V"⟩, prog_14_method_60_code, 1, none, [], mk_450, []) := ⟨Nat.le_of_ble_eq_true rfl, mz_ck (ini := false) rfl (fun h => by cases h) (fun _ _ h => h) mzk_450, mz_hok0 rfl rfl⟩
theorem mzj_451 : mz_Pm (12, ⟨"KeptHouseModel", "top", "()I"⟩, prog_14_method_55_code, 1, (some .int), [], mk_451, []) := ⟨Nat.le_of_ble_eq_true rfl, mz_ck (ini := false) rfl (fun h => by cases h) (fun _ _ h => h) mzk_451, mz_hok0 rfl rfl⟩
theorem mzj_452 : mz_Pm (12, ⟨"KeptHouseModel", "drop", "()V"⟩, prog_14_method_56_code, 1, none, [], mk_452, []) := ⟨Nat.le_of_ble_eq_true rfl, mz_ck (ini := false) rfl (fun h => by cases h) (fun _ _ h => h) mzk_452, mz_hok0 rfl rfl⟩
theorem mzj_453 : mz_Pm (12, ⟨"KeptHouseModel", "isNest", "(I)Z"⟩, prog_14_method_54_code, 1, (some .boolean), [], mk_453, []) := ⟨Nat.le_of_ble_eq_true rfl, mz_ck (ini := false) rfl (fun h => by cases h) (fun _ _ h => h) mzk_453, mz_hok0 rfl rfl⟩
theorem mzj_454 : mz_Pm (12, ⟨"KeptHouseModel", "hold", "(I)V"⟩, prog_14_method_53_code, 2, none, [], mk_454, []) := ⟨Nat.le_of_ble_eq_true rfl, mz_ck (ini := false) rfl (fun h => by cases h) (fun _ _ h => h) mzk_454, mz_hok0 rfl rfl⟩
theorem mzj_455 : mz_Pm (12, ⟨"KeptHouseModel", "behind", "()Z"⟩, prog_14_method_62_code, 2, (some .boolean), [], mk_455, []) := ⟨Nat.le_of_ble_eq_true rfl, mz_ck (ini := false) rfl (fun h => by cases h) (fun _ _ h => h) mzk_455, mz_hok0 rfl rfl⟩
theorem mzj_456 : mz_Pm (12, ⟨"KeptHouseModel", "strength", "(I)I"⟩, prog_14_method_57_code, 1, (some .int), [], mk_456, []) := ⟨Nat.le_of_ble_eq_true rfl, mz_ck (ini := false) rfl (fun h => by cases h) (fun _ _ h => h) mzk_456, mz_hok0 rfl rfl⟩
theorem mzj_457 : mz_Pm (12, ⟨"KeptHouseModel", "settleTo", "(I)V"⟩, prog_14_method_58_code, 2, none, [], mk_457, []) := ⟨Nat.le_of_ble_eq_true rfl, mz_ck (ini := false) rfl (fun h => by cases h) (fun _ _ h => h) mzk_457, mz_hok0 rfl rfl⟩
theorem mzj_458 : mz_Pm (12, ⟨"KeptHouseModel", "settleAll", "()V"⟩, prog_14_method_59_code, 1, none, [], mk_458, []) := ⟨Nat.le_of_ble_eq_true rfl, mz_ck (ini := false) rfl (fun h => by cases h) (fun _ _ h => h) mzk_458, mz_hok0 rfl rfl⟩
theorem mzj_459 : mz_Pm (12, ⟨"KeptHouseModel", "thrown", "()I"⟩, prog_14_method_2_code, 1, (some .int), [], mk_459, []) := ⟨Nat.le_of_ble_eq_true rfl, mz_ck (ini := false) rfl (fun h => by cases h) (fun _ _ h => h) mzk_459, mz_hok0 rfl rfl⟩
theorem mzj_460 : mz_Pm (12, ⟨"KeptHouseModel", "take", "(I)I"⟩, prog_14_method_23_code, 2, (some .int), [], mk_460, []) := ⟨Nat.le_of_ble_eq_true rfl, mz_ck (ini := false) rfl (fun h => by cases h) (fun _ _ h => h) mzk_460, mz_hok0 rfl rfl⟩
theorem mzj_461 : mz_Pm (12, ⟨"KeptHouseModel", "isDesk", "(I)Z"⟩, prog_14_method_18_code, 1, (some .boolean), [], mk_461, []) := ⟨Nat.le_of_ble_eq_true rfl, mz_ck (ini := false) rfl (fun h => by cases h) (fun _ _ h => h) mzk_461, mz_hok0 rfl rfl⟩
theorem mzj_462 : mz_Pm (12, ⟨"KeptHouseModel", "fails", "(ZZ)Z"⟩, prog_14_method_4_code, 3, (some .boolean), [], mk_462, []) := ⟨Nat.le_of_ble_eq_true rfl, mz_ck (ini := false) rfl (fun h => by cases h) (fun _ _ h => h) mzk_462, mz_hok0 rfl rfl⟩
theorem mzj_463 : mz_Pm (12, ⟨"KeptHouseModel", "edit", "(IIIIII)I"⟩, prog_14_method_24_code, 11, (some .int), [], mk_463, []) := ⟨Nat.le_of_ble_eq_true rfl, mz_ck (ini := false) rfl (fun h => by cases h) (fun _ _ h => h) mzk_463, mz_hok0 rfl rfl⟩
theorem mzj_464 : mz_Pm (12, ⟨"KeptHouseModel", "isEdge", "(II)Z"⟩, prog_14_method_21_code, 2, (some .boolean), [], mk_464, []) := ⟨Nat.le_of_ble_eq_true rfl, mz_ck (ini := false) rfl (fun h => by cases h) (fun _ _ h => h) mzk_464, mz_hok0 rfl rfl⟩
theorem mzj_465 : mz_Pm (12, ⟨"KeptHouseModel", "isStorey", "(I)Z"⟩, prog_14_method_19_code, 1, (some .boolean), [], mk_465, []) := ⟨Nat.le_of_ble_eq_true rfl, mz_ck (ini := false) rfl (fun h => by cases h) (fun _ _ h => h) mzk_465, mz_hok0 rfl rfl⟩
theorem mzj_466 : mz_Pm (12, ⟨"KeptHouseModel", "in", "(JJJ)Z"⟩, prog_14_method_3_code, 6, (some .boolean), [], mk_466, []) := ⟨Nat.le_of_ble_eq_true rfl, mz_ck (ini := false) rfl (fun h => by cases h) (fun _ _ h => h) mzk_466, mz_hok0 rfl rfl⟩
theorem mzj_467 : mz_Pm (12, ⟨"KeptHouseModel", "merge", "(I)I"⟩, prog_14_method_29_code, 6, (some .int), [], mk_467, []) := ⟨Nat.le_of_ble_eq_true rfl, mz_ck (ini := false) rfl (fun h => by cases h) (fun _ _ h => h) mzk_467, mz_hok0 rfl rfl⟩
theorem mzj_468 : mz_Pm (12, ⟨"KeptHouseModel", "conflicts", "(I)I"⟩, prog_14_method_27_code, 4, (some .int), [], mk_468, []) := ⟨Nat.le_of_ble_eq_true rfl, mz_ck (ini := false) rfl (fun h => by cases h) (fun _ _ h => h) mzk_468, mz_hok0 rfl rfl⟩
theorem mzj_469 : mz_Pm (12, ⟨"KeptHouseModel", "isConflict", "(II)Z"⟩, prog_14_method_26_code, 3, (some .boolean), [], mk_469, []) := ⟨Nat.le_of_ble_eq_true rfl, mz_ck (ini := false) rfl (fun h => by cases h) (fun _ _ h => h) mzk_469, mz_hok0 rfl rfl⟩
theorem mzj_470 : mz_Pm (12, ⟨"KeptHouseModel", "isMine", "(II)Z"⟩, prog_14_method_25_code, 3, (some .boolean), [], mk_470, []) := ⟨Nat.le_of_ble_eq_true rfl, mz_ck (ini := false) rfl (fun h => by cases h) (fun _ _ h => h) mzk_470, mz_hok0 rfl rfl⟩
theorem mzj_471 : mz_Pm (12, ⟨"KeptHouseModel", "beginGroup", "()V"⟩, prog_14_method_162_code, 1, none, [], mk_471, []) := ⟨Nat.le_of_ble_eq_true rfl, mz_ck (ini := false) rfl (fun h => by cases h) (fun _ _ h => h) mzk_471, mz_hok0 rfl rfl⟩
theorem mzj_472 : mz_Pm (12, ⟨"KeptHouseModel", "addKey", "(II)V"⟩, prog_14_method_163_code, 3, none, [], mk_472, []) := ⟨Nat.le_of_ble_eq_true rfl, mz_ck (ini := false) rfl (fun h => by cases h) (fun _ _ h => h) mzk_472, mz_hok0 rfl rfl⟩
theorem mzj_473 : mz_Pm (12, ⟨"KeptHouseModel", "keyOf", "(II)I"⟩, prog_14_method_160_code, 3, (some .int), [], mk_473, []) := ⟨Nat.le_of_ble_eq_true rfl, mz_ck (ini := false) rfl (fun h => by cases h) (fun _ _ h => h) mzk_473, mz_hok0 rfl rfl⟩
theorem mzj_474 : mz_Pm (12, ⟨"KeptHouseModel", "writeGroup", "()Z"⟩, prog_14_method_174_code, 4, (some .boolean), [], mk_474, []) := ⟨Nat.le_of_ble_eq_true rfl, mz_ck (ini := false) rfl (fun h => by cases h) (fun _ _ h => h) mzk_474, mz_hok0 rfl rfl⟩
theorem mzj_475 : mz_Pm (12, ⟨"KeptHouseModel", "snapshot", "([Z[B)Z"⟩, prog_14_method_173_code, 10, (some .boolean), [], mk_475, []) := ⟨Nat.le_of_ble_eq_true rfl, mz_ck (ini := false) rfl (fun h => by cases h) (fun _ _ h => h) mzk_475, mz_hok0 rfl rfl⟩
theorem mzj_476 : mz_Pm (12, ⟨"KeptHouseModel", "make", "(I)V"⟩, prog_14_method_166_code, 5, none, [], mk_476, []) := by
  refine ⟨Nat.le_of_ble_eq_true rfl, ?_, mz_hok0 rfl rfl⟩
  show mz_cok _ 0 (mk_476.drop 0)
  refine mz_piece (e := 68) (pc' := 149) (mz_ck (ini := false) rfl (fun h => by cases h) (mz_hbw mzw_476_0) mzk_476_0) (by decide +kernel) rfl ?_
  refine mz_piece (e := 153) (pc' := 299) (mz_ck (ini := false) rfl (fun h => by cases h) (mz_hbw mzw_476_1) mzk_476_1) (by decide +kernel) rfl ?_
  exact mz_piece (e := 232) (mz_ck (ini := false) rfl (fun h => by cases h) (mz_hbw mzw_476_2) mzk_476_2) rfl rfl (mz_none (by decide +kernel))
theorem mzj_477 : mz_Pm (12, ⟨"KeptHouseModel", "makeMore", "(II)V"⟩, prog_14_method_167_code, 4, none, [], mk_477, []) := by
  refine ⟨Nat.le_of_ble_eq_true rfl, ?_, mz_hok0 rfl rfl⟩
  show mz_cok _ 0 (mk_477.drop 0)
  refine mz_piece (e := 64) (pc' := 150) (mz_ck (ini := false) rfl (fun h => by cases h) (mz_hbw mzw_477_0) mzk_477_0) (by decide +kernel) rfl ?_
  refine mz_piece (e := 155) (pc' := 300) (mz_ck (ini := false) rfl (fun h => by cases h) (mz_hbw mzw_477_1) mzk_477_1) (by decide +kernel) rfl ?_
  refine mz_piece (e := 253) (pc' := 449) (mz_ck (ini := false) rfl (fun h => by cases h) (mz_hbw mzw_477_2) mzk_477_2) (by decide +kernel) rfl ?_
  exact mz_piece (e := 304) (mz_ck (ini := false) rfl (fun h => by cases h) (mz_hbw mzw_477_3) mzk_477_3) rfl rfl (mz_none (by decide +kernel))
theorem mzj_478 : mz_Pm (12, ⟨"KeptHouseModel", "conflict", "(II)I"⟩, prog_14_method_30_code, 4, (some .int), [], mk_478, []) := ⟨Nat.le_of_ble_eq_true rfl, mz_ck (ini := false) rfl (fun h => by cases h) (fun _ _ h => h) mzk_478, mz_hok0 rfl rfl⟩
theorem mzj_479 : mz_Pm (12, ⟨"KeptHouseModel", "conflictAt", "(II)I"⟩, prog_14_method_28_code, 5, (some .int), [], mk_479, []) := ⟨Nat.le_of_ble_eq_true rfl, mz_ck (ini := false) rfl (fun h => by cases h) (fun _ _ h => h) mzk_479, mz_hok0 rfl rfl⟩
theorem mzj_480 : mz_Pm (12, ⟨"KeptHouseModel", "settle", "(IIZ)I"⟩, prog_14_method_31_code, 5, (some .int), [], mk_480, []) := ⟨Nat.le_of_ble_eq_true rfl, mz_ck (ini := false) rfl (fun h => by cases h) (fun _ _ h => h) mzk_480, mz_hok0 rfl rfl⟩
theorem mzj_481 : mz_Pm (12, ⟨"KeptHouseModel", "edge", "(II)I"⟩, prog_14_method_32_code, 3, (some .int), [], mk_481, []) := ⟨Nat.le_of_ble_eq_true rfl, mz_ck (ini := false) rfl (fun h => by cases h) (fun _ _ h => h) mzk_481, mz_hok0 rfl rfl⟩
theorem mzj_482 : mz_Pm (12, ⟨"KeptHouseModel", "draft", "(III)I"⟩, prog_14_method_33_code, 4, (some .int), [], mk_482, []) := ⟨Nat.le_of_ble_eq_true rfl, mz_ck (ini := false) rfl (fun h => by cases h) (fun _ _ h => h) mzk_482, mz_hok0 rfl rfl⟩
theorem mzj_483 : mz_Pm (12, ⟨"KeptHouseModel", "version", "()I"⟩, prog_14_method_34_code, 1, (some .int), [], mk_483, []) := ⟨Nat.le_of_ble_eq_true rfl, mz_ck (ini := false) rfl (fun h => by cases h) (fun _ _ h => h) mzk_483, mz_hok0 rfl rfl⟩
theorem mzj_484 : mz_Pm (12, ⟨"KeptHouseModel", "closed", "()Z"⟩, prog_14_method_5_code, 1, (some .boolean), [], mk_484, []) := ⟨Nat.le_of_ble_eq_true rfl, mz_ck (ini := false) rfl (fun h => by cases h) (fun _ _ h => h) mzk_484, mz_hok0 rfl rfl⟩
theorem mzj_485 : mz_Pm (12, ⟨"KeptHouseModel", "spaces", "()I"⟩, prog_14_method_35_code, 1, (some .int), [], mk_485, []) := ⟨Nat.le_of_ble_eq_true rfl, mz_ck (ini := false) rfl (fun h => by cases h) (fun _ _ h => h) mzk_485, mz_hok0 rfl rfl⟩
theorem mzj_486 : mz_Pm (12, ⟨"KeptHouseModel", "space", "(II)I"⟩, prog_14_method_36_code, 3, (some .int), [], mk_486, []) := ⟨Nat.le_of_ble_eq_true rfl, mz_ck (ini := false) rfl (fun h => by cases h) (fun _ _ h => h) mzk_486, mz_hok0 rfl rfl⟩
theorem mzj_487 : mz_Pm (12, ⟨"KeptHouseModel", "warmthOf", "(I)J"⟩, prog_14_method_81_code, 2, (some .long), [], mk_487, []) := ⟨Nat.le_of_ble_eq_true rfl, mz_ck (ini := false) rfl (fun h => by cases h) (fun _ _ h => h) mzk_487, mz_hok0 rfl rfl⟩
theorem mzj_488 : mz_Pm (12, ⟨"KeptHouseModel", "sumOf", "([JI)J"⟩, prog_14_method_80_code, 6, (some .long), [], mk_488, []) := ⟨Nat.le_of_ble_eq_true rfl, mz_ck (ini := false) rfl (fun h => by cases h) (fun _ _ h => h) mzk_488, mz_hok0 rfl rfl⟩
theorem mzj_489 : mz_Pm (12, ⟨"KeptHouseModel", "by", "(JJ)J"⟩, prog_14_method_6_code, 6, (some .long), [], mk_489, []) := ⟨Nat.le_of_ble_eq_true rfl, mz_ck (ini := false) rfl (fun h => by cases h) (fun _ _ h => h) mzk_489, mz_hok0 rfl rfl⟩
theorem mzj_490 : mz_Pm (12, ⟨"KeptHouseModel", "spaceAt", "(II)I"⟩, prog_14_method_37_code, 3, (some .int), [], mk_490, []) := ⟨Nat.le_of_ble_eq_true rfl, mz_ck (ini := false) rfl (fun h => by cases h) (fun _ _ h => h) mzk_490, mz_hok0 rfl rfl⟩
theorem mzj_491 : mz_Pm (12, ⟨"KeptHouseModel", "isCell", "(II)Z"⟩, prog_14_method_20_code, 2, (some .boolean), [], mk_491, []) := ⟨Nat.le_of_ble_eq_true rfl, mz_ck (ini := false) rfl (fun h => by cases h) (fun _ _ h => h) mzk_491, mz_hok0 rfl rfl⟩
theorem mzj_492 : mz_Pm (12, ⟨"KeptHouseModel", "between", "(III)I"⟩, prog_14_method_38_code, 4, (some .int), [], mk_492, []) := ⟨Nat.le_of_ble_eq_true rfl, mz_ck (ini := false) rfl (fun h => by cases h) (fun _ _ h => h) mzk_492, mz_hok0 rfl rfl⟩
theorem mzj_493 : mz_Pm (12, ⟨"KeptHouseModel", "flat", "(III)I"⟩, prog_14_method_39_code, 5, (some .int), [], mk_493, []) := ⟨Nat.le_of_ble_eq_true rfl, mz_ck (ini := false) rfl (fun h => by cases h) (fun _ _ h => h) mzk_493, mz_hok0 rfl rfl⟩
theorem mzj_494 : mz_Pm (12, ⟨"KeptHouseModel", "writeOne", "(II)Z"⟩, prog_14_method_164_code, 3, (some .boolean), [], mk_494, []) := ⟨Nat.le_of_ble_eq_true rfl, mz_ck (ini := false) rfl (fun h => by cases h) (fun _ _ h => h) mzk_494, mz_hok0 rfl rfl⟩
theorem mzj_495 : mz_Pm (12, ⟨"KeptHouseModel", "people", "(III)I"⟩, prog_14_method_40_code, 5, (some .int), [], mk_495, []) := ⟨Nat.le_of_ble_eq_true rfl, mz_ck (ini := false) rfl (fun h => by cases h) (fun _ _ h => h) mzk_495, mz_hok0 rfl rfl⟩
theorem mzj_496 : mz_Pm (12, ⟨"KeptHouseModel", "weather", "(II)I"⟩, prog_14_method_41_code, 4, (some .int), [], mk_496, []) := ⟨Nat.le_of_ble_eq_true rfl, mz_ck (ini := false) rfl (fun h => by cases h) (fun _ _ h => h) mzk_496, mz_hok0 rfl rfl⟩
theorem mzj_497 : mz_Pm (12, ⟨"KeptHouseModel", "sun", "(III)I"⟩, prog_14_method_42_code, 5, (some .int), [], mk_497, []) := ⟨Nat.le_of_ble_eq_true rfl, mz_ck (ini := false) rfl (fun h => by cases h) (fun _ _ h => h) mzk_497, mz_hok0 rfl rfl⟩
theorem mzj_498 : mz_Pm (12, ⟨"KeptHouseModel", "rate", "(III)I"⟩, prog_14_method_43_code, 5, (some .int), [], mk_498, []) := ⟨Nat.le_of_ble_eq_true rfl, mz_ck (ini := false) rfl (fun h => by cases h) (fun _ _ h => h) mzk_498, mz_hok0 rfl rfl⟩
theorem mzj_499 : mz_Pm (12, ⟨"KeptHouseModel", "price", "(II)I"⟩, prog_14_method_44_code, 4, (some .int), [], mk_499, []) := ⟨Nat.le_of_ble_eq_true rfl, mz_ck (ini := false) rfl (fun h => by cases h) (fun _ _ h => h) mzk_499, mz_hok0 rfl rfl⟩
theorem mzj_500 : mz_Pm (12, ⟨"KeptHouseModel", "life", "(II)I"⟩, prog_14_method_45_code, 4, (some .int), [], mk_500, []) := ⟨Nat.le_of_ble_eq_true rfl, mz_ck (ini := false) rfl (fun h => by cases h) (fun _ _ h => h) mzk_500, mz_hok0 rfl rfl⟩
theorem mzj_501 : mz_Pm (12, ⟨"KeptHouseModel", "type", "(I)I"⟩, prog_14_method_68_code, 2, (some .int), [], mk_501, []) := ⟨Nat.le_of_ble_eq_true rfl, mz_ck (ini := false) rfl (fun h => by cases h) (fun _ _ h => h) mzk_501, mz_hok0 rfl rfl⟩
theorem mzj_502 : mz_Pm (12, ⟨"KeptHouseModel", "wipe", "()I"⟩, prog_14_method_69_code, 2, (some .int), [], mk_502, []) := ⟨Nat.le_of_ble_eq_true rfl, mz_ck (ini := false) rfl (fun h => by cases h) (fun _ _ h => h) mzk_502, mz_hok0 rfl rfl⟩
theorem mzj_503 : mz_Pm (12, ⟨"KeptHouseModel", "load", "()I"⟩, prog_14_method_70_code, 3, (some .int), [], mk_503, []) := ⟨Nat.le_of_ble_eq_true rfl, mz_ck (ini := false) rfl (fun h => by cases h) (fun _ _ h => h) mzk_503, mz_hok0 rfl rfl⟩
theorem mzj_504 : mz_Pm (12, ⟨"KeptHouseModel", "fault", "(I)I"⟩, prog_14_method_71_code, 2, (some .int), [], mk_504, []) := ⟨Nat.le_of_ble_eq_true rfl, mz_ck (ini := false) rfl (fun h => by cases h) (fun _ _ h => h) mzk_504, mz_hok0 rfl rfl⟩
theorem mzj_505 : mz_Pm (12, ⟨"KeptHouseModel", "target", "(I)I"⟩, prog_14_method_72_code, 2, (some .int), [], mk_505, []) := ⟨Nat.le_of_ble_eq_true rfl, mz_ck (ini := false) rfl (fun h => by cases h) (fun _ _ h => h) mzk_505, mz_hok0 rfl rfl⟩
theorem mzj_506 : mz_Pm (12, ⟨"KeptHouseModel", "run", "(I)I"⟩, prog_14_method_83_code, 3, (some .int), [], mk_506, []) := ⟨Nat.le_of_ble_eq_true rfl, mz_ck (ini := false) rfl (fun h => by cases h) (fun _ _ h => h) mzk_506, mz_hok0 rfl rfl⟩
theorem mzj_507 : mz_Pm (12, ⟨"KeptHouseModel", "minute", "()Z"⟩, prog_14_method_86_code, 3, (some .boolean), [], mk_507, []) := ⟨Nat.le_of_ble_eq_true rfl, mz_ck (ini := false) rfl (fun h => by cases h) (fun _ _ h => h) mzk_507, mz_hok0 rfl rfl⟩
theorem mzj_508 : mz_Pm (12, ⟨"KeptHouseModel", "hourNow", "()I"⟩, prog_14_method_84_code, 1, (some .int), [], mk_508, []) := ⟨Nat.le_of_ble_eq_true rfl, mz_ck (ini := false) rfl (fun h => by cases h) (fun _ _ h => h) mzk_508, mz_hok0 rfl rfl⟩
theorem mzj_509 : mz_Pm (12, ⟨"KeptHouseModel", "cares", "()Z"⟩, prog_14_method_136_code, 4, (some .boolean), [], mk_509, []) := ⟨Nat.le_of_ble_eq_true rfl, mz_ck (ini := false) rfl (fun h => by cases h) (fun _ _ h => h) mzk_509, mz_hok0 rfl rfl⟩
theorem mzj_510 : mz_Pm (12, ⟨"KeptHouseModel", "works", "(I)Z"⟩, prog_14_method_137_code, 4, (some .boolean), [], mk_510, []) := ⟨Nat.le_of_ble_eq_true rfl, mz_ck (ini := false) rfl (fun h => by cases h) (fun _ _ h => h) mzk_510, mz_hok0 rfl rfl⟩
theorem mzj_511 : mz_Pm (12, ⟨"KeptHouseModel", "doProgram", "(I)V"⟩, prog_14_method_77_code, 6, none, [], mk_511, []) := ⟨Nat.le_of_ble_eq_true rfl, mz_ck (ini := false) rfl (fun h => by cases h) (fun _ _ h => h) mzk_511, mz_hok0 rfl rfl⟩
theorem mzj_512 : mz_Pm (12, ⟨"KeptHouseModel", "nameAll", "(I)V"⟩, prog_14_method_78_code, 5, none, [], mk_512, []) := by
  refine ⟨Nat.le_of_ble_eq_true rfl, ?_, mz_hok0 rfl rfl⟩
  show mz_cok _ 0 (mk_512.drop 0)
  refine mz_piece (e := 86) (pc' := 150) (mz_ck (ini := false) rfl (fun h => by cases h) (mz_hbw mzw_512_0) mzk_512_0) (by decide +kernel) rfl ?_
  refine mz_piece (e := 171) (pc' := 299) (mz_ck (ini := false) rfl (fun h => by cases h) (mz_hbw mzw_512_1) mzk_512_1) (by decide +kernel) rfl ?_
  exact mz_piece (e := 225) (mz_ck (ini := false) rfl (fun h => by cases h) (mz_hbw mzw_512_2) mzk_512_2) rfl rfl (mz_none (by decide +kernel))
theorem mzj_513 : mz_Pm (12, ⟨"KeptHouseModel", "sumAll", "([J)V"⟩, prog_14_method_79_code, 3, none, [], mk_513, []) := ⟨Nat.le_of_ble_eq_true rfl, mz_ck (ini := false) rfl (fun h => by cases h) (fun _ _ h => h) mzk_513, mz_hok0 rfl rfl⟩
theorem mzj_514 : mz_Pm (12, ⟨"KeptHouseModel", "done", "(III)V"⟩, prog_14_method_74_code, 8, none, [], mk_514, []) := by
  refine ⟨Nat.le_of_ble_eq_true rfl, ?_, mz_hok0 rfl rfl⟩
  show mz_cok _ 0 (mk_514.drop 0)
  refine mz_piece (e := 48) (pc' := 150) (mz_ck (ini := false) rfl (fun h => by cases h) (mz_hbw mzw_514_0) mzk_514_0) (by decide +kernel) rfl ?_
  refine mz_piece (e := 136) (pc' := 299) (mz_ck (ini := false) rfl (fun h => by cases h) (mz_hbw mzw_514_1) mzk_514_1) (by decide +kernel) rfl ?_
  exact mz_piece (e := 140) (mz_ck (ini := false) rfl (fun h => by cases h) (mz_hbw mzw_514_2) mzk_514_2) rfl rfl (mz_none (by decide +kernel))
theorem mzj_515 : mz_Pm (12, ⟨"KeptHouseModel", "fit", "(J)J"⟩, prog_14_method_73_code, 2, (some .long), [], mk_515, []) := ⟨Nat.le_of_ble_eq_true rfl, mz_ck (ini := false) rfl (fun h => by cases h) (fun _ _ h => h) mzk_515, mz_hok0 rfl rfl⟩
theorem mzj_516 : mz_Pm (12, ⟨"KeptHouseModel", "change", "(I)I"⟩, prog_14_method_75_code, 1, (some .int), [], mk_516, []) := ⟨Nat.le_of_ble_eq_true rfl, mz_ck (ini := false) rfl (fun h => by cases h) (fun _ _ h => h) mzk_516, mz_hok0 rfl rfl⟩
theorem mzj_517 : mz_Pm (12, ⟨"KeptHouseModel", "tell", "(IJ)V"⟩, prog_14_method_76_code, 4, none, [], mk_517, []) := ⟨Nat.le_of_ble_eq_true rfl, mz_ck (ini := false) rfl (fun h => by cases h) (fun _ _ h => h) mzk_517, mz_hok0 rfl rfl⟩
theorem mzj_518 : mz_Pm (12, ⟨"KeptHouseModel", "power", "(I)V"⟩, prog_14_method_87_code, 7, none, [], mk_518, []) := by
  refine ⟨Nat.le_of_ble_eq_true rfl, ?_, mz_hok0 rfl rfl⟩
  show mz_cok _ 0 (mk_518.drop 0)
  refine mz_piece (e := 84) (pc' := 148) (mz_ck (ini := false) rfl (fun h => by cases h) (mz_hbw mzw_518_0) mzk_518_0) (by decide +kernel) rfl ?_
  refine mz_piece (e := 161) (pc' := 298) (mz_ck (ini := false) rfl (fun h => by cases h) (mz_hbw mzw_518_1) mzk_518_1) (by decide +kernel) rfl ?_
  refine mz_piece (e := 252) (pc' := 446) (mz_ck (ini := false) rfl (fun h => by cases h) (mz_hbw mzw_518_2) mzk_518_2) (by decide +kernel) rfl ?_
  exact mz_piece (e := 261) (mz_ck (ini := false) rfl (fun h => by cases h) (mz_hbw mzw_518_3) mzk_518_3) rfl rfl (mz_none (by decide +kernel))
theorem mzj_519 : mz_Pm (12, ⟨"KeptHouseModel", "peopleIn", "(II)I"⟩, prog_14_method_85_code, 3, (some .int), [], mk_519, []) := ⟨Nat.le_of_ble_eq_true rfl, mz_ck (ini := false) rfl (fun h => by cases h) (fun _ _ h => h) mzk_519, mz_hok0 rfl rfl⟩
theorem mzj_520 : mz_Pm (12, ⟨"KeptHouseModel", "shedAll", "(I)V"⟩, prog_14_method_89_code, 4, none, [], mk_520, []) := ⟨Nat.le_of_ble_eq_true rfl, mz_ck (ini := false) rfl (fun h => by cases h) (fun _ _ h => h) mzk_520, mz_hok0 rfl rfl⟩
theorem mzj_521 : mz_Pm (12, ⟨"KeptHouseModel", "loads", "()I"⟩, prog_14_method_88_code, 3, (some .int), [], mk_521, []) := ⟨Nat.le_of_ble_eq_true rfl, mz_ck (ini := false) rfl (fun h => by cases h) (fun _ _ h => h) mzk_521, mz_hok0 rfl rfl⟩
theorem mzj_522 : mz_Pm (12, ⟨"KeptHouseModel", "water", "(I)V"⟩, prog_14_method_91_code, 5, none, [], mk_522, []) := by
  refine ⟨Nat.le_of_ble_eq_true rfl, ?_, mz_hok0 rfl rfl⟩
  show mz_cok _ 0 (mk_522.drop 0)
  refine mz_piece (e := 82) (pc' := 150) (mz_ck (ini := false) rfl (fun h => by cases h) (mz_hbw mzw_522_0) mzk_522_0) (by decide +kernel) rfl ?_
  refine mz_piece (e := 158) (pc' := 298) (mz_ck (ini := false) rfl (fun h => by cases h) (mz_hbw mzw_522_1) mzk_522_1) (by decide +kernel) rfl ?_
  exact mz_piece (e := 174) (mz_ck (ini := false) rfl (fun h => by cases h) (mz_hbw mzw_522_2) mzk_522_2) rfl rfl (mz_none (by decide +kernel))
theorem mzj_523 : mz_Pm (12, ⟨"KeptHouseModel", "draw", "(I)I"⟩, prog_14_method_90_code, 4, (some .int), [], mk_523, []) := ⟨Nat.le_of_ble_eq_true rfl, mz_ck (ini := false) rfl (fun h => by cases h) (fun _ _ h => h) mzk_523, mz_hok0 rfl rfl⟩
theorem mzj_524 : mz_Pm (12, ⟨"KeptHouseModel", "warm", "(I)V"⟩, prog_14_method_95_code, 8, none, [], mk_524, []) := by
  refine ⟨Nat.le_of_ble_eq_true rfl, ?_, mz_hok0 rfl rfl⟩
  show mz_cok _ 0 (mk_524.drop 0)
  refine mz_piece (e := 96) (pc' := 150) (mz_ck (ini := false) rfl (fun h => by cases h) (mz_hbw mzw_524_0) mzk_524_0) (by decide +kernel) rfl ?_
  refine mz_piece (e := 188) (pc' := 300) (mz_ck (ini := false) rfl (fun h => by cases h) (mz_hbw mzw_524_1) mzk_524_1) (by decide +kernel) rfl ?_
  exact mz_piece (e := 267) (mz_ck (ini := false) rfl (fun h => by cases h) (mz_hbw mzw_524_2) mzk_524_2) rfl rfl (mz_none (by decide +kernel))
theorem mzj_525 : mz_Pm (12, ⟨"KeptHouseModel", "gather", "([J[J)V"⟩, prog_14_method_92_code, 4, none, [], mk_525, []) := ⟨Nat.le_of_ble_eq_true rfl, mz_ck (ini := false) rfl (fun h => by cases h) (fun _ _ h => h) mzk_525, mz_hok0 rfl rfl⟩
theorem mzj_526 : mz_Pm (12, ⟨"KeptHouseModel", "sideOf", "(I)I"⟩, prog_14_method_94_code, 1, (some .int), [], mk_526, []) := ⟨Nat.le_of_ble_eq_true rfl, mz_ck (ini := false) rfl (fun h => by cases h) (fun _ _ h => h) mzk_526, mz_hok0 rfl rfl⟩
theorem mzj_527 : mz_Pm (12, ⟨"KeptHouseModel", "boil", "()V"⟩, prog_14_method_97_code, 7, none, [], mk_527, []) := by
  refine ⟨Nat.le_of_ble_eq_true rfl, ?_, mz_hok0 rfl rfl⟩
  show mz_cok _ 0 (mk_527.drop 0)
  refine mz_piece (e := 86) (pc' := 150) (mz_ck (ini := false) rfl (fun h => by cases h) (mz_hbw mzw_527_0) mzk_527_0) (by decide +kernel) rfl ?_
  refine mz_piece (e := 174) (pc' := 299) (mz_ck (ini := false) rfl (fun h => by cases h) (mz_hbw mzw_527_1) mzk_527_1) (by decide +kernel) rfl ?_
  exact mz_piece (e := 201) (mz_ck (ini := false) rfl (fun h => by cases h) (mz_hbw mzw_527_2) mzk_527_2) rfl rfl (mz_none (by decide +kernel))
theorem mzj_528 : mz_Pm (12, ⟨"KeptHouseModel", "clip", "(JJJ)J"⟩, prog_14_method_96_code, 6, (some .long), [], mk_528, []) := ⟨Nat.le_of_ble_eq_true rfl, mz_ck (ini := false) rfl (fun h => by cases h) (fun _ _ h => h) mzk_528, mz_hok0 rfl rfl⟩
theorem mzj_529 : mz_Pm (12, ⟨"KeptHouseModel", "share", "(J[JI[J)Z"⟩, prog_14_method_98_code, 12, (some .boolean), [], mk_529, []) := ⟨Nat.le_of_ble_eq_true rfl, mz_ck (ini := false) rfl (fun h => by cases h) (fun _ _ h => h) mzk_529, mz_hok0 rfl rfl⟩
theorem mzj_530 : mz_Pm (12, ⟨"KeptHouseModel", "spread", "([J[J)V"⟩, prog_14_method_93_code, 7, none, [], mk_530, []) := ⟨Nat.le_of_ble_eq_true rfl, mz_ck (ini := false) rfl (fun h => by cases h) (fun _ _ h => h) mzk_530, mz_hok0 rfl rfl⟩
theorem mzj_531 : mz_Pm (12, ⟨"KeptHouseModel", "air", "(I)V"⟩, prog_14_method_99_code, 6, none, [], mk_531, []) := ⟨Nat.le_of_ble_eq_true rfl, mz_ck (ini := false) rfl (fun h => by cases h) (fun _ _ h => h) mzk_531, mz_hok0 rfl rfl⟩
theorem mzj_532 : mz_Pm (12, ⟨"KeptHouseModel", "airOf", "([JIII)V"⟩, prog_14_method_100_code, 7, none, [], mk_532, []) := ⟨Nat.le_of_ble_eq_true rfl, mz_ck (ini := false) rfl (fun h => by cases h) (fun _ _ h => h) mzk_532, mz_hok0 rfl rfl⟩
theorem mzj_533 : mz_Pm (12, ⟨"KeptHouseModel", "fire", "()V"⟩, prog_14_method_101_code, 7, none, [], mk_533, []) := by
  refine ⟨Nat.le_of_ble_eq_true rfl, ?_, mz_hok0 rfl rfl⟩
  show mz_cok _ 0 (mk_533.drop 0)
  refine mz_piece (e := 93) (pc' := 149) (mz_ck (ini := false) rfl (fun h => by cases h) (mz_hbw mzw_533_0) mzk_533_0) (by decide +kernel) rfl ?_
  refine mz_piece (e := 177) (pc' := 298) (mz_ck (ini := false) rfl (fun h => by cases h) (mz_hbw mzw_533_1) mzk_533_1) (by decide +kernel) rfl ?_
  refine mz_piece (e := 266) (pc' := 446) (mz_ck (ini := false) rfl (fun h => by cases h) (mz_hbw mzw_533_2) mzk_533_2) (by decide +kernel) rfl ?_
  exact mz_piece (e := 290) (mz_ck (ini := false) rfl (fun h => by cases h) (mz_hbw mzw_533_3) mzk_533_3) rfl rfl (mz_none (by decide +kernel))
theorem mzj_534 : mz_Pm (12, ⟨"KeptHouseModel", "sprinkle", "(I)V"⟩, prog_14_method_102_code, 3, none, [], mk_534, []) := ⟨Nat.le_of_ble_eq_true rfl, mz_ck (ini := false) rfl (fun h => by cases h) (fun _ _ h => h) mzk_534, mz_hok0 rfl rfl⟩
theorem mzj_535 : mz_Pm (12, ⟨"KeptHouseModel", "wears", "()Z"⟩, prog_14_method_103_code, 3, (some .boolean), [], mk_535, []) := ⟨Nat.le_of_ble_eq_true rfl, mz_ck (ini := false) rfl (fun h => by cases h) (fun _ _ h => h) mzk_535, mz_hok0 rfl rfl⟩
theorem mzj_536 : mz_Pm (12, ⟨"KeptHouseModel", "giveTicket", "(III)I"⟩, prog_14_method_123_code, 5, (some .int), [], mk_536, []) := ⟨Nat.le_of_ble_eq_true rfl, mz_ck (ini := false) rfl (fun h => by cases h) (fun _ _ h => h) mzk_536, mz_hok0 rfl rfl⟩
theorem mzj_537 : mz_Pm (12, ⟨"KeptHouseModel", "noteAlarms", "()V"⟩, prog_14_method_105_code, 4, none, [], mk_537, []) := ⟨Nat.le_of_ble_eq_true rfl, mz_ck (ini := false) rfl (fun h => by cases h) (fun _ _ h => h) mzk_537, mz_hok0 rfl rfl⟩
theorem mzj_538 : mz_Pm (12, ⟨"KeptHouseModel", "isOn", "(I)Z"⟩, prog_14_method_104_code, 5, (some .boolean), [], mk_538, []) := by
  refine ⟨Nat.le_of_ble_eq_true rfl, ?_, mz_hok0 rfl rfl⟩
  show mz_cok _ 0 (mk_538.drop 0)
  refine mz_piece (e := 62) (pc' := 150) (mz_ck (ini := false) rfl (fun h => by cases h) (mz_hbw mzw_538_0) mzk_538_0) (by decide +kernel) rfl ?_
  refine mz_piece (e := 148) (pc' := 300) (mz_ck (ini := false) rfl (fun h => by cases h) (mz_hbw mzw_538_1) mzk_538_1) (by decide +kernel) rfl ?_
  exact mz_piece (e := 189) (mz_ck (ini := false) rfl (fun h => by cases h) (mz_hbw mzw_538_2) mzk_538_2) rfl rfl (mz_none (by decide +kernel))
theorem mzj_539 : mz_Pm (12, ⟨"KeptHouseModel", "notePoints", "()V"⟩, prog_14_method_118_code, 2, none, [], mk_539, []) := ⟨Nat.le_of_ble_eq_true rfl, mz_ck (ini := false) rfl (fun h => by cases h) (fun _ _ h => h) mzk_539, mz_hok0 rfl rfl⟩
theorem mzj_540 : mz_Pm (12, ⟨"KeptHouseModel", "pointNow", "(I)J"⟩, prog_14_method_117_code, 3, (some .long), [], mk_540, []) := ⟨Nat.le_of_ble_eq_true rfl, mz_ck (ini := false) rfl (fun h => by cases h) (fun _ _ h => h) mzk_540, mz_hok0 rfl rfl⟩
theorem mzj_541 : mz_Pm (12, ⟨"KeptHouseModel", "bills", "()V"⟩, prog_14_method_151_code, 14, none, [], mk_541, []) := by
  refine ⟨Nat.le_of_ble_eq_true rfl, ?_, mz_hok0 rfl rfl⟩
  show mz_cok _ 0 (mk_541.drop 0)
  refine mz_piece (e := 89) (pc' := 150) (mz_ck (ini := false) rfl (fun h => by cases h) (mz_hbw mzw_541_0) mzk_541_0) (by decide +kernel) rfl ?_
  exact mz_piece (e := 158) (mz_ck (ini := false) rfl (fun h => by cases h) (mz_hbw mzw_541_1) mzk_541_1) rfl rfl (mz_none (by decide +kernel))
theorem mzj_542 : mz_Pm (12, ⟨"KeptHouseModel", "shareOut", "(J[J)V"⟩, prog_14_method_152_code, 4, none, [], mk_542, []) := ⟨Nat.le_of_ble_eq_true rfl, mz_ck (ini := false) rfl (fun h => by cases h) (fun _ _ h => h) mzk_542, mz_hok0 rfl rfl⟩
theorem mzj_543 : mz_Pm (12, ⟨"KeptHouseModel", "addToBills", "()V"⟩, prog_14_method_154_code, 2, none, [], mk_543, []) := ⟨Nat.le_of_ble_eq_true rfl, mz_ck (ini := false) rfl (fun h => by cases h) (fun _ _ h => h) mzk_543, mz_hok0 rfl rfl⟩
theorem mzj_544 : mz_Pm (12, ⟨"KeptHouseModel", "shareAreas", "(J)V"⟩, prog_14_method_153_code, 4, none, [], mk_544, []) := ⟨Nat.le_of_ble_eq_true rfl, mz_ck (ini := false) rfl (fun h => by cases h) (fun _ _ h => h) mzk_544, mz_hok0 rfl rfl⟩
theorem mzj_545 : mz_Pm (12, ⟨"KeptHouseModel", "alarms", "()I"⟩, prog_14_method_106_code, 1, (some .int), [], mk_545, []) := ⟨Nat.le_of_ble_eq_true rfl, mz_ck (ini := false) rfl (fun h => by cases h) (fun _ _ h => h) mzk_545, mz_hok0 rfl rfl⟩
theorem mzj_546 : mz_Pm (12, ⟨"KeptHouseModel", "alarm", "(II)I"⟩, prog_14_method_108_code, 4, (some .int), [], mk_546, []) := ⟨Nat.le_of_ble_eq_true rfl, mz_ck (ini := false) rfl (fun h => by cases h) (fun _ _ h => h) mzk_546, mz_hok0 rfl rfl⟩
theorem mzj_547 : mz_Pm (12, ⟨"KeptHouseModel", "isKept", "(III)Z"⟩, prog_14_method_107_code, 3, (some .boolean), [], mk_547, []) := ⟨Nat.le_of_ble_eq_true rfl, mz_ck (ini := false) rfl (fun h => by cases h) (fun _ _ h => h) mzk_547, mz_hok0 rfl rfl⟩
theorem mzj_548 : mz_Pm (12, ⟨"KeptHouseModel", "mains", "(Z)Z"⟩, prog_14_method_109_code, 3, (some .boolean), [], mk_548, []) := ⟨Nat.le_of_ble_eq_true rfl, mz_ck (ini := false) rfl (fun h => by cases h) (fun _ _ h => h) mzk_548, mz_hok0 rfl rfl⟩
theorem mzj_549 : mz_Pm (12, ⟨"KeptHouseModel", "fuel", "(I)I"⟩, prog_14_method_110_code, 2, (some .int), [], mk_549, []) := ⟨Nat.le_of_ble_eq_true rfl, mz_ck (ini := false) rfl (fun h => by cases h) (fun _ _ h => h) mzk_549, mz_hok0 rfl rfl⟩
