theorem zz_gm {w : Cond} (i : Nat) (h : lw_tbl[i]? = some w) (hg : goodWord w = true) : w ∈ lw_tbl.filter goodWord := List.mem_filter.mpr ⟨List.mem_of_getElem? h, hg⟩
def GW : List Cond := lw_tbl.filter goodWord
theorem GW_good : ∀ w ∈ GW, (w.onTables && w.keeps) = true ∨ ∃ ty, w = .arrayClass ty := fun w h => good_of_word (List.mem_filter.mp h).2
theorem GW_tbl : ∀ w ∈ GW, w ∈ lw_tbl := fun w h => (List.mem_filter.mp h).1
/-- entries with their places in the tables -/
def wck {α : Type} (f : α → Cond) (l : List (Nat × α)) : Bool := l.all (fun q => decide (lw_tbl[q.1]? = some (f q.2)) && goodWord (f q.2))
theorem wck_in {α : Type} {f : α → Cond} {l : List (Nat × α)} (h : wck f l = true) : ∀ q ∈ l, f q.2 ∈ GW := by
  intro q hq
  have h1 := List.all_eq_true.mp h q hq
  simp only [Bool.and_eq_true, decide_eq_true_eq] at h1
  exact zz_gm q.1 h1.1 h1.2
def OWN : List String := [RL, RX0, RX1, RX2, RX3, RX4, RX5, RX6, RX7, RJxe99ae, RJxf58ca, RJ9]
def ow (n : Nat) : String := OWN.getD n RL
def CL : List vw_C := [(RX1, TX1, 5), (RX2, TX2, 10), (RX3, TX3, 4), (RX4, TX4, 2), (RX5, TX5, 11), (RX6, TX6, 16), (RX7, TX7, 35)]
def CTY : List (Nat → FieldType) := [tyX1, tyX2, tyX3, tyX4, tyX5, tyX6, tyX7]
abbrev LE : Type := Nat × Nat × Nat × Nat
def clT (ci : Nat) : u_T := (CL.getD ci (RX1, TX1, 5)).2.1
def fcond (e : LE) : Cond := .fieldLink (ow e.1) e.2.1 (clT e.2.2.1 e.2.2.2).1 (clT e.2.2.1 e.2.2.2).2.1 (clT e.2.2.1 e.2.2.2).2.2.1
def FL_0 : List (Nat × LE) := [(97, (4, 23, 2, 0)), (98, (3, 44, 2, 0)), (99, (7, 97, 2, 0)), (100, (4, 26, 2, 1)), (101, (7, 183, 2, 1)), (102, (4, 9, 2, 2)), (103, (7, 80, 2, 2)), (104, (4, 15, 2, 3)), (133, (3, 41, 1, 0)), (134, (3, 9, 1, 1)), (135, (3, 15, 1, 2)), (136, (7, 137, 1, 2)), (137, (6, 82, 1, 2)), (138, (3, 18, 1, 3)), (139, (7, 158, 1, 3)), (140, (6, 90, 1, 3)), (141, (3, 22, 1, 4)), (142, (6, 65, 1, 4)), (143, (7, 385, 1, 4)), (144, (3, 25, 1, 5)), (145, (6, 75, 1, 5)), (146, (3, 28, 1, 6)), (147, (3, 31, 1, 7)), (148, (3, 35, 1, 8)), (149, (6, 54, 1, 8)), (150, (3, 38, 1, 9)), (151, (6, 68, 1, 9)), (176, (6, 50, 4, 0)), (177, (7, 133, 4, 0)), (178, (6, 9, 4, 1)), (179, (7, 359, 4, 1)), (180, (6, 15, 4, 2)), (181, (7, 148, 4, 2)), (182, (6, 19, 4, 3)), (183, (6, 22, 4, 4)), (184, (6, 25, 4, 5)), (185, (7, 145, 4, 5)), (186, (6, 28, 4, 6)), (187, (7, 130, 4, 6)), (188, (6, 31, 4, 7))]
theorem FL_0_ok : wck fcond FL_0 = true := by decide +kernel
def FL_1 : List (Nat × LE) := [(189, (7, 369, 4, 7)), (190, (6, 34, 4, 8)), (191, (7, 122, 4, 8)), (192, (6, 37, 4, 9)), (193, (7, 172, 4, 9)), (194, (6, 41, 4, 10)), (195, (7, 195, 4, 10)), (224, (2, 11, 0, 0)), (225, (2, 15, 0, 1)), (226, (7, 268, 0, 1)), (227, (2, 18, 0, 2)), (228, (2, 22, 0, 3)), (229, (2, 26, 0, 4)), (246, (5, 11, 3, 0)), (247, (7, 211, 3, 0)), (248, (5, 15, 3, 1)), (249, (7, 214, 3, 1)), (256, (7, 12, 5, 0)), (257, (7, 18, 5, 1)), (258, (7, 22, 5, 2)), (259, (7, 26, 5, 3)), (260, (7, 32, 5, 4)), (261, (7, 38, 5, 5)), (262, (7, 42, 5, 6)), (263, (7, 46, 5, 7)), (264, (7, 49, 5, 8)), (265, (7, 52, 5, 9)), (266, (7, 55, 5, 10)), (267, (7, 59, 5, 11)), (268, (7, 62, 5, 12)), (269, (7, 66, 5, 13)), (270, (7, 69, 5, 14)), (271, (7, 72, 5, 15)), (791, (8, 108, 6, 0)), (792, (8, 85, 6, 1)), (793, (8, 89, 6, 2)), (794, (8, 92, 6, 3)), (795, (8, 7, 6, 4)), (796, (8, 13, 6, 5)), (797, (8, 16, 6, 6))]
theorem FL_1_ok : wck fcond FL_1 = true := by decide +kernel
def FL_2 : List (Nat × LE) := [(798, (8, 20, 6, 7)), (799, (8, 24, 6, 8)), (800, (8, 27, 6, 9)), (801, (8, 30, 6, 10)), (802, (8, 33, 6, 11)), (803, (8, 36, 6, 12)), (804, (8, 39, 6, 13)), (805, (8, 43, 6, 14)), (806, (8, 46, 6, 15)), (807, (8, 49, 6, 16)), (808, (8, 151, 6, 17)), (809, (8, 52, 6, 18)), (810, (8, 139, 6, 19)), (811, (8, 142, 6, 20)), (812, (8, 55, 6, 21)), (813, (8, 231, 6, 22)), (814, (8, 234, 6, 23)), (815, (8, 58, 6, 24)), (816, (8, 243, 6, 25)), (817, (8, 61, 6, 26)), (818, (8, 275, 6, 27)), (819, (8, 64, 6, 28)), (820, (8, 67, 6, 29)), (821, (8, 70, 6, 30)), (822, (8, 73, 6, 31)), (823, (8, 76, 6, 32)), (824, (8, 79, 6, 33)), (825, (8, 82, 6, 34))]
theorem FL_2_ok : wck fcond FL_2 = true := by decide +kernel
def FL : List (Nat × LE) := FL_0 ++ (FL_1 ++ (FL_2))
theorem FL_in : ∀ q ∈ FL, fcond q.2 ∈ GW := fun q h => (List.mem_append.mp h).elim (wck_in FL_0_ok q) ((fun q h => (List.mem_append.mp h).elim (wck_in FL_1_ok q) ((wck_in FL_2_ok) q)) q)
def MY : List MethodName := [yX0_ofDouble, yX1_init, yX1_isLost, yX1_begin, yX1_hasNothing, yX1_isFor, yX1_place, yX1_told, yX2_init, yX2_addNode, yX2_isAhead, yX2_childOf, yX2_letterAt, yX2_lastLetter, yX2_hasLettersOf, yX3_begin, yX3_copyFrom, yX3_weightOf, yX3_behind, yX3_splitsBy, yX4_init, yX4_isLost, yX4_begin, yX5_fell, yX5_isLeaf, yX6_wipe, yX6_letter, yX6_code, yX6_rest, yX6_isState, yX6_isLetter, yX6_isWord, yX6_isSlot, yX6_isCrate, yX6_isSheet, yX6_isRange, yX6_found, yX6_refusal, yX6_fullSlots, yX6_emptyCode, yX6_addWord, yX6_commonTwos, yX6_phraseSize, yX7_in, yX7_no, yX7_lesser, yX7_finds, yX7_evens, yX7_power, yX7_moves, yX7_stateBehind, yX7_numbers, yX7_allLeaves, yX7_empties, yX7_longest, yX7_nodeBy, yX7_lowest, yX7_floating, yX7_wipe, yX7_child, yX7_leafOf, yX7_isAlike, yX7_fullNow, yX7_takes, yX7_heldBy, yX7_crates, yJxe99ae_isNaN_b9ae7, yJxf58ca_isNaN_12338, yJ9_max_7cf53, yJ9_min_7cf53, yX0_ofFloat, yX1_isForPlace, yX1_copyPlace, yX2_split, yX2_likeliest, yX3_init, yX3_reweigh, yX3_leafCount, yX3_nodeCount, yX5_init, yX5_countFrom, yX5_tellNumbers, yX5_addUp, yX6_width, yX6_type, yX6_read, yX6_put, yX6_likely, yX6_keep, yX6_drop, yX6_crate, yX6_lose, yX6_held, yX6_sheet, yX6_lay, yX6_get, yX6_write, yX6_digestCrate, yX6_fullCrates, yX6_regrow, yX6_lowest, yX6_toldBack, yX7_isTwo, yX7_splitsAt, yX7_scaled, yX7_isTree, yX7_treeBy, yX7_type, yX7_letter, yX7_tells, yX7_follows, yX7_code, yX7_put, yX7_rest, yX7_likelyBy, yX7_isFour, yX7_lacks, yX7_count, yX7_crateTells, yJxe99ae_doubleToLongBits_ccdee, yJxf58ca_floatToIntBits_5c35a, yX2_growTo, yX2_chanceBits, yX5_tellBy, yX6_init, yX6_weight, yX6_moveAll, yX6_isNode, yX6_allLeaves, yX6_lettersToldBack, yX7_likeliest, yX7_tree, yX7_isNode, yX7_bitsOf, yX7_expectedOf, yX7_goes, yX7_encode, yX7_faultNow, yX7_harmBy, yX7_likely, yX7_keep, yX7_drop, yX7_crate, yX7_lose, yX7_held, yX7_move, yX7_sheet, yX7_lay, yX7_get, yX7_read, yX7_write, yX6_letters, yX6_take, yX6_move, yX6_count, yX6_ready, yX6_wordsBy, yX7_builds, yX7_node, yX7_chance, yX7_bits, yX7_expectedBy, yX7_longNow, yX7_fault, yX7_decode, yX7_harm, yX7_hold, yX6_tree, yX6_node, yX6_chance, yX6_bits, yX6_expected, yX6_turnShares, yX6_encode, yX6_best, yX6_hold, yX6_findPhrases, yX6_harmed, yX7_init, yX7_letters, yX7_width, yX7_weight, yX7_expected, yX7_longRun, yX7_bestBy, yX7_take, yX7_treeTells, yX6_longRun, yX6_digestTree, yX6_firstFault, yX7_best, yX7_digest, yX6_decode, yX6_fault, yX6_harm, yX6_digest, yL_law]
def MC : List ByteArray := [cX0_ofDouble, cX1_init, cX1_isLost, cX1_begin, cX1_hasNothing, cX1_isFor, cX1_place, cX1_told, cX2_init, cX2_addNode, cX2_isAhead, cX2_childOf, cX2_letterAt, cX2_lastLetter, cX2_hasLettersOf, cX3_begin, cX3_copyFrom, cX3_weightOf, cX3_behind, cX3_splitsBy, cX4_init, cX4_isLost, cX4_begin, cX5_fell, cX5_isLeaf, cX6_wipe, cX6_letter, cX6_code, cX6_rest, cX6_isState, cX6_isLetter, cX6_isWord, cX6_isSlot, cX6_isCrate, cX6_isSheet, cX6_isRange, cX6_found, cX6_refusal, cX6_fullSlots, cX6_emptyCode, cX6_addWord, cX6_commonTwos, cX6_phraseSize, cX7_in, cX7_no, cX7_lesser, cX7_finds, cX7_evens, cX7_power, cX7_moves, cX7_stateBehind, cX7_numbers, cX7_allLeaves, cX7_empties, cX7_longest, cX7_nodeBy, cX7_lowest, cX7_floating, cX7_wipe, cX7_child, cX7_leafOf, cX7_isAlike, cX7_fullNow, cX7_takes, cX7_heldBy, cX7_crates, cJxe99ae_isNaN_b9ae7, cJxf58ca_isNaN_12338, cJ9_max_7cf53, cJ9_min_7cf53, cX0_ofFloat, cX1_isForPlace, cX1_copyPlace, cX2_split, cX2_likeliest, cX3_init, cX3_reweigh, cX3_leafCount, cX3_nodeCount, cX5_init, cX5_countFrom, cX5_tellNumbers, cX5_addUp, cX6_width, cX6_type, cX6_read, cX6_put, cX6_likely, cX6_keep, cX6_drop, cX6_crate, cX6_lose, cX6_held, cX6_sheet, cX6_lay, cX6_get, cX6_write, cX6_digestCrate, cX6_fullCrates, cX6_regrow, cX6_lowest, cX6_toldBack, cX7_isTwo, cX7_splitsAt, cX7_scaled, cX7_isTree, cX7_treeBy, cX7_type, cX7_letter, cX7_tells, cX7_follows, cX7_code, cX7_put, cX7_rest, cX7_likelyBy, cX7_isFour, cX7_lacks, cX7_count, cX7_crateTells, cJxe99ae_doubleToLongBits_ccdee, cJxf58ca_floatToIntBits_5c35a, cX2_growTo, cX2_chanceBits, cX5_tellBy, cX6_init, cX6_weight, cX6_moveAll, cX6_isNode, cX6_allLeaves, cX6_lettersToldBack, cX7_likeliest, cX7_tree, cX7_isNode, cX7_bitsOf, cX7_expectedOf, cX7_goes, cX7_encode, cX7_faultNow, cX7_harmBy, cX7_likely, cX7_keep, cX7_drop, cX7_crate, cX7_lose, cX7_held, cX7_move, cX7_sheet, cX7_lay, cX7_get, cX7_read, cX7_write, cX6_letters, cX6_take, cX6_move, cX6_count, cX6_ready, cX6_wordsBy, cX7_builds, cX7_node, cX7_chance, cX7_bits, cX7_expectedBy, cX7_longNow, cX7_fault, cX7_decode, cX7_harm, cX7_hold, cX6_tree, cX6_node, cX6_chance, cX6_bits, cX6_expected, cX6_turnShares, cX6_encode, cX6_best, cX6_hold, cX6_findPhrases, cX6_harmed, cX7_init, cX7_letters, cX7_width, cX7_weight, cX7_expected, cX7_longRun, cX7_bestBy, cX7_take, cX7_treeTells, cX6_longRun, cX6_digestTree, cX6_firstFault, cX7_best, cX7_digest, cX6_decode, cX6_fault, cX6_harm, cX6_digest, cL_law]
def MLL : List Nat := [7, 1, 1, 4, 2, 2, 5, 3, 2, 6, 3, 3, 3, 2, 4, 6, 2, 3, 2, 2, 1, 1, 3, 1, 2, 2, 2, 2, 3, 2, 2, 1, 1, 1, 1, 3, 2, 1, 3, 1, 2, 6, 2, 6, 1, 2, 2, 3, 4, 4, 3, 8, 3, 1, 4, 3, 12, 4, 2, 5, 4, 5, 3, 3, 4, 3, 2, 1, 2, 2, 1, 3, 4, 7, 3, 1, 5, 1, 1, 2, 6, 7, 4, 3, 2, 4, 3, 9, 2, 2, 4, 3, 5, 3, 4, 3, 4, 8, 3, 2, 6, 2, 1, 8, 2, 2, 3, 2, 2, 7, 5, 2, 3, 3, 13, 1, 3, 2, 8, 2, 1, 5, 2, 3, 2, 5, 9, 3, 1, 3, 5, 3, 3, 2, 5, 6, 2, 2, 6, 2, 3, 2, 5, 2, 4, 8, 4, 5, 3, 4, 4, 3, 2, 6, 2, 4, 8, 9, 4, 4, 3, 8, 6, 1, 6, 3, 7, 3, 6, 5, 4, 6, 5, 5, 6, 8, 5, 11, 2, 3, 3, 6, 3, 1, 6, 3, 8, 4, 9, 3, 2, 4, 6, 1, 3, 4, 4]
def MRT : List (Option FieldType) := [(Option.some FieldType.long), (Option.none : Option FieldType), (Option.some FieldType.boolean), (Option.none : Option FieldType), (Option.some FieldType.boolean), (Option.some FieldType.boolean), (Option.none : Option FieldType), (Option.some FieldType.int), (Option.none : Option FieldType), (Option.none : Option FieldType), (Option.some FieldType.boolean), (Option.some FieldType.int), (Option.some FieldType.int), (Option.some FieldType.int), (Option.some FieldType.boolean), (Option.none : Option FieldType), (Option.none : Option FieldType), (Option.some FieldType.int), (Option.some FieldType.int), (Option.some FieldType.int), (Option.none : Option FieldType), (Option.some FieldType.boolean), (Option.none : Option FieldType), (Option.none : Option FieldType), (Option.some FieldType.boolean), (Option.some FieldType.int), (Option.some FieldType.int), (Option.some FieldType.int), (Option.some FieldType.int), (Option.some FieldType.boolean), (Option.some FieldType.boolean), (Option.some FieldType.boolean), (Option.some FieldType.boolean), (Option.some FieldType.boolean), (Option.some FieldType.boolean), (Option.some FieldType.boolean), (Option.some FieldType.int), (Option.some FieldType.long), (Option.some FieldType.int), (Option.none : Option FieldType), (Option.none : Option FieldType), (Option.some FieldType.int), (Option.some FieldType.int), (Option.some FieldType.boolean), (Option.some FieldType.long), (Option.some FieldType.int), (Option.some FieldType.int), (Option.none : Option FieldType), (Option.some FieldType.long), (Option.none : Option FieldType), (Option.some FieldType.int), (Option.none : Option FieldType), (Option.some FieldType.int), (Option.none : Option FieldType), (Option.some FieldType.int), (Option.some FieldType.int), (Option.some FieldType.long), (Option.some FieldType.float), (Option.some FieldType.int), (Option.some FieldType.int), (Option.some FieldType.int), (Option.some FieldType.boolean), (Option.some FieldType.int), (Option.some FieldType.boolean), (Option.some FieldType.int), (Option.some FieldType.int), (Option.some FieldType.boolean), (Option.some FieldType.boolean), (Option.some FieldType.int), (Option.some FieldType.int), (Option.some FieldType.int), (Option.some FieldType.boolean), (Option.none : Option FieldType), (Option.none : Option FieldType), (Option.some FieldType.int), (Option.none : Option FieldType), (Option.none : Option FieldType), (Option.some FieldType.int), (Option.some FieldType.int), (Option.none : Option FieldType), (Option.none : Option FieldType), (Option.none : Option FieldType), (Option.none : Option FieldType), (Option.some FieldType.int), (Option.some FieldType.int), (Option.some FieldType.int), (Option.some FieldType.int), (Option.some FieldType.long), (Option.some FieldType.int), (Option.some FieldType.int), (Option.some FieldType.int), (Option.some FieldType.int), (Option.some FieldType.int), (Option.some FieldType.int), (Option.some FieldType.int), (Option.some FieldType.int), (Option.some FieldType.int), (Option.some FieldType.long), (Option.some FieldType.int), (Option.none : Option FieldType), (Option.some FieldType.long), (Option.some FieldType.int), (Option.some FieldType.boolean), (Option.none : Option FieldType), (Option.some FieldType.long), (Option.some FieldType.boolean), (Option.some FieldType.int), (Option.some FieldType.int), (Option.some FieldType.int), (Option.none : Option FieldType), (Option.none : Option FieldType), (Option.some FieldType.int), (Option.some FieldType.int), (Option.some FieldType.int), (Option.some FieldType.long), (Option.some FieldType.boolean), (Option.some FieldType.int), (Option.some FieldType.int), (Option.some FieldType.long), (Option.some FieldType.long), (Option.some FieldType.int), (Option.none : Option FieldType), (Option.some FieldType.int), (Option.none : Option FieldType), (Option.none : Option FieldType), (Option.some FieldType.int), (Option.some FieldType.boolean), (Option.some FieldType.boolean), (Option.some FieldType.int), (Option.some FieldType.int), (Option.some FieldType.int), (Option.some FieldType.int), (Option.some FieldType.boolean), (Option.some FieldType.int), (Option.some FieldType.long), (Option.some FieldType.double), (Option.some FieldType.int), (Option.some FieldType.int), (Option.some FieldType.int), (Option.some FieldType.long), (Option.some FieldType.int), (Option.some FieldType.int), (Option.some FieldType.int), (Option.some FieldType.int), (Option.some FieldType.int), (Option.some FieldType.int), (Option.some FieldType.int), (Option.some FieldType.int), (Option.some FieldType.int), (Option.some FieldType.int), (Option.some FieldType.int), (Option.some FieldType.int), (Option.some FieldType.int), (Option.some FieldType.int), (Option.some FieldType.int), (Option.some (FieldType.object "PhraseTrees$Tree")), (Option.some FieldType.int), (Option.none : Option FieldType), (Option.some FieldType.int), (Option.some FieldType.long), (Option.some FieldType.int), (Option.some FieldType.long), (Option.some FieldType.long), (Option.some FieldType.int), (Option.some FieldType.int), (Option.some FieldType.int), (Option.some FieldType.int), (Option.some FieldType.int), (Option.some FieldType.int), (Option.some FieldType.long), (Option.some FieldType.int), (Option.some FieldType.long), (Option.none : Option FieldType), (Option.some FieldType.int), (Option.some FieldType.int), (Option.some FieldType.int), (Option.some FieldType.int), (Option.some FieldType.int), (Option.none : Option FieldType), (Option.some FieldType.int), (Option.some FieldType.int), (Option.some FieldType.int), (Option.some FieldType.long), (Option.some FieldType.long), (Option.some FieldType.int), (Option.some FieldType.int), (Option.some FieldType.long), (Option.some FieldType.long), (Option.some FieldType.long), (Option.some FieldType.int), (Option.some FieldType.int), (Option.some FieldType.long), (Option.some FieldType.int), (Option.some FieldType.int), (Option.some FieldType.int), (Option.some FieldType.long), (Option.some FieldType.boolean)]
def MOW : List Nat := [1, 2, 2, 2, 2, 2, 2, 2, 3, 3, 3, 3, 3, 3, 3, 4, 4, 4, 4, 4, 5, 5, 5, 6, 6, 7, 7, 7, 7, 7, 7, 7, 7, 7, 7, 7, 7, 7, 7, 7, 7, 7, 7, 8, 8, 8, 8, 8, 8, 8, 8, 8, 8, 8, 8, 8, 8, 8, 8, 8, 8, 8, 8, 8, 8, 8, 9, 10, 11, 11, 1, 2, 2, 3, 3, 4, 4, 4, 4, 6, 6, 6, 6, 7, 7, 7, 7, 7, 7, 7, 7, 7, 7, 7, 7, 7, 7, 7, 7, 7, 7, 7, 8, 8, 8, 8, 8, 8, 8, 8, 8, 8, 8, 8, 8, 8, 8, 8, 8, 9, 10, 3, 3, 6, 7, 7, 7, 7, 7, 7, 8, 8, 8, 8, 8, 8, 8, 8, 8, 8, 8, 8, 8, 8, 8, 8, 8, 8, 8, 8, 8, 7, 7, 7, 7, 7, 7, 8, 8, 8, 8, 8, 8, 8, 8, 8, 8, 7, 7, 7, 7, 7, 7, 7, 7, 7, 7, 7, 8, 8, 8, 8, 8, 8, 8, 8, 8, 7, 7, 7, 8, 8, 7, 7, 7, 7, 0]
def MBD : List (Nat × Nat) := [(0, 0), (3, 60), (0, 0), (0, 0), (0, 0), (0, 0), (0, 0), (0, 0), (6, 635), (0, 0), (0, 0), (0, 0), (0, 0), (0, 0), (0, 0), (0, 0), (0, 0), (0, 0), (0, 0), (0, 0), (1, 80), (0, 0), (0, 0), (0, 0), (0, 0), (0, 0), (0, 0), (0, 0), (0, 0), (0, 0), (0, 0), (0, 0), (0, 0), (0, 0), (0, 0), (0, 0), (0, 0), (0, 0), (0, 0), (0, 0), (0, 0), (0, 0), (0, 0), (0, 0), (0, 0), (0, 0), (0, 0), (0, 0), (0, 0), (0, 0), (0, 0), (0, 0), (0, 0), (0, 0), (0, 0), (0, 0), (0, 0), (0, 0), (0, 0), (0, 0), (0, 0), (0, 0), (0, 0), (0, 0), (0, 0), (0, 0), (0, 0), (0, 0), (0, 0), (0, 0), (0, 0), (0, 0), (0, 0), (0, 0), (0, 0), (1, 15), (0, 0), (0, 0), (0, 0), (14, 1347), (0, 0), (0, 0), (0, 0), (0, 0), (0, 0), (0, 0), (0, 0), (0, 0), (0, 0), (0, 0), (0, 0), (0, 0), (0, 0), (0, 0), (0, 0), (0, 0), (0, 0), (0, 0), (0, 0), (0, 0), (0, 0), (0, 0), (0, 0), (0, 0), (0, 0), (0, 0), (0, 0), (0, 0), (0, 0), (0, 0), (0, 0), (0, 0), (0, 0), (0, 0), (0, 0), (0, 0), (0, 0), (0, 0), (0, 0), (0, 0), (0, 0), (0, 0), (0, 0), (0, 0), (86, 4936), (0, 0), (0, 0), (0, 0), (0, 0), (0, 0), (0, 0), (0, 0), (0, 0), (0, 0), (0, 0), (0, 0), (0, 0), (0, 0), (0, 0), (0, 0), (0, 0), (0, 0), (0, 0), (0, 0), (0, 0), (0, 0), (0, 0), (0, 0), (0, 0), (0, 0), (0, 0), (0, 0), (0, 0), (0, 0), (0, 0), (0, 0), (0, 0), (0, 0), (0, 0), (0, 0), (0, 0), (0, 0), (0, 0), (0, 0), (0, 0), (0, 0), (0, 0), (0, 0), (0, 0), (0, 0), (0, 0), (0, 0), (0, 0), (0, 0), (0, 0), (0, 0), (0, 0), (0, 0), (24, 10968), (0, 0), (0, 0), (0, 0), (0, 0), (0, 0), (0, 0), (0, 0), (0, 0), (0, 0), (0, 0), (0, 0), (0, 0), (0, 0), (0, 0), (0, 0), (0, 0), (0, 0), (0, 0)]
def MFR : List Nat := [0, 1, 0, 0, 0, 0, 0, 0, 1, 0, 0, 0, 0, 0, 0, 0, 1, 0, 0, 0, 1, 0, 0, 0, 0, 0, 0, 0, 0, 0, 0, 0, 0, 0, 0, 0, 0, 0, 0, 0, 0, 0, 0, 0, 0, 0, 0, 0, 0, 0, 0, 0, 0, 0, 0, 0, 0, 0, 0, 0, 0, 0, 0, 0, 0, 0, 0, 0, 0, 0, 1, 1, 1, 1, 1, 1, 1, 1, 1, 2, 1, 1, 1, 1, 1, 1, 1, 1, 2, 1, 1, 1, 1, 1, 1, 1, 1, 1, 1, 1, 1, 1, 1, 1, 1, 1, 1, 1, 1, 1, 1, 1, 1, 1, 1, 1, 1, 1, 1, 1, 1, 2, 2, 2, 3, 2, 2, 2, 2, 2, 2, 2, 2, 2, 2, 2, 2, 2, 2, 2, 2, 2, 2, 2, 2, 2, 2, 2, 2, 2, 2, 3, 3, 3, 3, 3, 3, 3, 3, 3, 3, 3, 3, 3, 3, 3, 3, 4, 4, 4, 4, 4, 4, 4, 4, 4, 4, 4, 4, 4, 4, 4, 4, 4, 4, 4, 4, 5, 5, 5, 5, 5, 6, 6, 6, 6, 7]
def MLO : List Nat := [0, 60, 0, 0, 0, 0, 0, 0, 60, 0, 0, 0, 0, 0, 0, 0, 60, 0, 0, 0, 60, 0, 0, 0, 0, 0, 0, 0, 0, 0, 0, 0, 0, 0, 0, 0, 0, 0, 0, 0, 0, 0, 0, 0, 0, 0, 0, 0, 0, 0, 0, 0, 0, 0, 0, 0, 0, 0, 0, 0, 0, 0, 0, 0, 0, 0, 0, 0, 0, 0, 26, 21, 24, 25, 22, 60, 22, 21, 21, 81, 22, 22, 21, 20, 21, 21, 20, 25, 81, 22, 23, 21, 22, 22, 21, 21, 21, 22, 20, 20, 25, 21, 25, 23, 23, 25, 23, 25, 25, 24, 23, 25, 25, 25, 31, 25, 25, 22, 23, 60, 60, 51, 46, 48, 102, 46, 47, 41, 41, 42, 44, 46, 46, 80, 44, 44, 50, 47, 47, 63, 45, 45, 45, 45, 45, 45, 45, 47, 47, 45, 45, 61, 81, 75, 61, 75, 75, 68, 68, 68, 101, 80, 81, 68, 68, 72, 101, 98, 98, 98, 98, 98, 98, 98, 102, 98, 98, 98, 96, 96, 96, 96, 107, 106, 96, 96, 107, 122, 123, 122, 121, 134, 144, 144, 144, 151, 174]
def MNP : List Nat := [1, 1, 1, 3, 2, 2, 5, 3, 2, 5, 3, 3, 3, 2, 4, 3, 2, 3, 2, 2, 1, 1, 2, 1, 2, 1, 2, 2, 2, 2, 2, 1, 1, 1, 1, 3, 2, 1, 1, 1, 2, 2, 2, 3, 1, 2, 2, 1, 1, 3, 3, 2, 1, 1, 2, 3, 3, 2, 1, 3, 3, 3, 1, 3, 4, 1, 1, 1, 2, 2, 1, 3, 4, 3, 1, 1, 4, 1, 1, 2, 1, 1, 2, 2, 2, 2, 3, 2, 2, 2, 4, 2, 4, 3, 4, 3, 2, 3, 1, 1, 3, 2, 1, 4, 2, 2, 3, 2, 2, 2, 1, 2, 3, 2, 2, 1, 3, 2, 2, 1, 1, 3, 2, 3, 1, 4, 6, 3, 1, 1, 2, 3, 3, 2, 2, 3, 1, 1, 3, 2, 2, 2, 4, 2, 4, 6, 3, 4, 3, 2, 2, 3, 2, 6, 2, 2, 2, 3, 4, 4, 3, 3, 1, 1, 1, 3, 5, 3, 4, 4, 3, 3, 1, 1, 2, 5, 1, 3, 1, 3, 2, 4, 3, 1, 2, 2, 3, 1, 3, 1, 2, 1, 1, 1, 3, 1, 1]
def my (n : Nat) : MethodName := MY.getD n yL_law
def mc (n : Nat) : ByteArray := MC.getD n cL_law
def mL (n : Nat) : Nat := MLL.getD n 0
def mr (n : Nat) : Option FieldType := MRT.getD n none
def mo (n : Nat) : Nat := MOW.getD n 0
def mb (n : Nat) : Nat × Nat := MBD.getD n (0, 0)
def mf (n : Nat) : Nat := MFR.getD n 0
def ml (n : Nat) : Nat := MLO.getD n 0
def mp (n : Nat) : Nat := MNP.getD n 0
def NMT : Nat := 197
def LAWM : Nat := 196
def PTIM : Nat := 124
def ccond (n : Nat) : Cond := .code (my n) (mc n) (mL n) (mr n)
set_option maxRecDepth 100000 in
theorem CCT_0 : ccond 0 ∈ GW := zz_gm 474 rfl rfl
set_option maxRecDepth 100000 in
theorem CCT_1 : ccond 1 ∈ GW := zz_gm 222 rfl rfl
set_option maxRecDepth 100000 in
theorem CCT_2 : ccond 2 ∈ GW := zz_gm 650 rfl rfl
set_option maxRecDepth 100000 in
theorem CCT_3 : ccond 3 ∈ GW := zz_gm 642 rfl rfl
set_option maxRecDepth 100000 in
theorem CCT_4 : ccond 4 ∈ GW := zz_gm 670 rfl rfl
set_option maxRecDepth 100000 in
theorem CCT_5 : ccond 5 ∈ GW := zz_gm 658 rfl rfl
set_option maxRecDepth 100000 in
theorem CCT_6 : ccond 6 ∈ GW := zz_gm 662 rfl rfl
set_option maxRecDepth 100000 in
theorem CCT_7 : ccond 7 ∈ GW := zz_gm 674 rfl rfl
set_option maxRecDepth 100000 in
theorem CCT_8 : ccond 8 ∈ GW := zz_gm 131 rfl rfl
set_option maxRecDepth 100000 in
theorem CCT_9 : ccond 9 ∈ GW := zz_gm 376 rfl rfl
set_option maxRecDepth 100000 in
theorem CCT_10 : ccond 10 ∈ GW := zz_gm 387 rfl rfl
set_option maxRecDepth 100000 in
theorem CCT_11 : ccond 11 ∈ GW := zz_gm 417 rfl rfl
set_option maxRecDepth 100000 in
theorem CCT_12 : ccond 12 ∈ GW := zz_gm 444 rfl rfl
set_option maxRecDepth 100000 in
theorem CCT_13 : ccond 13 ∈ GW := zz_gm 395 rfl rfl
set_option maxRecDepth 100000 in
theorem CCT_14 : ccond 14 ∈ GW := zz_gm 591 rfl rfl
set_option maxRecDepth 100000 in
theorem CCT_15 : ccond 15 ∈ GW := zz_gm 96 rfl rfl
set_option maxRecDepth 100000 in
theorem CCT_16 : ccond 16 ∈ GW := zz_gm 616 rfl rfl
set_option maxRecDepth 100000 in
theorem CCT_17 : ccond 17 ∈ GW := zz_gm 349 rfl rfl
set_option maxRecDepth 100000 in
theorem CCT_18 : ccond 18 ∈ GW := zz_gm 399 rfl rfl
set_option maxRecDepth 100000 in
theorem CCT_19 : ccond 19 ∈ GW := zz_gm 333 rfl rfl
set_option maxRecDepth 100000 in
theorem CCT_20 : ccond 20 ∈ GW := zz_gm 244 rfl rfl
set_option maxRecDepth 100000 in
theorem CCT_21 : ccond 21 ∈ GW := zz_gm 521 rfl rfl
set_option maxRecDepth 100000 in
theorem CCT_22 : ccond 22 ∈ GW := zz_gm 704 rfl rfl
set_option maxRecDepth 100000 in
theorem CCT_23 : ccond 23 ∈ GW := zz_gm 317 rfl rfl
set_option maxRecDepth 100000 in
theorem CCT_24 : ccond 24 ∈ GW := zz_gm 413 rfl rfl
set_option maxRecDepth 100000 in
theorem CCT_25 : ccond 25 ∈ GW := zz_gm 506 rfl rfl
set_option maxRecDepth 100000 in
theorem CCT_26 : ccond 26 ∈ GW := zz_gm 510 rfl rfl
set_option maxRecDepth 100000 in
theorem CCT_27 : ccond 27 ∈ GW := zz_gm 564 rfl rfl
set_option maxRecDepth 100000 in
theorem CCT_28 : ccond 28 ∈ GW := zz_gm 575 rfl rfl
set_option maxRecDepth 100000 in
theorem CCT_29 : ccond 29 ∈ GW := zz_gm 345 rfl rfl
set_option maxRecDepth 100000 in
theorem CCT_30 : ccond 30 ∈ GW := zz_gm 502 rfl rfl
set_option maxRecDepth 100000 in
theorem CCT_31 : ccond 31 ∈ GW := zz_gm 571 rfl rfl
set_option maxRecDepth 100000 in
theorem CCT_32 : ccond 32 ∈ GW := zz_gm 612 rfl rfl
set_option maxRecDepth 100000 in
theorem CCT_33 : ccond 33 ∈ GW := zz_gm 638 rfl rfl
set_option maxRecDepth 100000 in
theorem CCT_34 : ccond 34 ∈ GW := zz_gm 517 rfl rfl
set_option maxRecDepth 100000 in
theorem CCT_35 : ccond 35 ∈ GW := zz_gm 681 rfl rfl
set_option maxRecDepth 100000 in
theorem CCT_36 : ccond 36 ∈ GW := zz_gm 525 rfl rfl
set_option maxRecDepth 100000 in
theorem CCT_37 : ccond 37 ∈ GW := zz_gm 451 rfl rfl
set_option maxRecDepth 100000 in
theorem CCT_38 : ccond 38 ∈ GW := zz_gm 623 rfl rfl
set_option maxRecDepth 100000 in
theorem CCT_39 : ccond 39 ∈ GW := zz_gm 321 rfl rfl
set_option maxRecDepth 100000 in
theorem CCT_40 : ccond 40 ∈ GW := zz_gm 534 rfl rfl
set_option maxRecDepth 100000 in
theorem CCT_41 : ccond 41 ∈ GW := zz_gm 459 rfl rfl
set_option maxRecDepth 100000 in
theorem CCT_42 : ccond 42 ∈ GW := zz_gm 552 rfl rfl
set_option maxRecDepth 100000 in
theorem CCT_43 : ccond 43 ∈ GW := zz_gm 905 rfl rfl
set_option maxRecDepth 100000 in
theorem CCT_44 : ccond 44 ∈ GW := zz_gm 968 rfl rfl
set_option maxRecDepth 100000 in
theorem CCT_45 : ccond 45 ∈ GW := zz_gm 1190 rfl rfl
set_option maxRecDepth 100000 in
theorem CCT_46 : ccond 46 ∈ GW := zz_gm 1131 rfl rfl
set_option maxRecDepth 100000 in
theorem CCT_47 : ccond 47 ∈ GW := zz_gm 758 rfl rfl
set_option maxRecDepth 100000 in
theorem CCT_48 : ccond 48 ∈ GW := zz_gm 773 rfl rfl
set_option maxRecDepth 100000 in
theorem CCT_49 : ccond 49 ∈ GW := zz_gm 782 rfl rfl
set_option maxRecDepth 100000 in
theorem CCT_50 : ccond 50 ∈ GW := zz_gm 786 rfl rfl
set_option maxRecDepth 100000 in
theorem CCT_51 : ccond 51 ∈ GW := zz_gm 790 rfl rfl
set_option maxRecDepth 100000 in
theorem CCT_52 : ccond 52 ∈ GW := zz_gm 914 rfl rfl
set_option maxRecDepth 100000 in
theorem CCT_53 : ccond 53 ∈ GW := zz_gm 910 rfl rfl
set_option maxRecDepth 100000 in
theorem CCT_54 : ccond 54 ∈ GW := zz_gm 941 rfl rfl
set_option maxRecDepth 100000 in
theorem CCT_55 : ccond 55 ∈ GW := zz_gm 954 rfl rfl
set_option maxRecDepth 100000 in
theorem CCT_56 : ccond 56 ∈ GW := zz_gm 965 rfl rfl
set_option maxRecDepth 100000 in
theorem CCT_57 : ccond 57 ∈ GW := zz_gm 980 rfl rfl
set_option maxRecDepth 100000 in
theorem CCT_58 : ccond 58 ∈ GW := zz_gm 1032 rfl rfl
set_option maxRecDepth 100000 in
theorem CCT_59 : ccond 59 ∈ GW := zz_gm 1048 rfl rfl
set_option maxRecDepth 100000 in
theorem CCT_60 : ccond 60 ∈ GW := zz_gm 1064 rfl rfl
set_option maxRecDepth 100000 in
theorem CCT_61 : ccond 61 ∈ GW := zz_gm 1094 rfl rfl
set_option maxRecDepth 100000 in
theorem CCT_62 : ccond 62 ∈ GW := zz_gm 1123 rfl rfl
set_option maxRecDepth 100000 in
theorem CCT_63 : ccond 63 ∈ GW := zz_gm 1151 rfl rfl
set_option maxRecDepth 100000 in
theorem CCT_64 : ccond 64 ∈ GW := zz_gm 1159 rfl rfl
set_option maxRecDepth 100000 in
theorem CCT_65 : ccond 65 ∈ GW := zz_gm 1198 rfl rfl
set_option maxRecDepth 100000 in
theorem CCT_66 : ccond 66 ∈ GW := zz_gm 1020 rfl rfl
set_option maxRecDepth 100000 in
theorem CCT_67 : ccond 67 ∈ GW := zz_gm 986 rfl rfl
set_option maxRecDepth 100000 in
theorem CCT_68 : ccond 68 ∈ GW := zz_gm 428 rfl rfl
set_option maxRecDepth 100000 in
theorem CCT_69 : ccond 69 ∈ GW := zz_gm 379 rfl rfl
set_option maxRecDepth 100000 in
theorem CCT_70 : ccond 70 ∈ GW := zz_gm 471 rfl rfl
set_option maxRecDepth 100000 in
theorem CCT_71 : ccond 71 ∈ GW := zz_gm 689 rfl rfl
set_option maxRecDepth 100000 in
theorem CCT_72 : ccond 72 ∈ GW := zz_gm 695 rfl rfl
set_option maxRecDepth 100000 in
theorem CCT_73 : ccond 73 ∈ GW := zz_gm 391 rfl rfl
set_option maxRecDepth 100000 in
theorem CCT_74 : ccond 74 ∈ GW := zz_gm 383 rfl rfl
set_option maxRecDepth 100000 in
theorem CCT_75 : ccond 75 ∈ GW := zz_gm 91 rfl rfl
set_option maxRecDepth 100000 in
theorem CCT_76 : ccond 76 ∈ GW := zz_gm 353 rfl rfl
set_option maxRecDepth 100000 in
theorem CCT_77 : ccond 77 ∈ GW := zz_gm 329 rfl rfl
set_option maxRecDepth 100000 in
theorem CCT_78 : ccond 78 ∈ GW := zz_gm 362 rfl rfl
set_option maxRecDepth 100000 in
theorem CCT_79 : ccond 79 ∈ GW := zz_gm 125 rfl rfl
set_option maxRecDepth 100000 in
theorem CCT_80 : ccond 80 ∈ GW := zz_gm 409 rfl rfl
set_option maxRecDepth 100000 in
theorem CCT_81 : ccond 81 ∈ GW := zz_gm 421 rfl rfl
set_option maxRecDepth 100000 in
theorem CCT_82 : ccond 82 ∈ GW := zz_gm 425 rfl rfl
set_option maxRecDepth 100000 in
theorem CCT_83 : ccond 83 ∈ GW := zz_gm 337 rfl rfl
set_option maxRecDepth 100000 in
theorem CCT_84 : ccond 84 ∈ GW := zz_gm 498 rfl rfl
set_option maxRecDepth 100000 in
theorem CCT_85 : ccond 85 ∈ GW := zz_gm 514 rfl rfl
set_option maxRecDepth 100000 in
theorem CCT_86 : ccond 86 ∈ GW := zz_gm 568 rfl rfl
set_option maxRecDepth 100000 in
theorem CCT_87 : ccond 87 ∈ GW := zz_gm 603 rfl rfl
set_option maxRecDepth 100000 in
theorem CCT_88 : ccond 88 ∈ GW := zz_gm 609 rfl rfl
set_option maxRecDepth 100000 in
theorem CCT_89 : ccond 89 ∈ GW := zz_gm 631 rfl rfl
set_option maxRecDepth 100000 in
theorem CCT_90 : ccond 90 ∈ GW := zz_gm 635 rfl rfl
set_option maxRecDepth 100000 in
theorem CCT_91 : ccond 91 ∈ GW := zz_gm 646 rfl rfl
set_option maxRecDepth 100000 in
theorem CCT_92 : ccond 92 ∈ GW := zz_gm 666 rfl rfl
set_option maxRecDepth 100000 in
theorem CCT_93 : ccond 93 ∈ GW := zz_gm 700 rfl rfl
set_option maxRecDepth 100000 in
theorem CCT_94 : ccond 94 ∈ GW := zz_gm 708 rfl rfl
set_option maxRecDepth 100000 in
theorem CCT_95 : ccond 95 ∈ GW := zz_gm 712 rfl rfl
set_option maxRecDepth 100000 in
theorem CCT_96 : ccond 96 ∈ GW := zz_gm 716 rfl rfl
set_option maxRecDepth 100000 in
theorem CCT_97 : ccond 97 ∈ GW := zz_gm 748 rfl rfl
set_option maxRecDepth 100000 in
theorem CCT_98 : ccond 98 ∈ GW := zz_gm 725 rfl rfl
set_option maxRecDepth 100000 in
theorem CCT_99 : ccond 99 ∈ GW := zz_gm 313 rfl rfl
set_option maxRecDepth 100000 in
theorem CCT_100 : ccond 100 ∈ GW := zz_gm 456 rfl rfl
set_option maxRecDepth 100000 in
theorem CCT_101 : ccond 101 ∈ GW := zz_gm 560 rfl rfl
set_option maxRecDepth 100000 in
theorem CCT_102 : ccond 102 ∈ GW := zz_gm 962 rfl rfl
set_option maxRecDepth 100000 in
theorem CCT_103 : ccond 103 ∈ GW := zz_gm 778 rfl rfl
set_option maxRecDepth 100000 in
theorem CCT_104 : ccond 104 ∈ GW := zz_gm 770 rfl rfl
set_option maxRecDepth 100000 in
theorem CCT_105 : ccond 105 ∈ GW := zz_gm 927 rfl rfl
set_option maxRecDepth 100000 in
theorem CCT_106 : ccond 106 ∈ GW := zz_gm 937 rfl rfl
set_option maxRecDepth 100000 in
theorem CCT_107 : ccond 107 ∈ GW := zz_gm 1028 rfl rfl
set_option maxRecDepth 100000 in
theorem CCT_108 : ccond 108 ∈ GW := zz_gm 1036 rfl rfl
set_option maxRecDepth 100000 in
theorem CCT_109 : ccond 109 ∈ GW := zz_gm 1044 rfl rfl
set_option maxRecDepth 100000 in
theorem CCT_110 : ccond 110 ∈ GW := zz_gm 1060 rfl rfl
set_option maxRecDepth 100000 in
theorem CCT_111 : ccond 111 ∈ GW := zz_gm 1072 rfl rfl
set_option maxRecDepth 100000 in
theorem CCT_112 : ccond 112 ∈ GW := zz_gm 1076 rfl rfl
set_option maxRecDepth 100000 in
theorem CCT_113 : ccond 113 ∈ GW := zz_gm 1081 rfl rfl
set_option maxRecDepth 100000 in
theorem CCT_114 : ccond 114 ∈ GW := zz_gm 1110 rfl rfl
set_option maxRecDepth 100000 in
theorem CCT_115 : ccond 115 ∈ GW := zz_gm 1119 rfl rfl
set_option maxRecDepth 100000 in
theorem CCT_116 : ccond 116 ∈ GW := zz_gm 1175 rfl rfl
set_option maxRecDepth 100000 in
theorem CCT_117 : ccond 117 ∈ GW := zz_gm 1194 rfl rfl
set_option maxRecDepth 100000 in
theorem CCT_118 : ccond 118 ∈ GW := zz_gm 1213 rfl rfl
set_option maxRecDepth 100000 in
theorem CCT_119 : ccond 119 ∈ GW := zz_gm 1017 rfl rfl
set_option maxRecDepth 100000 in
theorem CCT_120 : ccond 120 ∈ GW := zz_gm 983 rfl rfl
set_option maxRecDepth 100000 in
theorem CCT_121 : ccond 121 ∈ GW := zz_gm 371 rfl rfl
set_option maxRecDepth 100000 in
theorem CCT_122 : ccond 122 ∈ GW := zz_gm 467 rfl rfl
set_option maxRecDepth 100000 in
theorem CCT_123 : ccond 123 ∈ GW := zz_gm 405 rfl rfl
set_option maxRecDepth 100000 in
theorem CCT_124 : ccond 124 ∈ GW := zz_gm 83 rfl rfl
set_option maxRecDepth 100000 in
theorem CCT_125 : ccond 125 ∈ GW := zz_gm 341 rfl rfl
set_option maxRecDepth 100000 in
theorem CCT_126 : ccond 126 ∈ GW := zz_gm 685 rfl rfl
set_option maxRecDepth 100000 in
theorem CCT_127 : ccond 127 ∈ GW := zz_gm 438 rfl rfl
set_option maxRecDepth 100000 in
theorem CCT_128 : ccond 128 ∈ GW := zz_gm 325 rfl rfl
set_option maxRecDepth 100000 in
theorem CCT_129 : ccond 129 ∈ GW := zz_gm 556 rfl rfl
set_option maxRecDepth 100000 in
theorem CCT_130 : ccond 130 ∈ GW := zz_gm 766 rfl rfl
set_option maxRecDepth 100000 in
theorem CCT_131 : ccond 131 ∈ GW := zz_gm 932 rfl rfl
set_option maxRecDepth 100000 in
theorem CCT_132 : ccond 132 ∈ GW := zz_gm 949 rfl rfl
set_option maxRecDepth 100000 in
theorem CCT_133 : ccond 133 ∈ GW := zz_gm 977 rfl rfl
set_option maxRecDepth 100000 in
theorem CCT_134 : ccond 134 ∈ GW := zz_gm 1002 rfl rfl
set_option maxRecDepth 100000 in
theorem CCT_135 : ccond 135 ∈ GW := zz_gm 1014 rfl rfl
set_option maxRecDepth 100000 in
theorem CCT_136 : ccond 136 ∈ GW := zz_gm 1040 rfl rfl
set_option maxRecDepth 100000 in
theorem CCT_137 : ccond 137 ∈ GW := zz_gm 1056 rfl rfl
set_option maxRecDepth 100000 in
theorem CCT_138 : ccond 138 ∈ GW := zz_gm 1090 rfl rfl
set_option maxRecDepth 100000 in
theorem CCT_139 : ccond 139 ∈ GW := zz_gm 1106 rfl rfl
set_option maxRecDepth 100000 in
theorem CCT_140 : ccond 140 ∈ GW := zz_gm 1116 rfl rfl
set_option maxRecDepth 100000 in
theorem CCT_141 : ccond 141 ∈ GW := zz_gm 1135 rfl rfl
set_option maxRecDepth 100000 in
theorem CCT_142 : ccond 142 ∈ GW := zz_gm 1139 rfl rfl
set_option maxRecDepth 100000 in
theorem CCT_143 : ccond 143 ∈ GW := zz_gm 1143 rfl rfl
set_option maxRecDepth 100000 in
theorem CCT_144 : ccond 144 ∈ GW := zz_gm 1155 rfl rfl
set_option maxRecDepth 100000 in
theorem CCT_145 : ccond 145 ∈ GW := zz_gm 1163 rfl rfl
set_option maxRecDepth 100000 in
theorem CCT_146 : ccond 146 ∈ GW := zz_gm 1167 rfl rfl
set_option maxRecDepth 100000 in
theorem CCT_147 : ccond 147 ∈ GW := zz_gm 1171 rfl rfl
set_option maxRecDepth 100000 in
theorem CCT_148 : ccond 148 ∈ GW := zz_gm 1179 rfl rfl
set_option maxRecDepth 100000 in
theorem CCT_149 : ccond 149 ∈ GW := zz_gm 1183 rfl rfl
set_option maxRecDepth 100000 in
theorem CCT_150 : ccond 150 ∈ GW := zz_gm 1187 rfl rfl
set_option maxRecDepth 100000 in
theorem CCT_151 : ccond 151 ∈ GW := zz_gm 308 rfl rfl
set_option maxRecDepth 100000 in
theorem CCT_152 : ccond 152 ∈ GW := zz_gm 627 rfl rfl
set_option maxRecDepth 100000 in
theorem CCT_153 : ccond 153 ∈ GW := zz_gm 678 rfl rfl
set_option maxRecDepth 100000 in
theorem CCT_154 : ccond 154 ∈ GW := zz_gm 721 rfl rfl
set_option maxRecDepth 100000 in
theorem CCT_155 : ccond 155 ∈ GW := zz_gm 366 rfl rfl
set_option maxRecDepth 100000 in
theorem CCT_156 : ccond 156 ∈ GW := zz_gm 599 rfl rfl
set_option maxRecDepth 100000 in
theorem CCT_157 : ccond 157 ∈ GW := zz_gm 762 rfl rfl
set_option maxRecDepth 100000 in
theorem CCT_158 : ccond 158 ∈ GW := zz_gm 945 rfl rfl
set_option maxRecDepth 100000 in
theorem CCT_159 : ccond 159 ∈ GW := zz_gm 959 rfl rfl
set_option maxRecDepth 100000 in
theorem CCT_160 : ccond 160 ∈ GW := zz_gm 973 rfl rfl
set_option maxRecDepth 100000 in
theorem CCT_161 : ccond 161 ∈ GW := zz_gm 998 rfl rfl
set_option maxRecDepth 100000 in
theorem CCT_162 : ccond 162 ∈ GW := zz_gm 1010 rfl rfl
set_option maxRecDepth 100000 in
theorem CCT_163 : ccond 163 ∈ GW := zz_gm 1052 rfl rfl
set_option maxRecDepth 100000 in
theorem CCT_164 : ccond 164 ∈ GW := zz_gm 1068 rfl rfl
set_option maxRecDepth 100000 in
theorem CCT_165 : ccond 165 ∈ GW := zz_gm 1086 rfl rfl
set_option maxRecDepth 100000 in
theorem CCT_166 : ccond 166 ∈ GW := zz_gm 1147 rfl rfl
set_option maxRecDepth 100000 in
theorem CCT_167 : ccond 167 ∈ GW := zz_gm 358 rfl rfl
set_option maxRecDepth 100000 in
theorem CCT_168 : ccond 168 ∈ GW := zz_gm 434 rfl rfl
set_option maxRecDepth 100000 in
theorem CCT_169 : ccond 169 ∈ GW := zz_gm 448 rfl rfl
set_option maxRecDepth 100000 in
theorem CCT_170 : ccond 170 ∈ GW := zz_gm 463 rfl rfl
set_option maxRecDepth 100000 in
theorem CCT_171 : ccond 171 ∈ GW := zz_gm 482 rfl rfl
set_option maxRecDepth 100000 in
theorem CCT_172 : ccond 172 ∈ GW := zz_gm 492 rfl rfl
set_option maxRecDepth 100000 in
theorem CCT_173 : ccond 173 ∈ GW := zz_gm 529 rfl rfl
set_option maxRecDepth 100000 in
theorem CCT_174 : ccond 174 ∈ GW := zz_gm 595 rfl rfl
set_option maxRecDepth 100000 in
theorem CCT_175 : ccond 175 ∈ GW := zz_gm 654 rfl rfl
set_option maxRecDepth 100000 in
theorem CCT_176 : ccond 176 ∈ GW := zz_gm 547 rfl rfl
set_option maxRecDepth 100000 in
theorem CCT_177 : ccond 177 ∈ GW := zz_gm 587 rfl rfl
set_option maxRecDepth 100000 in
theorem CCT_178 : ccond 178 ∈ GW := zz_gm 753 rfl rfl
set_option maxRecDepth 100000 in
theorem CCT_179 : ccond 179 ∈ GW := zz_gm 900 rfl rfl
set_option maxRecDepth 100000 in
theorem CCT_180 : ccond 180 ∈ GW := zz_gm 918 rfl rfl
set_option maxRecDepth 100000 in
theorem CCT_181 : ccond 181 ∈ GW := zz_gm 923 rfl rfl
set_option maxRecDepth 100000 in
theorem CCT_182 : ccond 182 ∈ GW := zz_gm 994 rfl rfl
set_option maxRecDepth 100000 in
theorem CCT_183 : ccond 183 ∈ GW := zz_gm 1006 rfl rfl
set_option maxRecDepth 100000 in
theorem CCT_184 : ccond 184 ∈ GW := zz_gm 1102 rfl rfl
set_option maxRecDepth 100000 in
theorem CCT_185 : ccond 185 ∈ GW := zz_gm 1127 rfl rfl
set_option maxRecDepth 100000 in
theorem CCT_186 : ccond 186 ∈ GW := zz_gm 1209 rfl rfl
set_option maxRecDepth 100000 in
theorem CCT_187 : ccond 187 ∈ GW := zz_gm 488 rfl rfl
set_option maxRecDepth 100000 in
theorem CCT_188 : ccond 188 ∈ GW := zz_gm 736 rfl rfl
set_option maxRecDepth 100000 in
theorem CCT_189 : ccond 189 ∈ GW := zz_gm 543 rfl rfl
set_option maxRecDepth 100000 in
theorem CCT_190 : ccond 190 ∈ GW := zz_gm 1098 rfl rfl
set_option maxRecDepth 100000 in
theorem CCT_191 : ccond 191 ∈ GW := zz_gm 1202 rfl rfl
set_option maxRecDepth 100000 in
theorem CCT_192 : ccond 192 ∈ GW := zz_gm 539 rfl rfl
set_option maxRecDepth 100000 in
theorem CCT_193 : ccond 193 ∈ GW := zz_gm 579 rfl rfl
set_option maxRecDepth 100000 in
theorem CCT_194 : ccond 194 ∈ GW := zz_gm 583 rfl rfl
set_option maxRecDepth 100000 in
theorem CCT_195 : ccond 195 ∈ GW := zz_gm 729 rfl rfl
def CCT : List (Nat × Nat) := [(474, 0), (222, 1), (650, 2), (642, 3), (670, 4), (658, 5), (662, 6), (674, 7), (131, 8), (376, 9), (387, 10), (417, 11), (444, 12), (395, 13), (591, 14), (96, 15), (616, 16), (349, 17), (399, 18), (333, 19), (244, 20), (521, 21), (704, 22), (317, 23), (413, 24), (506, 25), (510, 26), (564, 27), (575, 28), (345, 29), (502, 30), (571, 31), (612, 32), (638, 33), (517, 34), (681, 35), (525, 36), (451, 37), (623, 38), (321, 39), (534, 40), (459, 41), (552, 42), (905, 43), (968, 44), (1190, 45), (1131, 46), (758, 47), (773, 48), (782, 49), (786, 50), (790, 51), (914, 52), (910, 53), (941, 54), (954, 55), (965, 56), (980, 57), (1032, 58), (1048, 59), (1064, 60), (1094, 61), (1123, 62), (1151, 63), (1159, 64), (1198, 65), (1020, 66), (986, 67), (428, 68), (379, 69), (471, 70), (689, 71), (695, 72), (391, 73), (383, 74), (91, 75), (353, 76), (329, 77), (362, 78), (125, 79), (409, 80), (421, 81), (425, 82), (337, 83), (498, 84), (514, 85), (568, 86), (603, 87), (609, 88), (631, 89), (635, 90), (646, 91), (666, 92), (700, 93), (708, 94), (712, 95), (716, 96), (748, 97), (725, 98), (313, 99), (456, 100), (560, 101), (962, 102), (778, 103), (770, 104), (927, 105), (937, 106), (1028, 107), (1036, 108), (1044, 109), (1060, 110), (1072, 111), (1076, 112), (1081, 113), (1110, 114), (1119, 115), (1175, 116), (1194, 117), (1213, 118), (1017, 119), (983, 120), (371, 121), (467, 122), (405, 123), (83, 124), (341, 125), (685, 126), (438, 127), (325, 128), (556, 129), (766, 130), (932, 131), (949, 132), (977, 133), (1002, 134), (1014, 135), (1040, 136), (1056, 137), (1090, 138), (1106, 139), (1116, 140), (1135, 141), (1139, 142), (1143, 143), (1155, 144), (1163, 145), (1167, 146), (1171, 147), (1179, 148), (1183, 149), (1187, 150), (308, 151), (627, 152), (678, 153), (721, 154), (366, 155), (599, 156), (762, 157), (945, 158), (959, 159), (973, 160), (998, 161), (1010, 162), (1052, 163), (1068, 164), (1086, 165), (1147, 166), (358, 167), (434, 168), (448, 169), (463, 170), (482, 171), (492, 172), (529, 173), (595, 174), (654, 175), (547, 176), (587, 177), (753, 178), (900, 179), (918, 180), (923, 181), (994, 182), (1006, 183), (1102, 184), (1127, 185), (1209, 186), (488, 187), (736, 188), (543, 189), (1098, 190), (1202, 191), (539, 192), (579, 193), (583, 194), (729, 195)]
set_option maxRecDepth 100000 in
theorem CCT_in : ∀ q ∈ CCT, ccond q.2 ∈ GW := List.forall_mem_cons.mpr ⟨CCT_0, List.forall_mem_cons.mpr ⟨CCT_1, List.forall_mem_cons.mpr ⟨CCT_2, List.forall_mem_cons.mpr ⟨CCT_3, List.forall_mem_cons.mpr ⟨CCT_4, List.forall_mem_cons.mpr ⟨CCT_5, List.forall_mem_cons.mpr ⟨CCT_6, List.forall_mem_cons.mpr ⟨CCT_7, List.forall_mem_cons.mpr ⟨CCT_8, List.forall_mem_cons.mpr ⟨CCT_9, List.forall_mem_cons.mpr ⟨CCT_10, List.forall_mem_cons.mpr ⟨CCT_11, List.forall_mem_cons.mpr ⟨CCT_12, List.forall_mem_cons.mpr ⟨CCT_13, List.forall_mem_cons.mpr ⟨CCT_14, List.forall_mem_cons.mpr ⟨CCT_15, List.forall_mem_cons.mpr ⟨CCT_16, List.forall_mem_cons.mpr ⟨CCT_17, List.forall_mem_cons.mpr ⟨CCT_18, List.forall_mem_cons.mpr ⟨CCT_19, List.forall_mem_cons.mpr ⟨CCT_20, List.forall_mem_cons.mpr ⟨CCT_21, List.forall_mem_cons.mpr ⟨CCT_22, List.forall_mem_cons.mpr ⟨CCT_23, List.forall_mem_cons.mpr ⟨CCT_24, List.forall_mem_cons.mpr ⟨CCT_25, List.forall_mem_cons.mpr ⟨CCT_26, List.forall_mem_cons.mpr ⟨CCT_27, List.forall_mem_cons.mpr ⟨CCT_28, List.forall_mem_cons.mpr ⟨CCT_29, List.forall_mem_cons.mpr ⟨CCT_30, List.forall_mem_cons.mpr ⟨CCT_31, List.forall_mem_cons.mpr ⟨CCT_32, List.forall_mem_cons.mpr ⟨CCT_33, List.forall_mem_cons.mpr ⟨CCT_34, List.forall_mem_cons.mpr ⟨CCT_35, List.forall_mem_cons.mpr ⟨CCT_36, List.forall_mem_cons.mpr ⟨CCT_37, List.forall_mem_cons.mpr ⟨CCT_38, List.forall_mem_cons.mpr ⟨CCT_39, List.forall_mem_cons.mpr ⟨CCT_40, List.forall_mem_cons.mpr ⟨CCT_41, List.forall_mem_cons.mpr ⟨CCT_42, List.forall_mem_cons.mpr ⟨CCT_43, List.forall_mem_cons.mpr ⟨CCT_44, List.forall_mem_cons.mpr ⟨CCT_45, List.forall_mem_cons.mpr ⟨CCT_46, List.forall_mem_cons.mpr ⟨CCT_47, List.forall_mem_cons.mpr ⟨CCT_48, List.forall_mem_cons.mpr ⟨CCT_49, List.forall_mem_cons.mpr ⟨CCT_50, List.forall_mem_cons.mpr ⟨CCT_51, List.forall_mem_cons.mpr ⟨CCT_52, List.forall_mem_cons.mpr ⟨CCT_53, List.forall_mem_cons.mpr ⟨CCT_54, List.forall_mem_cons.mpr ⟨CCT_55, List.forall_mem_cons.mpr ⟨CCT_56, List.forall_mem_cons.mpr ⟨CCT_57, List.forall_mem_cons.mpr ⟨CCT_58, List.forall_mem_cons.mpr ⟨CCT_59, List.forall_mem_cons.mpr ⟨CCT_60, List.forall_mem_cons.mpr ⟨CCT_61, List.forall_mem_cons.mpr ⟨CCT_62, List.forall_mem_cons.mpr ⟨CCT_63, List.forall_mem_cons.mpr ⟨CCT_64, List.forall_mem_cons.mpr ⟨CCT_65, List.forall_mem_cons.mpr ⟨CCT_66, List.forall_mem_cons.mpr ⟨CCT_67, List.forall_mem_cons.mpr ⟨CCT_68, List.forall_mem_cons.mpr ⟨CCT_69, List.forall_mem_cons.mpr ⟨CCT_70, List.forall_mem_cons.mpr ⟨CCT_71, List.forall_mem_cons.mpr ⟨CCT_72, List.forall_mem_cons.mpr ⟨CCT_73, List.forall_mem_cons.mpr ⟨CCT_74, List.forall_mem_cons.mpr ⟨CCT_75, List.forall_mem_cons.mpr ⟨CCT_76, List.forall_mem_cons.mpr ⟨CCT_77, List.forall_mem_cons.mpr ⟨CCT_78, List.forall_mem_cons.mpr ⟨CCT_79, List.forall_mem_cons.mpr ⟨CCT_80, List.forall_mem_cons.mpr ⟨CCT_81, List.forall_mem_cons.mpr ⟨CCT_82, List.forall_mem_cons.mpr ⟨CCT_83, List.forall_mem_cons.mpr ⟨CCT_84, List.forall_mem_cons.mpr ⟨CCT_85, List.forall_mem_cons.mpr ⟨CCT_86, List.forall_mem_cons.mpr ⟨CCT_87, List.forall_mem_cons.mpr ⟨CCT_88, List.forall_mem_cons.mpr ⟨CCT_89, List.forall_mem_cons.mpr ⟨CCT_90, List.forall_mem_cons.mpr ⟨CCT_91, List.forall_mem_cons.mpr ⟨CCT_92, List.forall_mem_cons.mpr ⟨CCT_93, List.forall_mem_cons.mpr ⟨CCT_94, List.forall_mem_cons.mpr ⟨CCT_95, List.forall_mem_cons.mpr ⟨CCT_96, List.forall_mem_cons.mpr ⟨CCT_97, List.forall_mem_cons.mpr ⟨CCT_98, List.forall_mem_cons.mpr ⟨CCT_99, List.forall_mem_cons.mpr ⟨CCT_100, List.forall_mem_cons.mpr ⟨CCT_101, List.forall_mem_cons.mpr ⟨CCT_102, List.forall_mem_cons.mpr ⟨CCT_103, List.forall_mem_cons.mpr ⟨CCT_104, List.forall_mem_cons.mpr ⟨CCT_105, List.forall_mem_cons.mpr ⟨CCT_106, List.forall_mem_cons.mpr ⟨CCT_107, List.forall_mem_cons.mpr ⟨CCT_108, List.forall_mem_cons.mpr ⟨CCT_109, List.forall_mem_cons.mpr ⟨CCT_110, List.forall_mem_cons.mpr ⟨CCT_111, List.forall_mem_cons.mpr ⟨CCT_112, List.forall_mem_cons.mpr ⟨CCT_113, List.forall_mem_cons.mpr ⟨CCT_114, List.forall_mem_cons.mpr ⟨CCT_115, List.forall_mem_cons.mpr ⟨CCT_116, List.forall_mem_cons.mpr ⟨CCT_117, List.forall_mem_cons.mpr ⟨CCT_118, List.forall_mem_cons.mpr ⟨CCT_119, List.forall_mem_cons.mpr ⟨CCT_120, List.forall_mem_cons.mpr ⟨CCT_121, List.forall_mem_cons.mpr ⟨CCT_122, List.forall_mem_cons.mpr ⟨CCT_123, List.forall_mem_cons.mpr ⟨CCT_124, List.forall_mem_cons.mpr ⟨CCT_125, List.forall_mem_cons.mpr ⟨CCT_126, List.forall_mem_cons.mpr ⟨CCT_127, List.forall_mem_cons.mpr ⟨CCT_128, List.forall_mem_cons.mpr ⟨CCT_129, List.forall_mem_cons.mpr ⟨CCT_130, List.forall_mem_cons.mpr ⟨CCT_131, List.forall_mem_cons.mpr ⟨CCT_132, List.forall_mem_cons.mpr ⟨CCT_133, List.forall_mem_cons.mpr ⟨CCT_134, List.forall_mem_cons.mpr ⟨CCT_135, List.forall_mem_cons.mpr ⟨CCT_136, List.forall_mem_cons.mpr ⟨CCT_137, List.forall_mem_cons.mpr ⟨CCT_138, List.forall_mem_cons.mpr ⟨CCT_139, List.forall_mem_cons.mpr ⟨CCT_140, List.forall_mem_cons.mpr ⟨CCT_141, List.forall_mem_cons.mpr ⟨CCT_142, List.forall_mem_cons.mpr ⟨CCT_143, List.forall_mem_cons.mpr ⟨CCT_144, List.forall_mem_cons.mpr ⟨CCT_145, List.forall_mem_cons.mpr ⟨CCT_146, List.forall_mem_cons.mpr ⟨CCT_147, List.forall_mem_cons.mpr ⟨CCT_148, List.forall_mem_cons.mpr ⟨CCT_149, List.forall_mem_cons.mpr ⟨CCT_150, List.forall_mem_cons.mpr ⟨CCT_151, List.forall_mem_cons.mpr ⟨CCT_152, List.forall_mem_cons.mpr ⟨CCT_153, List.forall_mem_cons.mpr ⟨CCT_154, List.forall_mem_cons.mpr ⟨CCT_155, List.forall_mem_cons.mpr ⟨CCT_156, List.forall_mem_cons.mpr ⟨CCT_157, List.forall_mem_cons.mpr ⟨CCT_158, List.forall_mem_cons.mpr ⟨CCT_159, List.forall_mem_cons.mpr ⟨CCT_160, List.forall_mem_cons.mpr ⟨CCT_161, List.forall_mem_cons.mpr ⟨CCT_162, List.forall_mem_cons.mpr ⟨CCT_163, List.forall_mem_cons.mpr ⟨CCT_164, List.forall_mem_cons.mpr ⟨CCT_165, List.forall_mem_cons.mpr ⟨CCT_166, List.forall_mem_cons.mpr ⟨CCT_167, List.forall_mem_cons.mpr ⟨CCT_168, List.forall_mem_cons.mpr ⟨CCT_169, List.forall_mem_cons.mpr ⟨CCT_170, List.forall_mem_cons.mpr ⟨CCT_171, List.forall_mem_cons.mpr ⟨CCT_172, List.forall_mem_cons.mpr ⟨CCT_173, List.forall_mem_cons.mpr ⟨CCT_174, List.forall_mem_cons.mpr ⟨CCT_175, List.forall_mem_cons.mpr ⟨CCT_176, List.forall_mem_cons.mpr ⟨CCT_177, List.forall_mem_cons.mpr ⟨CCT_178, List.forall_mem_cons.mpr ⟨CCT_179, List.forall_mem_cons.mpr ⟨CCT_180, List.forall_mem_cons.mpr ⟨CCT_181, List.forall_mem_cons.mpr ⟨CCT_182, List.forall_mem_cons.mpr ⟨CCT_183, List.forall_mem_cons.mpr ⟨CCT_184, List.forall_mem_cons.mpr ⟨CCT_185, List.forall_mem_cons.mpr ⟨CCT_186, List.forall_mem_cons.mpr ⟨CCT_187, List.forall_mem_cons.mpr ⟨CCT_188, List.forall_mem_cons.mpr ⟨CCT_189, List.forall_mem_cons.mpr ⟨CCT_190, List.forall_mem_cons.mpr ⟨CCT_191, List.forall_mem_cons.mpr ⟨CCT_192, List.forall_mem_cons.mpr ⟨CCT_193, List.forall_mem_cons.mpr ⟨CCT_194, List.forall_mem_cons.mpr ⟨CCT_195, fun _ h => absurd h List.not_mem_nil⟩⟩⟩⟩⟩⟩⟩⟩⟩⟩⟩⟩⟩⟩⟩⟩⟩⟩⟩⟩⟩⟩⟩⟩⟩⟩⟩⟩⟩⟩⟩⟩⟩⟩⟩⟩⟩⟩⟩⟩⟩⟩⟩⟩⟩⟩⟩⟩⟩⟩⟩⟩⟩⟩⟩⟩⟩⟩⟩⟩⟩⟩⟩⟩⟩⟩⟩⟩⟩⟩⟩⟩⟩⟩⟩⟩⟩⟩⟩⟩⟩⟩⟩⟩⟩⟩⟩⟩⟩⟩⟩⟩⟩⟩⟩⟩⟩⟩⟩⟩⟩⟩⟩⟩⟩⟩⟩⟩⟩⟩⟩⟩⟩⟩⟩⟩⟩⟩⟩⟩⟩⟩⟩⟩⟩⟩⟩⟩⟩⟩⟩⟩⟩⟩⟩⟩⟩⟩⟩⟩⟩⟩⟩⟩⟩⟩⟩⟩⟩⟩⟩⟩⟩⟩⟩⟩⟩⟩⟩⟩⟩⟩⟩⟩⟩⟩⟩⟩⟩⟩⟩⟩⟩⟩⟩⟩⟩⟩⟩⟩⟩⟩⟩⟩⟩⟩⟩⟩⟩⟩⟩⟩⟩⟩⟩⟩
def icond (n : Nat) : Cond := .initialized (my n).cls
def ICT_0 : List (Nat × Nat) := [(75, 0), (71, 1), (71, 2), (71, 3), (71, 4), (71, 5), (71, 6), (71, 7), (70, 8), (70, 9), (70, 10), (70, 11), (70, 12), (70, 13), (70, 14), (68, 15), (68, 16), (68, 17), (68, 18), (68, 19), (72, 20), (72, 21), (72, 22), (69, 23), (69, 24), (67, 25), (67, 26), (67, 27), (67, 28), (67, 29), (67, 30), (67, 31), (67, 32), (67, 33), (67, 34), (67, 35), (67, 36), (67, 37), (67, 38), (67, 39)]
theorem ICT_0_ok : wck icond ICT_0 = true := by decide +kernel
def ICT_1 : List (Nat × Nat) := [(67, 40), (67, 41), (67, 42), (73, 43), (73, 44), (73, 45), (73, 46), (73, 47), (73, 48), (73, 49), (73, 50), (73, 51), (73, 52), (73, 53), (73, 54), (73, 55), (73, 56), (73, 57), (73, 58), (73, 59), (73, 60), (73, 61), (73, 62), (73, 63), (73, 64), (73, 65), (77, 66), (76, 67), (74, 68), (74, 69), (75, 70), (71, 71), (71, 72), (70, 73), (70, 74), (68, 75), (68, 76), (68, 77), (68, 78), (69, 79)]
theorem ICT_1_ok : wck icond ICT_1 = true := by decide +kernel
def ICT_2 : List (Nat × Nat) := [(69, 80), (69, 81), (69, 82), (67, 83), (67, 84), (67, 85), (67, 86), (67, 87), (67, 88), (67, 89), (67, 90), (67, 91), (67, 92), (67, 93), (67, 94), (67, 95), (67, 96), (67, 97), (67, 98), (67, 99), (67, 100), (67, 101), (73, 102), (73, 103), (73, 104), (73, 105), (73, 106), (73, 107), (73, 108), (73, 109), (73, 110), (73, 111), (73, 112), (73, 113), (73, 114), (73, 115), (73, 116), (73, 117), (73, 118), (77, 119)]
theorem ICT_2_ok : wck icond ICT_2 = true := by decide +kernel
def ICT_3 : List (Nat × Nat) := [(76, 120), (70, 121), (70, 122), (69, 123), (67, 124), (67, 125), (67, 126), (67, 127), (67, 128), (67, 129), (73, 130), (73, 131), (73, 132), (73, 133), (73, 134), (73, 135), (73, 136), (73, 137), (73, 138), (73, 139), (73, 140), (73, 141), (73, 142), (73, 143), (73, 144), (73, 145), (73, 146), (73, 147), (73, 148), (73, 149), (73, 150), (67, 151), (67, 152), (67, 153), (67, 154), (67, 155), (67, 156), (73, 157), (73, 158), (73, 159)]
theorem ICT_3_ok : wck icond ICT_3 = true := by decide +kernel
def ICT_4 : List (Nat × Nat) := [(73, 160), (73, 161), (73, 162), (73, 163), (73, 164), (73, 165), (73, 166), (67, 167), (67, 168), (67, 169), (67, 170), (67, 171), (67, 172), (67, 173), (67, 174), (67, 175), (67, 176), (67, 177), (73, 178), (73, 179), (73, 180), (73, 181), (73, 182), (73, 183), (73, 184), (73, 185), (73, 186), (67, 187), (67, 188), (67, 189), (73, 190), (73, 191), (67, 192), (67, 193), (67, 194), (67, 195), (66, 196)]
theorem ICT_4_ok : wck icond ICT_4 = true := by decide +kernel
def ICT : List (Nat × Nat) := ICT_0 ++ (ICT_1 ++ (ICT_2 ++ (ICT_3 ++ (ICT_4))))
theorem ICT_in : ∀ q ∈ ICT, icond q.2 ∈ GW := fun q h => (List.mem_append.mp h).elim (wck_in ICT_0_ok q) ((fun q h => (List.mem_append.mp h).elim (wck_in ICT_1_ok q) ((fun q h => (List.mem_append.mp h).elim (wck_in ICT_2_ok q) ((fun q h => (List.mem_append.mp h).elim (wck_in ICT_3_ok q) ((wck_in ICT_4_ok) q)) q)) q)) q)
def ncond (n : Nat) : Cond := .instanceMethod (my n)
def NCT_0 : List (Nat × Nat) := [(221, 1), (648, 2), (640, 3), (668, 4), (656, 5), (660, 6), (672, 7), (130, 8), (375, 9), (386, 10), (415, 11), (442, 12), (393, 13), (589, 14), (94, 15), (614, 16), (347, 17), (397, 18), (331, 19), (243, 20), (519, 21), (702, 22), (315, 23), (411, 24), (504, 25), (508, 26), (562, 27), (573, 28), (344, 29), (501, 30), (524, 36), (622, 38), (320, 39), (533, 40), (551, 42), (1130, 46), (757, 47), (781, 49), (785, 50), (789, 51)]
theorem NCT_0_ok : wck ncond NCT_0 = true := by decide +kernel
def NCT_1 : List (Nat × Nat) := [(913, 52), (909, 53), (940, 54), (953, 55), (1030, 58), (1047, 59), (1063, 60), (1093, 61), (1122, 62), (1150, 63), (1158, 64), (1197, 65), (687, 71), (693, 72), (390, 73), (382, 74), (90, 75), (351, 76), (327, 77), (360, 78), (124, 79), (408, 80), (420, 81), (424, 82), (335, 83), (496, 84), (512, 85), (566, 86), (601, 87), (607, 88), (629, 89), (633, 90), (644, 91), (664, 92), (698, 93), (706, 94), (710, 95), (714, 96), (747, 97), (724, 98)]
theorem NCT_1_ok : wck ncond NCT_1 = true := by decide +kernel
def NCT_2 : List (Nat × Nat) := [(312, 99), (559, 101), (777, 103), (769, 104), (926, 105), (936, 106), (1026, 107), (1034, 108), (1043, 109), (1059, 110), (1070, 111), (1074, 112), (1079, 113), (1109, 114), (1174, 116), (1192, 117), (1212, 118), (369, 121), (465, 122), (403, 123), (82, 124), (339, 125), (684, 126), (437, 127), (324, 128), (555, 129), (765, 130), (930, 131), (948, 132), (976, 133), (1001, 134), (1013, 135), (1038, 136), (1055, 137), (1089, 138), (1104, 139), (1114, 140), (1133, 141), (1137, 142), (1141, 143)]
theorem NCT_2_ok : wck ncond NCT_2 = true := by decide +kernel
def NCT_3 : List (Nat × Nat) := [(1153, 144), (1161, 145), (1165, 146), (1169, 147), (1177, 148), (1181, 149), (1185, 150), (306, 151), (625, 152), (676, 153), (719, 154), (365, 155), (598, 156), (761, 157), (943, 158), (957, 159), (971, 160), (997, 161), (1009, 162), (1050, 163), (1066, 164), (1084, 165), (1145, 166), (356, 167), (432, 168), (446, 169), (461, 170), (480, 171), (491, 172), (527, 173), (593, 174), (652, 175), (546, 176), (586, 177), (752, 178), (898, 179), (916, 180), (921, 181), (992, 182), (1004, 183)]
theorem NCT_3_ok : wck ncond NCT_3 = true := by decide +kernel
def NCT_4 : List (Nat × Nat) := [(1101, 184), (1125, 185), (1208, 186), (486, 187), (735, 188), (542, 189), (1096, 190), (1200, 191), (537, 192), (577, 193), (581, 194), (727, 195)]
theorem NCT_4_ok : wck ncond NCT_4 = true := by decide +kernel
def NCT : List (Nat × Nat) := NCT_0 ++ (NCT_1 ++ (NCT_2 ++ (NCT_3 ++ (NCT_4))))
theorem NCT_in : ∀ q ∈ NCT, ncond q.2 ∈ GW := fun q h => (List.mem_append.mp h).elim (wck_in NCT_0_ok q) ((fun q h => (List.mem_append.mp h).elim (wck_in NCT_1_ok q) ((fun q h => (List.mem_append.mp h).elim (wck_in NCT_2_ok q) ((fun q h => (List.mem_append.mp h).elim (wck_in NCT_3_ok q) ((wck_in NCT_4_ok) q)) q)) q)) q)
def scond (n : Nat) : Cond := .static (my n)
def SCT_0 : List (Nat × Nat) := [(473, 0), (570, 31), (611, 32), (637, 33), (516, 34), (680, 35), (450, 37), (458, 41), (904, 43), (967, 44), (1189, 45), (772, 48), (964, 56), (979, 57), (1019, 66), (985, 67), (427, 68), (378, 69), (470, 70), (455, 100), (961, 102), (1118, 115), (1016, 119), (982, 120)]
theorem SCT_0_ok : wck scond SCT_0 = true := by decide +kernel
def SCT : List (Nat × Nat) := SCT_0
theorem SCT_in : ∀ q ∈ SCT, scond q.2 ∈ GW := wck_in SCT_0_ok
def vcond (n : Nat) : Cond := .selects (my n).cls (my n) (my n)
def VCT_0 : List (Nat × Nat) := [(649, 2), (641, 3), (669, 4), (657, 5), (661, 6), (673, 7), (5, 9), (7, 10), (416, 11), (443, 12), (394, 13), (590, 14), (95, 15), (615, 16), (348, 17), (398, 18), (332, 19), (520, 21), (703, 22), (316, 23), (412, 24), (505, 25), (509, 26), (563, 27), (574, 28), (3, 29), (14, 30), (15, 36), (24, 38), (1, 39), (16, 40), (19, 42), (59, 46), (29, 47), (34, 49), (35, 50), (36, 51), (38, 52), (37, 53), (41, 54)]
theorem VCT_0_ok : wck vcond VCT_0 = true := by decide +kernel
def VCT_1 : List (Nat × Nat) := [(43, 55), (1031, 58), (50, 59), (53, 60), (55, 61), (58, 62), (60, 63), (61, 64), (63, 65), (688, 71), (694, 72), (8, 73), (6, 74), (352, 76), (328, 77), (361, 78), (9, 80), (10, 81), (11, 82), (336, 83), (497, 84), (513, 85), (567, 86), (602, 87), (608, 88), (630, 89), (634, 90), (645, 91), (665, 92), (699, 93), (707, 94), (711, 95), (715, 96), (28, 97), (26, 98), (0, 99), (21, 101), (33, 103), (32, 104), (39, 105)]
theorem VCT_1_ok : wck vcond VCT_1 = true := by decide +kernel
def VCT_2 : List (Nat × Nat) := [(40, 106), (1027, 107), (1035, 108), (49, 109), (52, 110), (1071, 111), (1075, 112), (1080, 113), (57, 114), (62, 116), (1193, 117), (65, 118), (370, 121), (466, 122), (404, 123), (340, 125), (25, 126), (12, 127), (2, 128), (20, 129), (31, 130), (931, 131), (42, 132), (44, 133), (46, 134), (48, 135), (1039, 136), (51, 137), (54, 138), (1105, 139), (1115, 140), (1134, 141), (1138, 142), (1142, 143), (1154, 144), (1162, 145), (1166, 146), (1170, 147), (1178, 148), (1182, 149)]
theorem VCT_2_ok : wck vcond VCT_2 = true := by decide +kernel
def VCT_3 : List (Nat × Nat) := [(1186, 150), (307, 151), (626, 152), (677, 153), (720, 154), (4, 155), (23, 156), (30, 157), (944, 158), (958, 159), (972, 160), (45, 161), (47, 162), (1051, 163), (1067, 164), (1085, 165), (1146, 166), (357, 167), (433, 168), (447, 169), (462, 170), (481, 171), (13, 172), (528, 173), (594, 174), (653, 175), (18, 176), (22, 177), (899, 179), (917, 180), (922, 181), (993, 182), (1005, 183), (56, 184), (1126, 185), (64, 186), (487, 187), (27, 188), (17, 189), (1097, 190)]
theorem VCT_3_ok : wck vcond VCT_3 = true := by decide +kernel
def VCT_4 : List (Nat × Nat) := [(1201, 191), (538, 192), (578, 193), (582, 194), (728, 195)]
theorem VCT_4_ok : wck vcond VCT_4 = true := by decide +kernel
def VCT : List (Nat × Nat) := VCT_0 ++ (VCT_1 ++ (VCT_2 ++ (VCT_3 ++ (VCT_4))))
theorem VCT_in : ∀ q ∈ VCT, vcond q.2 ∈ GW := fun q h => (List.mem_append.mp h).elim (wck_in VCT_0_ok q) ((fun q h => (List.mem_append.mp h).elim (wck_in VCT_1_ok q) ((fun q h => (List.mem_append.mp h).elim (wck_in VCT_2_ok q) ((fun q h => (List.mem_append.mp h).elim (wck_in VCT_3_ok q) ((wck_in VCT_4_ok) q)) q)) q)) q)
def mcond (e : Nat × Nat × Nat) : Cond := .methodLink (ow e.1) e.2.1 (my e.2.2)
def MLK_0 : List (Nat × (Nat × Nat × Nat)) := [(81, (0, 9, 124)), (89, (7, 11, 75)), (93, (4, 19, 15)), (123, (7, 75, 79)), (129, (6, 47, 8)), (305, (0, 13, 151)), (309, (7, 83, 15)), (310, (7, 87, 99)), (314, (7, 353, 23)), (318, (7, 90, 39)), (322, (7, 93, 128)), (326, (7, 112, 77)), (330, (4, 39, 19)), (334, (0, 18, 83)), (338, (0, 23, 125)), (342, (7, 100, 29)), (346, (7, 104, 17)), (350, (7, 108, 76)), (354, (4, 35, 17)), (355, (0, 28, 167)), (359, (7, 115, 78)), (363, (7, 118, 155)), (367, (7, 356, 19)), (368, (7, 362, 121)), (373, (3, 49, 9)), (377, (3, 53, 69)), (380, (3, 59, 74)), (384, (3, 79, 10)), (388, (3, 63, 73)), (392, (3, 67, 13)), (396, (3, 71, 18)), (401, (3, 76, 17)), (402, (7, 366, 123)), (406, (6, 55, 80)), (410, (6, 71, 24)), (414, (6, 78, 11)), (418, (6, 58, 81)), (422, (6, 61, 82)), (426, (6, 85, 68)), (429, (6, 93, 13))]
theorem MLK_0_ok : wck mcond MLK_0 = true := by decide +kernel
def MLK_1 : List (Nat × (Nat × Nat × Nat)) := [(430, (6, 97, 18)), (431, (0, 32, 168)), (435, (7, 125, 127)), (440, (7, 142, 24)), (441, (7, 151, 12)), (445, (0, 36, 169)), (449, (7, 154, 37)), (454, (7, 164, 100)), (457, (7, 249, 41)), (460, (0, 41, 170)), (464, (7, 168, 122)), (469, (3, 84, 70)), (472, (1, 7, 0)), (479, (0, 45, 171)), (484, (7, 177, 70)), (485, (0, 50, 187)), (489, (7, 186, 172)), (494, (7, 191, 0)), (495, (0, 55, 84)), (499, (7, 198, 30)), (503, (0, 59, 25)), (507, (0, 64, 26)), (511, (0, 68, 85)), (515, (7, 201, 34)), (518, (7, 204, 21)), (522, (7, 208, 36)), (526, (0, 72, 173)), (530, (7, 218, 11)), (531, (7, 221, 40)), (535, (7, 224, 18)), (536, (0, 76, 192)), (540, (7, 227, 189)), (544, (7, 378, 176)), (548, (7, 372, 13)), (549, (7, 375, 42)), (553, (7, 230, 129)), (557, (7, 233, 101)), (561, (0, 80, 27)), (565, (0, 84, 86)), (569, (7, 236, 31))]
theorem MLK_1_ok : wck mcond MLK_1 = true := by decide +kernel
def MLK_2 : List (Nat × (Nat × Nat × Nat)) := [(572, (0, 88, 28)), (576, (0, 92, 193)), (580, (0, 96, 194)), (584, (7, 239, 177)), (588, (7, 381, 14)), (592, (0, 100, 174)), (596, (7, 242, 156)), (600, (0, 104, 87)), (606, (0, 109, 88)), (610, (7, 253, 32)), (613, (7, 256, 16)), (620, (7, 260, 38)), (624, (0, 113, 152)), (628, (0, 117, 89)), (632, (0, 121, 90)), (636, (7, 263, 33)), (639, (7, 266, 3)), (643, (0, 125, 91)), (647, (7, 267, 2)), (651, (0, 129, 175)), (655, (7, 269, 5)), (659, (7, 273, 6)), (663, (0, 134, 92)), (667, (7, 277, 4)), (671, (7, 280, 7)), (675, (0, 138, 153)), (679, (7, 283, 35)), (682, (7, 287, 126)), (686, (7, 291, 71)), (690, (2, 29, 4)), (691, (2, 33, 5)), (692, (7, 295, 72)), (696, (2, 37, 6)), (697, (0, 143, 93)), (701, (7, 299, 22)), (705, (0, 147, 94)), (709, (0, 151, 95)), (713, (0, 155, 96)), (717, (7, 301, 69)), (718, (0, 159, 154))]
theorem MLK_2_ok : wck mcond MLK_2 = true := by decide +kernel
def MLK_3 : List (Nat × (Nat × Nat × Nat)) := [(722, (7, 306, 98)), (726, (0, 163, 195)), (732, (7, 313, 154)), (733, (7, 316, 188)), (737, (7, 334, 167)), (738, (7, 337, 171)), (739, (7, 341, 168)), (740, (7, 345, 169)), (741, (7, 348, 170)), (742, (7, 320, 187)), (743, (7, 324, 174)), (744, (7, 327, 87)), (745, (7, 330, 97)), (751, (0, 12, 178)), (755, (8, 95, 47)), (759, (8, 98, 157)), (763, (8, 127, 130)), (767, (8, 124, 104)), (771, (8, 120, 48)), (775, (8, 131, 103)), (779, (8, 113, 49)), (783, (8, 116, 50)), (787, (8, 135, 51)), (897, (0, 17, 179)), (903, (8, 102, 43)), (907, (8, 154, 53)), (911, (8, 157, 52)), (915, (0, 22, 180)), (920, (0, 27, 181)), (924, (8, 163, 105)), (929, (0, 31, 131)), (934, (8, 174, 106)), (938, (8, 169, 54)), (942, (0, 35, 158)), (946, (8, 177, 132)), (951, (8, 183, 55)), (956, (0, 40, 159)), (960, (8, 187, 102)), (963, (8, 190, 56)), (966, (8, 194, 44))]
theorem MLK_3_ok : wck mcond MLK_3 = true := by decide +kernel
def MLK_4 : List (Nat × (Nat × Nat × Nat)) := [(970, (0, 44, 160)), (974, (8, 207, 133)), (978, (8, 197, 57)), (981, (8, 201, 120)), (984, (10, 59, 67)), (991, (0, 49, 182)), (995, (8, 213, 161)), (999, (8, 210, 134)), (1003, (0, 54, 183)), (1007, (8, 227, 162)), (1011, (8, 217, 135)), (1015, (8, 221, 119)), (1018, (9, 122, 66)), (1025, (0, 58, 107)), (1029, (0, 63, 58)), (1033, (0, 67, 108)), (1037, (0, 75, 136)), (1041, (8, 240, 109)), (1045, (8, 237, 59)), (1049, (0, 95, 163)), (1053, (8, 252, 137)), (1057, (8, 249, 110)), (1061, (8, 246, 60)), (1065, (0, 79, 164)), (1069, (0, 83, 111)), (1073, (0, 87, 112)), (1078, (0, 91, 113)), (1083, (0, 99, 165)), (1087, (8, 262, 138)), (1091, (8, 259, 61)), (1095, (0, 103, 190)), (1099, (8, 265, 184)), (1103, (0, 108, 139)), (1107, (8, 272, 114)), (1113, (0, 112, 140)), (1117, (8, 278, 115)), (1120, (8, 281, 62)), (1124, (0, 116, 185)), (1128, (8, 284, 46)), (1132, (0, 120, 141))]
theorem MLK_4_ok : wck mcond MLK_4 = true := by decide +kernel
def MLK_5 : List (Nat × (Nat × Nat × Nat)) := [(1136, (0, 124, 142)), (1140, (0, 128, 143)), (1144, (0, 133, 166)), (1148, (8, 287, 63)), (1152, (0, 137, 144)), (1156, (8, 290, 64)), (1160, (0, 142, 145)), (1164, (0, 146, 146)), (1168, (0, 150, 147)), (1172, (8, 294, 116)), (1176, (0, 154, 148)), (1180, (0, 71, 149)), (1184, (0, 158, 150)), (1188, (8, 297, 45)), (1191, (0, 162, 117)), (1195, (8, 300, 65)), (1199, (0, 166, 191)), (1205, (8, 307, 117)), (1206, (8, 310, 186)), (1210, (8, 314, 118))]
theorem MLK_5_ok : wck mcond MLK_5 = true := by decide +kernel
def MLK : List (Nat × (Nat × Nat × Nat)) := MLK_0 ++ (MLK_1 ++ (MLK_2 ++ (MLK_3 ++ (MLK_4 ++ (MLK_5)))))
theorem MLK_in : ∀ q ∈ MLK, mcond q.2 ∈ GW := fun q h => (List.mem_append.mp h).elim (wck_in MLK_0_ok q) ((fun q h => (List.mem_append.mp h).elim (wck_in MLK_1_ok q) ((fun q h => (List.mem_append.mp h).elim (wck_in MLK_2_ok q) ((fun q h => (List.mem_append.mp h).elim (wck_in MLK_3_ok q) ((fun q h => (List.mem_append.mp h).elim (wck_in MLK_4_ok q) ((wck_in MLK_5_ok) q)) q)) q)) q)) q)
def ocond (e : Nat × Nat) : Cond := .methodLink (ow e.1) e.2 objectInit
def OIT_0 : List (Nat × (Nat × Nat)) := [(84, (7, 3)), (92, (4, 3)), (126, (6, 3)), (132, (3, 3)), (223, (2, 3)), (245, (5, 3)), (754, (8, 1))]
theorem OIT_0_ok : wck ocond OIT_0 = true := by decide +kernel
def OIT : List (Nat × (Nat × Nat)) := OIT_0
theorem OIT_in : ∀ q ∈ OIT, ocond q.2 ∈ GW := wck_in OIT_0_ok
theorem OI_i : Cond.instanceMethod objectInit ∈ GW := zz_gm 85 (by decide +kernel) (by decide +kernel)
theorem OI_c : Cond.code objectInit ⟨#[0xb1]⟩ 1 none ∈ GW := zz_gm 86 (by decide +kernel) (by decide +kernel)
def NAcond (e : Nat × Nat) : Cond := .methodLink (ow e.1) e.2 arraycopyName
def NAT_0 : List (Nat × (Nat × Nat)) := [(617, (4, 29))]
theorem NAT_0_ok : wck NAcond NAT_0 = true := by decide +kernel
def NAT : List (Nat × (Nat × Nat)) := NAT_0
theorem NAT_in : ∀ q ∈ NAT, NAcond q.2 ∈ GW := wck_in NAT_0_ok
theorem NA_n : Cond.native arraycopyName ∈ GW := zz_gm 619 (by decide +kernel) (by decide +kernel)
theorem NA_s : Cond.static arraycopyName ∈ GW := zz_gm 618 (by decide +kernel) (by decide +kernel)
theorem NA_i : Cond.initialized "java/lang/System" ∈ GW := zz_gm 78 (by decide +kernel) (by decide +kernel)
def NFcond (e : Nat × Nat) : Cond := .methodLink (ow e.1) e.2 (⟨"java/lang/Float", "floatToRawIntBits", "(F)I"⟩ : MethodName)
def NFT_0 : List (Nat × (Nat × Nat)) := [(987, (10, 74))]
theorem NFT_0_ok : wck NFcond NFT_0 = true := by decide +kernel
def NFT : List (Nat × (Nat × Nat)) := NFT_0
theorem NFT_in : ∀ q ∈ NFT, NFcond q.2 ∈ GW := wck_in NFT_0_ok
theorem NF_n : Cond.native (⟨"java/lang/Float", "floatToRawIntBits", "(F)I"⟩ : MethodName) ∈ GW := zz_gm 989 (by decide +kernel) (by decide +kernel)
theorem NF_s : Cond.static (⟨"java/lang/Float", "floatToRawIntBits", "(F)I"⟩ : MethodName) ∈ GW := zz_gm 988 (by decide +kernel) (by decide +kernel)
theorem NF_i : Cond.initialized "java/lang/Float" ∈ GW := zz_gm 76 (by decide +kernel) (by decide +kernel)
def NDcond (e : Nat × Nat) : Cond := .methodLink (ow e.1) e.2 (⟨"java/lang/Double", "doubleToRawLongBits", "(D)J"⟩ : MethodName)
def NDT_0 : List (Nat × (Nat × Nat)) := [(1021, (9, 134))]
theorem NDT_0_ok : wck NDcond NDT_0 = true := by decide +kernel
def NDT : List (Nat × (Nat × Nat)) := NDT_0
theorem NDT_in : ∀ q ∈ NDT, NDcond q.2 ∈ GW := wck_in NDT_0_ok
theorem ND_n : Cond.native (⟨"java/lang/Double", "doubleToRawLongBits", "(D)J"⟩ : MethodName) ∈ GW := zz_gm 1023 (by decide +kernel) (by decide +kernel)
theorem ND_s : Cond.static (⟨"java/lang/Double", "doubleToRawLongBits", "(D)J"⟩ : MethodName) ∈ GW := zz_gm 1022 (by decide +kernel) (by decide +kernel)
theorem ND_i : Cond.initialized "java/lang/Double" ∈ GW := zz_gm 77 (by decide +kernel) (by decide +kernel)
def kcond (e : Nat × Nat × Nat × Int) : Cond := match e.2.2.1 with
  | 4 => .constant (ow e.1) e.2.1 (Int32.ofInt e.2.2.2)
  | 6 => .constantLong (ow e.1) e.2.1 (Int64.ofInt e.2.2.2)
  | 8 => .constantDouble (ow e.1) e.2.1 (UInt64.ofNat e.2.2.2.toNat)
  | _ => .constantFloat (ow e.1) e.2.1 (UInt32.ofNat e.2.2.2.toNat)
def KCT_0 : List (Nat × (Nat × Nat × Nat × Int)) := [(372, (3, 47, 6, 4294967296)), (400, (3, 74, 6, 16)), (439, (7, 129, 4, -2147483648)), (452, (7, 351, 6, -9223372036854775808)), (453, (7, 162, 6, 4294967296)), (468, (3, 83, 9, 1333788672)), (475, (1, 15, 6, 1023)), (476, (1, 17, 8, 4611686018427387904)), (477, (1, 19, 8, 4841369599423283200)), (478, (1, 13, 6, 7516192768)), (483, (7, 176, 9, 1333788672)), (493, (7, 189, 8, 4751297606875873280)), (604, (7, 245, 6, 576460752303423487)), (605, (7, 247, 6, 16)), (730, (7, 309, 6, 17)), (731, (7, 311, 6, 31)), (774, (8, 111, 6, 16)), (901, (8, 145, 6, 2)), (902, (8, 147, 6, 5)), (906, (8, 149, 6, 3)), (919, (8, 161, 6, 6)), (928, (8, 167, 6, 15)), (933, (8, 172, 6, 7)), (950, (8, 181, 6, 10)), (955, (8, 186, 4, -2147483648)), (969, (8, 106, 6, -9223372036854775808)), (990, (10, 77, 4, 2143289344)), (1024, (9, 137, 6, 9221120237041090560)), (1077, (8, 255, 6, 63)), (1082, (8, 257, 6, 8)), (1111, (8, 268, 6, 9223372036854775807)), (1112, (8, 270, 6, 576460752303423487)), (1203, (8, 305, 6, 17)), (1204, (8, 303, 6, 31))]
theorem KCT_0_ok : wck kcond KCT_0 = true := by decide +kernel
def KCT : List (Nat × (Nat × Nat × Nat × Int)) := KCT_0
theorem KCT_in : ∀ q ∈ KCT, kcond q.2 ∈ GW := wck_in KCT_0_ok
def clR (ci : Nat) : String := (CL.getD ci (RX1, TX1, 5)).1
def lcond (e : Nat × Nat × Nat) : Cond := .classLink (ow e.1) e.2.1 (clR e.2.2)
def LCT_0 : List (Nat × (Nat × Nat × Nat)) := [(79, (0, 7, 5)), (87, (7, 9, 2)), (115, (7, 16, 4)), (118, (7, 30, 0)), (120, (7, 36, 3)), (127, (6, 45, 1)), (749, (0, 10, 6))]
theorem LCT_0_ok : wck lcond LCT_0 = true := by decide +kernel
def LCT : List (Nat × (Nat × Nat × Nat)) := LCT_0
theorem LCT_in : ∀ q ∈ LCT, lcond q.2 ∈ GW := wck_in LCT_0_ok
def clN (ci : Nat) : Nat := (CL.getD ci (RX1, TX1, 5)).2.2
def jcond (ci : Nat) : Cond := .instantiable (clR ci) (clN ci)
def JCT_0 : List (Nat × Nat) := [(219, 0), (128, 1), (88, 2), (241, 3), (122, 4), (80, 5), (750, 6)]
theorem JCT_0_ok : wck jcond JCT_0 = true := by decide +kernel
def JCT : List (Nat × Nat) := JCT_0
theorem JCT_in : ∀ q ∈ JCT, jcond q.2 ∈ GW := wck_in JCT_0_ok
def hcond (ci : Nat) : Cond := .initialized (clR ci)
def HCT_0 : List (Nat × Nat) := [(71, 0), (70, 1), (68, 2), (72, 3), (69, 4), (67, 5), (73, 6)]
theorem HCT_0_ok : wck hcond HCT_0 = true := by decide +kernel
def HCT : List (Nat × Nat) := HCT_0
theorem HCT_in : ∀ q ∈ HCT, hcond q.2 ∈ GW := wck_in HCT_0_ok
def ucond (e : Nat × Nat) : Cond := u_lay (clR e.1) (clT e.1) e.2
def UCT_0 : List (Nat × (Nat × Nat)) := [(230, (0, 0)), (232, (0, 1)), (234, (0, 2)), (236, (0, 3)), (238, (0, 4)), (152, (1, 0)), (154, (1, 1)), (156, (1, 2)), (158, (1, 3)), (160, (1, 4)), (162, (1, 5)), (164, (1, 6)), (166, (1, 7)), (168, (1, 8)), (170, (1, 9)), (105, (2, 0)), (107, (2, 1)), (109, (2, 2)), (111, (2, 3)), (250, (3, 0)), (252, (3, 1)), (196, (4, 0)), (198, (4, 1)), (200, (4, 2)), (202, (4, 3)), (204, (4, 4)), (206, (4, 5)), (208, (4, 6)), (210, (4, 7)), (212, (4, 8))]
theorem UCT_0_ok : wck ucond UCT_0 = true := by decide +kernel
def UCT_1 : List (Nat × (Nat × Nat)) := [(214, (4, 9)), (216, (4, 10)), (272, (5, 0)), (274, (5, 1)), (276, (5, 2)), (278, (5, 3)), (280, (5, 4)), (282, (5, 5)), (284, (5, 6)), (286, (5, 7)), (288, (5, 8)), (290, (5, 9)), (292, (5, 10)), (294, (5, 11)), (296, (5, 12)), (298, (5, 13)), (300, (5, 14)), (302, (5, 15)), (826, (6, 0)), (828, (6, 1)), (830, (6, 2)), (832, (6, 3)), (834, (6, 4)), (836, (6, 5)), (838, (6, 6)), (840, (6, 7)), (842, (6, 8)), (844, (6, 9)), (846, (6, 10)), (848, (6, 11))]
theorem UCT_1_ok : wck ucond UCT_1 = true := by decide +kernel
def UCT_2 : List (Nat × (Nat × Nat)) := [(850, (6, 12)), (852, (6, 13)), (854, (6, 14)), (856, (6, 15)), (858, (6, 16)), (860, (6, 17)), (862, (6, 18)), (864, (6, 19)), (866, (6, 20)), (868, (6, 21)), (870, (6, 22)), (872, (6, 23)), (874, (6, 24)), (876, (6, 25)), (878, (6, 26)), (880, (6, 27)), (882, (6, 28)), (884, (6, 29)), (886, (6, 30)), (888, (6, 31)), (890, (6, 32)), (892, (6, 33)), (894, (6, 34))]
theorem UCT_2_ok : wck ucond UCT_2 = true := by decide +kernel
def UCT : List (Nat × (Nat × Nat)) := UCT_0 ++ (UCT_1 ++ (UCT_2))
theorem UCT_in : ∀ q ∈ UCT, ucond q.2 ∈ GW := fun q h => (List.mem_append.mp h).elim (wck_in UCT_0_ok q) ((fun q h => (List.mem_append.mp h).elim (wck_in UCT_1_ok q) ((wck_in UCT_2_ok) q)) q)
def acond (t : FieldType) : Cond := .arrayClass t
def ACT_0 : List (Nat × FieldType) := [(114, .int), (255, .byte), (173, .boolean), (175, .long), (174, .double)]
theorem ACT_0_ok : wck acond ACT_0 = true := by decide +kernel
def ACT : List (Nat × FieldType) := ACT_0
theorem ACT_in : ∀ q ∈ ACT, acond q.2 ∈ GW := wck_in ACT_0_ok
