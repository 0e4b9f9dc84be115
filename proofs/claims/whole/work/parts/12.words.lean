/-! ===== words of the tables that the methods need (printed by wip/whole/gen_tab.py) ===== -/
def ri_G : List Cond := lw_tbl.filter goodWord
theorem ri_G_good : ∀ w ∈ ri_G, (w.onTables && w.keeps) = true ∨ ∃ ty, w = .arrayClass ty := fun _ h => good_of_word (List.mem_filter.mp h).2
theorem ri_G_in : ∀ w ∈ ri_G, w ∈ lw_tbl := fun _ h => (List.mem_filter.mp h).1
theorem ri_t1 : ∀ w ∈ tables_1_1, w ∈ lw_tbl := fun w h => List.mem_append_right _ (List.mem_append_left _ h)
theorem ri_tg1 {w : Cond} (h : w ∈ tables_1_1) (hg : goodWord w = true) : w ∈ ri_G := List.mem_filter.mpr ⟨ri_t1 w h, hg⟩
theorem ri_t2 : ∀ w ∈ tables_1_2, w ∈ lw_tbl := fun w h => List.mem_append_right _ (List.mem_append_right _ (List.mem_append_left _ h))
theorem ri_tg2 {w : Cond} (h : w ∈ tables_1_2) (hg : goodWord w = true) : w ∈ ri_G := List.mem_filter.mpr ⟨ri_t2 w h, hg⟩
theorem ri_t3 : ∀ w ∈ tables_1_3, w ∈ lw_tbl := fun w h => List.mem_append_right _ (List.mem_append_right _ (List.mem_append_right _ (List.mem_append_left _ h)))
theorem ri_tg3 {w : Cond} (h : w ∈ tables_1_3) (hg : goodWord w = true) : w ∈ ri_G := List.mem_filter.mpr ⟨ri_t3 w h, hg⟩
theorem ri_t4 : ∀ w ∈ tables_1_4, w ∈ lw_tbl := fun w h => List.mem_append_right _ (List.mem_append_right _ (List.mem_append_right _ (List.mem_append_right _ (List.mem_append_left _ h))))
theorem ri_tg4 {w : Cond} (h : w ∈ tables_1_4) (hg : goodWord w = true) : w ∈ ri_G := List.mem_filter.mpr ⟨ri_t4 w h, hg⟩
theorem ri_t5 : ∀ w ∈ tables_1_5, w ∈ lw_tbl := fun w h => List.mem_append_right _ (List.mem_append_right _ (List.mem_append_right _ (List.mem_append_right _ (List.mem_append_right _ (List.mem_append_left _ h)))))
theorem ri_tg5 {w : Cond} (h : w ∈ tables_1_5) (hg : goodWord w = true) : w ∈ ri_G := List.mem_filter.mpr ⟨ri_t5 w h, hg⟩
theorem ri_t6 : ∀ w ∈ tables_1_6, w ∈ lw_tbl := fun w h => List.mem_append_right _ (List.mem_append_right _ (List.mem_append_right _ (List.mem_append_right _ (List.mem_append_right _ (List.mem_append_right _ (List.mem_append_left _ h))))))
theorem ri_tg6 {w : Cond} (h : w ∈ tables_1_6) (hg : goodWord w = true) : w ∈ ri_G := List.mem_filter.mpr ⟨ri_t6 w h, hg⟩
theorem ri_t7 : ∀ w ∈ tables_1_7, w ∈ lw_tbl := fun w h => List.mem_append_right _ (List.mem_append_right _ (List.mem_append_right _ (List.mem_append_right _ (List.mem_append_right _ (List.mem_append_right _ (List.mem_append_right _ (List.mem_append_left _ h)))))))
theorem ri_tg7 {w : Cond} (h : w ∈ tables_1_7) (hg : goodWord w = true) : w ∈ ri_G := List.mem_filter.mpr ⟨ri_t7 w h, hg⟩
theorem ri_t8 : ∀ w ∈ tables_1_8, w ∈ lw_tbl := fun w h => List.mem_append_right _ (List.mem_append_right _ (List.mem_append_right _ (List.mem_append_right _ (List.mem_append_right _ (List.mem_append_right _ (List.mem_append_right _ (List.mem_append_right _ (List.mem_append_left _ h))))))))
theorem ri_tg8 {w : Cond} (h : w ∈ tables_1_8) (hg : goodWord w = true) : w ∈ ri_G := List.mem_filter.mpr ⟨ri_t8 w h, hg⟩
theorem ri_t9 : ∀ w ∈ tables_1_9, w ∈ lw_tbl := fun w h => List.mem_append_right _ (List.mem_append_right _ (List.mem_append_right _ (List.mem_append_right _ (List.mem_append_right _ (List.mem_append_right _ (List.mem_append_right _ (List.mem_append_right _ (List.mem_append_right _ (h)))))))))
theorem ri_tg9 {w : Cond} (h : w ∈ tables_1_9) (hg : goodWord w = true) : w ∈ ri_G := List.mem_filter.mpr ⟨ri_t9 w h, hg⟩
set_option maxRecDepth 20000 in
theorem ri_ps1 : ∀ q ∈ lw_privs_1, Cond.selects q.1.cls q.1 q.1 ∈ ri_G := fun q h => List.mem_filter.mpr ⟨List.mem_append_left _ (List.mem_map.mpr ⟨q, List.mem_append_left _ h, rfl⟩), rfl⟩
set_option maxRecDepth 20000 in
theorem ri_ps2 : ∀ q ∈ lw_privs_2, Cond.selects q.1.cls q.1 q.1 ∈ ri_G := fun q h => List.mem_filter.mpr ⟨List.mem_append_left _ (List.mem_map.mpr ⟨q, List.mem_append_right _ (List.mem_append_left _ h), rfl⟩), rfl⟩
set_option maxRecDepth 20000 in
theorem ri_ps3 : ∀ q ∈ lw_privs_3, Cond.selects q.1.cls q.1 q.1 ∈ ri_G := fun q h => List.mem_filter.mpr ⟨List.mem_append_left _ (List.mem_map.mpr ⟨q, List.mem_append_right _ (List.mem_append_right _ (List.mem_append_left _ h)), rfl⟩), rfl⟩
set_option maxRecDepth 20000 in
theorem ri_ps4 : ∀ q ∈ lw_privs_4, Cond.selects q.1.cls q.1 q.1 ∈ ri_G := fun q h => List.mem_filter.mpr ⟨List.mem_append_left _ (List.mem_map.mpr ⟨q, List.mem_append_right _ (List.mem_append_right _ (List.mem_append_right _ (List.mem_append_left _ h))), rfl⟩), rfl⟩
set_option maxRecDepth 20000 in
theorem ri_ps5 : ∀ q ∈ lw_privs_5, Cond.selects q.1.cls q.1 q.1 ∈ ri_G := fun q h => List.mem_filter.mpr ⟨List.mem_append_left _ (List.mem_map.mpr ⟨q, List.mem_append_right _ (List.mem_append_right _ (List.mem_append_right _ (List.mem_append_right _ (List.mem_append_left _ h)))), rfl⟩), rfl⟩
set_option maxRecDepth 20000 in
theorem ri_ps6 : ∀ q ∈ lw_privs_6, Cond.selects q.1.cls q.1 q.1 ∈ ri_G := fun q h => List.mem_filter.mpr ⟨List.mem_append_left _ (List.mem_map.mpr ⟨q, List.mem_append_right _ (List.mem_append_right _ (List.mem_append_right _ (List.mem_append_right _ (List.mem_append_right _ (List.mem_append_left _ h))))), rfl⟩), rfl⟩
set_option maxRecDepth 20000 in
theorem ri_ps7 : ∀ q ∈ lw_privs_7, Cond.selects q.1.cls q.1 q.1 ∈ ri_G := fun q h => List.mem_filter.mpr ⟨List.mem_append_left _ (List.mem_map.mpr ⟨q, List.mem_append_right _ (List.mem_append_right _ (List.mem_append_right _ (List.mem_append_right _ (List.mem_append_right _ (List.mem_append_right _ (List.mem_append_left _ h)))))), rfl⟩), rfl⟩
set_option maxRecDepth 20000 in
theorem ri_ps8 : ∀ q ∈ lw_privs_8, Cond.selects q.1.cls q.1 q.1 ∈ ri_G := fun q h => List.mem_filter.mpr ⟨List.mem_append_left _ (List.mem_map.mpr ⟨q, List.mem_append_right _ (List.mem_append_right _ (List.mem_append_right _ (List.mem_append_right _ (List.mem_append_right _ (List.mem_append_right _ (List.mem_append_right _ (h))))))), rfl⟩), rfl⟩
def ri_names : List MethodName := [yX0_init, yX0_learn, yX0_learnPlaces, yX0_findTaker, yX0_addGenerator, yX0_growPlaces, yX0_closure, yX0_imageBy, yX0_takeFirst, yX0_imagesOf, yX0_sourceOf, yX1_init, yX1_learn, yX2_init, yX2_learnFrom, yX2_reachOf, yX2_interval, yX2_closer, yX3_init, yX3_reset, yX3_become, yX3_holds, yX3_everyone, yX3_linked, yX3_link, yX3_unlink, yX3_lineCount, yX3_connected, yX3_stepsBetween, yX3_besideAny, yX3_multiply, yX3_copiesBeside, yX3_spread, yX4_init, yX4_fewest, yX4_paint, yX4_tightest, yX4_barred, yX5_init, yX5_learn, yX5_learnCorners, yX5_linesOf, yX5_pointsWith, yX5_degree, yX5_shape, yX5_extract, yX6_init, yX6_begin, yX6_become, yX6_push, yX6_pop, yX7_init, yX7_append, yX7_read, yX7_readStatement, yX7_kindOfWord, yX7_readProduct, yX7_readPoints, yX7_readLine, yX7_readNumber, yX7_fail, yX7_advance, yX7_passWord, yX7_passNumber, yX7_isWord, yX7_signAt, yX7_isLetter, yX7_isDigit, yX8_init, yX8_learnKin, yX8_splitBy, yX8_withCount, yX8_begin, yX8_pin, yX8_narrow, yX8_extend, yX8_tightest, yX9_init, yX9_learn, yX9_countParts, yX9_separate, yX9_uniteAcross, yX9_uniteForks, yX9_unite, yX9_root, yX9_label, yX10_init, yX10_forget, yX10_measured, yX10_numbered, yX10_sorted, yX10_partCount, yX11_init, yX11_feed, yX11_end, yX11_net, yX11_fault, yX11_count, yX11_line, yX11_between, yX11_beside, yX11_far, yX11_ways, yX11_amid, yX11_theta, yX11_tau, yX11_first, yX11_layer, yX11_size, yX11_corner, yX11_at, yX11_moved, yX11_partFar, yX11_alike, yX11_kind, yX11_tell, yX11_octet, yX11_route, yX11_symmetries, yX11_allSymmetries, yX11_orbit, yX11_takes, yX11_moves, yX11_fixers, yX11_orbits, yX11_shell, yX11_pairs, yX11_colours, yX11_partColours, yX11_trees, yX11_width, yX11_wiener, yX11_centre, yX11_even, yX11_nearer, yX11_quotient, yX11_place, yX11_sideFar, yX11_cubic, yX11_hull, yX11_median, yX11_medians, yX11_without, yX11_with, yX11_loosest, yX11_join, yX11_cut, yX11_times, yX11_keep, yX11_image, yX11_back, yX11_undo, yX11_anew, yX11_forget, yX11_learnParts, yX11_learnChain, yX11_isPoint, yX11_arePoints, yX11_isLine, yX11_isPart, yX11_isSide, yX11_imageOf, yX11_tallyShell, yX11_tallyOf, yX11_stepsInPart, yX11_nextInPart, yX11_isEven, yX11_breakInPieces, yX11_linkPieces, yX11_intervals, yX11_middle, yX11_partsWithout, yX11_findLoosest, yX11_writePart, yX11_write, yX11_writeNumber, yX11_writeSign, yX11_lowest, yX11_reach, yX11_mark, yX11_least, yX11_primeFactors, yX11_determinant, yX11_pivotOf, yX11_swap, yX11_clearBelow, yX11_power, yX12_in, yX12_has, yX12_init, yX12_feed, yX12_end, yX12_isAt, yX12_next, yX12_faults, yX12_isWord, yX12_passes, yX12_reads, yX12_isBeside, yX12_ties, yX12_unties, yX12_readsNet, yX12_readsLine, yX12_readsTimes, yX12_kindHere, yX12_readsAll, yX12_net, yX12_fault, yX12_multiplies, yX12_is, yX12_isPoint, yX12_laysFar, yX12_farOf, yX12_isWhole, yX12_isTheta, yX12_joint, yX12_isTau, yX12_sets, yX12_joins, yX12_laysLines, yX12_lays, yX12_isLine, yX12_isPart, yX12_isSide, yX12_areTwo, yX12_count, yX12_line, yX12_lineOf, yX12_between, yX12_beside, yX12_far, yX12_ways, yX12_amidOf, yX12_amid, yX12_theta, yX12_tau, yX12_first, yX12_reach, yX12_layer, yX12_size, yX12_nth, yX12_corner, yX12_cornerOf, yX12_at, yX12_movedOf, yX12_moved, yX12_partFar, yX12_linesOf, yX12_kindOf, yX12_kind, yX12_says, yX12_saysNumber, yX12_tell, yX12_octet, yX12_stepOn, yX12_route, yX12_laysHere, yX12_looks, yX12_seesAlike, yX12_isAtHand, yX12_laysKinds, yX12_canGo, yX12_narrows, yX12_canGoOn, yX12_leaving, yX12_laysSame, yX12_allBits, yX12_alike, yX12_symmetries, yX12_allOf, yX12_allSymmetries, yX12_orbitOf, yX12_orbit, yX12_takes, yX12_isPrefix, yX12_moves, yX12_fixers, yX12_orbits, yX12_shell, yX12_pairs, yX12_farthest, yX12_width, yX12_wiener, yX12_centre, yX12_canColour, yX12_coloursOf, yX12_colours, yX12_partColours, yX12_even, yX12_power, yX12_trees, yX12_nearer, yX12_laysPieces, yX12_quotient, yX12_place, yX12_sideFar, yX12_cubic, yX12_hull, yX12_medianOf, yX12_median, yX12_medians, yX12_partsNow, yX12_withoutOf, yX12_without, yX12_with, yX12_loosest, yX12_isFull, yX12_keeps, yX12_goesBack, yX12_join, yX12_cut, yX12_times, yX12_keep, yX12_image, yX12_back, yX12_undo, yX12_anew, yJ6_bitCount_0f7a4, yJ7_fill_d0a16, yJ7_fill_53178]
def ri_codes : List ByteArray := [cX0_init, cX0_learn, cX0_learnPlaces, cX0_findTaker, cX0_addGenerator, cX0_growPlaces, cX0_closure, cX0_imageBy, cX0_takeFirst, cX0_imagesOf, cX0_sourceOf, cX1_init, cX1_learn, cX2_init, cX2_learnFrom, cX2_reachOf, cX2_interval, cX2_closer, cX3_init, cX3_reset, cX3_become, cX3_holds, cX3_everyone, cX3_linked, cX3_link, cX3_unlink, cX3_lineCount, cX3_connected, cX3_stepsBetween, cX3_besideAny, cX3_multiply, cX3_copiesBeside, cX3_spread, cX4_init, cX4_fewest, cX4_paint, cX4_tightest, cX4_barred, cX5_init, cX5_learn, cX5_learnCorners, cX5_linesOf, cX5_pointsWith, cX5_degree, cX5_shape, cX5_extract, cX6_init, cX6_begin, cX6_become, cX6_push, cX6_pop, cX7_init, cX7_append, cX7_read, cX7_readStatement, cX7_kindOfWord, cX7_readProduct, cX7_readPoints, cX7_readLine, cX7_readNumber, cX7_fail, cX7_advance, cX7_passWord, cX7_passNumber, cX7_isWord, cX7_signAt, cX7_isLetter, cX7_isDigit, cX8_init, cX8_learnKin, cX8_splitBy, cX8_withCount, cX8_begin, cX8_pin, cX8_narrow, cX8_extend, cX8_tightest, cX9_init, cX9_learn, cX9_countParts, cX9_separate, cX9_uniteAcross, cX9_uniteForks, cX9_unite, cX9_root, cX9_label, cX10_init, cX10_forget, cX10_measured, cX10_numbered, cX10_sorted, cX10_partCount, cX11_init, cX11_feed, cX11_end, cX11_net, cX11_fault, cX11_count, cX11_line, cX11_between, cX11_beside, cX11_far, cX11_ways, cX11_amid, cX11_theta, cX11_tau, cX11_first, cX11_layer, cX11_size, cX11_corner, cX11_at, cX11_moved, cX11_partFar, cX11_alike, cX11_kind, cX11_tell, cX11_octet, cX11_route, cX11_symmetries, cX11_allSymmetries, cX11_orbit, cX11_takes, cX11_moves, cX11_fixers, cX11_orbits, cX11_shell, cX11_pairs, cX11_colours, cX11_partColours, cX11_trees, cX11_width, cX11_wiener, cX11_centre, cX11_even, cX11_nearer, cX11_quotient, cX11_place, cX11_sideFar, cX11_cubic, cX11_hull, cX11_median, cX11_medians, cX11_without, cX11_with, cX11_loosest, cX11_join, cX11_cut, cX11_times, cX11_keep, cX11_image, cX11_back, cX11_undo, cX11_anew, cX11_forget, cX11_learnParts, cX11_learnChain, cX11_isPoint, cX11_arePoints, cX11_isLine, cX11_isPart, cX11_isSide, cX11_imageOf, cX11_tallyShell, cX11_tallyOf, cX11_stepsInPart, cX11_nextInPart, cX11_isEven, cX11_breakInPieces, cX11_linkPieces, cX11_intervals, cX11_middle, cX11_partsWithout, cX11_findLoosest, cX11_writePart, cX11_write, cX11_writeNumber, cX11_writeSign, cX11_lowest, cX11_reach, cX11_mark, cX11_least, cX11_primeFactors, cX11_determinant, cX11_pivotOf, cX11_swap, cX11_clearBelow, cX11_power, cX12_in, cX12_has, cX12_init, cX12_feed, cX12_end, cX12_isAt, cX12_next, cX12_faults, cX12_isWord, cX12_passes, cX12_reads, cX12_isBeside, cX12_ties, cX12_unties, cX12_readsNet, cX12_readsLine, cX12_readsTimes, cX12_kindHere, cX12_readsAll, cX12_net, cX12_fault, cX12_multiplies, cX12_is, cX12_isPoint, cX12_laysFar, cX12_farOf, cX12_isWhole, cX12_isTheta, cX12_joint, cX12_isTau, cX12_sets, cX12_joins, cX12_laysLines, cX12_lays, cX12_isLine, cX12_isPart, cX12_isSide, cX12_areTwo, cX12_count, cX12_line, cX12_lineOf, cX12_between, cX12_beside, cX12_far, cX12_ways, cX12_amidOf, cX12_amid, cX12_theta, cX12_tau, cX12_first, cX12_reach, cX12_layer, cX12_size, cX12_nth, cX12_corner, cX12_cornerOf, cX12_at, cX12_movedOf, cX12_moved, cX12_partFar, cX12_linesOf, cX12_kindOf, cX12_kind, cX12_says, cX12_saysNumber, cX12_tell, cX12_octet, cX12_stepOn, cX12_route, cX12_laysHere, cX12_looks, cX12_seesAlike, cX12_isAtHand, cX12_laysKinds, cX12_canGo, cX12_narrows, cX12_canGoOn, cX12_leaving, cX12_laysSame, cX12_allBits, cX12_alike, cX12_symmetries, cX12_allOf, cX12_allSymmetries, cX12_orbitOf, cX12_orbit, cX12_takes, cX12_isPrefix, cX12_moves, cX12_fixers, cX12_orbits, cX12_shell, cX12_pairs, cX12_farthest, cX12_width, cX12_wiener, cX12_centre, cX12_canColour, cX12_coloursOf, cX12_colours, cX12_partColours, cX12_even, cX12_power, cX12_trees, cX12_nearer, cX12_laysPieces, cX12_quotient, cX12_place, cX12_sideFar, cX12_cubic, cX12_hull, cX12_medianOf, cX12_median, cX12_medians, cX12_partsNow, cX12_withoutOf, cX12_without, cX12_with, cX12_loosest, cX12_isFull, cX12_keeps, cX12_goesBack, cX12_join, cX12_cut, cX12_times, cX12_keep, cX12_image, cX12_back, cX12_undo, cX12_anew, cJ6_bitCount_0f7a4, cJ7_fill_d0a16, cJ7_fill_53178]
def ri_rets : List (Option FieldType) := [none, none, none, (some FieldType.boolean), none, none, (some FieldType.int), (some FieldType.int), none, (some FieldType.int), (some FieldType.int), none, none, none, none, (some FieldType.int), (some FieldType.int), (some FieldType.int), none, none, none, (some FieldType.boolean), (some FieldType.int), (some FieldType.boolean), none, none, (some FieldType.int), (some FieldType.boolean), (some FieldType.int), (some FieldType.int), none, (some FieldType.int), (some FieldType.int), none, (some FieldType.int), (some FieldType.boolean), (some FieldType.int), (some FieldType.int), none, none, none, (some FieldType.int), (some FieldType.int), (some FieldType.int), (some FieldType.int), none, none, none, none, none, none, none, none, none, none, (some FieldType.int), none, none, none, (some FieldType.int), none, none, none, none, (some FieldType.boolean), (some FieldType.int), (some FieldType.boolean), (some FieldType.boolean), none, none, (some FieldType.boolean), (some FieldType.int), none, none, none, (some FieldType.boolean), (some FieldType.int), none, none, (some FieldType.int), none, none, none, none, (some FieldType.int), none, none, none, (some (FieldType.object "FactorNets$Metric")), (some (FieldType.object "FactorNets$Lines")), (some (FieldType.object "FactorNets$Sorts")), (some FieldType.int), none, (some FieldType.int), (some FieldType.int), (some FieldType.int), (some FieldType.int), (some FieldType.int), (some FieldType.int), (some FieldType.int), (some FieldType.int), (some FieldType.int), (some FieldType.long), (some FieldType.int), (some FieldType.int), (some FieldType.int), (some FieldType.int), (some FieldType.int), (some FieldType.int), (some FieldType.int), (some FieldType.int), (some FieldType.int), (some FieldType.int), (some FieldType.int), (some FieldType.int), (some FieldType.int), (some FieldType.int), (some FieldType.int), (some FieldType.long), (some FieldType.long), (some FieldType.int), (some FieldType.int), (some FieldType.int), (some FieldType.long), (some FieldType.int), (some FieldType.int), (some FieldType.int), (some FieldType.int), (some FieldType.int), (some FieldType.int), (some FieldType.int), (some FieldType.int), (some FieldType.int), (some FieldType.int), (some FieldType.int), (some FieldType.int), (some FieldType.int), (some FieldType.int), (some FieldType.int), (some FieldType.int), (some FieldType.int), (some FieldType.int), (some FieldType.int), (some FieldType.int), (some FieldType.int), (some FieldType.int), (some FieldType.int), (some FieldType.int), (some FieldType.int), (some FieldType.int), (some FieldType.int), (some FieldType.int), (some FieldType.int), none, none, (some (FieldType.object "FactorNets$Chain")), (some FieldType.boolean), (some FieldType.boolean), (some FieldType.boolean), (some FieldType.boolean), (some FieldType.boolean), (some (FieldType.object "FactorNets$Past")), none, (some FieldType.long), (some FieldType.int), (some FieldType.int), (some FieldType.boolean), none, none, (some FieldType.int), (some FieldType.int), (some FieldType.int), (some FieldType.int), none, none, none, none, (some FieldType.int), (some FieldType.int), none, (some FieldType.int), (some FieldType.int), (some FieldType.long), (some FieldType.int), none, none, (some FieldType.long), (some FieldType.boolean), (some FieldType.boolean), none, (some FieldType.int), (some FieldType.int), (some FieldType.boolean), none, none, (some FieldType.boolean), none, (some FieldType.int), (some FieldType.boolean), none, none, none, none, none, (some FieldType.int), none, (some FieldType.int), (some FieldType.int), none, (some FieldType.boolean), (some FieldType.boolean), none, (some FieldType.int), (some FieldType.boolean), (some FieldType.boolean), (some FieldType.int), (some FieldType.boolean), (some FieldType.int), none, none, none, (some FieldType.boolean), (some FieldType.boolean), (some FieldType.boolean), (some FieldType.boolean), (some FieldType.int), (some FieldType.int), (some FieldType.int), (some FieldType.int), (some FieldType.int), (some FieldType.int), (some FieldType.long), (some FieldType.int), (some FieldType.int), (some FieldType.int), (some FieldType.int), (some FieldType.int), (some FieldType.int), (some FieldType.int), (some FieldType.int), (some FieldType.int), (some FieldType.int), (some FieldType.int), (some FieldType.int), (some FieldType.int), (some FieldType.int), (some FieldType.int), (some FieldType.int), (some FieldType.int), (some FieldType.int), none, none, (some FieldType.int), (some FieldType.int), (some FieldType.int), (some FieldType.int), none, none, (some FieldType.boolean), (some FieldType.boolean), none, (some FieldType.boolean), (some FieldType.boolean), (some FieldType.boolean), (some FieldType.long), none, (some FieldType.int), (some FieldType.int), (some FieldType.long), (some FieldType.long), (some FieldType.long), (some FieldType.int), (some FieldType.int), (some FieldType.int), (some FieldType.boolean), (some FieldType.int), (some FieldType.long), (some FieldType.int), (some FieldType.int), (some FieldType.int), (some FieldType.int), (some FieldType.int), (some FieldType.int), (some FieldType.int), (some FieldType.boolean), (some FieldType.int), (some FieldType.int), (some FieldType.int), (some FieldType.int), (some FieldType.long), (some FieldType.int), (some FieldType.int), none, (some FieldType.int), (some FieldType.int), (some FieldType.int), (some FieldType.int), (some FieldType.int), (some FieldType.int), (some FieldType.int), (some FieldType.int), (some FieldType.int), (some FieldType.int), (some FieldType.int), (some FieldType.int), (some FieldType.int), (some FieldType.boolean), none, none, (some FieldType.int), (some FieldType.int), (some FieldType.int), (some FieldType.int), (some FieldType.int), (some FieldType.int), (some FieldType.int), (some FieldType.int), (some FieldType.int), none, none]
def ri_Yn (y : Nat) : MethodName := ri_names.getD y objectInit
def ri_Yc (y : Nat) : ByteArray := ri_codes.getD y ⟨#[]⟩
def ri_Yr (y : Nat) : Option FieldType := ri_rets.getD y none
def ri_Fd : List (List Value) := [[.long 0, .null, .null, .null, .int 0, .null, .null, .null, .null, .null], [.int 0, .null, .null, .null], [.null, .null], [.int 0, .null], [.null, .int 0], [.int 0, .null, .null, .null, .null, .null], [.int 0, .int 0, .null, .null], [.null, .int 0, .null, .int 0, .int 0, .int 0, .int 0, .int 0, .int 0, .int 0], [.null, .null, .null, .null, .null], [.int 0, .int 0, .null, .null, .null, .int 0], [.null, .null, .null, .null, .int 0, .int 0, .int 0], [.null, .null, .null, .null, .null, .null, .null, .null, .null, .null, .null, .null, .null, .null, .null, .int 0, .int 0, .int 0, .int 0], [.null, .null, .int 0, .null, .null, .null, .null, .null, .null, .int 0, .int 0, .int 0, .int 0, .int 0, .int 0, .int 0, .int 0, .int 0, .null, .null, .null, .int 0, .null, .null, .int 0, .int 0, .null, .null, .null, .int 0, .int 0, .null, .null, .null, .null, .null, .null, .null, .null, .null, .null, .null, .null, .int 0, .null, .null],
  [], [.int 32], [.int 102, .int 117, .int 108, .int 108], [.int 102, .int 117, .int 108, .int 108, .int 32], [.int 108, .int 105, .int 110, .int 101], [.int 110, .int 101, .int 116], [.int 110, .int 101, .int 116, .int 32], [.int 111, .int 110, .int 101], [.int 112, .int 111, .int 105, .int 110, .int 116, .int 115], [.int 114, .int 105, .int 110, .int 103], [.int 114, .int 105, .int 110, .int 103, .int 32], [.int 114, .int 111, .int 119], [.int 114, .int 111, .int 119, .int 32]]
set_option maxRecDepth 20000 in
theorem ri_in0 : ∀ w ∈ u_ws RX0 TX0 10, w ∈ ri_G := by
  intro w hw
  have hw : w ∈ [u_lay RX0 TX0 0, u_lay RX0 TX0 1, u_lay RX0 TX0 2, u_lay RX0 TX0 3, u_lay RX0 TX0 4, u_lay RX0 TX0 5, u_lay RX0 TX0 6, u_lay RX0 TX0 7, u_lay RX0 TX0 8, u_lay RX0 TX0 9] := hw
  simp only [List.mem_cons, List.not_mem_nil, or_false] at hw
  rcases hw with rfl | rfl | rfl | rfl | rfl | rfl | rfl | rfl | rfl | rfl
  · exact ri_tg2 (List.mem_of_getElem? (i := 79) rfl) rfl
  · exact ri_tg2 (List.mem_of_getElem? (i := 81) rfl) rfl
  · exact ri_tg2 (List.mem_of_getElem? (i := 83) rfl) rfl
  · exact ri_tg2 (List.mem_of_getElem? (i := 85) rfl) rfl
  · exact ri_tg2 (List.mem_of_getElem? (i := 87) rfl) rfl
  · exact ri_tg2 (List.mem_of_getElem? (i := 89) rfl) rfl
  · exact ri_tg2 (List.mem_of_getElem? (i := 91) rfl) rfl
  · exact ri_tg2 (List.mem_of_getElem? (i := 93) rfl) rfl
  · exact ri_tg2 (List.mem_of_getElem? (i := 95) rfl) rfl
  · exact ri_tg2 (List.mem_of_getElem? (i := 97) rfl) rfl
theorem ri_df0 : ∀ j, j < 10 → defaultValue (tyX0 j) = vp_V [.long 0, .null, .null, .null, .int 0, .null, .null, .null, .null, .null] j := by decide +kernel
theorem ri_nr0 : ∀ v ∈ ([.long 0, .null, .null, .null, .int 0, .null, .null, .null, .null, .null] : List Value), ∀ q, v ≠ .ref q := by
  intro v hv q h
  subst h
  simp at hv
set_option maxRecDepth 20000 in
theorem ri_in1 : ∀ w ∈ u_ws RX1 TX1 4, w ∈ ri_G := by
  intro w hw
  have hw : w ∈ [u_lay RX1 TX1 0, u_lay RX1 TX1 1, u_lay RX1 TX1 2, u_lay RX1 TX1 3] := hw
  simp only [List.mem_cons, List.not_mem_nil, or_false] at hw
  rcases hw with rfl | rfl | rfl | rfl
  · exact ri_tg1 (List.mem_of_getElem? (i := 152) rfl) rfl
  · exact ri_tg1 (List.mem_of_getElem? (i := 154) rfl) rfl
  · exact ri_tg1 (List.mem_of_getElem? (i := 156) rfl) rfl
  · exact ri_tg1 (List.mem_of_getElem? (i := 158) rfl) rfl
theorem ri_df1 : ∀ j, j < 4 → defaultValue (tyX1 j) = vp_V [.int 0, .null, .null, .null] j := by decide +kernel
theorem ri_nr1 : ∀ v ∈ ([.int 0, .null, .null, .null] : List Value), ∀ q, v ≠ .ref q := by
  intro v hv q h
  subst h
  simp at hv
set_option maxRecDepth 20000 in
theorem ri_in2 : ∀ w ∈ u_ws RX2 TX2 2, w ∈ ri_G := by
  intro w hw
  have hw : w ∈ [u_lay RX2 TX2 0, u_lay RX2 TX2 1] := hw
  simp only [List.mem_cons, List.not_mem_nil, or_false] at hw
  rcases hw with rfl | rfl
  · exact ri_tg1 (List.mem_of_getElem? (i := 125) rfl) rfl
  · exact ri_tg1 (List.mem_of_getElem? (i := 127) rfl) rfl
theorem ri_df2 : ∀ j, j < 2 → defaultValue (tyX2 j) = vp_V [.null, .null] j := by decide +kernel
theorem ri_nr2 : ∀ v ∈ ([.null, .null] : List Value), ∀ q, v ≠ .ref q := by
  intro v hv q h
  subst h
  simp at hv
set_option maxRecDepth 20000 in
theorem ri_in3 : ∀ w ∈ u_ws RX3 TX3 2, w ∈ ri_G := by
  intro w hw
  have hw : w ∈ [u_lay RX3 TX3 0, u_lay RX3 TX3 1] := hw
  simp only [List.mem_cons, List.not_mem_nil, or_false] at hw
  rcases hw with rfl | rfl
  · exact ri_tg1 (List.mem_of_getElem? (i := 61) rfl) rfl
  · exact ri_tg1 (List.mem_of_getElem? (i := 63) rfl) rfl
theorem ri_df3 : ∀ j, j < 2 → defaultValue (tyX3 j) = vp_V [.int 0, .null] j := by decide +kernel
theorem ri_nr3 : ∀ v ∈ ([.int 0, .null] : List Value), ∀ q, v ≠ .ref q := by
  intro v hv q h
  subst h
  simp at hv
set_option maxRecDepth 20000 in
theorem ri_in4 : ∀ w ∈ u_ws RX4 TX4 2, w ∈ ri_G := by
  intro w hw
  have hw : w ∈ [u_lay RX4 TX4 0, u_lay RX4 TX4 1] := hw
  simp only [List.mem_cons, List.not_mem_nil, or_false] at hw
  rcases hw with rfl | rfl
  · exact ri_tg2 (List.mem_of_getElem? (i := 108) rfl) rfl
  · exact ri_tg2 (List.mem_of_getElem? (i := 110) rfl) rfl
theorem ri_df4 : ∀ j, j < 2 → defaultValue (tyX4 j) = vp_V [.null, .int 0] j := by decide +kernel
theorem ri_nr4 : ∀ v ∈ ([.null, .int 0] : List Value), ∀ q, v ≠ .ref q := by
  intro v hv q h
  subst h
  simp at hv
set_option maxRecDepth 20000 in
theorem ri_in5 : ∀ w ∈ u_ws RX5 TX5 6, w ∈ ri_G := by
  intro w hw
  have hw : w ∈ [u_lay RX5 TX5 0, u_lay RX5 TX5 1, u_lay RX5 TX5 2, u_lay RX5 TX5 3, u_lay RX5 TX5 4, u_lay RX5 TX5 5] := hw
  simp only [List.mem_cons, List.not_mem_nil, or_false] at hw
  rcases hw with rfl | rfl | rfl | rfl | rfl | rfl
  · exact ri_tg2 (List.mem_of_getElem? (i := 0) rfl) rfl
  · exact ri_tg2 (List.mem_of_getElem? (i := 2) rfl) rfl
  · exact ri_tg2 (List.mem_of_getElem? (i := 4) rfl) rfl
  · exact ri_tg2 (List.mem_of_getElem? (i := 6) rfl) rfl
  · exact ri_tg2 (List.mem_of_getElem? (i := 8) rfl) rfl
  · exact ri_tg2 (List.mem_of_getElem? (i := 10) rfl) rfl
theorem ri_df5 : ∀ j, j < 6 → defaultValue (tyX5 j) = vp_V [.int 0, .null, .null, .null, .null, .null] j := by decide +kernel
theorem ri_nr5 : ∀ v ∈ ([.int 0, .null, .null, .null, .null, .null] : List Value), ∀ q, v ≠ .ref q := by
  intro v hv q h
  subst h
  simp at hv
set_option maxRecDepth 20000 in
theorem ri_in6 : ∀ w ∈ u_ws RX6 TX6 4, w ∈ ri_G := by
  intro w hw
  have hw : w ∈ [u_lay RX6 TX6 0, u_lay RX6 TX6 1, u_lay RX6 TX6 2, u_lay RX6 TX6 3] := hw
  simp only [List.mem_cons, List.not_mem_nil, or_false] at hw
  rcases hw with rfl | rfl | rfl | rfl
  · exact ri_tg2 (List.mem_of_getElem? (i := 26) rfl) rfl
  · exact ri_tg2 (List.mem_of_getElem? (i := 28) rfl) rfl
  · exact ri_tg2 (List.mem_of_getElem? (i := 30) rfl) rfl
  · exact ri_tg2 (List.mem_of_getElem? (i := 32) rfl) rfl
theorem ri_df6 : ∀ j, j < 4 → defaultValue (tyX6 j) = vp_V [.int 0, .int 0, .null, .null] j := by decide +kernel
theorem ri_nr6 : ∀ v ∈ ([.int 0, .int 0, .null, .null] : List Value), ∀ q, v ≠ .ref q := by
  intro v hv q h
  subst h
  simp at hv
set_option maxRecDepth 20000 in
theorem ri_in7 : ∀ w ∈ u_ws RX7 TX7 10, w ∈ ri_G := by
  intro w hw
  have hw : w ∈ [u_lay RX7 TX7 0, u_lay RX7 TX7 1, u_lay RX7 TX7 2, u_lay RX7 TX7 3, u_lay RX7 TX7 4, u_lay RX7 TX7 5, u_lay RX7 TX7 6, u_lay RX7 TX7 7, u_lay RX7 TX7 8, u_lay RX7 TX7 9] := hw
  simp only [List.mem_cons, List.not_mem_nil, or_false] at hw
  rcases hw with rfl | rfl | rfl | rfl | rfl | rfl | rfl | rfl | rfl | rfl
  · exact ri_tg1 (List.mem_of_getElem? (i := 82) rfl) rfl
  · exact ri_tg1 (List.mem_of_getElem? (i := 84) rfl) rfl
  · exact ri_tg1 (List.mem_of_getElem? (i := 86) rfl) rfl
  · exact ri_tg1 (List.mem_of_getElem? (i := 88) rfl) rfl
  · exact ri_tg1 (List.mem_of_getElem? (i := 90) rfl) rfl
  · exact ri_tg1 (List.mem_of_getElem? (i := 92) rfl) rfl
  · exact ri_tg1 (List.mem_of_getElem? (i := 94) rfl) rfl
  · exact ri_tg1 (List.mem_of_getElem? (i := 96) rfl) rfl
  · exact ri_tg1 (List.mem_of_getElem? (i := 98) rfl) rfl
  · exact ri_tg1 (List.mem_of_getElem? (i := 100) rfl) rfl
theorem ri_df7 : ∀ j, j < 10 → defaultValue (tyX7 j) = vp_V [.null, .int 0, .null, .int 0, .int 0, .int 0, .int 0, .int 0, .int 0, .int 0] j := by decide +kernel
theorem ri_nr7 : ∀ v ∈ ([.null, .int 0, .null, .int 0, .int 0, .int 0, .int 0, .int 0, .int 0, .int 0] : List Value), ∀ q, v ≠ .ref q := by
  intro v hv q h
  subst h
  simp at hv
set_option maxRecDepth 20000 in
theorem ri_in8 : ∀ w ∈ u_ws RX8 TX8 5, w ∈ ri_G := by
  intro w hw
  have hw : w ∈ [u_lay RX8 TX8 0, u_lay RX8 TX8 1, u_lay RX8 TX8 2, u_lay RX8 TX8 3, u_lay RX8 TX8 4] := hw
  simp only [List.mem_cons, List.not_mem_nil, or_false] at hw
  rcases hw with rfl | rfl | rfl | rfl | rfl
  · exact ri_tg2 (List.mem_of_getElem? (i := 56) rfl) rfl
  · exact ri_tg2 (List.mem_of_getElem? (i := 58) rfl) rfl
  · exact ri_tg2 (List.mem_of_getElem? (i := 60) rfl) rfl
  · exact ri_tg2 (List.mem_of_getElem? (i := 62) rfl) rfl
  · exact ri_tg2 (List.mem_of_getElem? (i := 64) rfl) rfl
theorem ri_df8 : ∀ j, j < 5 → defaultValue (tyX8 j) = vp_V [.null, .null, .null, .null, .null] j := by decide +kernel
theorem ri_nr8 : ∀ v ∈ ([.null, .null, .null, .null, .null] : List Value), ∀ q, v ≠ .ref q := by
  intro v hv q h
  subst h
  simp at hv
set_option maxRecDepth 20000 in
theorem ri_in9 : ∀ w ∈ u_ws RX9 TX9 6, w ∈ ri_G := by
  intro w hw
  have hw : w ∈ [u_lay RX9 TX9 0, u_lay RX9 TX9 1, u_lay RX9 TX9 2, u_lay RX9 TX9 3, u_lay RX9 TX9 4, u_lay RX9 TX9 5] := hw
  simp only [List.mem_cons, List.not_mem_nil, or_false] at hw
  rcases hw with rfl | rfl | rfl | rfl | rfl | rfl
  · exact ri_tg1 (List.mem_of_getElem? (i := 179) rfl) rfl
  · exact ri_tg1 (List.mem_of_getElem? (i := 181) rfl) rfl
  · exact ri_tg1 (List.mem_of_getElem? (i := 183) rfl) rfl
  · exact ri_tg1 (List.mem_of_getElem? (i := 185) rfl) rfl
  · exact ri_tg1 (List.mem_of_getElem? (i := 187) rfl) rfl
  · exact ri_tg1 (List.mem_of_getElem? (i := 189) rfl) rfl
theorem ri_df9 : ∀ j, j < 6 → defaultValue (tyX9 j) = vp_V [.int 0, .int 0, .null, .null, .null, .int 0] j := by decide +kernel
theorem ri_nr9 : ∀ v ∈ ([.int 0, .int 0, .null, .null, .null, .int 0] : List Value), ∀ q, v ≠ .ref q := by
  intro v hv q h
  subst h
  simp at hv
set_option maxRecDepth 20000 in
theorem ri_in10 : ∀ w ∈ u_ws RX10 TX10 7, w ∈ ri_G := by
  intro w hw
  have hw : w ∈ [u_lay RX10 TX10 0, u_lay RX10 TX10 1, u_lay RX10 TX10 2, u_lay RX10 TX10 3, u_lay RX10 TX10 4, u_lay RX10 TX10 5, u_lay RX10 TX10 6] := hw
  simp only [List.mem_cons, List.not_mem_nil, or_false] at hw
  rcases hw with rfl | rfl | rfl | rfl | rfl | rfl | rfl
  · exact ri_tg1 (List.mem_of_getElem? (i := 207) rfl) rfl
  · exact ri_tg1 (List.mem_of_getElem? (i := 209) rfl) rfl
  · exact ri_tg1 (List.mem_of_getElem? (i := 211) rfl) rfl
  · exact ri_tg1 (List.mem_of_getElem? (i := 213) rfl) rfl
  · exact ri_tg1 (List.mem_of_getElem? (i := 215) rfl) rfl
  · exact ri_tg1 (List.mem_of_getElem? (i := 217) rfl) rfl
  · exact ri_tg1 (List.mem_of_getElem? (i := 219) rfl) rfl
theorem ri_df10 : ∀ j, j < 7 → defaultValue (tyX10 j) = vp_V [.null, .null, .null, .null, .int 0, .int 0, .int 0] j := by decide +kernel
theorem ri_nr10 : ∀ v ∈ ([.null, .null, .null, .null, .int 0, .int 0, .int 0] : List Value), ∀ q, v ≠ .ref q := by
  intro v hv q h
  subst h
  simp at hv
set_option maxRecDepth 20000 in
theorem ri_in11 : ∀ w ∈ u_ws RX11 TX11 19, w ∈ ri_G := by
  intro w hw
  have hw : w ∈ [u_lay RX11 TX11 0, u_lay RX11 TX11 1, u_lay RX11 TX11 2, u_lay RX11 TX11 3, u_lay RX11 TX11 4, u_lay RX11 TX11 5, u_lay RX11 TX11 6, u_lay RX11 TX11 7, u_lay RX11 TX11 8, u_lay RX11 TX11 9, u_lay RX11 TX11 10, u_lay RX11 TX11 11, u_lay RX11 TX11 12, u_lay RX11 TX11 13, u_lay RX11 TX11 14, u_lay RX11 TX11 15, u_lay RX11 TX11 16, u_lay RX11 TX11 17, u_lay RX11 TX11 18] := hw
  simp only [List.mem_cons, List.not_mem_nil, or_false] at hw
  rcases hw with rfl | rfl | rfl | rfl | rfl | rfl | rfl | rfl | rfl | rfl | rfl | rfl | rfl | rfl | rfl | rfl | rfl | rfl | rfl
  · exact ri_tg2 (List.mem_of_getElem? (i := 136) rfl) rfl
  · exact ri_tg2 (List.mem_of_getElem? (i := 138) rfl) rfl
  · exact ri_tg2 (List.mem_of_getElem? (i := 140) rfl) rfl
  · exact ri_tg2 (List.mem_of_getElem? (i := 142) rfl) rfl
  · exact ri_tg2 (List.mem_of_getElem? (i := 144) rfl) rfl
  · exact ri_tg2 (List.mem_of_getElem? (i := 146) rfl) rfl
  · exact ri_tg2 (List.mem_of_getElem? (i := 148) rfl) rfl
  · exact ri_tg2 (List.mem_of_getElem? (i := 150) rfl) rfl
  · exact ri_tg2 (List.mem_of_getElem? (i := 152) rfl) rfl
  · exact ri_tg2 (List.mem_of_getElem? (i := 154) rfl) rfl
  · exact ri_tg2 (List.mem_of_getElem? (i := 156) rfl) rfl
  · exact ri_tg2 (List.mem_of_getElem? (i := 158) rfl) rfl
  · exact ri_tg2 (List.mem_of_getElem? (i := 160) rfl) rfl
  · exact ri_tg2 (List.mem_of_getElem? (i := 162) rfl) rfl
  · exact ri_tg2 (List.mem_of_getElem? (i := 164) rfl) rfl
  · exact ri_tg2 (List.mem_of_getElem? (i := 166) rfl) rfl
  · exact ri_tg2 (List.mem_of_getElem? (i := 168) rfl) rfl
  · exact ri_tg2 (List.mem_of_getElem? (i := 170) rfl) rfl
  · exact ri_tg2 (List.mem_of_getElem? (i := 172) rfl) rfl
theorem ri_df11 : ∀ j, j < 19 → defaultValue (tyX11 j) = vp_V [.null, .null, .null, .null, .null, .null, .null, .null, .null, .null, .null, .null, .null, .null, .null, .int 0, .int 0, .int 0, .int 0] j := by decide +kernel
theorem ri_nr11 : ∀ v ∈ ([.null, .null, .null, .null, .null, .null, .null, .null, .null, .null, .null, .null, .null, .null, .null, .int 0, .int 0, .int 0, .int 0] : List Value), ∀ q, v ≠ .ref q := by
  intro v hv q h
  subst h
  simp at hv
set_option maxRecDepth 20000 in
theorem ri_in12 : ∀ w ∈ u_ws RX12 TX12 46, w ∈ ri_G := by
  intro w hw
  have hw : w ∈ [u_lay RX12 TX12 0, u_lay RX12 TX12 1, u_lay RX12 TX12 2, u_lay RX12 TX12 3, u_lay RX12 TX12 4, u_lay RX12 TX12 5, u_lay RX12 TX12 6, u_lay RX12 TX12 7, u_lay RX12 TX12 8, u_lay RX12 TX12 9, u_lay RX12 TX12 10, u_lay RX12 TX12 11, u_lay RX12 TX12 12, u_lay RX12 TX12 13, u_lay RX12 TX12 14, u_lay RX12 TX12 15, u_lay RX12 TX12 16, u_lay RX12 TX12 17, u_lay RX12 TX12 18, u_lay RX12 TX12 19, u_lay RX12 TX12 20, u_lay RX12 TX12 21, u_lay RX12 TX12 22, u_lay RX12 TX12 23, u_lay RX12 TX12 24, u_lay RX12 TX12 25, u_lay RX12 TX12 26, u_lay RX12 TX12 27, u_lay RX12 TX12 28, u_lay RX12 TX12 29, u_lay RX12 TX12 30, u_lay RX12 TX12 31, u_lay RX12 TX12 32, u_lay RX12 TX12 33, u_lay RX12 TX12 34, u_lay RX12 TX12 35, u_lay RX12 TX12 36, u_lay RX12 TX12 37, u_lay RX12 TX12 38, u_lay RX12 TX12 39, u_lay RX12 TX12 40, u_lay RX12 TX12 41, u_lay RX12 TX12 42, u_lay RX12 TX12 43, u_lay RX12 TX12 44, u_lay RX12 TX12 45] := hw
  simp only [List.mem_cons, List.not_mem_nil, or_false] at hw
  rcases hw with rfl | rfl | rfl | rfl | rfl | rfl | rfl | rfl | rfl | rfl | rfl | rfl | rfl | rfl | rfl | rfl | rfl | rfl | rfl | rfl | rfl | rfl | rfl | rfl | rfl | rfl | rfl | rfl | rfl | rfl | rfl | rfl | rfl | rfl | rfl | rfl | rfl | rfl | rfl | rfl | rfl | rfl | rfl | rfl | rfl | rfl
  · exact ri_tg6 (List.mem_of_getElem? (i := 95) rfl) rfl
  · exact ri_tg6 (List.mem_of_getElem? (i := 97) rfl) rfl
  · exact ri_tg6 (List.mem_of_getElem? (i := 99) rfl) rfl
  · exact ri_tg6 (List.mem_of_getElem? (i := 101) rfl) rfl
  · exact ri_tg6 (List.mem_of_getElem? (i := 103) rfl) rfl
  · exact ri_tg6 (List.mem_of_getElem? (i := 105) rfl) rfl
  · exact ri_tg6 (List.mem_of_getElem? (i := 107) rfl) rfl
  · exact ri_tg6 (List.mem_of_getElem? (i := 109) rfl) rfl
  · exact ri_tg6 (List.mem_of_getElem? (i := 111) rfl) rfl
  · exact ri_tg6 (List.mem_of_getElem? (i := 113) rfl) rfl
  · exact ri_tg6 (List.mem_of_getElem? (i := 115) rfl) rfl
  · exact ri_tg6 (List.mem_of_getElem? (i := 117) rfl) rfl
  · exact ri_tg6 (List.mem_of_getElem? (i := 119) rfl) rfl
  · exact ri_tg6 (List.mem_of_getElem? (i := 121) rfl) rfl
  · exact ri_tg6 (List.mem_of_getElem? (i := 123) rfl) rfl
  · exact ri_tg6 (List.mem_of_getElem? (i := 125) rfl) rfl
  · exact ri_tg6 (List.mem_of_getElem? (i := 127) rfl) rfl
  · exact ri_tg6 (List.mem_of_getElem? (i := 129) rfl) rfl
  · exact ri_tg6 (List.mem_of_getElem? (i := 131) rfl) rfl
  · exact ri_tg6 (List.mem_of_getElem? (i := 133) rfl) rfl
  · exact ri_tg6 (List.mem_of_getElem? (i := 135) rfl) rfl
  · exact ri_tg6 (List.mem_of_getElem? (i := 137) rfl) rfl
  · exact ri_tg6 (List.mem_of_getElem? (i := 139) rfl) rfl
  · exact ri_tg6 (List.mem_of_getElem? (i := 141) rfl) rfl
  · exact ri_tg6 (List.mem_of_getElem? (i := 143) rfl) rfl
  · exact ri_tg6 (List.mem_of_getElem? (i := 145) rfl) rfl
  · exact ri_tg6 (List.mem_of_getElem? (i := 147) rfl) rfl
  · exact ri_tg6 (List.mem_of_getElem? (i := 149) rfl) rfl
  · exact ri_tg6 (List.mem_of_getElem? (i := 151) rfl) rfl
  · exact ri_tg6 (List.mem_of_getElem? (i := 153) rfl) rfl
  · exact ri_tg6 (List.mem_of_getElem? (i := 155) rfl) rfl
  · exact ri_tg6 (List.mem_of_getElem? (i := 157) rfl) rfl
  · exact ri_tg6 (List.mem_of_getElem? (i := 159) rfl) rfl
  · exact ri_tg6 (List.mem_of_getElem? (i := 161) rfl) rfl
  · exact ri_tg6 (List.mem_of_getElem? (i := 163) rfl) rfl
  · exact ri_tg6 (List.mem_of_getElem? (i := 165) rfl) rfl
  · exact ri_tg6 (List.mem_of_getElem? (i := 167) rfl) rfl
  · exact ri_tg6 (List.mem_of_getElem? (i := 169) rfl) rfl
  · exact ri_tg6 (List.mem_of_getElem? (i := 171) rfl) rfl
  · exact ri_tg6 (List.mem_of_getElem? (i := 173) rfl) rfl
  · exact ri_tg6 (List.mem_of_getElem? (i := 175) rfl) rfl
  · exact ri_tg6 (List.mem_of_getElem? (i := 177) rfl) rfl
  · exact ri_tg6 (List.mem_of_getElem? (i := 179) rfl) rfl
  · exact ri_tg6 (List.mem_of_getElem? (i := 181) rfl) rfl
  · exact ri_tg6 (List.mem_of_getElem? (i := 183) rfl) rfl
  · exact ri_tg6 (List.mem_of_getElem? (i := 185) rfl) rfl
theorem ri_df12 : ∀ j, j < 46 → defaultValue (tyX12 j) = vp_V [.null, .null, .int 0, .null, .null, .null, .null, .null, .null, .int 0, .int 0, .int 0, .int 0, .int 0, .int 0, .int 0, .int 0, .int 0, .null, .null, .null, .int 0, .null, .null, .int 0, .int 0, .null, .null, .null, .int 0, .int 0, .null, .null, .null, .null, .null, .null, .null, .null, .null, .null, .null, .null, .int 0, .null, .null] j := by decide +kernel
theorem ri_nr12 : ∀ v ∈ ([.null, .null, .int 0, .null, .null, .null, .null, .null, .null, .int 0, .int 0, .int 0, .int 0, .int 0, .int 0, .int 0, .int 0, .int 0, .null, .null, .null, .int 0, .null, .null, .int 0, .int 0, .null, .null, .null, .int 0, .int 0, .null, .null, .null, .null, .null, .null, .null, .null, .null, .null, .null, .null, .int 0, .null, .null] : List Value), ∀ q, v ≠ .ref q := by
  intro v hv q h
  subst h
  simp at hv
def ri_N : List Cond := [Cond.methodLinkNest RX11 9 ⟨"FactorNets$Reader", "<init>", "()V"⟩ "FactorNets",
  Cond.methodLinkNest RX7 17 ⟨"FactorNets$Net", "<init>", "()V"⟩ "FactorNets",
  Cond.methodLinkNest RX11 18 ⟨"FactorNets$Survey", "<init>", "()V"⟩ "FactorNets",
  Cond.methodLinkNest RX10 9 ⟨"FactorNets$Net", "<init>", "()V"⟩ "FactorNets",
  Cond.methodLinkNest RX10 18 ⟨"FactorNets$Metric", "<init>", "()V"⟩ "FactorNets",
  Cond.arrayOver (FieldType.array FieldType.int),
  Cond.methodLinkNest RX10 25 ⟨"FactorNets$Lines", "<init>", "()V"⟩ "FactorNets",
  Cond.methodLinkNest RX10 32 ⟨"FactorNets$Sorts", "<init>", "()V"⟩ "FactorNets",
  Cond.methodLinkNest RX11 28 ⟨"FactorNets$Parts", "<init>", "()V"⟩ "FactorNets",
  Cond.methodLinkNest RX11 35 ⟨"FactorNets$Past", "<init>", "()V"⟩ "FactorNets",
  Cond.arrayOver (FieldType.object "FactorNets$Past"),
  Cond.methodLinkNest RX11 58 ⟨"FactorNets$Painter", "<init>", "()V"⟩ "FactorNets",
  Cond.methodLinkNest RX11 65 ⟨"FactorNets$Net", "<init>", "()V"⟩ "FactorNets",
  Cond.arrayOver (FieldType.array FieldType.long),
  Cond.methodLinkNest RX7 80 ⟨"FactorNets", "least", "(I)I"⟩ "FactorNets",
  Cond.methodLinkNest RX3 37 ⟨"FactorNets", "reach", "([II)I"⟩ "FactorNets",
  Cond.methodLinkNest RX2 25 ⟨"FactorNets", "lowest", "(I)I"⟩ "FactorNets",
  Cond.methodLinkNest RX9 80 ⟨"FactorNets", "lowest", "(I)I"⟩ "FactorNets",
  Cond.methodLinkNest RX5 83 ⟨"FactorNets", "reach", "([II)I"⟩ "FactorNets",
  Cond.methodLinkNest RX5 87 ⟨"FactorNets", "mark", "([III)V"⟩ "FactorNets",
  Cond.methodLinkNest RX8 46 ⟨"FactorNets", "lowest", "(I)I"⟩ "FactorNets",
  Cond.methodLinkNest RX0 105 ⟨"FactorNets$Search", "extend", "(LFactorNets$Search;II)Z"⟩ "FactorNets",
  Cond.methodLinkNest RX0 118 ⟨"FactorNets", "lowest", "(I)I"⟩ "FactorNets",
  Cond.methodLinkNest RX11 310 ⟨"FactorNets$Search", "extend", "(LFactorNets$Search;II)Z"⟩ "FactorNets",
  Cond.methodLinkNest RX10 74 ⟨"FactorNets", "primeFactors", "(I)I"⟩ "FactorNets"]
set_option maxRecDepth 20000 in
theorem ri_N_in : ∀ w ∈ ri_N, w ∈ lw_tbl := by
  intro w hw
  unfold ri_N at hw
  simp only [List.mem_cons, List.not_mem_nil, or_false] at hw
  rcases hw with rfl | rfl | rfl | rfl | rfl | rfl | rfl | rfl | rfl | rfl | rfl | rfl | rfl | rfl | rfl | rfl | rfl | rfl | rfl | rfl | rfl | rfl | rfl | rfl | rfl
  · exact ri_t1 _ (List.mem_of_getElem? (i := 32) rfl)
  · exact ri_t1 _ (List.mem_of_getElem? (i := 38) rfl)
  · exact ri_t1 _ (List.mem_of_getElem? (i := 105) rfl)
  · exact ri_t1 _ (List.mem_of_getElem? (i := 110) rfl)
  · exact ri_t1 _ (List.mem_of_getElem? (i := 113) rfl)
  · exact ri_t1 _ (List.mem_of_getElem? (i := 118) rfl)
  · exact ri_t1 _ (List.mem_of_getElem? (i := 132) rfl)
  · exact ri_t1 _ (List.mem_of_getElem? (i := 163) rfl)
  · exact ri_t1 _ (List.mem_of_getElem? (i := 224) rfl)
  · exact ri_t2 _ (List.mem_of_getElem? (i := 15) rfl)
  · exact ri_t2 _ (List.mem_of_getElem? (i := 35) rfl)
  · exact ri_t2 _ (List.mem_of_getElem? (i := 102) rfl)
  · exact ri_t2 _ (List.mem_of_getElem? (i := 114) rfl)
  · exact ri_t2 _ (List.mem_of_getElem? (i := 116) rfl)
  · exact ri_t3 _ (List.mem_of_getElem? (i := 56) rfl)
  · exact ri_t3 _ (List.mem_of_getElem? (i := 100) rfl)
  · exact ri_t3 _ (List.mem_of_getElem? (i := 162) rfl)
  · exact ri_t3 _ (List.mem_of_getElem? (i := 189) rfl)
  · exact ri_t4 _ (List.mem_of_getElem? (i := 63) rfl)
  · exact ri_t4 _ (List.mem_of_getElem? (i := 64) rfl)
  · exact ri_t4 _ (List.mem_of_getElem? (i := 179) rfl)
  · exact ri_t4 _ (List.mem_of_getElem? (i := 211) rfl)
  · exact ri_t4 _ (List.mem_of_getElem? (i := 228) rfl)
  · exact ri_t5 _ (List.mem_of_getElem? (i := 14) rfl)
  · exact ri_t5 _ (List.mem_of_getElem? (i := 212) rfl)
theorem ri_JWin : ∀ w ∈ ri_JW, w ∈ ri_G := List.forall_mem_cons.mpr ⟨ri_tg3 (List.mem_of_getElem? (i := 5) rfl) rfl, List.forall_mem_cons.mpr ⟨ri_tg3 (List.mem_of_getElem? (i := 9) rfl) rfl, List.forall_mem_cons.mpr ⟨ri_tg3 (List.mem_of_getElem? (i := 19) rfl) rfl, List.forall_mem_cons.mpr ⟨ri_tg3 (List.mem_of_getElem? (i := 15) rfl) rfl, List.forall_mem_cons.mpr ⟨ri_tg3 (List.mem_of_getElem? (i := 25) rfl) rfl, List.forall_mem_cons.mpr ⟨ri_tg3 (List.mem_of_getElem? (i := 22) rfl) rfl, List.forall_mem_cons.mpr ⟨ri_tg3 (List.mem_of_getElem? (i := 30) rfl) rfl, List.forall_mem_cons.mpr ⟨ri_tg3 (List.mem_of_getElem? (i := 6) rfl) rfl, List.forall_mem_cons.mpr ⟨ri_tg3 (List.mem_of_getElem? (i := 7) rfl) rfl, List.forall_mem_cons.mpr ⟨ri_tg3 (List.mem_of_getElem? (i := 8) rfl) rfl, List.forall_mem_cons.mpr ⟨ri_tg3 (List.mem_of_getElem? (i := 16) rfl) rfl, List.forall_mem_cons.mpr ⟨ri_tg3 (List.mem_of_getElem? (i := 17) rfl) rfl, List.forall_mem_cons.mpr ⟨ri_tg3 (List.mem_of_getElem? (i := 18) rfl) rfl, List.forall_mem_cons.mpr ⟨ri_tg3 (List.mem_of_getElem? (i := 20) rfl) rfl, List.forall_mem_cons.mpr ⟨ri_tg3 (List.mem_of_getElem? (i := 21) rfl) rfl, List.forall_mem_cons.mpr ⟨ri_tg3 (List.mem_of_getElem? (i := 23) rfl) rfl, List.forall_mem_cons.mpr ⟨ri_tg3 (List.mem_of_getElem? (i := 24) rfl) rfl, List.forall_mem_cons.mpr ⟨ri_tg3 (List.mem_of_getElem? (i := 28) rfl) rfl, List.forall_mem_cons.mpr ⟨ri_tg3 (List.mem_of_getElem? (i := 29) rfl) rfl, List.forall_mem_cons.mpr ⟨ri_tg3 (List.mem_of_getElem? (i := 10) rfl) rfl, List.forall_mem_cons.mpr ⟨ri_tg9 (List.mem_of_getElem? (i := 12) rfl) rfl, List.forall_mem_cons.mpr ⟨ri_tg9 (List.mem_of_getElem? (i := 11) rfl) rfl, List.forall_mem_cons.mpr ⟨ri_tg3 (List.mem_of_getElem? (i := 26) rfl) rfl, List.forall_mem_cons.mpr ⟨ri_tg1 (List.mem_of_getElem? (i := 16) rfl) rfl, List.forall_mem_cons.mpr ⟨ri_tg1 (List.mem_of_getElem? (i := 17) rfl) rfl, List.forall_mem_cons.mpr ⟨ri_tg1 (List.mem_of_getElem? (i := 18) rfl) rfl, List.forall_mem_cons.mpr ⟨ri_tg3 (List.mem_of_getElem? (i := 3) rfl) rfl, List.forall_mem_cons.mpr ⟨ri_tg3 (List.mem_of_getElem? (i := 4) rfl) rfl, List.forall_mem_cons.mpr ⟨ri_tg3 (List.mem_of_getElem? (i := 13) rfl) rfl, List.forall_mem_cons.mpr ⟨ri_tg3 (List.mem_of_getElem? (i := 14) rfl) rfl, fun _ h => (by cases h)⟩⟩⟩⟩⟩⟩⟩⟩⟩⟩⟩⟩⟩⟩⟩⟩⟩⟩⟩⟩⟩⟩⟩⟩⟩⟩⟩⟩⟩⟩
theorem ri_FXok : ri_FX ri_Fd := by
  intro i h
  match i, h with
  | 0, _ => rfl
  | 1, _ => rfl
  | 2, _ => rfl
  | 3, _ => rfl
  | 4, _ => rfl
  | 5, _ => rfl
  | 6, _ => rfl
  | 7, _ => rfl
  | 8, _ => rfl
  | 9, _ => rfl
  | 10, _ => rfl
  | 11, _ => rfl
  | 12, _ => rfl
  | i + 13, h => exact absurd h (by omega)
set_option maxRecDepth 20000 in
theorem gw0 : Cond.methodLink RX0 3 objectInit ∈ ri_G := ri_tg2 (List.mem_of_getElem? (i := 41) rfl) rfl
set_option maxRecDepth 20000 in
theorem gw1 : Cond.instanceMethod objectInit ∈ ri_G := ri_tg1 (List.mem_of_getElem? (i := 28) rfl) rfl
set_option maxRecDepth 20000 in
theorem gw2 : Cond.code objectInit ⟨#[0xb1]⟩ 1 none ∈ ri_G := ri_tg1 (List.mem_of_getElem? (i := 29) rfl) rfl
set_option maxRecDepth 20000 in
theorem gw3 : Cond.classLink RX0 9 ("[" ++ (FieldType.array .int).toString) ∈ ri_G := ri_tg2 (List.mem_of_getElem? (i := 42) rfl) rfl
set_option maxRecDepth 20000 in
theorem gw4 : Cond.arrayClass .int ∈ ri_G := ri_tg1 (List.mem_of_getElem? (i := 66) rfl) rfl
set_option maxRecDepth 20000 in
theorem gw5 : Cond.fieldLink RX0 11 (TX0 3).1 (TX0 3).2.1 (TX0 3).2.2.1 ∈ ri_G := ri_tg2 (List.mem_of_getElem? (i := 72) rfl) rfl
set_option maxRecDepth 20000 in
theorem gw6 : Cond.fieldLink RX0 16 (TX0 5).1 (TX0 5).2.1 (TX0 5).2.2.1 ∈ ri_G := ri_tg2 (List.mem_of_getElem? (i := 74) rfl) rfl
set_option maxRecDepth 20000 in
theorem gw7 : Cond.fieldLink RX0 20 (TX0 6).1 (TX0 6).2.1 (TX0 6).2.2.1 ∈ ri_G := ri_tg2 (List.mem_of_getElem? (i := 75) rfl) rfl
set_option maxRecDepth 20000 in
theorem gw8 : Cond.fieldLink RX0 23 (TX0 7).1 (TX0 7).2.1 (TX0 7).2.2.1 ∈ ri_G := ri_tg2 (List.mem_of_getElem? (i := 76) rfl) rfl
set_option maxRecDepth 20000 in
theorem gw9 : Cond.fieldLink RX0 26 (TX0 8).1 (TX0 8).2.1 (TX0 8).2.2.1 ∈ ri_G := ri_tg2 (List.mem_of_getElem? (i := 77) rfl) rfl
set_option maxRecDepth 20000 in
theorem gw10 : Cond.fieldLink RX0 29 (TX0 9).1 (TX0 9).2.1 (TX0 9).2.2.1 ∈ ri_G := ri_tg2 (List.mem_of_getElem? (i := 78) rfl) rfl
set_option maxRecDepth 20000 in
theorem gw11 : Cond.fieldLink RX0 32 (TX0 2).1 (TX0 2).2.1 (TX0 2).2.2.1 ∈ ri_G := ri_tg2 (List.mem_of_getElem? (i := 71) rfl) rfl
set_option maxRecDepth 20000 in
theorem gw12 : Cond.classLink RX0 36 RX8 ∈ ri_G := ri_tg2 (List.mem_of_getElem? (i := 43) rfl) rfl
set_option maxRecDepth 20000 in
theorem gw13 : Cond.instantiable RX8 5 ∈ ri_G := ri_tg2 (List.mem_of_getElem? (i := 44) rfl) rfl
set_option maxRecDepth 20000 in
theorem gw14 : Cond.initialized RX8 ∈ ri_G := ri_tg1 (List.mem_of_getElem? (i := 11) rfl) rfl
set_option maxRecDepth 20000 in
theorem gw15 : Cond.methodLink RX0 38 (ri_Yn 68) ∈ ri_G := ri_tg2 (List.mem_of_getElem? (i := 45) rfl) rfl
set_option maxRecDepth 20000 in
theorem mw68i : (ri_Yn 68).name = "<init>" ∧ ri_Yr 68 = none ∧ Cond.instanceMethod (ri_Yn 68) ∈ ri_G ∧ Cond.initialized (ri_Yn 68).cls ∈ ri_G ∧ ((ri_Yn 68).cls ≠ "java/lang/invoke/MethodHandle" ∧ (ri_Yn 68).cls ≠ "java/lang/invoke/VarHandle" ∧ (parseMethodDescriptor (ri_Yn 68).desc).map (fun d => d.parameters.length) = some 1) := ⟨rfl, rfl, ri_tg2 (List.mem_of_getElem? (i := 46) rfl) rfl, ri_tg1 (List.mem_of_getElem? (i := 11) rfl) rfl, ⟨by decide +kernel, by decide +kernel, by decide +kernel⟩⟩
set_option maxRecDepth 20000 in
theorem gw16 : Cond.fieldLink RX0 41 (TX0 1).1 (TX0 1).2.1 (TX0 1).2.2.1 ∈ ri_G := ri_tg2 (List.mem_of_getElem? (i := 69) rfl) rfl
set_option maxRecDepth 20000 in
theorem gw17 : Cond.methodLink RX0 45 (ri_Yn 88) ∈ ri_G := ri_tg4 (List.mem_of_getElem? (i := 173) rfl) rfl
set_option maxRecDepth 20000 in
theorem mw88v : Cond.instanceMethod (ri_Yn 88) ∈ ri_G ∧ Cond.selects (ri_Yn 88).cls (ri_Yn 88) (ri_Yn 88) ∈ ri_G ∧ Cond.initialized (ri_Yn 88).cls ∈ ri_G ∧ ((ri_Yn 88).cls ≠ "java/lang/invoke/MethodHandle" ∧ (ri_Yn 88).cls ≠ "java/lang/invoke/VarHandle" ∧ (parseMethodDescriptor (ri_Yn 88).desc).map (fun d => d.parameters.length) = some 0) := ⟨ri_tg3 (List.mem_of_getElem? (i := 154) rfl) rfl, ri_tg3 (List.mem_of_getElem? (i := 155) rfl) rfl, ri_tg1 (List.mem_of_getElem? (i := 4) rfl) rfl, ⟨by decide +kernel, by decide +kernel, by decide +kernel⟩⟩
set_option maxRecDepth 20000 in
theorem gw18 : Cond.methodLink RX0 51 (ri_Yn 69) ∈ ri_G := ri_tg4 (List.mem_of_getElem? (i := 174) rfl) rfl
set_option maxRecDepth 20000 in
theorem mw69v : Cond.instanceMethod (ri_Yn 69) ∈ ri_G ∧ Cond.selects (ri_Yn 69).cls (ri_Yn 69) (ri_Yn 69) ∈ ri_G ∧ Cond.initialized (ri_Yn 69).cls ∈ ri_G ∧ ((ri_Yn 69).cls ≠ "java/lang/invoke/MethodHandle" ∧ (ri_Yn 69).cls ≠ "java/lang/invoke/VarHandle" ∧ (parseMethodDescriptor (ri_Yn 69).desc).map (fun d => d.parameters.length) = some 0) := ⟨ri_tg4 (List.mem_of_getElem? (i := 175) rfl) rfl, ri_tg4 (List.mem_of_getElem? (i := 176) rfl) rfl, ri_tg1 (List.mem_of_getElem? (i := 11) rfl) rfl, ⟨by decide +kernel, by decide +kernel, by decide +kernel⟩⟩
set_option maxRecDepth 20000 in
theorem gw19 : Cond.fieldLink RX0 54 (TX0 4).1 (TX0 4).2.1 (TX0 4).2.2.1 ∈ ri_G := ri_tg2 (List.mem_of_getElem? (i := 73) rfl) rfl
set_option maxRecDepth 20000 in
theorem gw20 : Cond.fieldLink RX0 58 (TX0 0).1 (TX0 0).2.1 (TX0 0).2.2.1 ∈ ri_G := ri_tg2 (List.mem_of_getElem? (i := 67) rfl) rfl
set_option maxRecDepth 20000 in
theorem gw21 : Cond.fieldLink RX0 62 (TX10 0).1 (TX10 0).2.1 (TX10 0).2.2.1 ∈ ri_G := ri_tg1 (List.mem_of_getElem? (i := 194) rfl) rfl
set_option maxRecDepth 20000 in
theorem gw22 : Cond.fieldLink RX0 66 (TX3 0).1 (TX3 0).2.1 (TX3 0).2.2.1 ∈ ri_G := ri_tg1 (List.mem_of_getElem? (i := 46) rfl) rfl
set_option maxRecDepth 20000 in
theorem gw23 : Cond.methodLink RX0 71 (ri_Yn 2) ∈ ri_G := ri_tg4 (List.mem_of_getElem? (i := 189) rfl) rfl
set_option maxRecDepth 20000 in
theorem mw2v : Cond.instanceMethod (ri_Yn 2) ∈ ri_G ∧ Cond.selects (ri_Yn 2).cls (ri_Yn 2) (ri_Yn 2) ∈ ri_G ∧ Cond.initialized (ri_Yn 2).cls ∈ ri_G ∧ ((ri_Yn 2).cls ≠ "java/lang/invoke/MethodHandle" ∧ (ri_Yn 2).cls ≠ "java/lang/invoke/VarHandle" ∧ (parseMethodDescriptor (ri_Yn 2).desc).map (fun d => d.parameters.length) = some 1) := ⟨ri_tg4 (List.mem_of_getElem? (i := 191) rfl) rfl, ri_ps3 _ (List.mem_of_getElem? (i := 4) rfl : (⟨"FactorNets$Chain", "learnPlaces", "(I)V"⟩, 10) ∈ lw_privs_3), ri_tg1 (List.mem_of_getElem? (i := 10) rfl) rfl, ⟨by decide +kernel, by decide +kernel, by decide +kernel⟩⟩
set_option maxRecDepth 20000 in
theorem gw24 : Cond.methodLink RX0 75 (ri_Yn 317) ∈ ri_G := ri_tg4 (List.mem_of_getElem? (i := 233) rfl) rfl
set_option maxRecDepth 20000 in
theorem mw317s : Cond.static (ri_Yn 317) ∈ ri_G ∧ Cond.initialized (ri_Yn 317).cls ∈ ri_G ∧ ((ri_Yn 317).cls ≠ "java/lang/invoke/MethodHandle" ∧ (ri_Yn 317).cls ≠ "java/lang/invoke/VarHandle" ∧ (parseMethodDescriptor (ri_Yn 317).desc).map (fun d => d.parameters.length) = some 1) := ⟨ri_tg3 (List.mem_of_getElem? (i := 107) rfl) rfl, ri_tg1 (List.mem_of_getElem? (i := 20) rfl) rfl, ⟨by decide +kernel, by decide +kernel, by decide +kernel⟩⟩
set_option maxRecDepth 20000 in
theorem gw25 : Cond.methodLink RX0 81 (ri_Yn 3) ∈ ri_G := ri_tg4 (List.mem_of_getElem? (i := 193) rfl) rfl
set_option maxRecDepth 20000 in
theorem mw3v : Cond.instanceMethod (ri_Yn 3) ∈ ri_G ∧ Cond.selects (ri_Yn 3).cls (ri_Yn 3) (ri_Yn 3) ∈ ri_G ∧ Cond.initialized (ri_Yn 3).cls ∈ ri_G ∧ ((ri_Yn 3).cls ≠ "java/lang/invoke/MethodHandle" ∧ (ri_Yn 3).cls ≠ "java/lang/invoke/VarHandle" ∧ (parseMethodDescriptor (ri_Yn 3).desc).map (fun d => d.parameters.length) = some 2) := ⟨ri_tg4 (List.mem_of_getElem? (i := 195) rfl) rfl, ri_ps3 _ (List.mem_of_getElem? (i := 5) rfl : (⟨"FactorNets$Chain", "findTaker", "(II)Z"⟩, 10) ∈ lw_privs_3), ri_tg1 (List.mem_of_getElem? (i := 10) rfl) rfl, ⟨by decide +kernel, by decide +kernel, by decide +kernel⟩⟩
set_option maxRecDepth 20000 in
theorem gw26 : Cond.methodLink RX0 85 (ri_Yn 4) ∈ ri_G := ri_tg4 (List.mem_of_getElem? (i := 219) rfl) rfl
set_option maxRecDepth 20000 in
theorem mw4v : Cond.instanceMethod (ri_Yn 4) ∈ ri_G ∧ Cond.selects (ri_Yn 4).cls (ri_Yn 4) (ri_Yn 4) ∈ ri_G ∧ Cond.initialized (ri_Yn 4).cls ∈ ri_G ∧ ((ri_Yn 4).cls ≠ "java/lang/invoke/MethodHandle" ∧ (ri_Yn 4).cls ≠ "java/lang/invoke/VarHandle" ∧ (parseMethodDescriptor (ri_Yn 4).desc).map (fun d => d.parameters.length) = some 0) := ⟨ri_tg4 (List.mem_of_getElem? (i := 221) rfl) rfl, ri_ps3 _ (List.mem_of_getElem? (i := 8) rfl : (⟨"FactorNets$Chain", "addGenerator", "()V"⟩, 10) ∈ lw_privs_3), ri_tg1 (List.mem_of_getElem? (i := 10) rfl) rfl, ⟨by decide +kernel, by decide +kernel, by decide +kernel⟩⟩
set_option maxRecDepth 20000 in
theorem gw27 : Cond.methodLink RX0 88 (ri_Yn 5) ∈ ri_G := ri_tg4 (List.mem_of_getElem? (i := 224) rfl) rfl
set_option maxRecDepth 20000 in
theorem mw5v : Cond.instanceMethod (ri_Yn 5) ∈ ri_G ∧ Cond.selects (ri_Yn 5).cls (ri_Yn 5) (ri_Yn 5) ∈ ri_G ∧ Cond.initialized (ri_Yn 5).cls ∈ ri_G ∧ ((ri_Yn 5).cls ≠ "java/lang/invoke/MethodHandle" ∧ (ri_Yn 5).cls ≠ "java/lang/invoke/VarHandle" ∧ (parseMethodDescriptor (ri_Yn 5).desc).map (fun d => d.parameters.length) = some 1) := ⟨ri_tg4 (List.mem_of_getElem? (i := 226) rfl) rfl, ri_ps3 _ (List.mem_of_getElem? (i := 9) rfl : (⟨"FactorNets$Chain", "growPlaces", "(I)V"⟩, 10) ∈ lw_privs_3), ri_tg1 (List.mem_of_getElem? (i := 10) rfl) rfl, ⟨by decide +kernel, by decide +kernel, by decide +kernel⟩⟩
set_option maxRecDepth 20000 in
theorem gw28 : Cond.methodLink RX0 91 (ri_Yn 6) ∈ ri_G := ri_tg4 (List.mem_of_getElem? (i := 229) rfl) rfl
set_option maxRecDepth 20000 in
theorem mw6v : Cond.instanceMethod (ri_Yn 6) ∈ ri_G ∧ Cond.selects (ri_Yn 6).cls (ri_Yn 6) (ri_Yn 6) ∈ ri_G ∧ Cond.initialized (ri_Yn 6).cls ∈ ri_G ∧ ((ri_Yn 6).cls ≠ "java/lang/invoke/MethodHandle" ∧ (ri_Yn 6).cls ≠ "java/lang/invoke/VarHandle" ∧ (parseMethodDescriptor (ri_Yn 6).desc).map (fun d => d.parameters.length) = some 1) := ⟨ri_tg4 (List.mem_of_getElem? (i := 230) rfl) rfl, ri_tg4 (List.mem_of_getElem? (i := 231) rfl) rfl, ri_tg1 (List.mem_of_getElem? (i := 10) rfl) rfl, ⟨by decide +kernel, by decide +kernel, by decide +kernel⟩⟩
set_option maxRecDepth 20000 in
theorem gw29 : Cond.methodLink RX0 94 (ri_Yn 72) ∈ ri_G := ri_tg4 (List.mem_of_getElem? (i := 197) rfl) rfl
set_option maxRecDepth 20000 in
theorem mw72v : Cond.instanceMethod (ri_Yn 72) ∈ ri_G ∧ Cond.selects (ri_Yn 72).cls (ri_Yn 72) (ri_Yn 72) ∈ ri_G ∧ Cond.initialized (ri_Yn 72).cls ∈ ri_G ∧ ((ri_Yn 72).cls ≠ "java/lang/invoke/MethodHandle" ∧ (ri_Yn 72).cls ≠ "java/lang/invoke/VarHandle" ∧ (parseMethodDescriptor (ri_Yn 72).desc).map (fun d => d.parameters.length) = some 0) := ⟨ri_tg4 (List.mem_of_getElem? (i := 198) rfl) rfl, ri_tg4 (List.mem_of_getElem? (i := 199) rfl) rfl, ri_tg1 (List.mem_of_getElem? (i := 11) rfl) rfl, ⟨by decide +kernel, by decide +kernel, by decide +kernel⟩⟩
set_option maxRecDepth 20000 in
theorem gw30 : Cond.methodLink RX0 97 (ri_Yn 73) ∈ ri_G := ri_tg4 (List.mem_of_getElem? (i := 202) rfl) rfl
set_option maxRecDepth 20000 in
theorem mw73v : Cond.instanceMethod (ri_Yn 73) ∈ ri_G ∧ Cond.selects (ri_Yn 73).cls (ri_Yn 73) (ri_Yn 73) ∈ ri_G ∧ Cond.initialized (ri_Yn 73).cls ∈ ri_G ∧ ((ri_Yn 73).cls ≠ "java/lang/invoke/MethodHandle" ∧ (ri_Yn 73).cls ≠ "java/lang/invoke/VarHandle" ∧ (parseMethodDescriptor (ri_Yn 73).desc).map (fun d => d.parameters.length) = some 2) := ⟨ri_tg4 (List.mem_of_getElem? (i := 203) rfl) rfl, ri_tg4 (List.mem_of_getElem? (i := 204) rfl) rfl, ri_tg1 (List.mem_of_getElem? (i := 11) rfl) rfl, ⟨by decide +kernel, by decide +kernel, by decide +kernel⟩⟩
set_option maxRecDepth 20000 in
theorem gw31 : Cond.methodLink RX0 101 (ri_Yn 22) ∈ ri_G := ri_tg4 (List.mem_of_getElem? (i := 210) rfl) rfl
set_option maxRecDepth 20000 in
theorem mw22v : Cond.instanceMethod (ri_Yn 22) ∈ ri_G ∧ Cond.selects (ri_Yn 22).cls (ri_Yn 22) (ri_Yn 22) ∈ ri_G ∧ Cond.initialized (ri_Yn 22).cls ∈ ri_G ∧ ((ri_Yn 22).cls ≠ "java/lang/invoke/MethodHandle" ∧ (ri_Yn 22).cls ≠ "java/lang/invoke/VarHandle" ∧ (parseMethodDescriptor (ri_Yn 22).desc).map (fun d => d.parameters.length) = some 0) := ⟨ri_tg3 (List.mem_of_getElem? (i := 113) rfl) rfl, ri_tg3 (List.mem_of_getElem? (i := 114) rfl) rfl, ri_tg1 (List.mem_of_getElem? (i := 3) rfl) rfl, ⟨by decide +kernel, by decide +kernel, by decide +kernel⟩⟩
set_option maxRecDepth 20000 in
theorem mw75s : Cond.static (ri_Yn 75) ∈ ri_G ∧ Cond.initialized (ri_Yn 75).cls ∈ ri_G ∧ ((ri_Yn 75).cls ≠ "java/lang/invoke/MethodHandle" ∧ (ri_Yn 75).cls ≠ "java/lang/invoke/VarHandle" ∧ (parseMethodDescriptor (ri_Yn 75).desc).map (fun d => d.parameters.length) = some 3) := ⟨ri_tg4 (List.mem_of_getElem? (i := 212) rfl) rfl, ri_tg1 (List.mem_of_getElem? (i := 11) rfl) rfl, ⟨by decide +kernel, by decide +kernel, by decide +kernel⟩⟩
set_option maxRecDepth 20000 in
theorem gw32 : Cond.fieldLink RX0 109 (TX8 0).1 (TX8 0).2.1 (TX8 0).2.2.1 ∈ ri_G := ri_tg2 (List.mem_of_getElem? (i := 51) rfl) rfl
set_option maxRecDepth 20000 in
theorem gw33 : Cond.methodLink RX0 112 arraycopyName ∈ ri_G := ri_tg4 (List.mem_of_getElem? (i := 223) rfl) rfl
set_option maxRecDepth 20000 in
theorem gw34 : Cond.native arraycopyName ∈ ri_G := ri_tg3 (List.mem_of_getElem? (i := 122) rfl) rfl
set_option maxRecDepth 20000 in
theorem gw35 : Cond.static arraycopyName ∈ ri_G := ri_tg3 (List.mem_of_getElem? (i := 121) rfl) rfl
set_option maxRecDepth 20000 in
theorem gw36 : Cond.initialized "java/lang/System" ∈ ri_G := ri_tg1 (List.mem_of_getElem? (i := 21) rfl) rfl
set_option maxRecDepth 20000 in
theorem mw177s : Cond.static (ri_Yn 177) ∈ ri_G ∧ Cond.initialized (ri_Yn 177).cls ∈ ri_G ∧ ((ri_Yn 177).cls ≠ "java/lang/invoke/MethodHandle" ∧ (ri_Yn 177).cls ≠ "java/lang/invoke/VarHandle" ∧ (parseMethodDescriptor (ri_Yn 177).desc).map (fun d => d.parameters.length) = some 1) := ⟨ri_tg3 (List.mem_of_getElem? (i := 104) rfl) rfl, ri_tg1 (List.mem_of_getElem? (i := 1) rfl) rfl, ⟨by decide +kernel, by decide +kernel, by decide +kernel⟩⟩
set_option maxRecDepth 20000 in
theorem gw37 : Cond.methodLink RX0 121 Lib.Math.max.name ∈ ri_G := ri_tg5 (List.mem_of_getElem? (i := 23) rfl) rfl
set_option maxRecDepth 20000 in
theorem gw38 : Cond.static Lib.Math.max.name ∈ ri_G := ri_tg3 (List.mem_of_getElem? (i := 199) rfl) rfl
set_option maxRecDepth 20000 in
theorem gw39 : Cond.initialized "java/lang/Math" ∈ ri_G := ri_tg1 (List.mem_of_getElem? (i := 15) rfl) rfl
set_option maxRecDepth 20000 in
theorem gw40 : Cond.code Lib.Math.max.name Lib.Math.max.code 2 (some .int) ∈ ri_G := ri_tg3 (List.mem_of_getElem? (i := 200) rfl) rfl
set_option maxRecDepth 20000 in
theorem gw41 : Cond.methodLink RX0 127 Lib.MathLoose.max_long.x ∈ ri_G := ri_tg5 (List.mem_of_getElem? (i := 24) rfl) rfl
set_option maxRecDepth 20000 in
theorem gw42 : Cond.static Lib.MathLoose.max_long.x ∈ ri_G := ri_tg5 (List.mem_of_getElem? (i := 25) rfl) rfl
set_option maxRecDepth 20000 in
theorem gw43 : Cond.code Lib.MathLoose.max_long.x Lib.MathLoose.max_long.code 4 (some .long) ∈ ri_G := ri_tg5 (List.mem_of_getElem? (i := 26) rfl) rfl
set_option maxRecDepth 20000 in
theorem gw44 : Cond.methodLink RX0 130 (ri_Yn 9) ∈ ri_G := ri_tg5 (List.mem_of_getElem? (i := 27) rfl) rfl
set_option maxRecDepth 20000 in
theorem mw9v : Cond.instanceMethod (ri_Yn 9) ∈ ri_G ∧ Cond.selects (ri_Yn 9).cls (ri_Yn 9) (ri_Yn 9) ∈ ri_G ∧ Cond.initialized (ri_Yn 9).cls ∈ ri_G ∧ ((ri_Yn 9).cls ≠ "java/lang/invoke/MethodHandle" ∧ (ri_Yn 9).cls ≠ "java/lang/invoke/VarHandle" ∧ (parseMethodDescriptor (ri_Yn 9).desc).map (fun d => d.parameters.length) = some 1) := ⟨ri_tg5 (List.mem_of_getElem? (i := 29) rfl) rfl, ri_ps3 _ (List.mem_of_getElem? (i := 11) rfl : (⟨"FactorNets$Chain", "imagesOf", "(I)I"⟩, 10) ∈ lw_privs_3), ri_tg1 (List.mem_of_getElem? (i := 10) rfl) rfl, ⟨by decide +kernel, by decide +kernel, by decide +kernel⟩⟩
set_option maxRecDepth 20000 in
theorem gw45 : Cond.methodLink RX0 133 (ri_Yn 10) ∈ ri_G := ri_tg5 (List.mem_of_getElem? (i := 31) rfl) rfl
set_option maxRecDepth 20000 in
theorem mw10v : Cond.instanceMethod (ri_Yn 10) ∈ ri_G ∧ Cond.selects (ri_Yn 10).cls (ri_Yn 10) (ri_Yn 10) ∈ ri_G ∧ Cond.initialized (ri_Yn 10).cls ∈ ri_G ∧ ((ri_Yn 10).cls ≠ "java/lang/invoke/MethodHandle" ∧ (ri_Yn 10).cls ≠ "java/lang/invoke/VarHandle" ∧ (parseMethodDescriptor (ri_Yn 10).desc).map (fun d => d.parameters.length) = some 2) := ⟨ri_tg5 (List.mem_of_getElem? (i := 33) rfl) rfl, ri_ps3 _ (List.mem_of_getElem? (i := 12) rfl : (⟨"FactorNets$Chain", "sourceOf", "(IJ)I"⟩, 10) ∈ lw_privs_3), ri_tg1 (List.mem_of_getElem? (i := 10) rfl) rfl, ⟨by decide +kernel, by decide +kernel, by decide +kernel⟩⟩
set_option maxRecDepth 20000 in
theorem gw46 : Cond.methodLink RX0 137 (ri_Yn 8) ∈ ri_G := ri_tg5 (List.mem_of_getElem? (i := 35) rfl) rfl
set_option maxRecDepth 20000 in
theorem mw8v : Cond.instanceMethod (ri_Yn 8) ∈ ri_G ∧ Cond.selects (ri_Yn 8).cls (ri_Yn 8) (ri_Yn 8) ∈ ri_G ∧ Cond.initialized (ri_Yn 8).cls ∈ ri_G ∧ ((ri_Yn 8).cls ≠ "java/lang/invoke/MethodHandle" ∧ (ri_Yn 8).cls ≠ "java/lang/invoke/VarHandle" ∧ (parseMethodDescriptor (ri_Yn 8).desc).map (fun d => d.parameters.length) = some 2) := ⟨ri_tg5 (List.mem_of_getElem? (i := 37) rfl) rfl, ri_ps3 _ (List.mem_of_getElem? (i := 13) rfl : (⟨"FactorNets$Chain", "takeFirst", "(II)V"⟩, 10) ∈ lw_privs_3), ri_tg1 (List.mem_of_getElem? (i := 10) rfl) rfl, ⟨by decide +kernel, by decide +kernel, by decide +kernel⟩⟩
set_option maxRecDepth 20000 in
theorem gw47 : Cond.methodLink RX1 3 objectInit ∈ ri_G := ri_tg1 (List.mem_of_getElem? (i := 135) rfl) rfl
set_option maxRecDepth 20000 in
theorem gw48 : Cond.fieldLink RX1 9 (TX1 1).1 (TX1 1).2.1 (TX1 1).2.2.1 ∈ ri_G := ri_tg1 (List.mem_of_getElem? (i := 141) rfl) rfl
set_option maxRecDepth 20000 in
theorem gw49 : Cond.fieldLink RX1 15 (TX1 2).1 (TX1 2).2.1 (TX1 2).2.2.1 ∈ ri_G := ri_tg1 (List.mem_of_getElem? (i := 145) rfl) rfl
set_option maxRecDepth 20000 in
theorem gw50 : Cond.classLink RX1 18 ("[" ++ (FieldType.array .int).toString) ∈ ri_G := ri_tg1 (List.mem_of_getElem? (i := 136) rfl) rfl
set_option maxRecDepth 20000 in
theorem gw51 : Cond.fieldLink RX1 20 (TX1 3).1 (TX1 3).2.1 (TX1 3).2.2.1 ∈ ri_G := ri_tg1 (List.mem_of_getElem? (i := 149) rfl) rfl
set_option maxRecDepth 20000 in
theorem gw52 : Cond.fieldLink RX1 23 (TX1 0).1 (TX1 0).2.1 (TX1 0).2.2.1 ∈ ri_G := ri_tg1 (List.mem_of_getElem? (i := 137) rfl) rfl
set_option maxRecDepth 20000 in
theorem gw53 : Cond.fieldLink RX1 27 (TX3 0).1 (TX3 0).2.1 (TX3 0).2.2.1 ∈ ri_G := ri_tg1 (List.mem_of_getElem? (i := 44) rfl) rfl
set_option maxRecDepth 20000 in
theorem gw54 : Cond.methodLink RX1 32 (ri_Yn 23) ∈ ri_G := ri_tg3 (List.mem_of_getElem? (i := 171) rfl) rfl
set_option maxRecDepth 20000 in
theorem mw23v : Cond.instanceMethod (ri_Yn 23) ∈ ri_G ∧ Cond.selects (ri_Yn 23).cls (ri_Yn 23) (ri_Yn 23) ∈ ri_G ∧ Cond.initialized (ri_Yn 23).cls ∈ ri_G ∧ ((ri_Yn 23).cls ≠ "java/lang/invoke/MethodHandle" ∧ (ri_Yn 23).cls ≠ "java/lang/invoke/VarHandle" ∧ (parseMethodDescriptor (ri_Yn 23).desc).map (fun d => d.parameters.length) = some 2) := ⟨ri_tg3 (List.mem_of_getElem? (i := 89) rfl) rfl, ri_tg3 (List.mem_of_getElem? (i := 90) rfl) rfl, ri_tg1 (List.mem_of_getElem? (i := 3) rfl) rfl, ⟨by decide +kernel, by decide +kernel, by decide +kernel⟩⟩
set_option maxRecDepth 20000 in
theorem gw55 : Cond.methodLink RX2 3 objectInit ∈ ri_G := ri_tg1 (List.mem_of_getElem? (i := 116) rfl) rfl
set_option maxRecDepth 20000 in
theorem gw56 : Cond.classLink RX2 9 ("[" ++ (FieldType.array .int).toString) ∈ ri_G := ri_tg1 (List.mem_of_getElem? (i := 117) rfl) rfl
set_option maxRecDepth 20000 in
theorem gw57 : Cond.fieldLink RX2 11 (TX2 0).1 (TX2 0).2.1 (TX2 0).2.2.1 ∈ ri_G := ri_tg1 (List.mem_of_getElem? (i := 119) rfl) rfl
set_option maxRecDepth 20000 in
theorem gw58 : Cond.fieldLink RX2 16 (TX2 1).1 (TX2 1).2.1 (TX2 1).2.2.1 ∈ ri_G := ri_tg1 (List.mem_of_getElem? (i := 122) rfl) rfl
set_option maxRecDepth 20000 in
theorem gw59 : Cond.methodLink RX2 19 (ri_Yn 319) ∈ ri_G := ri_tg3 (List.mem_of_getElem? (i := 161) rfl) rfl
set_option maxRecDepth 20000 in
theorem mw319s : Cond.static (ri_Yn 319) ∈ ri_G ∧ Cond.initialized (ri_Yn 319).cls ∈ ri_G ∧ ((ri_Yn 319).cls ≠ "java/lang/invoke/MethodHandle" ∧ (ri_Yn 319).cls ≠ "java/lang/invoke/VarHandle" ∧ (parseMethodDescriptor (ri_Yn 319).desc).map (fun d => d.parameters.length) = some 2) := ⟨ri_tg2 (List.mem_of_getElem? (i := 202) rfl) rfl, ri_tg1 (List.mem_of_getElem? (i := 14) rfl) rfl, ⟨by decide +kernel, by decide +kernel, by decide +kernel⟩⟩
set_option maxRecDepth 20000 in
theorem gw60 : Cond.fieldLink RX2 29 (TX3 1).1 (TX3 1).2.1 (TX3 1).2.2.1 ∈ ri_G := ri_tg1 (List.mem_of_getElem? (i := 54) rfl) rfl
set_option maxRecDepth 20000 in
theorem gw61 : Cond.methodLink RX3 3 objectInit ∈ ri_G := ri_tg1 (List.mem_of_getElem? (i := 41) rfl) rfl
set_option maxRecDepth 20000 in
theorem gw62 : Cond.fieldLink RX3 9 (TX3 1).1 (TX3 1).2.1 (TX3 1).2.2.1 ∈ ri_G := ri_tg1 (List.mem_of_getElem? (i := 53) rfl) rfl
set_option maxRecDepth 20000 in
theorem gw63 : Cond.fieldLink RX3 15 (TX3 0).1 (TX3 0).2.1 (TX3 0).2.2.1 ∈ ri_G := ri_tg1 (List.mem_of_getElem? (i := 42) rfl) rfl
set_option maxRecDepth 20000 in
theorem gw64 : Cond.methodLink RX3 19 (ri_Yn 319) ∈ ri_G := ri_tg2 (List.mem_of_getElem? (i := 201) rfl) rfl
set_option maxRecDepth 20000 in
theorem gw65 : Cond.methodLink RX3 25 arraycopyName ∈ ri_G := ri_tg3 (List.mem_of_getElem? (i := 120) rfl) rfl
set_option maxRecDepth 20000 in
theorem gw66 : Cond.methodLink RX3 31 (ri_Yn 317) ∈ ri_G := ri_tg3 (List.mem_of_getElem? (i := 148) rfl) rfl
set_option maxRecDepth 20000 in
theorem mw178s : Cond.static (ri_Yn 178) ∈ ri_G ∧ Cond.initialized (ri_Yn 178).cls ∈ ri_G ∧ ((ri_Yn 178).cls ≠ "java/lang/invoke/MethodHandle" ∧ (ri_Yn 178).cls ≠ "java/lang/invoke/VarHandle" ∧ (parseMethodDescriptor (ri_Yn 178).desc).map (fun d => d.parameters.length) = some 2) := ⟨ri_tg3 (List.mem_of_getElem? (i := 101) rfl) rfl, ri_tg1 (List.mem_of_getElem? (i := 1) rfl) rfl, ⟨by decide +kernel, by decide +kernel, by decide +kernel⟩⟩
set_option maxRecDepth 20000 in
theorem gw67 : Cond.methodLink RX3 41 (ri_Yn 22) ∈ ri_G := ri_tg3 (List.mem_of_getElem? (i := 112) rfl) rfl
set_option maxRecDepth 20000 in
theorem gw68 : Cond.methodLink RX3 45 (ri_Yn 29) ∈ ri_G := ri_tg5 (List.mem_of_getElem? (i := 167) rfl) rfl
set_option maxRecDepth 20000 in
theorem mw29v : Cond.instanceMethod (ri_Yn 29) ∈ ri_G ∧ Cond.selects (ri_Yn 29).cls (ri_Yn 29) (ri_Yn 29) ∈ ri_G ∧ Cond.initialized (ri_Yn 29).cls ∈ ri_G ∧ ((ri_Yn 29).cls ≠ "java/lang/invoke/MethodHandle" ∧ (ri_Yn 29).cls ≠ "java/lang/invoke/VarHandle" ∧ (parseMethodDescriptor (ri_Yn 29).desc).map (fun d => d.parameters.length) = some 1) := ⟨ri_tg5 (List.mem_of_getElem? (i := 169) rfl) rfl, ri_ps4 _ (List.mem_of_getElem? (i := 4) rfl : (⟨"FactorNets$Net", "besideAny", "(I)I"⟩, 2) ∈ lw_privs_4), ri_tg1 (List.mem_of_getElem? (i := 3) rfl) rfl, ⟨by decide +kernel, by decide +kernel, by decide +kernel⟩⟩
set_option maxRecDepth 20000 in
theorem gw69 : Cond.methodLink RX3 48 (ri_Yn 31) ∈ ri_G := ri_tg3 (List.mem_of_getElem? (i := 71) rfl) rfl
set_option maxRecDepth 20000 in
theorem mw31s : Cond.static (ri_Yn 31) ∈ ri_G ∧ Cond.initialized (ri_Yn 31).cls ∈ ri_G ∧ ((ri_Yn 31).cls ≠ "java/lang/invoke/MethodHandle" ∧ (ri_Yn 31).cls ≠ "java/lang/invoke/VarHandle" ∧ (parseMethodDescriptor (ri_Yn 31).desc).map (fun d => d.parameters.length) = some 3) := ⟨ri_tg3 (List.mem_of_getElem? (i := 72) rfl) rfl, ri_tg1 (List.mem_of_getElem? (i := 3) rfl) rfl, ⟨by decide +kernel, by decide +kernel, by decide +kernel⟩⟩
set_option maxRecDepth 20000 in
theorem gw70 : Cond.methodLink RX3 52 (ri_Yn 32) ∈ ri_G := ri_tg3 (List.mem_of_getElem? (i := 74) rfl) rfl
set_option maxRecDepth 20000 in
theorem mw32s : Cond.static (ri_Yn 32) ∈ ri_G ∧ Cond.initialized (ri_Yn 32).cls ∈ ri_G ∧ ((ri_Yn 32).cls ≠ "java/lang/invoke/MethodHandle" ∧ (ri_Yn 32).cls ≠ "java/lang/invoke/VarHandle" ∧ (parseMethodDescriptor (ri_Yn 32).desc).map (fun d => d.parameters.length) = some 4) := ⟨ri_tg3 (List.mem_of_getElem? (i := 75) rfl) rfl, ri_tg1 (List.mem_of_getElem? (i := 3) rfl) rfl, ⟨by decide +kernel, by decide +kernel, by decide +kernel⟩⟩
set_option maxRecDepth 20000 in
theorem gw71 : Cond.methodLink RX4 3 objectInit ∈ ri_G := ri_tg2 (List.mem_of_getElem? (i := 105) rfl) rfl
set_option maxRecDepth 20000 in
theorem gw72 : Cond.fieldLink RX4 9 (TX4 0).1 (TX4 0).2.1 (TX4 0).2.2.1 ∈ ri_G := ri_tg2 (List.mem_of_getElem? (i := 106) rfl) rfl
set_option maxRecDepth 20000 in
theorem gw73 : Cond.fieldLink RX4 15 (TX3 0).1 (TX3 0).2.1 (TX3 0).2.2.1 ∈ ri_G := ri_tg1 (List.mem_of_getElem? (i := 43) rfl) rfl
set_option maxRecDepth 20000 in
theorem gw74 : Cond.methodLink RX4 21 (ri_Yn 319) ∈ ri_G := ri_tg5 (List.mem_of_getElem? (i := 64) rfl) rfl
set_option maxRecDepth 20000 in
theorem gw75 : Cond.fieldLink RX4 27 (TX4 1).1 (TX4 1).2.1 (TX4 1).2.2.1 ∈ ri_G := ri_tg2 (List.mem_of_getElem? (i := 107) rfl) rfl
set_option maxRecDepth 20000 in
theorem gw76 : Cond.methodLink RX4 30 (ri_Yn 22) ∈ ri_G := ri_tg5 (List.mem_of_getElem? (i := 65) rfl) rfl
set_option maxRecDepth 20000 in
theorem gw77 : Cond.methodLink RX4 34 (ri_Yn 35) ∈ ri_G := ri_tg5 (List.mem_of_getElem? (i := 66) rfl) rfl
set_option maxRecDepth 20000 in
theorem mw35s : Cond.static (ri_Yn 35) ∈ ri_G ∧ Cond.initialized (ri_Yn 35).cls ∈ ri_G ∧ ((ri_Yn 35).cls ≠ "java/lang/invoke/MethodHandle" ∧ (ri_Yn 35).cls ≠ "java/lang/invoke/VarHandle" ∧ (parseMethodDescriptor (ri_Yn 35).desc).map (fun d => d.parameters.length) = some 5) := ⟨ri_tg5 (List.mem_of_getElem? (i := 67) rfl) rfl, ri_tg1 (List.mem_of_getElem? (i := 12) rfl) rfl, ⟨by decide +kernel, by decide +kernel, by decide +kernel⟩⟩
set_option maxRecDepth 20000 in
theorem gw78 : Cond.methodLink RX4 38 (ri_Yn 36) ∈ ri_G := ri_tg5 (List.mem_of_getElem? (i := 69) rfl) rfl
set_option maxRecDepth 20000 in
theorem mw36v : Cond.instanceMethod (ri_Yn 36) ∈ ri_G ∧ Cond.selects (ri_Yn 36).cls (ri_Yn 36) (ri_Yn 36) ∈ ri_G ∧ Cond.initialized (ri_Yn 36).cls ∈ ri_G ∧ ((ri_Yn 36).cls ≠ "java/lang/invoke/MethodHandle" ∧ (ri_Yn 36).cls ≠ "java/lang/invoke/VarHandle" ∧ (parseMethodDescriptor (ri_Yn 36).desc).map (fun d => d.parameters.length) = some 3) := ⟨ri_tg5 (List.mem_of_getElem? (i := 71) rfl) rfl, ri_ps3 _ (List.mem_of_getElem? (i := 14) rfl : (⟨"FactorNets$Painter", "tightest", "(LFactorNets$Net;II)I"⟩, 2) ∈ lw_privs_3), ri_tg1 (List.mem_of_getElem? (i := 12) rfl) rfl, ⟨by decide +kernel, by decide +kernel, by decide +kernel⟩⟩
set_option maxRecDepth 20000 in
theorem gw79 : Cond.fieldLink RX4 42 (TX3 1).1 (TX3 1).2.1 (TX3 1).2.2.1 ∈ ri_G := ri_tg1 (List.mem_of_getElem? (i := 57) rfl) rfl
set_option maxRecDepth 20000 in
theorem gw80 : Cond.methodLink RX4 45 Lib.Math.max.name ∈ ri_G := ri_tg5 (List.mem_of_getElem? (i := 78) rfl) rfl
set_option maxRecDepth 20000 in
theorem gw81 : Cond.methodLink RX4 51 (ri_Yn 37) ∈ ri_G := ri_tg5 (List.mem_of_getElem? (i := 73) rfl) rfl
set_option maxRecDepth 20000 in
theorem mw37v : Cond.instanceMethod (ri_Yn 37) ∈ ri_G ∧ Cond.selects (ri_Yn 37).cls (ri_Yn 37) (ri_Yn 37) ∈ ri_G ∧ Cond.initialized (ri_Yn 37).cls ∈ ri_G ∧ ((ri_Yn 37).cls ≠ "java/lang/invoke/MethodHandle" ∧ (ri_Yn 37).cls ≠ "java/lang/invoke/VarHandle" ∧ (parseMethodDescriptor (ri_Yn 37).desc).map (fun d => d.parameters.length) = some 2) := ⟨ri_tg5 (List.mem_of_getElem? (i := 75) rfl) rfl, ri_ps3 _ (List.mem_of_getElem? (i := 15) rfl : (⟨"FactorNets$Painter", "barred", "(II)I"⟩, 2) ∈ lw_privs_3), ri_tg1 (List.mem_of_getElem? (i := 12) rfl) rfl, ⟨by decide +kernel, by decide +kernel, by decide +kernel⟩⟩
set_option maxRecDepth 20000 in
theorem gw82 : Cond.methodLink RX4 54 (ri_Yn 317) ∈ ri_G := ri_tg5 (List.mem_of_getElem? (i := 77) rfl) rfl
set_option maxRecDepth 20000 in
theorem gw83 : Cond.methodLink RX5 3 objectInit ∈ ri_G := ri_tg1 (List.mem_of_getElem? (i := 227) rfl) rfl
set_option maxRecDepth 20000 in
theorem gw84 : Cond.fieldLink RX5 9 (TX5 1).1 (TX5 1).2.1 (TX5 1).2.2.1 ∈ ri_G := ri_tg1 (List.mem_of_getElem? (i := 231) rfl) rfl
set_option maxRecDepth 20000 in
theorem gw85 : Cond.classLink RX5 15 ("[" ++ (FieldType.array .int).toString) ∈ ri_G := ri_tg1 (List.mem_of_getElem? (i := 228) rfl) rfl
set_option maxRecDepth 20000 in
theorem gw86 : Cond.fieldLink RX5 17 (TX5 2).1 (TX5 2).2.1 (TX5 2).2.2.1 ∈ ri_G := ri_tg1 (List.mem_of_getElem? (i := 233) rfl) rfl
set_option maxRecDepth 20000 in
theorem gw87 : Cond.fieldLink RX5 20 (TX5 3).1 (TX5 3).2.1 (TX5 3).2.2.1 ∈ ri_G := ri_tg1 (List.mem_of_getElem? (i := 235) rfl) rfl
set_option maxRecDepth 20000 in
theorem gw88 : Cond.fieldLink RX5 23 (TX5 4).1 (TX5 4).2.1 (TX5 4).2.2.1 ∈ ri_G := ri_tg1 (List.mem_of_getElem? (i := 237) rfl) rfl
set_option maxRecDepth 20000 in
theorem gw89 : Cond.fieldLink RX5 26 (TX5 5).1 (TX5 5).2.1 (TX5 5).2.2.1 ∈ ri_G := ri_tg1 (List.mem_of_getElem? (i := 239) rfl) rfl
set_option maxRecDepth 20000 in
theorem gw90 : Cond.fieldLink RX5 29 (TX9 1).1 (TX9 1).2.1 (TX9 1).2.2.1 ∈ ri_G := ri_tg1 (List.mem_of_getElem? (i := 169) rfl) rfl
set_option maxRecDepth 20000 in
theorem gw91 : Cond.methodLink RX5 35 Lib.Math.min.name ∈ ri_G := ri_tg4 (List.mem_of_getElem? (i := 57) rfl) rfl
set_option maxRecDepth 20000 in
theorem gw92 : Cond.static Lib.Math.min.name ∈ ri_G := ri_tg2 (List.mem_of_getElem? (i := 227) rfl) rfl
set_option maxRecDepth 20000 in
theorem gw93 : Cond.code Lib.Math.min.name Lib.Math.min.code 2 (some .int) ∈ ri_G := ri_tg2 (List.mem_of_getElem? (i := 228) rfl) rfl
set_option maxRecDepth 20000 in
theorem gw94 : Cond.fieldLink RX5 41 (TX5 0).1 (TX5 0).2.1 (TX5 0).2.2.1 ∈ ri_G := ri_tg1 (List.mem_of_getElem? (i := 229) rfl) rfl
set_option maxRecDepth 20000 in
theorem gw95 : Cond.methodLink RX5 44 (ri_Yn 319) ∈ ri_G := ri_tg4 (List.mem_of_getElem? (i := 58) rfl) rfl
set_option maxRecDepth 20000 in
theorem gw96 : Cond.fieldLink RX5 50 (TX10 2).1 (TX10 2).2.1 (TX10 2).2.2.1 ∈ ri_G := ri_tg1 (List.mem_of_getElem? (i := 200) rfl) rfl
set_option maxRecDepth 20000 in
theorem gw97 : Cond.fieldLink RX5 56 (TX1 0).1 (TX1 0).2.1 (TX1 0).2.2.1 ∈ ri_G := ri_tg1 (List.mem_of_getElem? (i := 139) rfl) rfl
set_option maxRecDepth 20000 in
theorem gw98 : Cond.fieldLink RX5 59 (TX9 3).1 (TX9 3).2.1 (TX9 3).2.2.1 ∈ ri_G := ri_tg1 (List.mem_of_getElem? (i := 175) rfl) rfl
set_option maxRecDepth 20000 in
theorem gw99 : Cond.fieldLink RX5 62 (TX1 1).1 (TX1 1).2.1 (TX1 1).2.2.1 ∈ ri_G := ri_tg1 (List.mem_of_getElem? (i := 142) rfl) rfl
set_option maxRecDepth 20000 in
theorem gw100 : Cond.fieldLink RX5 65 (TX1 2).1 (TX1 2).2.1 (TX1 2).2.2.1 ∈ ri_G := ri_tg1 (List.mem_of_getElem? (i := 146) rfl) rfl
set_option maxRecDepth 20000 in
theorem gw101 : Cond.fieldLink RX5 68 (TX10 0).1 (TX10 0).2.1 (TX10 0).2.2.1 ∈ ri_G := ri_tg1 (List.mem_of_getElem? (i := 195) rfl) rfl
set_option maxRecDepth 20000 in
theorem gw102 : Cond.methodLink RX5 72 (ri_Yn 40) ∈ ri_G := ri_tg4 (List.mem_of_getElem? (i := 59) rfl) rfl
set_option maxRecDepth 20000 in
theorem mw40v : Cond.instanceMethod (ri_Yn 40) ∈ ri_G ∧ Cond.selects (ri_Yn 40).cls (ri_Yn 40) (ri_Yn 40) ∈ ri_G ∧ Cond.initialized (ri_Yn 40).cls ∈ ri_G ∧ ((ri_Yn 40).cls ≠ "java/lang/invoke/MethodHandle" ∧ (ri_Yn 40).cls ≠ "java/lang/invoke/VarHandle" ∧ (parseMethodDescriptor (ri_Yn 40).desc).map (fun d => d.parameters.length) = some 2) := ⟨ri_tg4 (List.mem_of_getElem? (i := 61) rfl) rfl, ri_ps2 _ (List.mem_of_getElem? (i := 10) rfl : (⟨"FactorNets$Parts", "learnCorners", "(LFactorNets$Net;I)V"⟩, 6) ∈ lw_privs_2), ri_tg1 (List.mem_of_getElem? (i := 8) rfl) rfl, ⟨by decide +kernel, by decide +kernel, by decide +kernel⟩⟩
set_option maxRecDepth 20000 in
theorem gw103 : Cond.fieldLink RX5 76 (TX3 0).1 (TX3 0).2.1 (TX3 0).2.2.1 ∈ ri_G := ri_tg1 (List.mem_of_getElem? (i := 47) rfl) rfl
set_option maxRecDepth 20000 in
theorem gw104 : Cond.fieldLink RX5 81 (TX3 1).1 (TX3 1).2.1 (TX3 1).2.2.1 ∈ ri_G := ri_tg1 (List.mem_of_getElem? (i := 55) rfl) rfl
set_option maxRecDepth 20000 in
theorem mw179s : Cond.static (ri_Yn 179) ∈ ri_G ∧ Cond.initialized (ri_Yn 179).cls ∈ ri_G ∧ ((ri_Yn 179).cls ≠ "java/lang/invoke/MethodHandle" ∧ (ri_Yn 179).cls ≠ "java/lang/invoke/VarHandle" ∧ (parseMethodDescriptor (ri_Yn 179).desc).map (fun d => d.parameters.length) = some 3) := ⟨ri_tg4 (List.mem_of_getElem? (i := 65) rfl) rfl, ri_tg1 (List.mem_of_getElem? (i := 1) rfl) rfl, ⟨by decide +kernel, by decide +kernel, by decide +kernel⟩⟩
set_option maxRecDepth 20000 in
theorem gw105 : Cond.methodLink RX5 91 (ri_Yn 43) ∈ ri_G := ri_tg4 (List.mem_of_getElem? (i := 100) rfl) rfl
set_option maxRecDepth 20000 in
theorem mw43v : Cond.instanceMethod (ri_Yn 43) ∈ ri_G ∧ Cond.selects (ri_Yn 43).cls (ri_Yn 43) (ri_Yn 43) ∈ ri_G ∧ Cond.initialized (ri_Yn 43).cls ∈ ri_G ∧ ((ri_Yn 43).cls ≠ "java/lang/invoke/MethodHandle" ∧ (ri_Yn 43).cls ≠ "java/lang/invoke/VarHandle" ∧ (parseMethodDescriptor (ri_Yn 43).desc).map (fun d => d.parameters.length) = some 2) := ⟨ri_tg4 (List.mem_of_getElem? (i := 102) rfl) rfl, ri_ps2 _ (List.mem_of_getElem? (i := 12) rfl : (⟨"FactorNets$Parts", "degree", "(II)I"⟩, 6) ∈ lw_privs_2), ri_tg1 (List.mem_of_getElem? (i := 8) rfl) rfl, ⟨by decide +kernel, by decide +kernel, by decide +kernel⟩⟩
set_option maxRecDepth 20000 in
theorem gw106 : Cond.methodLink RX5 94 (ri_Yn 317) ∈ ri_G := ri_tg4 (List.mem_of_getElem? (i := 104) rfl) rfl
set_option maxRecDepth 20000 in
theorem gw107 : Cond.methodLink RX5 100 (ri_Yn 41) ∈ ri_G := ri_tg4 (List.mem_of_getElem? (i := 113) rfl) rfl
set_option maxRecDepth 20000 in
theorem mw41v : Cond.instanceMethod (ri_Yn 41) ∈ ri_G ∧ Cond.selects (ri_Yn 41).cls (ri_Yn 41) (ri_Yn 41) ∈ ri_G ∧ Cond.initialized (ri_Yn 41).cls ∈ ri_G ∧ ((ri_Yn 41).cls ≠ "java/lang/invoke/MethodHandle" ∧ (ri_Yn 41).cls ≠ "java/lang/invoke/VarHandle" ∧ (parseMethodDescriptor (ri_Yn 41).desc).map (fun d => d.parameters.length) = some 1) := ⟨ri_tg4 (List.mem_of_getElem? (i := 114) rfl) rfl, ri_tg4 (List.mem_of_getElem? (i := 115) rfl) rfl, ri_tg1 (List.mem_of_getElem? (i := 8) rfl) rfl, ⟨by decide +kernel, by decide +kernel, by decide +kernel⟩⟩
set_option maxRecDepth 20000 in
theorem gw108 : Cond.methodLink RX5 103 (ri_Yn 42) ∈ ri_G := ri_tg4 (List.mem_of_getElem? (i := 117) rfl) rfl
set_option maxRecDepth 20000 in
theorem mw42v : Cond.instanceMethod (ri_Yn 42) ∈ ri_G ∧ Cond.selects (ri_Yn 42).cls (ri_Yn 42) (ri_Yn 42) ∈ ri_G ∧ Cond.initialized (ri_Yn 42).cls ∈ ri_G ∧ ((ri_Yn 42).cls ≠ "java/lang/invoke/MethodHandle" ∧ (ri_Yn 42).cls ≠ "java/lang/invoke/VarHandle" ∧ (parseMethodDescriptor (ri_Yn 42).desc).map (fun d => d.parameters.length) = some 2) := ⟨ri_tg4 (List.mem_of_getElem? (i := 97) rfl) rfl, ri_tg4 (List.mem_of_getElem? (i := 98) rfl) rfl, ri_tg1 (List.mem_of_getElem? (i := 8) rfl) rfl, ⟨by decide +kernel, by decide +kernel, by decide +kernel⟩⟩
set_option maxRecDepth 20000 in
theorem gw109 : Cond.methodLink RX5 106 (ri_Yn 19) ∈ ri_G := ri_tg4 (List.mem_of_getElem? (i := 167) rfl) rfl
set_option maxRecDepth 20000 in
theorem mw19v : Cond.instanceMethod (ri_Yn 19) ∈ ri_G ∧ Cond.selects (ri_Yn 19).cls (ri_Yn 19) (ri_Yn 19) ∈ ri_G ∧ Cond.initialized (ri_Yn 19).cls ∈ ri_G ∧ ((ri_Yn 19).cls ≠ "java/lang/invoke/MethodHandle" ∧ (ri_Yn 19).cls ≠ "java/lang/invoke/VarHandle" ∧ (parseMethodDescriptor (ri_Yn 19).desc).map (fun d => d.parameters.length) = some 1) := ⟨ri_tg2 (List.mem_of_getElem? (i := 198) rfl) rfl, ri_tg2 (List.mem_of_getElem? (i := 199) rfl) rfl, ri_tg1 (List.mem_of_getElem? (i := 3) rfl) rfl, ⟨by decide +kernel, by decide +kernel, by decide +kernel⟩⟩
set_option maxRecDepth 20000 in
theorem gw110 : Cond.methodLink RX5 110 (ri_Yn 24) ∈ ri_G := ri_tg4 (List.mem_of_getElem? (i := 168) rfl) rfl
set_option maxRecDepth 20000 in
theorem mw24v : Cond.instanceMethod (ri_Yn 24) ∈ ri_G ∧ Cond.selects (ri_Yn 24).cls (ri_Yn 24) (ri_Yn 24) ∈ ri_G ∧ Cond.initialized (ri_Yn 24).cls ∈ ri_G ∧ ((ri_Yn 24).cls ≠ "java/lang/invoke/MethodHandle" ∧ (ri_Yn 24).cls ≠ "java/lang/invoke/VarHandle" ∧ (parseMethodDescriptor (ri_Yn 24).desc).map (fun d => d.parameters.length) = some 2) := ⟨ri_tg3 (List.mem_of_getElem? (i := 93) rfl) rfl, ri_tg3 (List.mem_of_getElem? (i := 94) rfl) rfl, ri_tg1 (List.mem_of_getElem? (i := 3) rfl) rfl, ⟨by decide +kernel, by decide +kernel, by decide +kernel⟩⟩
set_option maxRecDepth 20000 in
theorem gw111 : Cond.methodLink RX6 3 objectInit ∈ ri_G := ri_tg2 (List.mem_of_getElem? (i := 18) rfl) rfl
set_option maxRecDepth 20000 in
theorem gw112 : Cond.fieldLink RX6 9 (TX6 2).1 (TX6 2).2.1 (TX6 2).2.2.1 ∈ ri_G := ri_tg2 (List.mem_of_getElem? (i := 24) rfl) rfl
set_option maxRecDepth 20000 in
theorem gw113 : Cond.classLink RX6 15 ("[" ++ (FieldType.array .int).toString) ∈ ri_G := ri_tg2 (List.mem_of_getElem? (i := 19) rfl) rfl
set_option maxRecDepth 20000 in
theorem gw114 : Cond.fieldLink RX6 17 (TX6 3).1 (TX6 3).2.1 (TX6 3).2.2.1 ∈ ri_G := ri_tg2 (List.mem_of_getElem? (i := 25) rfl) rfl
set_option maxRecDepth 20000 in
theorem gw115 : Cond.fieldLink RX6 20 (TX6 0).1 (TX6 0).2.1 (TX6 0).2.2.1 ∈ ri_G := ri_tg2 (List.mem_of_getElem? (i := 20) rfl) rfl
set_option maxRecDepth 20000 in
theorem gw116 : Cond.fieldLink RX6 24 (TX6 1).1 (TX6 1).2.1 (TX6 1).2.2.1 ∈ ri_G := ri_tg2 (List.mem_of_getElem? (i := 22) rfl) rfl
set_option maxRecDepth 20000 in
theorem gw117 : Cond.methodLink RX6 27 arraycopyName ∈ ri_G := ri_tg6 (List.mem_of_getElem? (i := 0) rfl) rfl
set_option maxRecDepth 20000 in
theorem gw118 : Cond.fieldLink RX6 33 (TX3 0).1 (TX3 0).2.1 (TX3 0).2.2.1 ∈ ri_G := ri_tg1 (List.mem_of_getElem? (i := 49) rfl) rfl
set_option maxRecDepth 20000 in
theorem gw119 : Cond.fieldLink RX6 37 (TX3 1).1 (TX3 1).2.1 (TX3 1).2.2.1 ∈ ri_G := ri_tg1 (List.mem_of_getElem? (i := 58) rfl) rfl
set_option maxRecDepth 20000 in
theorem gw120 : Cond.methodLink RX7 3 objectInit ∈ ri_G := ri_tg1 (List.mem_of_getElem? (i := 35) rfl) rfl
set_option maxRecDepth 20000 in
theorem gw121 : Cond.fieldLink RX7 9 (TX7 0).1 (TX7 0).2.1 (TX7 0).2.2.1 ∈ ri_G := ri_tg1 (List.mem_of_getElem? (i := 67) rfl) rfl
set_option maxRecDepth 20000 in
theorem gw122 : Cond.classLink RX7 15 RX3 ∈ ri_G := ri_tg1 (List.mem_of_getElem? (i := 36) rfl) rfl
set_option maxRecDepth 20000 in
theorem gw123 : Cond.instantiable RX3 2 ∈ ri_G := ri_tg1 (List.mem_of_getElem? (i := 37) rfl) rfl
set_option maxRecDepth 20000 in
theorem gw124 : Cond.initialized RX3 ∈ ri_G := ri_tg1 (List.mem_of_getElem? (i := 3) rfl) rfl
set_option maxRecDepth 20000 in
theorem mw18i : (ri_Yn 18).name = "<init>" ∧ ri_Yr 18 = none ∧ Cond.instanceMethod (ri_Yn 18) ∈ ri_G ∧ Cond.initialized (ri_Yn 18).cls ∈ ri_G ∧ ((ri_Yn 18).cls ≠ "java/lang/invoke/MethodHandle" ∧ (ri_Yn 18).cls ≠ "java/lang/invoke/VarHandle" ∧ (parseMethodDescriptor (ri_Yn 18).desc).map (fun d => d.parameters.length) = some 0) := ⟨rfl, rfl, ri_tg1 (List.mem_of_getElem? (i := 39) rfl) rfl, ri_tg1 (List.mem_of_getElem? (i := 3) rfl) rfl, ⟨by decide +kernel, by decide +kernel, by decide +kernel⟩⟩
set_option maxRecDepth 20000 in
theorem gw125 : Cond.fieldLink RX7 18 (TX7 2).1 (TX7 2).2.1 (TX7 2).2.2.1 ∈ ri_G := ri_tg1 (List.mem_of_getElem? (i := 70) rfl) rfl
set_option maxRecDepth 20000 in
theorem gw126 : Cond.fieldLink RX7 22 (TX7 5).1 (TX7 5).2.1 (TX7 5).2.2.1 ∈ ri_G := ri_tg1 (List.mem_of_getElem? (i := 76) rfl) rfl
set_option maxRecDepth 20000 in
theorem gw127 : Cond.fieldLink RX7 26 (TX7 1).1 (TX7 1).2.1 (TX7 1).2.2.1 ∈ ri_G := ri_tg1 (List.mem_of_getElem? (i := 69) rfl) rfl
set_option maxRecDepth 20000 in
theorem gw128 : Cond.methodLink RX7 29 (ri_Yn 19) ∈ ri_G := ri_tg2 (List.mem_of_getElem? (i := 197) rfl) rfl
set_option maxRecDepth 20000 in
theorem gw129 : Cond.fieldLink RX7 33 (TX7 3).1 (TX7 3).2.1 (TX7 3).2.2.1 ∈ ri_G := ri_tg1 (List.mem_of_getElem? (i := 72) rfl) rfl
set_option maxRecDepth 20000 in
theorem gw130 : Cond.fieldLink RX7 36 (TX7 4).1 (TX7 4).2.1 (TX7 4).2.2.1 ∈ ri_G := ri_tg1 (List.mem_of_getElem? (i := 74) rfl) rfl
set_option maxRecDepth 20000 in
theorem gw131 : Cond.fieldLink RX7 39 (TX7 7).1 (TX7 7).2.1 (TX7 7).2.2.1 ∈ ri_G := ri_tg1 (List.mem_of_getElem? (i := 79) rfl) rfl
set_option maxRecDepth 20000 in
theorem gw132 : Cond.methodLink RX7 42 (ri_Yn 61) ∈ ri_G := ri_tg2 (List.mem_of_getElem? (i := 204) rfl) rfl
set_option maxRecDepth 20000 in
theorem mw61v : Cond.instanceMethod (ri_Yn 61) ∈ ri_G ∧ Cond.selects (ri_Yn 61).cls (ri_Yn 61) (ri_Yn 61) ∈ ri_G ∧ Cond.initialized (ri_Yn 61).cls ∈ ri_G ∧ ((ri_Yn 61).cls ≠ "java/lang/invoke/MethodHandle" ∧ (ri_Yn 61).cls ≠ "java/lang/invoke/VarHandle" ∧ (parseMethodDescriptor (ri_Yn 61).desc).map (fun d => d.parameters.length) = some 0) := ⟨ri_tg2 (List.mem_of_getElem? (i := 206) rfl) rfl, ri_ps1 _ (List.mem_of_getElem? (i := 0) rfl : (⟨"FactorNets$Reader", "advance", "()V"⟩, 10) ∈ lw_privs_1), ri_tg1 (List.mem_of_getElem? (i := 2) rfl) rfl, ⟨by decide +kernel, by decide +kernel, by decide +kernel⟩⟩
set_option maxRecDepth 20000 in
theorem gw133 : Cond.fieldLink RX7 45 (TX7 8).1 (TX7 8).2.1 (TX7 8).2.2.1 ∈ ri_G := ri_tg1 (List.mem_of_getElem? (i := 80) rfl) rfl
set_option maxRecDepth 20000 in
theorem gw134 : Cond.methodLink RX7 48 (ri_Yn 54) ∈ ri_G := ri_tg2 (List.mem_of_getElem? (i := 229) rfl) rfl
set_option maxRecDepth 20000 in
theorem mw54v : Cond.instanceMethod (ri_Yn 54) ∈ ri_G ∧ Cond.selects (ri_Yn 54).cls (ri_Yn 54) (ri_Yn 54) ∈ ri_G ∧ Cond.initialized (ri_Yn 54).cls ∈ ri_G ∧ ((ri_Yn 54).cls ≠ "java/lang/invoke/MethodHandle" ∧ (ri_Yn 54).cls ≠ "java/lang/invoke/VarHandle" ∧ (parseMethodDescriptor (ri_Yn 54).desc).map (fun d => d.parameters.length) = some 0) := ⟨ri_tg2 (List.mem_of_getElem? (i := 231) rfl) rfl, ri_ps1 _ (List.mem_of_getElem? (i := 4) rfl : (⟨"FactorNets$Reader", "readStatement", "()V"⟩, 10) ∈ lw_privs_1), ri_tg1 (List.mem_of_getElem? (i := 2) rfl) rfl, ⟨by decide +kernel, by decide +kernel, by decide +kernel⟩⟩
set_option maxRecDepth 20000 in
theorem gw135 : Cond.methodLink RX7 51 (ri_Yn 60) ∈ ri_G := ri_tg3 (List.mem_of_getElem? (i := 63) rfl) rfl
set_option maxRecDepth 20000 in
theorem mw60v : Cond.instanceMethod (ri_Yn 60) ∈ ri_G ∧ Cond.selects (ri_Yn 60).cls (ri_Yn 60) (ri_Yn 60) ∈ ri_G ∧ Cond.initialized (ri_Yn 60).cls ∈ ri_G ∧ ((ri_Yn 60).cls ≠ "java/lang/invoke/MethodHandle" ∧ (ri_Yn 60).cls ≠ "java/lang/invoke/VarHandle" ∧ (parseMethodDescriptor (ri_Yn 60).desc).map (fun d => d.parameters.length) = some 1) := ⟨ri_tg3 (List.mem_of_getElem? (i := 65) rfl) rfl, ri_ps1 _ (List.mem_of_getElem? (i := 9) rfl : (⟨"FactorNets$Reader", "fail", "(I)V"⟩, 10) ∈ lw_privs_1), ri_tg1 (List.mem_of_getElem? (i := 2) rfl) rfl, ⟨by decide +kernel, by decide +kernel, by decide +kernel⟩⟩
set_option maxRecDepth 20000 in
theorem gw136 : Cond.methodLink RX7 54 (ri_Yn 55) ∈ ri_G := ri_tg2 (List.mem_of_getElem? (i := 233) rfl) rfl
set_option maxRecDepth 20000 in
theorem mw55v : Cond.instanceMethod (ri_Yn 55) ∈ ri_G ∧ Cond.selects (ri_Yn 55).cls (ri_Yn 55) (ri_Yn 55) ∈ ri_G ∧ Cond.initialized (ri_Yn 55).cls ∈ ri_G ∧ ((ri_Yn 55).cls ≠ "java/lang/invoke/MethodHandle" ∧ (ri_Yn 55).cls ≠ "java/lang/invoke/VarHandle" ∧ (parseMethodDescriptor (ri_Yn 55).desc).map (fun d => d.parameters.length) = some 0) := ⟨ri_tg2 (List.mem_of_getElem? (i := 235) rfl) rfl, ri_ps1 _ (List.mem_of_getElem? (i := 5) rfl : (⟨"FactorNets$Reader", "kindOfWord", "()I"⟩, 10) ∈ lw_privs_1), ri_tg1 (List.mem_of_getElem? (i := 2) rfl) rfl, ⟨by decide +kernel, by decide +kernel, by decide +kernel⟩⟩
set_option maxRecDepth 20000 in
theorem gw137 : Cond.methodLink RX7 58 (ri_Yn 56) ∈ ri_G := ri_tg3 (List.mem_of_getElem? (i := 52) rfl) rfl
set_option maxRecDepth 20000 in
theorem mw56v : Cond.instanceMethod (ri_Yn 56) ∈ ri_G ∧ Cond.selects (ri_Yn 56).cls (ri_Yn 56) (ri_Yn 56) ∈ ri_G ∧ Cond.initialized (ri_Yn 56).cls ∈ ri_G ∧ ((ri_Yn 56).cls ≠ "java/lang/invoke/MethodHandle" ∧ (ri_Yn 56).cls ≠ "java/lang/invoke/VarHandle" ∧ (parseMethodDescriptor (ri_Yn 56).desc).map (fun d => d.parameters.length) = some 1) := ⟨ri_tg3 (List.mem_of_getElem? (i := 54) rfl) rfl, ri_ps1 _ (List.mem_of_getElem? (i := 7) rfl : (⟨"FactorNets$Reader", "readProduct", "(I)V"⟩, 10) ∈ lw_privs_1), ri_tg1 (List.mem_of_getElem? (i := 2) rfl) rfl, ⟨by decide +kernel, by decide +kernel, by decide +kernel⟩⟩
set_option maxRecDepth 20000 in
theorem gw138 : Cond.methodLink RX7 62 (ri_Yn 64) ∈ ri_G := ri_tg2 (List.mem_of_getElem? (i := 238) rfl) rfl
set_option maxRecDepth 20000 in
theorem mw64v : Cond.instanceMethod (ri_Yn 64) ∈ ri_G ∧ Cond.selects (ri_Yn 64).cls (ri_Yn 64) (ri_Yn 64) ∈ ri_G ∧ Cond.initialized (ri_Yn 64).cls ∈ ri_G ∧ ((ri_Yn 64).cls ≠ "java/lang/invoke/MethodHandle" ∧ (ri_Yn 64).cls ≠ "java/lang/invoke/VarHandle" ∧ (parseMethodDescriptor (ri_Yn 64).desc).map (fun d => d.parameters.length) = some 1) := ⟨ri_tg3 (List.mem_of_getElem? (i := 0) rfl) rfl, ri_ps1 _ (List.mem_of_getElem? (i := 6) rfl : (⟨"FactorNets$Reader", "isWord", "(Ljava/lang/String;)Z"⟩, 10) ∈ lw_privs_1), ri_tg1 (List.mem_of_getElem? (i := 2) rfl) rfl, ⟨by decide +kernel, by decide +kernel, by decide +kernel⟩⟩
set_option maxRecDepth 20000 in
theorem gw139 : Cond.methodLink RX7 66 (ri_Yn 57) ∈ ri_G := ri_tg3 (List.mem_of_getElem? (i := 78) rfl) rfl
set_option maxRecDepth 20000 in
theorem mw57v : Cond.instanceMethod (ri_Yn 57) ∈ ri_G ∧ Cond.selects (ri_Yn 57).cls (ri_Yn 57) (ri_Yn 57) ∈ ri_G ∧ Cond.initialized (ri_Yn 57).cls ∈ ri_G ∧ ((ri_Yn 57).cls ≠ "java/lang/invoke/MethodHandle" ∧ (ri_Yn 57).cls ≠ "java/lang/invoke/VarHandle" ∧ (parseMethodDescriptor (ri_Yn 57).desc).map (fun d => d.parameters.length) = some 0) := ⟨ri_tg3 (List.mem_of_getElem? (i := 80) rfl) rfl, ri_ps1 _ (List.mem_of_getElem? (i := 10) rfl : (⟨"FactorNets$Reader", "readPoints", "()V"⟩, 10) ∈ lw_privs_1), ri_tg1 (List.mem_of_getElem? (i := 2) rfl) rfl, ⟨by decide +kernel, by decide +kernel, by decide +kernel⟩⟩
set_option maxRecDepth 20000 in
theorem gw140 : Cond.methodLink RX7 71 (ri_Yn 58) ∈ ri_G := ri_tg3 (List.mem_of_getElem? (i := 84) rfl) rfl
set_option maxRecDepth 20000 in
theorem mw58v : Cond.instanceMethod (ri_Yn 58) ∈ ri_G ∧ Cond.selects (ri_Yn 58).cls (ri_Yn 58) (ri_Yn 58) ∈ ri_G ∧ Cond.initialized (ri_Yn 58).cls ∈ ri_G ∧ ((ri_Yn 58).cls ≠ "java/lang/invoke/MethodHandle" ∧ (ri_Yn 58).cls ≠ "java/lang/invoke/VarHandle" ∧ (parseMethodDescriptor (ri_Yn 58).desc).map (fun d => d.parameters.length) = some 0) := ⟨ri_tg3 (List.mem_of_getElem? (i := 86) rfl) rfl, ri_ps1 _ (List.mem_of_getElem? (i := 11) rfl : (⟨"FactorNets$Reader", "readLine", "()V"⟩, 10) ∈ lw_privs_1), ri_tg1 (List.mem_of_getElem? (i := 2) rfl) rfl, ⟨by decide +kernel, by decide +kernel, by decide +kernel⟩⟩
set_option maxRecDepth 20000 in
theorem mw180s : Cond.static (ri_Yn 180) ∈ ri_G ∧ Cond.initialized (ri_Yn 180).cls ∈ ri_G ∧ ((ri_Yn 180).cls ≠ "java/lang/invoke/MethodHandle" ∧ (ri_Yn 180).cls ≠ "java/lang/invoke/VarHandle" ∧ (parseMethodDescriptor (ri_Yn 180).desc).map (fun d => d.parameters.length) = some 1) := ⟨ri_tg3 (List.mem_of_getElem? (i := 57) rfl) rfl, ri_tg1 (List.mem_of_getElem? (i := 1) rfl) rfl, ⟨by decide +kernel, by decide +kernel, by decide +kernel⟩⟩
set_option maxRecDepth 20000 in
theorem gw141 : Cond.methodLink RX7 84 (ri_Yn 59) ∈ ri_G := ri_tg3 (List.mem_of_getElem? (i := 59) rfl) rfl
set_option maxRecDepth 20000 in
theorem mw59v : Cond.instanceMethod (ri_Yn 59) ∈ ri_G ∧ Cond.selects (ri_Yn 59).cls (ri_Yn 59) (ri_Yn 59) ∈ ri_G ∧ Cond.initialized (ri_Yn 59).cls ∈ ri_G ∧ ((ri_Yn 59).cls ≠ "java/lang/invoke/MethodHandle" ∧ (ri_Yn 59).cls ≠ "java/lang/invoke/VarHandle" ∧ (parseMethodDescriptor (ri_Yn 59).desc).map (fun d => d.parameters.length) = some 2) := ⟨ri_tg3 (List.mem_of_getElem? (i := 61) rfl) rfl, ri_ps1 _ (List.mem_of_getElem? (i := 8) rfl : (⟨"FactorNets$Reader", "readNumber", "(II)I"⟩, 10) ∈ lw_privs_1), ri_tg1 (List.mem_of_getElem? (i := 2) rfl) rfl, ⟨by decide +kernel, by decide +kernel, by decide +kernel⟩⟩
set_option maxRecDepth 20000 in
theorem gw142 : Cond.fieldLink RX7 88 (TX3 0).1 (TX3 0).2.1 (TX3 0).2.2.1 ∈ ri_G := ri_tg1 (List.mem_of_getElem? (i := 52) rfl) rfl
set_option maxRecDepth 20000 in
theorem gw143 : Cond.methodLink RX7 91 (ri_Yn 30) ∈ ri_G := ri_tg3 (List.mem_of_getElem? (i := 67) rfl) rfl
set_option maxRecDepth 20000 in
theorem mw30v : Cond.instanceMethod (ri_Yn 30) ∈ ri_G ∧ Cond.selects (ri_Yn 30).cls (ri_Yn 30) (ri_Yn 30) ∈ ri_G ∧ Cond.initialized (ri_Yn 30).cls ∈ ri_G ∧ ((ri_Yn 30).cls ≠ "java/lang/invoke/MethodHandle" ∧ (ri_Yn 30).cls ≠ "java/lang/invoke/VarHandle" ∧ (parseMethodDescriptor (ri_Yn 30).desc).map (fun d => d.parameters.length) = some 2) := ⟨ri_tg3 (List.mem_of_getElem? (i := 68) rfl) rfl, ri_tg3 (List.mem_of_getElem? (i := 69) rfl) rfl, ri_tg1 (List.mem_of_getElem? (i := 3) rfl) rfl, ⟨by decide +kernel, by decide +kernel, by decide +kernel⟩⟩
set_option maxRecDepth 20000 in
theorem gw144 : Cond.methodLink RX7 96 (ri_Yn 23) ∈ ri_G := ri_tg3 (List.mem_of_getElem? (i := 88) rfl) rfl
set_option maxRecDepth 20000 in
theorem gw145 : Cond.methodLink RX7 100 (ri_Yn 24) ∈ ri_G := ri_tg3 (List.mem_of_getElem? (i := 92) rfl) rfl
set_option maxRecDepth 20000 in
theorem gw146 : Cond.fieldLink RX7 103 (TX7 9).1 (TX7 9).2.1 (TX7 9).2.2.1 ∈ ri_G := ri_tg1 (List.mem_of_getElem? (i := 81) rfl) rfl
set_option maxRecDepth 20000 in
theorem gw147 : Cond.fieldLink RX7 106 (TX7 6).1 (TX7 6).2.1 (TX7 6).2.2.1 ∈ ri_G := ri_tg1 (List.mem_of_getElem? (i := 78) rfl) rfl
set_option maxRecDepth 20000 in
theorem gw148 : Cond.methodLink RX7 109 (ri_Yn 65) ∈ ri_G := ri_tg2 (List.mem_of_getElem? (i := 208) rfl) rfl
set_option maxRecDepth 20000 in
theorem mw65v : Cond.instanceMethod (ri_Yn 65) ∈ ri_G ∧ Cond.selects (ri_Yn 65).cls (ri_Yn 65) (ri_Yn 65) ∈ ri_G ∧ Cond.initialized (ri_Yn 65).cls ∈ ri_G ∧ ((ri_Yn 65).cls ≠ "java/lang/invoke/MethodHandle" ∧ (ri_Yn 65).cls ≠ "java/lang/invoke/VarHandle" ∧ (parseMethodDescriptor (ri_Yn 65).desc).map (fun d => d.parameters.length) = some 1) := ⟨ri_tg2 (List.mem_of_getElem? (i := 210) rfl) rfl, ri_ps1 _ (List.mem_of_getElem? (i := 1) rfl : (⟨"FactorNets$Reader", "signAt", "(I)I"⟩, 10) ∈ lw_privs_1), ri_tg1 (List.mem_of_getElem? (i := 2) rfl) rfl, ⟨by decide +kernel, by decide +kernel, by decide +kernel⟩⟩
set_option maxRecDepth 20000 in
theorem gw149 : Cond.methodLink RX7 112 (ri_Yn 66) ∈ ri_G := ri_tg2 (List.mem_of_getElem? (i := 212) rfl) rfl
set_option maxRecDepth 20000 in
theorem mw66s : Cond.static (ri_Yn 66) ∈ ri_G ∧ Cond.initialized (ri_Yn 66).cls ∈ ri_G ∧ ((ri_Yn 66).cls ≠ "java/lang/invoke/MethodHandle" ∧ (ri_Yn 66).cls ≠ "java/lang/invoke/VarHandle" ∧ (parseMethodDescriptor (ri_Yn 66).desc).map (fun d => d.parameters.length) = some 1) := ⟨ri_tg2 (List.mem_of_getElem? (i := 213) rfl) rfl, ri_tg1 (List.mem_of_getElem? (i := 2) rfl) rfl, ⟨by decide +kernel, by decide +kernel, by decide +kernel⟩⟩
set_option maxRecDepth 20000 in
theorem gw150 : Cond.methodLink RX7 116 (ri_Yn 62) ∈ ri_G := ri_tg2 (List.mem_of_getElem? (i := 215) rfl) rfl
set_option maxRecDepth 20000 in
theorem mw62v : Cond.instanceMethod (ri_Yn 62) ∈ ri_G ∧ Cond.selects (ri_Yn 62).cls (ri_Yn 62) (ri_Yn 62) ∈ ri_G ∧ Cond.initialized (ri_Yn 62).cls ∈ ri_G ∧ ((ri_Yn 62).cls ≠ "java/lang/invoke/MethodHandle" ∧ (ri_Yn 62).cls ≠ "java/lang/invoke/VarHandle" ∧ (parseMethodDescriptor (ri_Yn 62).desc).map (fun d => d.parameters.length) = some 0) := ⟨ri_tg2 (List.mem_of_getElem? (i := 217) rfl) rfl, ri_ps1 _ (List.mem_of_getElem? (i := 2) rfl : (⟨"FactorNets$Reader", "passWord", "()V"⟩, 10) ∈ lw_privs_1), ri_tg1 (List.mem_of_getElem? (i := 2) rfl) rfl, ⟨by decide +kernel, by decide +kernel, by decide +kernel⟩⟩
set_option maxRecDepth 20000 in
theorem gw151 : Cond.methodLink RX7 119 (ri_Yn 67) ∈ ri_G := ri_tg2 (List.mem_of_getElem? (i := 219) rfl) rfl
set_option maxRecDepth 20000 in
theorem mw67s : Cond.static (ri_Yn 67) ∈ ri_G ∧ Cond.initialized (ri_Yn 67).cls ∈ ri_G ∧ ((ri_Yn 67).cls ≠ "java/lang/invoke/MethodHandle" ∧ (ri_Yn 67).cls ≠ "java/lang/invoke/VarHandle" ∧ (parseMethodDescriptor (ri_Yn 67).desc).map (fun d => d.parameters.length) = some 1) := ⟨ri_tg2 (List.mem_of_getElem? (i := 220) rfl) rfl, ri_tg1 (List.mem_of_getElem? (i := 2) rfl) rfl, ⟨by decide +kernel, by decide +kernel, by decide +kernel⟩⟩
set_option maxRecDepth 20000 in
theorem gw152 : Cond.methodLink RX7 122 (ri_Yn 63) ∈ ri_G := ri_tg2 (List.mem_of_getElem? (i := 222) rfl) rfl
set_option maxRecDepth 20000 in
theorem mw63v : Cond.instanceMethod (ri_Yn 63) ∈ ri_G ∧ Cond.selects (ri_Yn 63).cls (ri_Yn 63) (ri_Yn 63) ∈ ri_G ∧ Cond.initialized (ri_Yn 63).cls ∈ ri_G ∧ ((ri_Yn 63).cls ≠ "java/lang/invoke/MethodHandle" ∧ (ri_Yn 63).cls ≠ "java/lang/invoke/VarHandle" ∧ (parseMethodDescriptor (ri_Yn 63).desc).map (fun d => d.parameters.length) = some 0) := ⟨ri_tg2 (List.mem_of_getElem? (i := 224) rfl) rfl, ri_ps1 _ (List.mem_of_getElem? (i := 3) rfl : (⟨"FactorNets$Reader", "passNumber", "()V"⟩, 10) ∈ lw_privs_1), ri_tg1 (List.mem_of_getElem? (i := 2) rfl) rfl, ⟨by decide +kernel, by decide +kernel, by decide +kernel⟩⟩
set_option maxRecDepth 20000 in
theorem gw153 : Cond.methodLink RX7 125 Lib.Math.min.name ∈ ri_G := ri_tg2 (List.mem_of_getElem? (i := 226) rfl) rfl
set_option maxRecDepth 20000 in
theorem gw154 : Cond.methodLink RX7 130 jxLen ∈ ri_G := ri_tg3 (List.mem_of_getElem? (i := 2) rfl) rfl
set_option maxRecDepth 20000 in
theorem gw155 : Cond.methodLink RX7 134 jxChr ∈ ri_G := ri_tg3 (List.mem_of_getElem? (i := 12) rfl) rfl
set_option maxRecDepth 20000 in
theorem gw156 : Cond.methodLink RX8 3 objectInit ∈ ri_G := ri_tg2 (List.mem_of_getElem? (i := 48) rfl) rfl
set_option maxRecDepth 20000 in
theorem gw157 : Cond.fieldLink RX8 9 (TX8 0).1 (TX8 0).2.1 (TX8 0).2.2.1 ∈ ri_G := ri_tg2 (List.mem_of_getElem? (i := 50) rfl) rfl
set_option maxRecDepth 20000 in
theorem gw158 : Cond.classLink RX8 15 ("[" ++ (FieldType.array .int).toString) ∈ ri_G := ri_tg2 (List.mem_of_getElem? (i := 49) rfl) rfl
set_option maxRecDepth 20000 in
theorem gw159 : Cond.fieldLink RX8 17 (TX8 2).1 (TX8 2).2.1 (TX8 2).2.2.1 ∈ ri_G := ri_tg2 (List.mem_of_getElem? (i := 53) rfl) rfl
set_option maxRecDepth 20000 in
theorem gw160 : Cond.fieldLink RX8 20 (TX8 3).1 (TX8 3).2.1 (TX8 3).2.2.1 ∈ ri_G := ri_tg2 (List.mem_of_getElem? (i := 54) rfl) rfl
set_option maxRecDepth 20000 in
theorem gw161 : Cond.fieldLink RX8 23 (TX8 4).1 (TX8 4).2.1 (TX8 4).2.2.1 ∈ ri_G := ri_tg2 (List.mem_of_getElem? (i := 55) rfl) rfl
set_option maxRecDepth 20000 in
theorem gw162 : Cond.fieldLink RX8 26 (TX8 1).1 (TX8 1).2.1 (TX8 1).2.2.1 ∈ ri_G := ri_tg2 (List.mem_of_getElem? (i := 52) rfl) rfl
set_option maxRecDepth 20000 in
theorem gw163 : Cond.fieldLink RX8 30 (TX10 0).1 (TX10 0).2.1 (TX10 0).2.2.1 ∈ ri_G := ri_tg1 (List.mem_of_getElem? (i := 193) rfl) rfl
set_option maxRecDepth 20000 in
theorem gw164 : Cond.fieldLink RX8 36 (TX3 0).1 (TX3 0).2.1 (TX3 0).2.2.1 ∈ ri_G := ri_tg1 (List.mem_of_getElem? (i := 45) rfl) rfl
set_option maxRecDepth 20000 in
theorem gw165 : Cond.methodLink RX8 42 (ri_Yn 22) ∈ ri_G := ri_tg4 (List.mem_of_getElem? (i := 178) rfl) rfl
set_option maxRecDepth 20000 in
theorem gw166 : Cond.methodLink RX8 50 (ri_Yn 70) ∈ ri_G := ri_tg4 (List.mem_of_getElem? (i := 180) rfl) rfl
set_option maxRecDepth 20000 in
theorem mw70v : Cond.instanceMethod (ri_Yn 70) ∈ ri_G ∧ Cond.selects (ri_Yn 70).cls (ri_Yn 70) (ri_Yn 70) ∈ ri_G ∧ Cond.initialized (ri_Yn 70).cls ∈ ri_G ∧ ((ri_Yn 70).cls ≠ "java/lang/invoke/MethodHandle" ∧ (ri_Yn 70).cls ≠ "java/lang/invoke/VarHandle" ∧ (parseMethodDescriptor (ri_Yn 70).desc).map (fun d => d.parameters.length) = some 2) := ⟨ri_tg4 (List.mem_of_getElem? (i := 182) rfl) rfl, ri_ps3 _ (List.mem_of_getElem? (i := 2) rfl : (⟨"FactorNets$Search", "splitBy", "(LFactorNets$Net;I)Z"⟩, 5) ∈ lw_privs_3), ri_tg1 (List.mem_of_getElem? (i := 11) rfl) rfl, ⟨by decide +kernel, by decide +kernel, by decide +kernel⟩⟩
set_option maxRecDepth 20000 in
theorem gw167 : Cond.fieldLink RX8 54 (TX3 1).1 (TX3 1).2.1 (TX3 1).2.2.1 ∈ ri_G := ri_tg1 (List.mem_of_getElem? (i := 56) rfl) rfl
set_option maxRecDepth 20000 in
theorem gw168 : Cond.methodLink RX8 57 (ri_Yn 317) ∈ ri_G := ri_tg4 (List.mem_of_getElem? (i := 184) rfl) rfl
set_option maxRecDepth 20000 in
theorem gw169 : Cond.methodLink RX8 62 (ri_Yn 71) ∈ ri_G := ri_tg4 (List.mem_of_getElem? (i := 185) rfl) rfl
set_option maxRecDepth 20000 in
theorem mw71v : Cond.instanceMethod (ri_Yn 71) ∈ ri_G ∧ Cond.selects (ri_Yn 71).cls (ri_Yn 71) (ri_Yn 71) ∈ ri_G ∧ Cond.initialized (ri_Yn 71).cls ∈ ri_G ∧ ((ri_Yn 71).cls ≠ "java/lang/invoke/MethodHandle" ∧ (ri_Yn 71).cls ≠ "java/lang/invoke/VarHandle" ∧ (parseMethodDescriptor (ri_Yn 71).desc).map (fun d => d.parameters.length) = some 2) := ⟨ri_tg4 (List.mem_of_getElem? (i := 187) rfl) rfl, ri_ps3 _ (List.mem_of_getElem? (i := 3) rfl : (⟨"FactorNets$Search", "withCount", "(LFactorNets$Net;I)I"⟩, 5) ∈ lw_privs_3), ri_tg1 (List.mem_of_getElem? (i := 11) rfl) rfl, ⟨by decide +kernel, by decide +kernel, by decide +kernel⟩⟩
set_option maxRecDepth 20000 in
theorem gw170 : Cond.methodLink RX8 66 arraycopyName ∈ ri_G := ri_tg4 (List.mem_of_getElem? (i := 201) rfl) rfl
set_option maxRecDepth 20000 in
theorem gw171 : Cond.methodLink RX8 72 (ri_Yn 74) ∈ ri_G := ri_tg4 (List.mem_of_getElem? (i := 206) rfl) rfl
set_option maxRecDepth 20000 in
theorem mw74v : Cond.instanceMethod (ri_Yn 74) ∈ ri_G ∧ Cond.selects (ri_Yn 74).cls (ri_Yn 74) (ri_Yn 74) ∈ ri_G ∧ Cond.initialized (ri_Yn 74).cls ∈ ri_G ∧ ((ri_Yn 74).cls ≠ "java/lang/invoke/MethodHandle" ∧ (ri_Yn 74).cls ≠ "java/lang/invoke/VarHandle" ∧ (parseMethodDescriptor (ri_Yn 74).desc).map (fun d => d.parameters.length) = some 4) := ⟨ri_tg4 (List.mem_of_getElem? (i := 208) rfl) rfl, ri_ps3 _ (List.mem_of_getElem? (i := 6) rfl : (⟨"FactorNets$Search", "narrow", "([I[III)V"⟩, 5) ∈ lw_privs_3), ri_tg1 (List.mem_of_getElem? (i := 11) rfl) rfl, ⟨by decide +kernel, by decide +kernel, by decide +kernel⟩⟩
set_option maxRecDepth 20000 in
theorem gw172 : Cond.fieldLink RX8 76 (TX10 1).1 (TX10 1).2.1 (TX10 1).2.2.1 ∈ ri_G := ri_tg1 (List.mem_of_getElem? (i := 198) rfl) rfl
set_option maxRecDepth 20000 in
theorem gw173 : Cond.fieldLink RX8 80 (TX2 0).1 (TX2 0).2.1 (TX2 0).2.2.1 ∈ ri_G := ri_tg1 (List.mem_of_getElem? (i := 120) rfl) rfl
set_option maxRecDepth 20000 in
theorem gw174 : Cond.fieldLink RX8 85 (TX2 1).1 (TX2 1).2.1 (TX2 1).2.2.1 ∈ ri_G := ri_tg1 (List.mem_of_getElem? (i := 123) rfl) rfl
set_option maxRecDepth 20000 in
theorem gw175 : Cond.methodLink RX8 88 (ri_Yn 76) ∈ ri_G := ri_tg4 (List.mem_of_getElem? (i := 214) rfl) rfl
set_option maxRecDepth 20000 in
theorem mw76v : Cond.instanceMethod (ri_Yn 76) ∈ ri_G ∧ Cond.selects (ri_Yn 76).cls (ri_Yn 76) (ri_Yn 76) ∈ ri_G ∧ Cond.initialized (ri_Yn 76).cls ∈ ri_G ∧ ((ri_Yn 76).cls ≠ "java/lang/invoke/MethodHandle" ∧ (ri_Yn 76).cls ≠ "java/lang/invoke/VarHandle" ∧ (parseMethodDescriptor (ri_Yn 76).desc).map (fun d => d.parameters.length) = some 2) := ⟨ri_tg4 (List.mem_of_getElem? (i := 216) rfl) rfl, ri_ps3 _ (List.mem_of_getElem? (i := 7) rfl : (⟨"FactorNets$Search", "tightest", "(II)I"⟩, 5) ∈ lw_privs_3), ri_tg1 (List.mem_of_getElem? (i := 11) rfl) rfl, ⟨by decide +kernel, by decide +kernel, by decide +kernel⟩⟩
set_option maxRecDepth 20000 in
theorem gw176 : Cond.methodLink RX8 92 (ri_Yn 75) ∈ ri_G := ri_tg4 (List.mem_of_getElem? (i := 218) rfl) rfl
set_option maxRecDepth 20000 in
theorem gw177 : Cond.methodLink RX9 3 objectInit ∈ ri_G := ri_tg1 (List.mem_of_getElem? (i := 166) rfl) rfl
set_option maxRecDepth 20000 in
theorem gw178 : Cond.fieldLink RX9 9 (TX9 2).1 (TX9 2).2.1 (TX9 2).2.2.1 ∈ ri_G := ri_tg1 (List.mem_of_getElem? (i := 172) rfl) rfl
set_option maxRecDepth 20000 in
theorem gw179 : Cond.fieldLink RX9 15 (TX9 3).1 (TX9 3).2.1 (TX9 3).2.2.1 ∈ ri_G := ri_tg1 (List.mem_of_getElem? (i := 174) rfl) rfl
set_option maxRecDepth 20000 in
theorem gw180 : Cond.fieldLink RX9 18 (TX9 4).1 (TX9 4).2.1 (TX9 4).2.2.1 ∈ ri_G := ri_tg1 (List.mem_of_getElem? (i := 177) rfl) rfl
set_option maxRecDepth 20000 in
theorem gw181 : Cond.fieldLink RX9 21 (TX1 0).1 (TX1 0).2.1 (TX1 0).2.2.1 ∈ ri_G := ri_tg1 (List.mem_of_getElem? (i := 138) rfl) rfl
set_option maxRecDepth 20000 in
theorem gw182 : Cond.methodLink RX9 27 (ri_Yn 80) ∈ ri_G := ri_tg3 (List.mem_of_getElem? (i := 176) rfl) rfl
set_option maxRecDepth 20000 in
theorem mw80v : Cond.instanceMethod (ri_Yn 80) ∈ ri_G ∧ Cond.selects (ri_Yn 80).cls (ri_Yn 80) (ri_Yn 80) ∈ ri_G ∧ Cond.initialized (ri_Yn 80).cls ∈ ri_G ∧ ((ri_Yn 80).cls ≠ "java/lang/invoke/MethodHandle" ∧ (ri_Yn 80).cls ≠ "java/lang/invoke/VarHandle" ∧ (parseMethodDescriptor (ri_Yn 80).desc).map (fun d => d.parameters.length) = some 1) := ⟨ri_tg3 (List.mem_of_getElem? (i := 178) rfl) rfl, ri_ps1 _ (List.mem_of_getElem? (i := 13) rfl : (⟨"FactorNets$Sorts", "separate", "(I)V"⟩, 6) ∈ lw_privs_1), ri_tg1 (List.mem_of_getElem? (i := 7) rfl) rfl, ⟨by decide +kernel, by decide +kernel, by decide +kernel⟩⟩
set_option maxRecDepth 20000 in
theorem gw183 : Cond.fieldLink RX9 31 (TX9 5).1 (TX9 5).2.1 (TX9 5).2.2.1 ∈ ri_G := ri_tg1 (List.mem_of_getElem? (i := 178) rfl) rfl
set_option maxRecDepth 20000 in
theorem gw184 : Cond.methodLink RX9 34 (ri_Yn 81) ∈ ri_G := ri_tg3 (List.mem_of_getElem? (i := 180) rfl) rfl
set_option maxRecDepth 20000 in
theorem mw81v : Cond.instanceMethod (ri_Yn 81) ∈ ri_G ∧ Cond.selects (ri_Yn 81).cls (ri_Yn 81) (ri_Yn 81) ∈ ri_G ∧ Cond.initialized (ri_Yn 81).cls ∈ ri_G ∧ ((ri_Yn 81).cls ≠ "java/lang/invoke/MethodHandle" ∧ (ri_Yn 81).cls ≠ "java/lang/invoke/VarHandle" ∧ (parseMethodDescriptor (ri_Yn 81).desc).map (fun d => d.parameters.length) = some 4) := ⟨ri_tg3 (List.mem_of_getElem? (i := 182) rfl) rfl, ri_ps1 _ (List.mem_of_getElem? (i := 14) rfl : (⟨"FactorNets$Sorts", "uniteAcross", "(LFactorNets$Net;LFactorNets$Metric;LFactorNets$Lines;I)V"⟩, 6) ∈ lw_privs_1), ri_tg1 (List.mem_of_getElem? (i := 7) rfl) rfl, ⟨by decide +kernel, by decide +kernel, by decide +kernel⟩⟩
set_option maxRecDepth 20000 in
theorem gw185 : Cond.fieldLink RX9 38 (TX9 0).1 (TX9 0).2.1 (TX9 0).2.2.1 ∈ ri_G := ri_tg1 (List.mem_of_getElem? (i := 167) rfl) rfl
set_option maxRecDepth 20000 in
theorem gw186 : Cond.methodLink RX9 41 (ri_Yn 85) ∈ ri_G := ri_tg3 (List.mem_of_getElem? (i := 202) rfl) rfl
set_option maxRecDepth 20000 in
theorem mw85v : Cond.instanceMethod (ri_Yn 85) ∈ ri_G ∧ Cond.selects (ri_Yn 85).cls (ri_Yn 85) (ri_Yn 85) ∈ ri_G ∧ Cond.initialized (ri_Yn 85).cls ∈ ri_G ∧ ((ri_Yn 85).cls ≠ "java/lang/invoke/MethodHandle" ∧ (ri_Yn 85).cls ≠ "java/lang/invoke/VarHandle" ∧ (parseMethodDescriptor (ri_Yn 85).desc).map (fun d => d.parameters.length) = some 2) := ⟨ri_tg3 (List.mem_of_getElem? (i := 204) rfl) rfl, ri_ps2 _ (List.mem_of_getElem? (i := 1) rfl : (⟨"FactorNets$Sorts", "label", "([II)V"⟩, 6) ∈ lw_privs_2), ri_tg1 (List.mem_of_getElem? (i := 7) rfl) rfl, ⟨by decide +kernel, by decide +kernel, by decide +kernel⟩⟩
set_option maxRecDepth 20000 in
theorem gw187 : Cond.methodLink RX9 45 (ri_Yn 82) ∈ ri_G := ri_tg3 (List.mem_of_getElem? (i := 206) rfl) rfl
set_option maxRecDepth 20000 in
theorem mw82v : Cond.instanceMethod (ri_Yn 82) ∈ ri_G ∧ Cond.selects (ri_Yn 82).cls (ri_Yn 82) (ri_Yn 82) ∈ ri_G ∧ Cond.initialized (ri_Yn 82).cls ∈ ri_G ∧ ((ri_Yn 82).cls ≠ "java/lang/invoke/MethodHandle" ∧ (ri_Yn 82).cls ≠ "java/lang/invoke/VarHandle" ∧ (parseMethodDescriptor (ri_Yn 82).desc).map (fun d => d.parameters.length) = some 2) := ⟨ri_tg3 (List.mem_of_getElem? (i := 208) rfl) rfl, ri_ps2 _ (List.mem_of_getElem? (i := 2) rfl : (⟨"FactorNets$Sorts", "uniteForks", "(LFactorNets$Net;LFactorNets$Lines;)V"⟩, 6) ∈ lw_privs_2), ri_tg1 (List.mem_of_getElem? (i := 7) rfl) rfl, ⟨by decide +kernel, by decide +kernel, by decide +kernel⟩⟩
set_option maxRecDepth 20000 in
theorem gw188 : Cond.fieldLink RX9 49 (TX9 1).1 (TX9 1).2.1 (TX9 1).2.2.1 ∈ ri_G := ri_tg1 (List.mem_of_getElem? (i := 170) rfl) rfl
set_option maxRecDepth 20000 in
theorem gw189 : Cond.fieldLink RX9 52 (TX1 1).1 (TX1 1).2.1 (TX1 1).2.2.1 ∈ ri_G := ri_tg1 (List.mem_of_getElem? (i := 143) rfl) rfl
set_option maxRecDepth 20000 in
theorem gw190 : Cond.fieldLink RX9 55 (TX1 2).1 (TX1 2).2.1 (TX1 2).2.2.1 ∈ ri_G := ri_tg1 (List.mem_of_getElem? (i := 147) rfl) rfl
set_option maxRecDepth 20000 in
theorem gw191 : Cond.methodLink RX9 58 (ri_Yn 17) ∈ ri_G := ri_tg3 (List.mem_of_getElem? (i := 184) rfl) rfl
set_option maxRecDepth 20000 in
theorem mw17v : Cond.instanceMethod (ri_Yn 17) ∈ ri_G ∧ Cond.selects (ri_Yn 17).cls (ri_Yn 17) (ri_Yn 17) ∈ ri_G ∧ Cond.initialized (ri_Yn 17).cls ∈ ri_G ∧ ((ri_Yn 17).cls ≠ "java/lang/invoke/MethodHandle" ∧ (ri_Yn 17).cls ≠ "java/lang/invoke/VarHandle" ∧ (parseMethodDescriptor (ri_Yn 17).desc).map (fun d => d.parameters.length) = some 2) := ⟨ri_tg3 (List.mem_of_getElem? (i := 185) rfl) rfl, ri_tg3 (List.mem_of_getElem? (i := 186) rfl) rfl, ri_tg1 (List.mem_of_getElem? (i := 5) rfl) rfl, ⟨by decide +kernel, by decide +kernel, by decide +kernel⟩⟩
set_option maxRecDepth 20000 in
theorem gw192 : Cond.methodLink RX9 64 (ri_Yn 22) ∈ ri_G := ri_tg3 (List.mem_of_getElem? (i := 188) rfl) rfl
set_option maxRecDepth 20000 in
theorem gw193 : Cond.fieldLink RX9 70 (TX3 0).1 (TX3 0).2.1 (TX3 0).2.2.1 ∈ ri_G := ri_tg1 (List.mem_of_getElem? (i := 51) rfl) rfl
set_option maxRecDepth 20000 in
theorem gw194 : Cond.fieldLink RX9 73 (TX3 1).1 (TX3 1).2.1 (TX3 1).2.2.1 ∈ ri_G := ri_tg1 (List.mem_of_getElem? (i := 59) rfl) rfl
set_option maxRecDepth 20000 in
theorem gw195 : Cond.fieldLink RX9 76 (TX1 3).1 (TX1 3).2.1 (TX1 3).2.2.1 ∈ ri_G := ri_tg1 (List.mem_of_getElem? (i := 150) rfl) rfl
set_option maxRecDepth 20000 in
theorem gw196 : Cond.methodLink RX9 84 (ri_Yn 83) ∈ ri_G := ri_tg3 (List.mem_of_getElem? (i := 190) rfl) rfl
set_option maxRecDepth 20000 in
theorem mw83v : Cond.instanceMethod (ri_Yn 83) ∈ ri_G ∧ Cond.selects (ri_Yn 83).cls (ri_Yn 83) (ri_Yn 83) ∈ ri_G ∧ Cond.initialized (ri_Yn 83).cls ∈ ri_G ∧ ((ri_Yn 83).cls ≠ "java/lang/invoke/MethodHandle" ∧ (ri_Yn 83).cls ≠ "java/lang/invoke/VarHandle" ∧ (parseMethodDescriptor (ri_Yn 83).desc).map (fun d => d.parameters.length) = some 2) := ⟨ri_tg3 (List.mem_of_getElem? (i := 192) rfl) rfl, ri_ps1 _ (List.mem_of_getElem? (i := 15) rfl : (⟨"FactorNets$Sorts", "unite", "(II)V"⟩, 6) ∈ lw_privs_1), ri_tg1 (List.mem_of_getElem? (i := 7) rfl) rfl, ⟨by decide +kernel, by decide +kernel, by decide +kernel⟩⟩
set_option maxRecDepth 20000 in
theorem gw197 : Cond.methodLink RX9 88 (ri_Yn 317) ∈ ri_G := ri_tg3 (List.mem_of_getElem? (i := 210) rfl) rfl
set_option maxRecDepth 20000 in
theorem gw198 : Cond.methodLink RX9 93 (ri_Yn 84) ∈ ri_G := ri_tg3 (List.mem_of_getElem? (i := 194) rfl) rfl
set_option maxRecDepth 20000 in
theorem mw84v : Cond.instanceMethod (ri_Yn 84) ∈ ri_G ∧ Cond.selects (ri_Yn 84).cls (ri_Yn 84) (ri_Yn 84) ∈ ri_G ∧ Cond.initialized (ri_Yn 84).cls ∈ ri_G ∧ ((ri_Yn 84).cls ≠ "java/lang/invoke/MethodHandle" ∧ (ri_Yn 84).cls ≠ "java/lang/invoke/VarHandle" ∧ (parseMethodDescriptor (ri_Yn 84).desc).map (fun d => d.parameters.length) = some 1) := ⟨ri_tg3 (List.mem_of_getElem? (i := 196) rfl) rfl, ri_ps2 _ (List.mem_of_getElem? (i := 0) rfl : (⟨"FactorNets$Sorts", "root", "(I)I"⟩, 6) ∈ lw_privs_2), ri_tg1 (List.mem_of_getElem? (i := 7) rfl) rfl, ⟨by decide +kernel, by decide +kernel, by decide +kernel⟩⟩
set_option maxRecDepth 20000 in
theorem gw199 : Cond.methodLink RX9 96 Lib.Math.max.name ∈ ri_G := ri_tg3 (List.mem_of_getElem? (i := 198) rfl) rfl
set_option maxRecDepth 20000 in
theorem gw200 : Cond.methodLink RX9 101 Lib.Math.min.name ∈ ri_G := ri_tg3 (List.mem_of_getElem? (i := 201) rfl) rfl
set_option maxRecDepth 20000 in
theorem gw201 : Cond.methodLink RX10 1 objectInit ∈ ri_G := ri_tg1 (List.mem_of_getElem? (i := 108) rfl) rfl
set_option maxRecDepth 20000 in
theorem gw202 : Cond.classLink RX10 7 RX3 ∈ ri_G := ri_tg1 (List.mem_of_getElem? (i := 109) rfl) rfl
set_option maxRecDepth 20000 in
theorem gw203 : Cond.fieldLink RX10 10 (TX10 0).1 (TX10 0).2.1 (TX10 0).2.2.1 ∈ ri_G := ri_tg1 (List.mem_of_getElem? (i := 192) rfl) rfl
set_option maxRecDepth 20000 in
theorem gw204 : Cond.classLink RX10 16 RX2 ∈ ri_G := ri_tg1 (List.mem_of_getElem? (i := 111) rfl) rfl
set_option maxRecDepth 20000 in
theorem gw205 : Cond.instantiable RX2 2 ∈ ri_G := ri_tg1 (List.mem_of_getElem? (i := 112) rfl) rfl
set_option maxRecDepth 20000 in
theorem gw206 : Cond.initialized RX2 ∈ ri_G := ri_tg1 (List.mem_of_getElem? (i := 5) rfl) rfl
set_option maxRecDepth 20000 in
theorem mw13i : (ri_Yn 13).name = "<init>" ∧ ri_Yr 13 = none ∧ Cond.instanceMethod (ri_Yn 13) ∈ ri_G ∧ Cond.initialized (ri_Yn 13).cls ∈ ri_G ∧ ((ri_Yn 13).cls ≠ "java/lang/invoke/MethodHandle" ∧ (ri_Yn 13).cls ≠ "java/lang/invoke/VarHandle" ∧ (parseMethodDescriptor (ri_Yn 13).desc).map (fun d => d.parameters.length) = some 0) := ⟨rfl, rfl, ri_tg1 (List.mem_of_getElem? (i := 114) rfl) rfl, ri_tg1 (List.mem_of_getElem? (i := 5) rfl) rfl, ⟨by decide +kernel, by decide +kernel, by decide +kernel⟩⟩
set_option maxRecDepth 20000 in
theorem gw207 : Cond.fieldLink RX10 19 (TX10 1).1 (TX10 1).2.1 (TX10 1).2.2.1 ∈ ri_G := ri_tg1 (List.mem_of_getElem? (i := 197) rfl) rfl
set_option maxRecDepth 20000 in
theorem gw208 : Cond.classLink RX10 23 RX1 ∈ ri_G := ri_tg1 (List.mem_of_getElem? (i := 130) rfl) rfl
set_option maxRecDepth 20000 in
theorem gw209 : Cond.instantiable RX1 4 ∈ ri_G := ri_tg1 (List.mem_of_getElem? (i := 131) rfl) rfl
set_option maxRecDepth 20000 in
theorem gw210 : Cond.initialized RX1 ∈ ri_G := ri_tg1 (List.mem_of_getElem? (i := 6) rfl) rfl
set_option maxRecDepth 20000 in
theorem mw11i : (ri_Yn 11).name = "<init>" ∧ ri_Yr 11 = none ∧ Cond.instanceMethod (ri_Yn 11) ∈ ri_G ∧ Cond.initialized (ri_Yn 11).cls ∈ ri_G ∧ ((ri_Yn 11).cls ≠ "java/lang/invoke/MethodHandle" ∧ (ri_Yn 11).cls ≠ "java/lang/invoke/VarHandle" ∧ (parseMethodDescriptor (ri_Yn 11).desc).map (fun d => d.parameters.length) = some 0) := ⟨rfl, rfl, ri_tg1 (List.mem_of_getElem? (i := 133) rfl) rfl, ri_tg1 (List.mem_of_getElem? (i := 6) rfl) rfl, ⟨by decide +kernel, by decide +kernel, by decide +kernel⟩⟩
set_option maxRecDepth 20000 in
theorem gw211 : Cond.fieldLink RX10 26 (TX10 2).1 (TX10 2).2.1 (TX10 2).2.2.1 ∈ ri_G := ri_tg1 (List.mem_of_getElem? (i := 199) rfl) rfl
set_option maxRecDepth 20000 in
theorem gw212 : Cond.classLink RX10 30 RX9 ∈ ri_G := ri_tg1 (List.mem_of_getElem? (i := 161) rfl) rfl
set_option maxRecDepth 20000 in
theorem gw213 : Cond.instantiable RX9 6 ∈ ri_G := ri_tg1 (List.mem_of_getElem? (i := 162) rfl) rfl
set_option maxRecDepth 20000 in
theorem gw214 : Cond.initialized RX9 ∈ ri_G := ri_tg1 (List.mem_of_getElem? (i := 7) rfl) rfl
set_option maxRecDepth 20000 in
theorem mw77i : (ri_Yn 77).name = "<init>" ∧ ri_Yr 77 = none ∧ Cond.instanceMethod (ri_Yn 77) ∈ ri_G ∧ Cond.initialized (ri_Yn 77).cls ∈ ri_G ∧ ((ri_Yn 77).cls ≠ "java/lang/invoke/MethodHandle" ∧ (ri_Yn 77).cls ≠ "java/lang/invoke/VarHandle" ∧ (parseMethodDescriptor (ri_Yn 77).desc).map (fun d => d.parameters.length) = some 0) := ⟨rfl, rfl, ri_tg1 (List.mem_of_getElem? (i := 164) rfl) rfl, ri_tg1 (List.mem_of_getElem? (i := 7) rfl) rfl, ⟨by decide +kernel, by decide +kernel, by decide +kernel⟩⟩
set_option maxRecDepth 20000 in
theorem gw215 : Cond.fieldLink RX10 33 (TX10 3).1 (TX10 3).2.1 (TX10 3).2.2.1 ∈ ri_G := ri_tg1 (List.mem_of_getElem? (i := 202) rfl) rfl
set_option maxRecDepth 20000 in
theorem gw216 : Cond.fieldLink RX10 37 (TX10 4).1 (TX10 4).2.1 (TX10 4).2.2.1 ∈ ri_G := ri_tg1 (List.mem_of_getElem? (i := 204) rfl) rfl
set_option maxRecDepth 20000 in
theorem gw217 : Cond.fieldLink RX10 41 (TX10 5).1 (TX10 5).2.1 (TX10 5).2.2.1 ∈ ri_G := ri_tg1 (List.mem_of_getElem? (i := 205) rfl) rfl
set_option maxRecDepth 20000 in
theorem gw218 : Cond.fieldLink RX10 44 (TX10 6).1 (TX10 6).2.1 (TX10 6).2.2.1 ∈ ri_G := ri_tg1 (List.mem_of_getElem? (i := 206) rfl) rfl
set_option maxRecDepth 20000 in
theorem gw219 : Cond.fieldLink RX10 47 (TX3 0).1 (TX3 0).2.1 (TX3 0).2.2.1 ∈ ri_G := ri_tg1 (List.mem_of_getElem? (i := 48) rfl) rfl
set_option maxRecDepth 20000 in
theorem gw220 : Cond.methodLink RX10 51 (ri_Yn 14) ∈ ri_G := ri_tg3 (List.mem_of_getElem? (i := 157) rfl) rfl
set_option maxRecDepth 20000 in
theorem mw14v : Cond.instanceMethod (ri_Yn 14) ∈ ri_G ∧ Cond.selects (ri_Yn 14).cls (ri_Yn 14) (ri_Yn 14) ∈ ri_G ∧ Cond.initialized (ri_Yn 14).cls ∈ ri_G ∧ ((ri_Yn 14).cls ≠ "java/lang/invoke/MethodHandle" ∧ (ri_Yn 14).cls ≠ "java/lang/invoke/VarHandle" ∧ (parseMethodDescriptor (ri_Yn 14).desc).map (fun d => d.parameters.length) = some 2) := ⟨ri_tg3 (List.mem_of_getElem? (i := 158) rfl) rfl, ri_tg3 (List.mem_of_getElem? (i := 159) rfl) rfl, ri_tg1 (List.mem_of_getElem? (i := 5) rfl) rfl, ⟨by decide +kernel, by decide +kernel, by decide +kernel⟩⟩
set_option maxRecDepth 20000 in
theorem gw221 : Cond.methodLink RX10 55 (ri_Yn 12) ∈ ri_G := ri_tg3 (List.mem_of_getElem? (i := 167) rfl) rfl
set_option maxRecDepth 20000 in
theorem mw12v : Cond.instanceMethod (ri_Yn 12) ∈ ri_G ∧ Cond.selects (ri_Yn 12).cls (ri_Yn 12) (ri_Yn 12) ∈ ri_G ∧ Cond.initialized (ri_Yn 12).cls ∈ ri_G ∧ ((ri_Yn 12).cls ≠ "java/lang/invoke/MethodHandle" ∧ (ri_Yn 12).cls ≠ "java/lang/invoke/VarHandle" ∧ (parseMethodDescriptor (ri_Yn 12).desc).map (fun d => d.parameters.length) = some 1) := ⟨ri_tg3 (List.mem_of_getElem? (i := 168) rfl) rfl, ri_tg3 (List.mem_of_getElem? (i := 169) rfl) rfl, ri_tg1 (List.mem_of_getElem? (i := 6) rfl) rfl, ⟨by decide +kernel, by decide +kernel, by decide +kernel⟩⟩
set_option maxRecDepth 20000 in
theorem gw222 : Cond.methodLink RX10 59 (ri_Yn 88) ∈ ri_G := ri_tg3 (List.mem_of_getElem? (i := 153) rfl) rfl
set_option maxRecDepth 20000 in
theorem gw223 : Cond.methodLink RX10 63 (ri_Yn 89) ∈ ri_G := ri_tg3 (List.mem_of_getElem? (i := 163) rfl) rfl
set_option maxRecDepth 20000 in
theorem mw89v : Cond.instanceMethod (ri_Yn 89) ∈ ri_G ∧ Cond.selects (ri_Yn 89).cls (ri_Yn 89) (ri_Yn 89) ∈ ri_G ∧ Cond.initialized (ri_Yn 89).cls ∈ ri_G ∧ ((ri_Yn 89).cls ≠ "java/lang/invoke/MethodHandle" ∧ (ri_Yn 89).cls ≠ "java/lang/invoke/VarHandle" ∧ (parseMethodDescriptor (ri_Yn 89).desc).map (fun d => d.parameters.length) = some 0) := ⟨ri_tg3 (List.mem_of_getElem? (i := 164) rfl) rfl, ri_tg3 (List.mem_of_getElem? (i := 165) rfl) rfl, ri_tg1 (List.mem_of_getElem? (i := 4) rfl) rfl, ⟨by decide +kernel, by decide +kernel, by decide +kernel⟩⟩
set_option maxRecDepth 20000 in
theorem gw224 : Cond.methodLink RX10 67 (ri_Yn 78) ∈ ri_G := ri_tg3 (List.mem_of_getElem? (i := 172) rfl) rfl
set_option maxRecDepth 20000 in
theorem mw78v : Cond.instanceMethod (ri_Yn 78) ∈ ri_G ∧ Cond.selects (ri_Yn 78).cls (ri_Yn 78) (ri_Yn 78) ∈ ri_G ∧ Cond.initialized (ri_Yn 78).cls ∈ ri_G ∧ ((ri_Yn 78).cls ≠ "java/lang/invoke/MethodHandle" ∧ (ri_Yn 78).cls ≠ "java/lang/invoke/VarHandle" ∧ (parseMethodDescriptor (ri_Yn 78).desc).map (fun d => d.parameters.length) = some 3) := ⟨ri_tg3 (List.mem_of_getElem? (i := 173) rfl) rfl, ri_tg3 (List.mem_of_getElem? (i := 174) rfl) rfl, ri_tg1 (List.mem_of_getElem? (i := 7) rfl) rfl, ⟨by decide +kernel, by decide +kernel, by decide +kernel⟩⟩
set_option maxRecDepth 20000 in
theorem gw225 : Cond.methodLink RX10 70 (ri_Yn 26) ∈ ri_G := ri_tg5 (List.mem_of_getElem? (i := 211) rfl) rfl
set_option maxRecDepth 20000 in
theorem mw26v : Cond.instanceMethod (ri_Yn 26) ∈ ri_G ∧ Cond.selects (ri_Yn 26).cls (ri_Yn 26) (ri_Yn 26) ∈ ri_G ∧ Cond.initialized (ri_Yn 26).cls ∈ ri_G ∧ ((ri_Yn 26).cls ≠ "java/lang/invoke/MethodHandle" ∧ (ri_Yn 26).cls ≠ "java/lang/invoke/VarHandle" ∧ (parseMethodDescriptor (ri_Yn 26).desc).map (fun d => d.parameters.length) = some 0) := ⟨ri_tg3 (List.mem_of_getElem? (i := 145) rfl) rfl, ri_tg3 (List.mem_of_getElem? (i := 146) rfl) rfl, ri_tg1 (List.mem_of_getElem? (i := 3) rfl) rfl, ⟨by decide +kernel, by decide +kernel, by decide +kernel⟩⟩
set_option maxRecDepth 20000 in
theorem mw181s : Cond.static (ri_Yn 181) ∈ ri_G ∧ Cond.initialized (ri_Yn 181).cls ∈ ri_G ∧ ((ri_Yn 181).cls ≠ "java/lang/invoke/MethodHandle" ∧ (ri_Yn 181).cls ≠ "java/lang/invoke/VarHandle" ∧ (parseMethodDescriptor (ri_Yn 181).desc).map (fun d => d.parameters.length) = some 1) := ⟨ri_tg5 (List.mem_of_getElem? (i := 213) rfl) rfl, ri_tg1 (List.mem_of_getElem? (i := 1) rfl) rfl, ⟨by decide +kernel, by decide +kernel, by decide +kernel⟩⟩
set_option maxRecDepth 20000 in
theorem gw226 : Cond.methodLink RX10 80 (ri_Yn 79) ∈ ri_G := ri_tg5 (List.mem_of_getElem? (i := 215) rfl) rfl
set_option maxRecDepth 20000 in
theorem mw79v : Cond.instanceMethod (ri_Yn 79) ∈ ri_G ∧ Cond.selects (ri_Yn 79).cls (ri_Yn 79) (ri_Yn 79) ∈ ri_G ∧ Cond.initialized (ri_Yn 79).cls ∈ ri_G ∧ ((ri_Yn 79).cls ≠ "java/lang/invoke/MethodHandle" ∧ (ri_Yn 79).cls ≠ "java/lang/invoke/VarHandle" ∧ (parseMethodDescriptor (ri_Yn 79).desc).map (fun d => d.parameters.length) = some 3) := ⟨ri_tg5 (List.mem_of_getElem? (i := 216) rfl) rfl, ri_tg5 (List.mem_of_getElem? (i := 217) rfl) rfl, ri_tg1 (List.mem_of_getElem? (i := 7) rfl) rfl, ⟨by decide +kernel, by decide +kernel, by decide +kernel⟩⟩
set_option maxRecDepth 20000 in
theorem gw227 : Cond.methodLink RX11 1 objectInit ∈ ri_G := ri_tg1 (List.mem_of_getElem? (i := 27) rfl) rfl
set_option maxRecDepth 20000 in
theorem gw228 : Cond.classLink RX11 7 RX7 ∈ ri_G := ri_tg1 (List.mem_of_getElem? (i := 30) rfl) rfl
set_option maxRecDepth 20000 in
theorem gw229 : Cond.instantiable RX7 10 ∈ ri_G := ri_tg1 (List.mem_of_getElem? (i := 31) rfl) rfl
set_option maxRecDepth 20000 in
theorem gw230 : Cond.initialized RX7 ∈ ri_G := ri_tg1 (List.mem_of_getElem? (i := 2) rfl) rfl
set_option maxRecDepth 20000 in
theorem mw51i : (ri_Yn 51).name = "<init>" ∧ ri_Yr 51 = none ∧ Cond.instanceMethod (ri_Yn 51) ∈ ri_G ∧ Cond.initialized (ri_Yn 51).cls ∈ ri_G ∧ ((ri_Yn 51).cls ≠ "java/lang/invoke/MethodHandle" ∧ (ri_Yn 51).cls ≠ "java/lang/invoke/VarHandle" ∧ (parseMethodDescriptor (ri_Yn 51).desc).map (fun d => d.parameters.length) = some 0) := ⟨rfl, rfl, ri_tg1 (List.mem_of_getElem? (i := 33) rfl) rfl, ri_tg1 (List.mem_of_getElem? (i := 2) rfl) rfl, ⟨by decide +kernel, by decide +kernel, by decide +kernel⟩⟩
set_option maxRecDepth 20000 in
theorem gw231 : Cond.fieldLink RX11 10 (TX11 0).1 (TX11 0).2.1 (TX11 0).2.2.1 ∈ ri_G := ri_tg2 (List.mem_of_getElem? (i := 117) rfl) rfl
set_option maxRecDepth 20000 in
theorem gw232 : Cond.classLink RX11 16 RX10 ∈ ri_G := ri_tg1 (List.mem_of_getElem? (i := 103) rfl) rfl
set_option maxRecDepth 20000 in
theorem gw233 : Cond.instantiable RX10 7 ∈ ri_G := ri_tg1 (List.mem_of_getElem? (i := 104) rfl) rfl
set_option maxRecDepth 20000 in
theorem gw234 : Cond.initialized RX10 ∈ ri_G := ri_tg1 (List.mem_of_getElem? (i := 4) rfl) rfl
set_option maxRecDepth 20000 in
theorem mw86i : (ri_Yn 86).name = "<init>" ∧ ri_Yr 86 = none ∧ Cond.instanceMethod (ri_Yn 86) ∈ ri_G ∧ Cond.initialized (ri_Yn 86).cls ∈ ri_G ∧ ((ri_Yn 86).cls ≠ "java/lang/invoke/MethodHandle" ∧ (ri_Yn 86).cls ≠ "java/lang/invoke/VarHandle" ∧ (parseMethodDescriptor (ri_Yn 86).desc).map (fun d => d.parameters.length) = some 0) := ⟨rfl, rfl, ri_tg1 (List.mem_of_getElem? (i := 106) rfl) rfl, ri_tg1 (List.mem_of_getElem? (i := 4) rfl) rfl, ⟨by decide +kernel, by decide +kernel, by decide +kernel⟩⟩
set_option maxRecDepth 20000 in
theorem gw235 : Cond.fieldLink RX11 19 (TX11 1).1 (TX11 1).2.1 (TX11 1).2.2.1 ∈ ri_G := ri_tg2 (List.mem_of_getElem? (i := 118) rfl) rfl
set_option maxRecDepth 20000 in
theorem gw236 : Cond.fieldLink RX11 23 (TX11 2).1 (TX11 2).2.1 (TX11 2).2.2.1 ∈ ri_G := ri_tg2 (List.mem_of_getElem? (i := 119) rfl) rfl
set_option maxRecDepth 20000 in
theorem gw237 : Cond.classLink RX11 26 RX5 ∈ ri_G := ri_tg1 (List.mem_of_getElem? (i := 222) rfl) rfl
set_option maxRecDepth 20000 in
theorem gw238 : Cond.instantiable RX5 6 ∈ ri_G := ri_tg1 (List.mem_of_getElem? (i := 223) rfl) rfl
set_option maxRecDepth 20000 in
theorem gw239 : Cond.initialized RX5 ∈ ri_G := ri_tg1 (List.mem_of_getElem? (i := 8) rfl) rfl
set_option maxRecDepth 20000 in
theorem mw38i : (ri_Yn 38).name = "<init>" ∧ ri_Yr 38 = none ∧ Cond.instanceMethod (ri_Yn 38) ∈ ri_G ∧ Cond.initialized (ri_Yn 38).cls ∈ ri_G ∧ ((ri_Yn 38).cls ≠ "java/lang/invoke/MethodHandle" ∧ (ri_Yn 38).cls ≠ "java/lang/invoke/VarHandle" ∧ (parseMethodDescriptor (ri_Yn 38).desc).map (fun d => d.parameters.length) = some 0) := ⟨rfl, rfl, ri_tg1 (List.mem_of_getElem? (i := 225) rfl) rfl, ri_tg1 (List.mem_of_getElem? (i := 8) rfl) rfl, ⟨by decide +kernel, by decide +kernel, by decide +kernel⟩⟩
set_option maxRecDepth 20000 in
theorem gw240 : Cond.fieldLink RX11 29 (TX11 3).1 (TX11 3).2.1 (TX11 3).2.2.1 ∈ ri_G := ri_tg2 (List.mem_of_getElem? (i := 120) rfl) rfl
set_option maxRecDepth 20000 in
theorem gw241 : Cond.classLink RX11 33 RX6 ∈ ri_G := ri_tg2 (List.mem_of_getElem? (i := 13) rfl) rfl
set_option maxRecDepth 20000 in
theorem gw242 : Cond.instantiable RX6 4 ∈ ri_G := ri_tg2 (List.mem_of_getElem? (i := 14) rfl) rfl
set_option maxRecDepth 20000 in
theorem gw243 : Cond.initialized RX6 ∈ ri_G := ri_tg1 (List.mem_of_getElem? (i := 9) rfl) rfl
set_option maxRecDepth 20000 in
theorem mw46i : (ri_Yn 46).name = "<init>" ∧ ri_Yr 46 = none ∧ Cond.instanceMethod (ri_Yn 46) ∈ ri_G ∧ Cond.initialized (ri_Yn 46).cls ∈ ri_G ∧ ((ri_Yn 46).cls ≠ "java/lang/invoke/MethodHandle" ∧ (ri_Yn 46).cls ≠ "java/lang/invoke/VarHandle" ∧ (parseMethodDescriptor (ri_Yn 46).desc).map (fun d => d.parameters.length) = some 0) := ⟨rfl, rfl, ri_tg2 (List.mem_of_getElem? (i := 16) rfl) rfl, ri_tg1 (List.mem_of_getElem? (i := 9) rfl) rfl, ⟨by decide +kernel, by decide +kernel, by decide +kernel⟩⟩
set_option maxRecDepth 20000 in
theorem gw244 : Cond.fieldLink RX11 36 (TX11 4).1 (TX11 4).2.1 (TX11 4).2.2.1 ∈ ri_G := ri_tg2 (List.mem_of_getElem? (i := 121) rfl) rfl
set_option maxRecDepth 20000 in
theorem gw245 : Cond.classLink RX11 33 "FactorNets$Past" ∈ ri_G := ri_tg2 (List.mem_of_getElem? (i := 13) rfl) rfl
set_option maxRecDepth 20000 in
theorem gw246 : Cond.fieldLink RX11 40 (TX11 5).1 (TX11 5).2.1 (TX11 5).2.2.1 ∈ ri_G := ri_tg2 (List.mem_of_getElem? (i := 122) rfl) rfl
set_option maxRecDepth 20000 in
theorem gw247 : Cond.classLink RX11 44 RX0 ∈ ri_G := ri_tg2 (List.mem_of_getElem? (i := 36) rfl) rfl
set_option maxRecDepth 20000 in
theorem gw248 : Cond.instantiable RX0 10 ∈ ri_G := ri_tg2 (List.mem_of_getElem? (i := 37) rfl) rfl
set_option maxRecDepth 20000 in
theorem gw249 : Cond.initialized RX0 ∈ ri_G := ri_tg1 (List.mem_of_getElem? (i := 10) rfl) rfl
set_option maxRecDepth 20000 in
theorem gw250 : Cond.methodLink RX11 46 (ri_Yn 0) ∈ ri_G := ri_tg2 (List.mem_of_getElem? (i := 38) rfl) rfl
set_option maxRecDepth 20000 in
theorem mw0i : (ri_Yn 0).name = "<init>" ∧ ri_Yr 0 = none ∧ Cond.instanceMethod (ri_Yn 0) ∈ ri_G ∧ Cond.initialized (ri_Yn 0).cls ∈ ri_G ∧ ((ri_Yn 0).cls ≠ "java/lang/invoke/MethodHandle" ∧ (ri_Yn 0).cls ≠ "java/lang/invoke/VarHandle" ∧ (parseMethodDescriptor (ri_Yn 0).desc).map (fun d => d.parameters.length) = some 1) := ⟨rfl, rfl, ri_tg2 (List.mem_of_getElem? (i := 39) rfl) rfl, ri_tg1 (List.mem_of_getElem? (i := 10) rfl) rfl, ⟨by decide +kernel, by decide +kernel, by decide +kernel⟩⟩
set_option maxRecDepth 20000 in
theorem gw251 : Cond.fieldLink RX11 49 (TX11 6).1 (TX11 6).2.1 (TX11 6).2.2.1 ∈ ri_G := ri_tg2 (List.mem_of_getElem? (i := 123) rfl) rfl
set_option maxRecDepth 20000 in
theorem gw252 : Cond.fieldLink RX11 53 (TX11 7).1 (TX11 7).2.1 (TX11 7).2.2.1 ∈ ri_G := ri_tg2 (List.mem_of_getElem? (i := 124) rfl) rfl
set_option maxRecDepth 20000 in
theorem gw253 : Cond.classLink RX11 56 RX4 ∈ ri_G := ri_tg2 (List.mem_of_getElem? (i := 100) rfl) rfl
set_option maxRecDepth 20000 in
theorem gw254 : Cond.instantiable RX4 2 ∈ ri_G := ri_tg2 (List.mem_of_getElem? (i := 101) rfl) rfl
set_option maxRecDepth 20000 in
theorem gw255 : Cond.initialized RX4 ∈ ri_G := ri_tg1 (List.mem_of_getElem? (i := 12) rfl) rfl
set_option maxRecDepth 20000 in
theorem mw33i : (ri_Yn 33).name = "<init>" ∧ ri_Yr 33 = none ∧ Cond.instanceMethod (ri_Yn 33) ∈ ri_G ∧ Cond.initialized (ri_Yn 33).cls ∈ ri_G ∧ ((ri_Yn 33).cls ≠ "java/lang/invoke/MethodHandle" ∧ (ri_Yn 33).cls ≠ "java/lang/invoke/VarHandle" ∧ (parseMethodDescriptor (ri_Yn 33).desc).map (fun d => d.parameters.length) = some 0) := ⟨rfl, rfl, ri_tg2 (List.mem_of_getElem? (i := 103) rfl) rfl, ri_tg1 (List.mem_of_getElem? (i := 12) rfl) rfl, ⟨by decide +kernel, by decide +kernel, by decide +kernel⟩⟩
set_option maxRecDepth 20000 in
theorem gw256 : Cond.fieldLink RX11 59 (TX11 8).1 (TX11 8).2.1 (TX11 8).2.2.1 ∈ ri_G := ri_tg2 (List.mem_of_getElem? (i := 125) rfl) rfl
set_option maxRecDepth 20000 in
theorem gw257 : Cond.classLink RX11 63 RX3 ∈ ri_G := ri_tg2 (List.mem_of_getElem? (i := 113) rfl) rfl
set_option maxRecDepth 20000 in
theorem gw258 : Cond.fieldLink RX11 66 (TX11 9).1 (TX11 9).2.1 (TX11 9).2.2.1 ∈ ri_G := ri_tg2 (List.mem_of_getElem? (i := 126) rfl) rfl
set_option maxRecDepth 20000 in
theorem gw259 : Cond.fieldLink RX11 70 (TX11 10).1 (TX11 10).2.1 (TX11 10).2.2.1 ∈ ri_G := ri_tg2 (List.mem_of_getElem? (i := 127) rfl) rfl
set_option maxRecDepth 20000 in
theorem gw260 : Cond.fieldLink RX11 74 (TX11 11).1 (TX11 11).2.1 (TX11 11).2.2.1 ∈ ri_G := ri_tg2 (List.mem_of_getElem? (i := 128) rfl) rfl
set_option maxRecDepth 20000 in
theorem gw261 : Cond.arrayClass .long ∈ ri_G := ri_tg2 (List.mem_of_getElem? (i := 175) rfl) rfl
set_option maxRecDepth 20000 in
theorem gw262 : Cond.fieldLink RX11 77 (TX11 12).1 (TX11 12).2.1 (TX11 12).2.2.1 ∈ ri_G := ri_tg2 (List.mem_of_getElem? (i := 129) rfl) rfl
set_option maxRecDepth 20000 in
theorem gw263 : Cond.classLink RX11 81 ("[" ++ (FieldType.array .long).toString) ∈ ri_G := ri_tg2 (List.mem_of_getElem? (i := 115) rfl) rfl
set_option maxRecDepth 20000 in
theorem gw264 : Cond.fieldLink RX11 83 (TX11 13).1 (TX11 13).2.1 (TX11 13).2.2.1 ∈ ri_G := ri_tg2 (List.mem_of_getElem? (i := 130) rfl) rfl
set_option maxRecDepth 20000 in
theorem gw265 : Cond.arrayClass .char ∈ ri_G := ri_tg2 (List.mem_of_getElem? (i := 176) rfl) rfl
set_option maxRecDepth 20000 in
theorem gw266 : Cond.fieldLink RX11 86 (TX11 14).1 (TX11 14).2.1 (TX11 14).2.2.1 ∈ ri_G := ri_tg2 (List.mem_of_getElem? (i := 131) rfl) rfl
set_option maxRecDepth 20000 in
theorem gw267 : Cond.fieldLink RX11 90 (TX11 18).1 (TX11 18).2.1 (TX11 18).2.2.1 ∈ ri_G := ri_tg2 (List.mem_of_getElem? (i := 135) rfl) rfl
set_option maxRecDepth 20000 in
theorem gw268 : Cond.fieldLink RX11 94 (TX7 1).1 (TX7 1).2.1 (TX7 1).2.2.1 ∈ ri_G := ri_tg1 (List.mem_of_getElem? (i := 68) rfl) rfl
set_option maxRecDepth 20000 in
theorem gw269 : Cond.methodLink RX11 97 (ri_Yn 52) ∈ ri_G := ri_tg2 (List.mem_of_getElem? (i := 181) rfl) rfl
set_option maxRecDepth 20000 in
theorem mw52v : Cond.instanceMethod (ri_Yn 52) ∈ ri_G ∧ Cond.selects (ri_Yn 52).cls (ri_Yn 52) (ri_Yn 52) ∈ ri_G ∧ Cond.initialized (ri_Yn 52).cls ∈ ri_G ∧ ((ri_Yn 52).cls ≠ "java/lang/invoke/MethodHandle" ∧ (ri_Yn 52).cls ≠ "java/lang/invoke/VarHandle" ∧ (parseMethodDescriptor (ri_Yn 52).desc).map (fun d => d.parameters.length) = some 1) := ⟨ri_tg2 (List.mem_of_getElem? (i := 182) rfl) rfl, ri_tg2 (List.mem_of_getElem? (i := 183) rfl) rfl, ri_tg1 (List.mem_of_getElem? (i := 2) rfl) rfl, ⟨by decide +kernel, by decide +kernel, by decide +kernel⟩⟩
set_option maxRecDepth 20000 in
theorem gw270 : Cond.methodLink RX11 101 (ri_Yn 53) ∈ ri_G := ri_tg2 (List.mem_of_getElem? (i := 193) rfl) rfl
set_option maxRecDepth 20000 in
theorem mw53v : Cond.instanceMethod (ri_Yn 53) ∈ ri_G ∧ Cond.selects (ri_Yn 53).cls (ri_Yn 53) (ri_Yn 53) ∈ ri_G ∧ Cond.initialized (ri_Yn 53).cls ∈ ri_G ∧ ((ri_Yn 53).cls ≠ "java/lang/invoke/MethodHandle" ∧ (ri_Yn 53).cls ≠ "java/lang/invoke/VarHandle" ∧ (parseMethodDescriptor (ri_Yn 53).desc).map (fun d => d.parameters.length) = some 0) := ⟨ri_tg2 (List.mem_of_getElem? (i := 194) rfl) rfl, ri_tg2 (List.mem_of_getElem? (i := 195) rfl) rfl, ri_tg1 (List.mem_of_getElem? (i := 2) rfl) rfl, ⟨by decide +kernel, by decide +kernel, by decide +kernel⟩⟩
set_option maxRecDepth 20000 in
theorem gw271 : Cond.fieldLink RX11 104 (TX7 4).1 (TX7 4).2.1 (TX7 4).2.2.1 ∈ ri_G := ri_tg1 (List.mem_of_getElem? (i := 75) rfl) rfl
set_option maxRecDepth 20000 in
theorem gw272 : Cond.fieldLink RX11 107 (TX7 2).1 (TX7 2).2.1 (TX7 2).2.2.1 ∈ ri_G := ri_tg1 (List.mem_of_getElem? (i := 71) rfl) rfl
set_option maxRecDepth 20000 in
theorem gw273 : Cond.fieldLink RX11 110 (TX3 0).1 (TX3 0).2.1 (TX3 0).2.2.1 ∈ ri_G := ri_tg1 (List.mem_of_getElem? (i := 50) rfl) rfl
set_option maxRecDepth 20000 in
theorem gw274 : Cond.methodLink RX11 113 (ri_Yn 27) ∈ ri_G := ri_tg3 (List.mem_of_getElem? (i := 96) rfl) rfl
set_option maxRecDepth 20000 in
theorem mw27v : Cond.instanceMethod (ri_Yn 27) ∈ ri_G ∧ Cond.selects (ri_Yn 27).cls (ri_Yn 27) (ri_Yn 27) ∈ ri_G ∧ Cond.initialized (ri_Yn 27).cls ∈ ri_G ∧ ((ri_Yn 27).cls ≠ "java/lang/invoke/MethodHandle" ∧ (ri_Yn 27).cls ≠ "java/lang/invoke/VarHandle" ∧ (parseMethodDescriptor (ri_Yn 27).desc).map (fun d => d.parameters.length) = some 0) := ⟨ri_tg3 (List.mem_of_getElem? (i := 97) rfl) rfl, ri_tg3 (List.mem_of_getElem? (i := 98) rfl) rfl, ri_tg1 (List.mem_of_getElem? (i := 3) rfl) rfl, ⟨by decide +kernel, by decide +kernel, by decide +kernel⟩⟩
set_option maxRecDepth 20000 in
theorem gw275 : Cond.fieldLink RX11 117 (TX10 0).1 (TX10 0).2.1 (TX10 0).2.2.1 ∈ ri_G := ri_tg1 (List.mem_of_getElem? (i := 196) rfl) rfl
set_option maxRecDepth 20000 in
theorem gw276 : Cond.methodLink RX11 118 (ri_Yn 20) ∈ ri_G := ri_tg3 (List.mem_of_getElem? (i := 116) rfl) rfl
set_option maxRecDepth 20000 in
theorem mw20v : Cond.instanceMethod (ri_Yn 20) ∈ ri_G ∧ Cond.selects (ri_Yn 20).cls (ri_Yn 20) (ri_Yn 20) ∈ ri_G ∧ Cond.initialized (ri_Yn 20).cls ∈ ri_G ∧ ((ri_Yn 20).cls ≠ "java/lang/invoke/MethodHandle" ∧ (ri_Yn 20).cls ≠ "java/lang/invoke/VarHandle" ∧ (parseMethodDescriptor (ri_Yn 20).desc).map (fun d => d.parameters.length) = some 1) := ⟨ri_tg3 (List.mem_of_getElem? (i := 117) rfl) rfl, ri_tg3 (List.mem_of_getElem? (i := 118) rfl) rfl, ri_tg1 (List.mem_of_getElem? (i := 3) rfl) rfl, ⟨by decide +kernel, by decide +kernel, by decide +kernel⟩⟩
set_option maxRecDepth 20000 in
theorem gw277 : Cond.fieldLink RX11 122 (TX7 3).1 (TX7 3).2.1 (TX7 3).2.2.1 ∈ ri_G := ri_tg1 (List.mem_of_getElem? (i := 73) rfl) rfl
set_option maxRecDepth 20000 in
theorem gw278 : Cond.methodLink RX11 125 (ri_Yn 47) ∈ ri_G := ri_tg3 (List.mem_of_getElem? (i := 123) rfl) rfl
set_option maxRecDepth 20000 in
theorem mw47v : Cond.instanceMethod (ri_Yn 47) ∈ ri_G ∧ Cond.selects (ri_Yn 47).cls (ri_Yn 47) (ri_Yn 47) ∈ ri_G ∧ Cond.initialized (ri_Yn 47).cls ∈ ri_G ∧ ((ri_Yn 47).cls ≠ "java/lang/invoke/MethodHandle" ∧ (ri_Yn 47).cls ≠ "java/lang/invoke/VarHandle" ∧ (parseMethodDescriptor (ri_Yn 47).desc).map (fun d => d.parameters.length) = some 1) := ⟨ri_tg3 (List.mem_of_getElem? (i := 124) rfl) rfl, ri_tg3 (List.mem_of_getElem? (i := 125) rfl) rfl, ri_tg1 (List.mem_of_getElem? (i := 9) rfl) rfl, ⟨by decide +kernel, by decide +kernel, by decide +kernel⟩⟩
set_option maxRecDepth 20000 in
theorem gw279 : Cond.methodLink RX11 128 (ri_Yn 153) ∈ ri_G := ri_tg3 (List.mem_of_getElem? (i := 127) rfl) rfl
set_option maxRecDepth 20000 in
theorem mw153v : Cond.instanceMethod (ri_Yn 153) ∈ ri_G ∧ Cond.selects (ri_Yn 153).cls (ri_Yn 153) (ri_Yn 153) ∈ ri_G ∧ Cond.initialized (ri_Yn 153).cls ∈ ri_G ∧ ((ri_Yn 153).cls ≠ "java/lang/invoke/MethodHandle" ∧ (ri_Yn 153).cls ≠ "java/lang/invoke/VarHandle" ∧ (parseMethodDescriptor (ri_Yn 153).desc).map (fun d => d.parameters.length) = some 0) := ⟨ri_tg3 (List.mem_of_getElem? (i := 129) rfl) rfl, ri_ps1 _ (List.mem_of_getElem? (i := 12) rfl : (⟨"FactorNets", "forget", "()V"⟩, 19) ∈ lw_privs_1), ri_tg1 (List.mem_of_getElem? (i := 1) rfl) rfl, ⟨by decide +kernel, by decide +kernel, by decide +kernel⟩⟩
set_option maxRecDepth 20000 in
theorem gw280 : Cond.fieldLink RX11 131 (TX7 5).1 (TX7 5).2.1 (TX7 5).2.2.1 ∈ ri_G := ri_tg1 (List.mem_of_getElem? (i := 77) rfl) rfl
set_option maxRecDepth 20000 in
theorem gw281 : Cond.methodLink RX11 134 (ri_Yn 26) ∈ ri_G := ri_tg3 (List.mem_of_getElem? (i := 144) rfl) rfl
set_option maxRecDepth 20000 in
theorem gw282 : Cond.fieldLink RX11 138 (TX6 0).1 (TX6 0).2.1 (TX6 0).2.2.1 ∈ ri_G := ri_tg2 (List.mem_of_getElem? (i := 21) rfl) rfl
set_option maxRecDepth 20000 in
theorem gw283 : Cond.methodLink RX11 141 (ri_Yn 90) ∈ ri_G := ri_tg3 (List.mem_of_getElem? (i := 149) rfl) rfl
set_option maxRecDepth 20000 in
theorem mw90v : Cond.instanceMethod (ri_Yn 90) ∈ ri_G ∧ Cond.selects (ri_Yn 90).cls (ri_Yn 90) (ri_Yn 90) ∈ ri_G ∧ Cond.initialized (ri_Yn 90).cls ∈ ri_G ∧ ((ri_Yn 90).cls ≠ "java/lang/invoke/MethodHandle" ∧ (ri_Yn 90).cls ≠ "java/lang/invoke/VarHandle" ∧ (parseMethodDescriptor (ri_Yn 90).desc).map (fun d => d.parameters.length) = some 0) := ⟨ri_tg3 (List.mem_of_getElem? (i := 150) rfl) rfl, ri_tg3 (List.mem_of_getElem? (i := 151) rfl) rfl, ri_tg1 (List.mem_of_getElem? (i := 4) rfl) rfl, ⟨by decide +kernel, by decide +kernel, by decide +kernel⟩⟩
set_option maxRecDepth 20000 in
theorem gw284 : Cond.fieldLink RX11 145 (TX9 1).1 (TX9 1).2.1 (TX9 1).2.2.1 ∈ ri_G := ri_tg1 (List.mem_of_getElem? (i := 171) rfl) rfl
set_option maxRecDepth 20000 in
theorem gw285 : Cond.fieldLink RX11 149 (TX9 0).1 (TX9 0).2.1 (TX9 0).2.2.1 ∈ ri_G := ri_tg1 (List.mem_of_getElem? (i := 168) rfl) rfl
set_option maxRecDepth 20000 in
theorem gw286 : Cond.fieldLink RX11 152 (TX6 1).1 (TX6 1).2.1 (TX6 1).2.2.1 ∈ ri_G := ri_tg2 (List.mem_of_getElem? (i := 23) rfl) rfl
set_option maxRecDepth 20000 in
theorem gw287 : Cond.fieldLink RX11 155 (TX11 15).1 (TX11 15).2.1 (TX11 15).2.2.1 ∈ ri_G := ri_tg2 (List.mem_of_getElem? (i := 132) rfl) rfl
set_option maxRecDepth 20000 in
theorem gw288 : Cond.methodLink RX11 158 (ri_Yn 158) ∈ ri_G := ri_tg3 (List.mem_of_getElem? (i := 215) rfl) rfl
set_option maxRecDepth 20000 in
theorem mw158v : Cond.instanceMethod (ri_Yn 158) ∈ ri_G ∧ Cond.selects (ri_Yn 158).cls (ri_Yn 158) (ri_Yn 158) ∈ ri_G ∧ Cond.initialized (ri_Yn 158).cls ∈ ri_G ∧ ((ri_Yn 158).cls ≠ "java/lang/invoke/MethodHandle" ∧ (ri_Yn 158).cls ≠ "java/lang/invoke/VarHandle" ∧ (parseMethodDescriptor (ri_Yn 158).desc).map (fun d => d.parameters.length) = some 1) := ⟨ri_tg3 (List.mem_of_getElem? (i := 217) rfl) rfl, ri_ps2 _ (List.mem_of_getElem? (i := 3) rfl : (⟨"FactorNets", "isLine", "(I)Z"⟩, 19) ∈ lw_privs_2), ri_tg1 (List.mem_of_getElem? (i := 1) rfl) rfl, ⟨by decide +kernel, by decide +kernel, by decide +kernel⟩⟩
set_option maxRecDepth 20000 in
theorem gw289 : Cond.methodLink RX11 162 (ri_Yn 89) ∈ ri_G := ri_tg3 (List.mem_of_getElem? (i := 219) rfl) rfl
set_option maxRecDepth 20000 in
theorem gw290 : Cond.fieldLink RX11 166 (TX1 1).1 (TX1 1).2.1 (TX1 1).2.2.1 ∈ ri_G := ri_tg1 (List.mem_of_getElem? (i := 144) rfl) rfl
set_option maxRecDepth 20000 in
theorem gw291 : Cond.fieldLink RX11 171 (TX1 2).1 (TX1 2).2.1 (TX1 2).2.2.1 ∈ ri_G := ri_tg1 (List.mem_of_getElem? (i := 148) rfl) rfl
set_option maxRecDepth 20000 in
theorem gw292 : Cond.fieldLink RX11 174 (TX9 3).1 (TX9 3).2.1 (TX9 3).2.2.1 ∈ ri_G := ri_tg1 (List.mem_of_getElem? (i := 176) rfl) rfl
set_option maxRecDepth 20000 in
theorem gw293 : Cond.fieldLink RX11 177 (TX9 2).1 (TX9 2).2.1 (TX9 2).2.2.1 ∈ ri_G := ri_tg1 (List.mem_of_getElem? (i := 173) rfl) rfl
set_option maxRecDepth 20000 in
theorem gw294 : Cond.methodLink RX11 180 (ri_Yn 157) ∈ ri_G := ri_tg3 (List.mem_of_getElem? (i := 224) rfl) rfl
set_option maxRecDepth 20000 in
theorem mw157v : Cond.instanceMethod (ri_Yn 157) ∈ ri_G ∧ Cond.selects (ri_Yn 157).cls (ri_Yn 157) (ri_Yn 157) ∈ ri_G ∧ Cond.initialized (ri_Yn 157).cls ∈ ri_G ∧ ((ri_Yn 157).cls ≠ "java/lang/invoke/MethodHandle" ∧ (ri_Yn 157).cls ≠ "java/lang/invoke/VarHandle" ∧ (parseMethodDescriptor (ri_Yn 157).desc).map (fun d => d.parameters.length) = some 2) := ⟨ri_tg3 (List.mem_of_getElem? (i := 226) rfl) rfl, ri_ps2 _ (List.mem_of_getElem? (i := 4) rfl : (⟨"FactorNets", "arePoints", "(II)Z"⟩, 19) ∈ lw_privs_2), ri_tg1 (List.mem_of_getElem? (i := 1) rfl) rfl, ⟨by decide +kernel, by decide +kernel, by decide +kernel⟩⟩
set_option maxRecDepth 20000 in
theorem gw295 : Cond.fieldLink RX11 184 (TX1 3).1 (TX1 3).2.1 (TX1 3).2.2.1 ∈ ri_G := ri_tg1 (List.mem_of_getElem? (i := 151) rfl) rfl
set_option maxRecDepth 20000 in
theorem gw296 : Cond.methodLink RX11 188 (ri_Yn 156) ∈ ri_G := ri_tg3 (List.mem_of_getElem? (i := 236) rfl) rfl
set_option maxRecDepth 20000 in
theorem mw156v : Cond.instanceMethod (ri_Yn 156) ∈ ri_G ∧ Cond.selects (ri_Yn 156).cls (ri_Yn 156) (ri_Yn 156) ∈ ri_G ∧ Cond.initialized (ri_Yn 156).cls ∈ ri_G ∧ ((ri_Yn 156).cls ≠ "java/lang/invoke/MethodHandle" ∧ (ri_Yn 156).cls ≠ "java/lang/invoke/VarHandle" ∧ (parseMethodDescriptor (ri_Yn 156).desc).map (fun d => d.parameters.length) = some 1) := ⟨ri_tg3 (List.mem_of_getElem? (i := 238) rfl) rfl, ri_ps2 _ (List.mem_of_getElem? (i := 5) rfl : (⟨"FactorNets", "isPoint", "(I)Z"⟩, 19) ∈ lw_privs_2), ri_tg1 (List.mem_of_getElem? (i := 1) rfl) rfl, ⟨by decide +kernel, by decide +kernel, by decide +kernel⟩⟩
set_option maxRecDepth 20000 in
theorem gw297 : Cond.fieldLink RX11 191 (TX3 1).1 (TX3 1).2.1 (TX3 1).2.2.1 ∈ ri_G := ri_tg1 (List.mem_of_getElem? (i := 60) rfl) rfl
set_option maxRecDepth 20000 in
theorem gw298 : Cond.methodLink RX11 194 (ri_Yn 88) ∈ ri_G := ri_tg4 (List.mem_of_getElem? (i := 4) rfl) rfl
set_option maxRecDepth 20000 in
theorem gw299 : Cond.fieldLink RX11 198 (TX2 0).1 (TX2 0).2.1 (TX2 0).2.2.1 ∈ ri_G := ri_tg1 (List.mem_of_getElem? (i := 121) rfl) rfl
set_option maxRecDepth 20000 in
theorem gw300 : Cond.constantLong RX11 203 (Int64.ofNat 18446744073709551614) ∈ ri_G := ri_tg4 (List.mem_of_getElem? (i := 9) rfl) rfl
set_option maxRecDepth 20000 in
theorem gw301 : Cond.methodLink RX11 205 (ri_Yn 318) ∈ ri_G := ri_tg4 (List.mem_of_getElem? (i := 10) rfl) rfl
set_option maxRecDepth 20000 in
theorem mw318s : Cond.static (ri_Yn 318) ∈ ri_G ∧ Cond.initialized (ri_Yn 318).cls ∈ ri_G ∧ ((ri_Yn 318).cls ≠ "java/lang/invoke/MethodHandle" ∧ (ri_Yn 318).cls ≠ "java/lang/invoke/VarHandle" ∧ (parseMethodDescriptor (ri_Yn 318).desc).map (fun d => d.parameters.length) = some 2) := ⟨ri_tg4 (List.mem_of_getElem? (i := 11) rfl) rfl, ri_tg1 (List.mem_of_getElem? (i := 14) rfl) rfl, ⟨by decide +kernel, by decide +kernel, by decide +kernel⟩⟩
set_option maxRecDepth 20000 in
theorem gw302 : Cond.fieldLink RX11 211 (TX2 1).1 (TX2 1).2.1 (TX2 1).2.2.1 ∈ ri_G := ri_tg1 (List.mem_of_getElem? (i := 124) rfl) rfl
set_option maxRecDepth 20000 in
theorem gw303 : Cond.methodLink RX11 214 (ri_Yn 162) ∈ ri_G := ri_tg4 (List.mem_of_getElem? (i := 13) rfl) rfl
set_option maxRecDepth 20000 in
theorem mw162v : Cond.instanceMethod (ri_Yn 162) ∈ ri_G ∧ Cond.selects (ri_Yn 162).cls (ri_Yn 162) (ri_Yn 162) ∈ ri_G ∧ Cond.initialized (ri_Yn 162).cls ∈ ri_G ∧ ((ri_Yn 162).cls ≠ "java/lang/invoke/MethodHandle" ∧ (ri_Yn 162).cls ≠ "java/lang/invoke/VarHandle" ∧ (parseMethodDescriptor (ri_Yn 162).desc).map (fun d => d.parameters.length) = some 2) := ⟨ri_tg4 (List.mem_of_getElem? (i := 15) rfl) rfl, ri_ps2 _ (List.mem_of_getElem? (i := 6) rfl : (⟨"FactorNets", "tallyShell", "(II)V"⟩, 19) ∈ lw_privs_2), ri_tg1 (List.mem_of_getElem? (i := 1) rfl) rfl, ⟨by decide +kernel, by decide +kernel, by decide +kernel⟩⟩
set_option maxRecDepth 20000 in
theorem gw304 : Cond.methodLink RX11 218 (ri_Yn 16) ∈ ri_G := ri_tg4 (List.mem_of_getElem? (i := 25) rfl) rfl
set_option maxRecDepth 20000 in
theorem mw16v : Cond.instanceMethod (ri_Yn 16) ∈ ri_G ∧ Cond.selects (ri_Yn 16).cls (ri_Yn 16) (ri_Yn 16) ∈ ri_G ∧ Cond.initialized (ri_Yn 16).cls ∈ ri_G ∧ ((ri_Yn 16).cls ≠ "java/lang/invoke/MethodHandle" ∧ (ri_Yn 16).cls ≠ "java/lang/invoke/VarHandle" ∧ (parseMethodDescriptor (ri_Yn 16).desc).map (fun d => d.parameters.length) = some 2) := ⟨ri_tg4 (List.mem_of_getElem? (i := 26) rfl) rfl, ri_tg4 (List.mem_of_getElem? (i := 27) rfl) rfl, ri_tg1 (List.mem_of_getElem? (i := 5) rfl) rfl, ⟨by decide +kernel, by decide +kernel, by decide +kernel⟩⟩
set_option maxRecDepth 20000 in
theorem gw305 : Cond.methodLink RX11 222 (ri_Yn 177) ∈ ri_G := ri_tg3 (List.mem_of_getElem? (i := 103) rfl) rfl
set_option maxRecDepth 20000 in
theorem gw306 : Cond.fieldLink RX11 226 (TX10 2).1 (TX10 2).2.1 (TX10 2).2.2.1 ∈ ri_G := ri_tg1 (List.mem_of_getElem? (i := 201) rfl) rfl
set_option maxRecDepth 20000 in
theorem gw307 : Cond.fieldLink RX11 230 (TX1 0).1 (TX1 0).2.1 (TX1 0).2.2.1 ∈ ri_G := ri_tg1 (List.mem_of_getElem? (i := 140) rfl) rfl
set_option maxRecDepth 20000 in
theorem gw308 : Cond.methodLink RX11 231 (ri_Yn 159) ∈ ri_G := ri_tg4 (List.mem_of_getElem? (i := 45) rfl) rfl
set_option maxRecDepth 20000 in
theorem mw159v : Cond.instanceMethod (ri_Yn 159) ∈ ri_G ∧ Cond.selects (ri_Yn 159).cls (ri_Yn 159) (ri_Yn 159) ∈ ri_G ∧ Cond.initialized (ri_Yn 159).cls ∈ ri_G ∧ ((ri_Yn 159).cls ≠ "java/lang/invoke/MethodHandle" ∧ (ri_Yn 159).cls ≠ "java/lang/invoke/VarHandle" ∧ (parseMethodDescriptor (ri_Yn 159).desc).map (fun d => d.parameters.length) = some 1) := ⟨ri_tg4 (List.mem_of_getElem? (i := 47) rfl) rfl, ri_ps2 _ (List.mem_of_getElem? (i := 8) rfl : (⟨"FactorNets", "isPart", "(I)Z"⟩, 19) ∈ lw_privs_2), ri_tg1 (List.mem_of_getElem? (i := 1) rfl) rfl, ⟨by decide +kernel, by decide +kernel, by decide +kernel⟩⟩
set_option maxRecDepth 20000 in
theorem gw309 : Cond.fieldLink RX11 234 (TX5 2).1 (TX5 2).2.1 (TX5 2).2.2.1 ∈ ri_G := ri_tg1 (List.mem_of_getElem? (i := 234) rfl) rfl
set_option maxRecDepth 20000 in
theorem gw310 : Cond.methodLink RX11 236 (ri_Yn 178) ∈ ri_G := ri_tg4 (List.mem_of_getElem? (i := 67) rfl) rfl
set_option maxRecDepth 20000 in
theorem gw311 : Cond.fieldLink RX11 240 (TX5 1).1 (TX5 1).2.1 (TX5 1).2.2.1 ∈ ri_G := ri_tg1 (List.mem_of_getElem? (i := 232) rfl) rfl
set_option maxRecDepth 20000 in
theorem gw312 : Cond.fieldLink RX11 243 (TX5 3).1 (TX5 3).2.1 (TX5 3).2.2.1 ∈ ri_G := ri_tg1 (List.mem_of_getElem? (i := 236) rfl) rfl
set_option maxRecDepth 20000 in
theorem gw313 : Cond.fieldLink RX11 246 (TX5 4).1 (TX5 4).2.1 (TX5 4).2.2.1 ∈ ri_G := ri_tg1 (List.mem_of_getElem? (i := 238) rfl) rfl
set_option maxRecDepth 20000 in
theorem gw314 : Cond.methodLink RX11 249 (ri_Yn 164) ∈ ri_G := ri_tg4 (List.mem_of_getElem? (i := 88) rfl) rfl
set_option maxRecDepth 20000 in
theorem mw164v : Cond.instanceMethod (ri_Yn 164) ∈ ri_G ∧ Cond.selects (ri_Yn 164).cls (ri_Yn 164) (ri_Yn 164) ∈ ri_G ∧ Cond.initialized (ri_Yn 164).cls ∈ ri_G ∧ ((ri_Yn 164).cls ≠ "java/lang/invoke/MethodHandle" ∧ (ri_Yn 164).cls ≠ "java/lang/invoke/VarHandle" ∧ (parseMethodDescriptor (ri_Yn 164).desc).map (fun d => d.parameters.length) = some 3) := ⟨ri_tg4 (List.mem_of_getElem? (i := 90) rfl) rfl, ri_ps2 _ (List.mem_of_getElem? (i := 11) rfl : (⟨"FactorNets", "stepsInPart", "(III)I"⟩, 19) ∈ lw_privs_2), ri_tg1 (List.mem_of_getElem? (i := 1) rfl) rfl, ⟨by decide +kernel, by decide +kernel, by decide +kernel⟩⟩
set_option maxRecDepth 20000 in
theorem gw315 : Cond.methodLink RX11 253 (ri_Yn 42) ∈ ri_G := ri_tg4 (List.mem_of_getElem? (i := 96) rfl) rfl
set_option maxRecDepth 20000 in
theorem gw316 : Cond.methodLink RX11 256 (ri_Yn 44) ∈ ri_G := ri_tg4 (List.mem_of_getElem? (i := 109) rfl) rfl
set_option maxRecDepth 20000 in
theorem mw44v : Cond.instanceMethod (ri_Yn 44) ∈ ri_G ∧ Cond.selects (ri_Yn 44).cls (ri_Yn 44) (ri_Yn 44) ∈ ri_G ∧ Cond.initialized (ri_Yn 44).cls ∈ ri_G ∧ ((ri_Yn 44).cls ≠ "java/lang/invoke/MethodHandle" ∧ (ri_Yn 44).cls ≠ "java/lang/invoke/VarHandle" ∧ (parseMethodDescriptor (ri_Yn 44).desc).map (fun d => d.parameters.length) = some 1) := ⟨ri_tg4 (List.mem_of_getElem? (i := 110) rfl) rfl, ri_tg4 (List.mem_of_getElem? (i := 111) rfl) rfl, ri_tg1 (List.mem_of_getElem? (i := 8) rfl) rfl, ⟨by decide +kernel, by decide +kernel, by decide +kernel⟩⟩
set_option maxRecDepth 20000 in
theorem gw317 : Cond.methodLink RX11 259 (ri_Yn 154) ∈ ri_G := ri_tg4 (List.mem_of_getElem? (i := 49) rfl) rfl
set_option maxRecDepth 20000 in
theorem mw154v : Cond.instanceMethod (ri_Yn 154) ∈ ri_G ∧ Cond.selects (ri_Yn 154).cls (ri_Yn 154) (ri_Yn 154) ∈ ri_G ∧ Cond.initialized (ri_Yn 154).cls ∈ ri_G ∧ ((ri_Yn 154).cls ≠ "java/lang/invoke/MethodHandle" ∧ (ri_Yn 154).cls ≠ "java/lang/invoke/VarHandle" ∧ (parseMethodDescriptor (ri_Yn 154).desc).map (fun d => d.parameters.length) = some 0) := ⟨ri_tg4 (List.mem_of_getElem? (i := 51) rfl) rfl, ri_ps2 _ (List.mem_of_getElem? (i := 9) rfl : (⟨"FactorNets", "learnParts", "()V"⟩, 19) ∈ lw_privs_2), ri_tg1 (List.mem_of_getElem? (i := 1) rfl) rfl, ⟨by decide +kernel, by decide +kernel, by decide +kernel⟩⟩
set_option maxRecDepth 20000 in
theorem gw318 : Cond.fieldLink RX11 262 (TX5 0).1 (TX5 0).2.1 (TX5 0).2.2.1 ∈ ri_G := ri_tg1 (List.mem_of_getElem? (i := 230) rfl) rfl
set_option maxRecDepth 20000 in
theorem gw319 : Cond.methodLink RX11 265 (ri_Yn 174) ∈ ri_G := ri_tg4 (List.mem_of_getElem? (i := 123) rfl) rfl
set_option maxRecDepth 20000 in
theorem mw174v : Cond.instanceMethod (ri_Yn 174) ∈ ri_G ∧ Cond.selects (ri_Yn 174).cls (ri_Yn 174) (ri_Yn 174) ∈ ri_G ∧ Cond.initialized (ri_Yn 174).cls ∈ ri_G ∧ ((ri_Yn 174).cls ≠ "java/lang/invoke/MethodHandle" ∧ (ri_Yn 174).cls ≠ "java/lang/invoke/VarHandle" ∧ (parseMethodDescriptor (ri_Yn 174).desc).map (fun d => d.parameters.length) = some 1) := ⟨ri_tg4 (List.mem_of_getElem? (i := 125) rfl) rfl, ri_ps2 _ (List.mem_of_getElem? (i := 13) rfl : (⟨"FactorNets", "write", "(Ljava/lang/String;)V"⟩, 19) ∈ lw_privs_2), ri_tg1 (List.mem_of_getElem? (i := 1) rfl) rfl, ⟨by decide +kernel, by decide +kernel, by decide +kernel⟩⟩
set_option maxRecDepth 20000 in
theorem gw320 : Cond.methodLink RX11 271 (ri_Yn 173) ∈ ri_G := ri_tg4 (List.mem_of_getElem? (i := 134) rfl) rfl
set_option maxRecDepth 20000 in
theorem mw173v : Cond.instanceMethod (ri_Yn 173) ∈ ri_G ∧ Cond.selects (ri_Yn 173).cls (ri_Yn 173) (ri_Yn 173) ∈ ri_G ∧ Cond.initialized (ri_Yn 173).cls ∈ ri_G ∧ ((ri_Yn 173).cls ≠ "java/lang/invoke/MethodHandle" ∧ (ri_Yn 173).cls ≠ "java/lang/invoke/VarHandle" ∧ (parseMethodDescriptor (ri_Yn 173).desc).map (fun d => d.parameters.length) = some 1) := ⟨ri_tg4 (List.mem_of_getElem? (i := 136) rfl) rfl, ri_ps2 _ (List.mem_of_getElem? (i := 15) rfl : (⟨"FactorNets", "writePart", "(I)V"⟩, 19) ∈ lw_privs_2), ri_tg1 (List.mem_of_getElem? (i := 1) rfl) rfl, ⟨by decide +kernel, by decide +kernel, by decide +kernel⟩⟩
set_option maxRecDepth 20000 in
theorem gw321 : Cond.methodLink RX11 274 (ri_Yn 165) ∈ ri_G := ri_tg4 (List.mem_of_getElem? (i := 155) rfl) rfl
set_option maxRecDepth 20000 in
theorem mw165v : Cond.instanceMethod (ri_Yn 165) ∈ ri_G ∧ Cond.selects (ri_Yn 165).cls (ri_Yn 165) (ri_Yn 165) ∈ ri_G ∧ Cond.initialized (ri_Yn 165).cls ∈ ri_G ∧ ((ri_Yn 165).cls ≠ "java/lang/invoke/MethodHandle" ∧ (ri_Yn 165).cls ≠ "java/lang/invoke/VarHandle" ∧ (parseMethodDescriptor (ri_Yn 165).desc).map (fun d => d.parameters.length) = some 3) := ⟨ri_tg4 (List.mem_of_getElem? (i := 157) rfl) rfl, ri_ps3 _ (List.mem_of_getElem? (i := 1) rfl : (⟨"FactorNets", "nextInPart", "(III)I"⟩, 19) ∈ lw_privs_3), ri_tg1 (List.mem_of_getElem? (i := 1) rfl) rfl, ⟨by decide +kernel, by decide +kernel, by decide +kernel⟩⟩
set_option maxRecDepth 20000 in
theorem gw322 : Cond.methodLink RX11 277 (ri_Yn 45) ∈ ri_G := ri_tg4 (List.mem_of_getElem? (i := 163) rfl) rfl
set_option maxRecDepth 20000 in
theorem mw45v : Cond.instanceMethod (ri_Yn 45) ∈ ri_G ∧ Cond.selects (ri_Yn 45).cls (ri_Yn 45) (ri_Yn 45) ∈ ri_G ∧ Cond.initialized (ri_Yn 45).cls ∈ ri_G ∧ ((ri_Yn 45).cls ≠ "java/lang/invoke/MethodHandle" ∧ (ri_Yn 45).cls ≠ "java/lang/invoke/VarHandle" ∧ (parseMethodDescriptor (ri_Yn 45).desc).map (fun d => d.parameters.length) = some 2) := ⟨ri_tg4 (List.mem_of_getElem? (i := 164) rfl) rfl, ri_tg4 (List.mem_of_getElem? (i := 165) rfl) rfl, ri_tg1 (List.mem_of_getElem? (i := 8) rfl) rfl, ⟨by decide +kernel, by decide +kernel, by decide +kernel⟩⟩
set_option maxRecDepth 20000 in
theorem gw323 : Cond.methodLink RX11 281 (ri_Yn 87) ∈ ri_G := ri_tg3 (List.mem_of_getElem? (i := 131) rfl) rfl
set_option maxRecDepth 20000 in
theorem mw87v : Cond.instanceMethod (ri_Yn 87) ∈ ri_G ∧ Cond.selects (ri_Yn 87).cls (ri_Yn 87) (ri_Yn 87) ∈ ri_G ∧ Cond.initialized (ri_Yn 87).cls ∈ ri_G ∧ ((ri_Yn 87).cls ≠ "java/lang/invoke/MethodHandle" ∧ (ri_Yn 87).cls ≠ "java/lang/invoke/VarHandle" ∧ (parseMethodDescriptor (ri_Yn 87).desc).map (fun d => d.parameters.length) = some 0) := ⟨ri_tg3 (List.mem_of_getElem? (i := 132) rfl) rfl, ri_tg3 (List.mem_of_getElem? (i := 133) rfl) rfl, ri_tg1 (List.mem_of_getElem? (i := 4) rfl) rfl, ⟨by decide +kernel, by decide +kernel, by decide +kernel⟩⟩
set_option maxRecDepth 20000 in
theorem gw324 : Cond.methodLink RX11 282 (ri_Yn 1) ∈ ri_G := ri_tg4 (List.mem_of_getElem? (i := 169) rfl) rfl
set_option maxRecDepth 20000 in
theorem mw1v : Cond.instanceMethod (ri_Yn 1) ∈ ri_G ∧ Cond.selects (ri_Yn 1).cls (ri_Yn 1) (ri_Yn 1) ∈ ri_G ∧ Cond.initialized (ri_Yn 1).cls ∈ ri_G ∧ ((ri_Yn 1).cls ≠ "java/lang/invoke/MethodHandle" ∧ (ri_Yn 1).cls ≠ "java/lang/invoke/VarHandle" ∧ (parseMethodDescriptor (ri_Yn 1).desc).map (fun d => d.parameters.length) = some 0) := ⟨ri_tg4 (List.mem_of_getElem? (i := 170) rfl) rfl, ri_tg4 (List.mem_of_getElem? (i := 171) rfl) rfl, ri_tg1 (List.mem_of_getElem? (i := 10) rfl) rfl, ⟨by decide +kernel, by decide +kernel, by decide +kernel⟩⟩
set_option maxRecDepth 20000 in
theorem gw325 : Cond.fieldLink RX11 285 (TX0 0).1 (TX0 0).2.1 (TX0 0).2.2.1 ∈ ri_G := ri_tg2 (List.mem_of_getElem? (i := 68) rfl) rfl
set_option maxRecDepth 20000 in
theorem gw326 : Cond.methodLink RX11 289 (ri_Yn 155) ∈ ri_G := ri_tg4 (List.mem_of_getElem? (i := 238) rfl) rfl
set_option maxRecDepth 20000 in
theorem mw155v : Cond.instanceMethod (ri_Yn 155) ∈ ri_G ∧ Cond.selects (ri_Yn 155).cls (ri_Yn 155) (ri_Yn 155) ∈ ri_G ∧ Cond.initialized (ri_Yn 155).cls ∈ ri_G ∧ ((ri_Yn 155).cls ≠ "java/lang/invoke/MethodHandle" ∧ (ri_Yn 155).cls ≠ "java/lang/invoke/VarHandle" ∧ (parseMethodDescriptor (ri_Yn 155).desc).map (fun d => d.parameters.length) = some 0) := ⟨ri_tg5 (List.mem_of_getElem? (i := 0) rfl) rfl, ri_ps3 _ (List.mem_of_getElem? (i := 10) rfl : (⟨"FactorNets", "learnChain", "()LFactorNets$Chain;"⟩, 19) ∈ lw_privs_3), ri_tg1 (List.mem_of_getElem? (i := 1) rfl) rfl, ⟨by decide +kernel, by decide +kernel, by decide +kernel⟩⟩
set_option maxRecDepth 20000 in
theorem gw327 : Cond.methodLink RX11 293 (ri_Yn 6) ∈ ri_G := ri_tg5 (List.mem_of_getElem? (i := 6) rfl) rfl
set_option maxRecDepth 20000 in
theorem gw328 : Cond.fieldLink RX11 296 (TX0 1).1 (TX0 1).2.1 (TX0 1).2.2.1 ∈ ri_G := ri_tg2 (List.mem_of_getElem? (i := 70) rfl) rfl
set_option maxRecDepth 20000 in
theorem gw329 : Cond.methodLink RX11 300 (ri_Yn 72) ∈ ri_G := ri_tg5 (List.mem_of_getElem? (i := 11) rfl) rfl
set_option maxRecDepth 20000 in
theorem gw330 : Cond.methodLink RX11 304 (ri_Yn 73) ∈ ri_G := ri_tg5 (List.mem_of_getElem? (i := 12) rfl) rfl
set_option maxRecDepth 20000 in
theorem gw331 : Cond.methodLink RX11 307 (ri_Yn 22) ∈ ri_G := ri_tg5 (List.mem_of_getElem? (i := 13) rfl) rfl
set_option maxRecDepth 20000 in
theorem gw332 : Cond.methodLink RX11 314 (ri_Yn 7) ∈ ri_G := ri_tg5 (List.mem_of_getElem? (i := 19) rfl) rfl
set_option maxRecDepth 20000 in
theorem mw7v : Cond.instanceMethod (ri_Yn 7) ∈ ri_G ∧ Cond.selects (ri_Yn 7).cls (ri_Yn 7) (ri_Yn 7) ∈ ri_G ∧ Cond.initialized (ri_Yn 7).cls ∈ ri_G ∧ ((ri_Yn 7).cls ≠ "java/lang/invoke/MethodHandle" ∧ (ri_Yn 7).cls ≠ "java/lang/invoke/VarHandle" ∧ (parseMethodDescriptor (ri_Yn 7).desc).map (fun d => d.parameters.length) = some 2) := ⟨ri_tg5 (List.mem_of_getElem? (i := 20) rfl) rfl, ri_tg5 (List.mem_of_getElem? (i := 21) rfl) rfl, ri_tg1 (List.mem_of_getElem? (i := 10) rfl) rfl, ⟨by decide +kernel, by decide +kernel, by decide +kernel⟩⟩
set_option maxRecDepth 20000 in
theorem gw333 : Cond.methodLink RX11 318 (ri_Yn 317) ∈ ri_G := ri_tg3 (List.mem_of_getElem? (i := 106) rfl) rfl
set_option maxRecDepth 20000 in
theorem gw334 : Cond.methodLink RX11 323 Lib.Math.max.name ∈ ri_G := ri_tg5 (List.mem_of_getElem? (i := 43) rfl) rfl
set_option maxRecDepth 20000 in
theorem gw335 : Cond.methodLink RX11 328 (ri_Yn 34) ∈ ri_G := ri_tg5 (List.mem_of_getElem? (i := 60) rfl) rfl
set_option maxRecDepth 20000 in
theorem mw34v : Cond.instanceMethod (ri_Yn 34) ∈ ri_G ∧ Cond.selects (ri_Yn 34).cls (ri_Yn 34) (ri_Yn 34) ∈ ri_G ∧ Cond.initialized (ri_Yn 34).cls ∈ ri_G ∧ ((ri_Yn 34).cls ≠ "java/lang/invoke/MethodHandle" ∧ (ri_Yn 34).cls ≠ "java/lang/invoke/VarHandle" ∧ (parseMethodDescriptor (ri_Yn 34).desc).map (fun d => d.parameters.length) = some 1) := ⟨ri_tg5 (List.mem_of_getElem? (i := 61) rfl) rfl, ri_tg5 (List.mem_of_getElem? (i := 62) rfl) rfl, ri_tg1 (List.mem_of_getElem? (i := 12) rfl) rfl, ⟨by decide +kernel, by decide +kernel, by decide +kernel⟩⟩
set_option maxRecDepth 20000 in
theorem gw336 : Cond.methodLink RX11 332 (ri_Yn 23) ∈ ri_G := ri_tg5 (List.mem_of_getElem? (i := 87) rfl) rfl
set_option maxRecDepth 20000 in
theorem gw337 : Cond.constantLong RX11 335 (Int64.ofNat 1000002) ∈ ri_G := ri_tg5 (List.mem_of_getElem? (i := 88) rfl) rfl
set_option maxRecDepth 20000 in
theorem gw338 : Cond.methodLink RX11 337 (ri_Yn 182) ∈ ri_G := ri_tg5 (List.mem_of_getElem? (i := 89) rfl) rfl
set_option maxRecDepth 20000 in
theorem mw182s : Cond.static (ri_Yn 182) ∈ ri_G ∧ Cond.initialized (ri_Yn 182).cls ∈ ri_G ∧ ((ri_Yn 182).cls ≠ "java/lang/invoke/MethodHandle" ∧ (ri_Yn 182).cls ≠ "java/lang/invoke/VarHandle" ∧ (parseMethodDescriptor (ri_Yn 182).desc).map (fun d => d.parameters.length) = some 2) := ⟨ri_tg5 (List.mem_of_getElem? (i := 90) rfl) rfl, ri_tg1 (List.mem_of_getElem? (i := 1) rfl) rfl, ⟨by decide +kernel, by decide +kernel, by decide +kernel⟩⟩
set_option maxRecDepth 20000 in
theorem gw339 : Cond.methodLink RX11 341 (ri_Yn 15) ∈ ri_G := ri_tg5 (List.mem_of_getElem? (i := 110) rfl) rfl
set_option maxRecDepth 20000 in
theorem mw15v : Cond.instanceMethod (ri_Yn 15) ∈ ri_G ∧ Cond.selects (ri_Yn 15).cls (ri_Yn 15) (ri_Yn 15) ∈ ri_G ∧ Cond.initialized (ri_Yn 15).cls ∈ ri_G ∧ ((ri_Yn 15).cls ≠ "java/lang/invoke/MethodHandle" ∧ (ri_Yn 15).cls ≠ "java/lang/invoke/VarHandle" ∧ (parseMethodDescriptor (ri_Yn 15).desc).map (fun d => d.parameters.length) = some 1) := ⟨ri_tg5 (List.mem_of_getElem? (i := 111) rfl) rfl, ri_tg5 (List.mem_of_getElem? (i := 112) rfl) rfl, ri_tg1 (List.mem_of_getElem? (i := 5) rfl) rfl, ⟨by decide +kernel, by decide +kernel, by decide +kernel⟩⟩
set_option maxRecDepth 20000 in
theorem gw340 : Cond.methodLink RX11 344 (ri_Yn 166) ∈ ri_G := ri_tg5 (List.mem_of_getElem? (i := 126) rfl) rfl
set_option maxRecDepth 20000 in
theorem mw166v : Cond.instanceMethod (ri_Yn 166) ∈ ri_G ∧ Cond.selects (ri_Yn 166).cls (ri_Yn 166) (ri_Yn 166) ∈ ri_G ∧ Cond.initialized (ri_Yn 166).cls ∈ ri_G ∧ ((ri_Yn 166).cls ≠ "java/lang/invoke/MethodHandle" ∧ (ri_Yn 166).cls ≠ "java/lang/invoke/VarHandle" ∧ (parseMethodDescriptor (ri_Yn 166).desc).map (fun d => d.parameters.length) = some 0) := ⟨ri_tg5 (List.mem_of_getElem? (i := 128) rfl) rfl, ri_ps4 _ (List.mem_of_getElem? (i := 0) rfl : (⟨"FactorNets", "isEven", "()Z"⟩, 19) ∈ lw_privs_4), ri_tg1 (List.mem_of_getElem? (i := 1) rfl) rfl, ⟨by decide +kernel, by decide +kernel, by decide +kernel⟩⟩
set_option maxRecDepth 20000 in
theorem gw341 : Cond.methodLink RX11 347 (ri_Yn 17) ∈ ri_G := ri_tg5 (List.mem_of_getElem? (i := 134) rfl) rfl
set_option maxRecDepth 20000 in
theorem gw342 : Cond.methodLink RX11 350 (ri_Yn 160) ∈ ri_G := ri_tg5 (List.mem_of_getElem? (i := 139) rfl) rfl
set_option maxRecDepth 20000 in
theorem mw160v : Cond.instanceMethod (ri_Yn 160) ∈ ri_G ∧ Cond.selects (ri_Yn 160).cls (ri_Yn 160) (ri_Yn 160) ∈ ri_G ∧ Cond.initialized (ri_Yn 160).cls ∈ ri_G ∧ ((ri_Yn 160).cls ≠ "java/lang/invoke/MethodHandle" ∧ (ri_Yn 160).cls ≠ "java/lang/invoke/VarHandle" ∧ (parseMethodDescriptor (ri_Yn 160).desc).map (fun d => d.parameters.length) = some 1) := ⟨ri_tg5 (List.mem_of_getElem? (i := 141) rfl) rfl, ri_ps4 _ (List.mem_of_getElem? (i := 1) rfl : (⟨"FactorNets", "isSide", "(I)Z"⟩, 19) ∈ lw_privs_4), ri_tg1 (List.mem_of_getElem? (i := 1) rfl) rfl, ⟨by decide +kernel, by decide +kernel, by decide +kernel⟩⟩
set_option maxRecDepth 20000 in
theorem gw343 : Cond.methodLink RX11 353 (ri_Yn 167) ∈ ri_G := ri_tg5 (List.mem_of_getElem? (i := 143) rfl) rfl
set_option maxRecDepth 20000 in
theorem mw167v : Cond.instanceMethod (ri_Yn 167) ∈ ri_G ∧ Cond.selects (ri_Yn 167).cls (ri_Yn 167) (ri_Yn 167) ∈ ri_G ∧ Cond.initialized (ri_Yn 167).cls ∈ ri_G ∧ ((ri_Yn 167).cls ≠ "java/lang/invoke/MethodHandle" ∧ (ri_Yn 167).cls ≠ "java/lang/invoke/VarHandle" ∧ (parseMethodDescriptor (ri_Yn 167).desc).map (fun d => d.parameters.length) = some 1) := ⟨ri_tg5 (List.mem_of_getElem? (i := 145) rfl) rfl, ri_ps4 _ (List.mem_of_getElem? (i := 2) rfl : (⟨"FactorNets", "breakInPieces", "(I)V"⟩, 19) ∈ lw_privs_4), ri_tg1 (List.mem_of_getElem? (i := 1) rfl) rfl, ⟨by decide +kernel, by decide +kernel, by decide +kernel⟩⟩
set_option maxRecDepth 20000 in
theorem gw344 : Cond.methodLink RX11 356 (ri_Yn 168) ∈ ri_G := ri_tg5 (List.mem_of_getElem? (i := 158) rfl) rfl
set_option maxRecDepth 20000 in
theorem mw168v : Cond.instanceMethod (ri_Yn 168) ∈ ri_G ∧ Cond.selects (ri_Yn 168).cls (ri_Yn 168) (ri_Yn 168) ∈ ri_G ∧ Cond.initialized (ri_Yn 168).cls ∈ ri_G ∧ ((ri_Yn 168).cls ≠ "java/lang/invoke/MethodHandle" ∧ (ri_Yn 168).cls ≠ "java/lang/invoke/VarHandle" ∧ (parseMethodDescriptor (ri_Yn 168).desc).map (fun d => d.parameters.length) = some 1) := ⟨ri_tg5 (List.mem_of_getElem? (i := 160) rfl) rfl, ri_ps4 _ (List.mem_of_getElem? (i := 3) rfl : (⟨"FactorNets", "linkPieces", "(I)V"⟩, 19) ∈ lw_privs_4), ri_tg1 (List.mem_of_getElem? (i := 1) rfl) rfl, ⟨by decide +kernel, by decide +kernel, by decide +kernel⟩⟩
set_option maxRecDepth 20000 in
theorem gw345 : Cond.methodLink RX11 359 (ri_Yn 28) ∈ ri_G := ri_tg5 (List.mem_of_getElem? (i := 163) rfl) rfl
set_option maxRecDepth 20000 in
theorem mw28v : Cond.instanceMethod (ri_Yn 28) ∈ ri_G ∧ Cond.selects (ri_Yn 28).cls (ri_Yn 28) (ri_Yn 28) ∈ ri_G ∧ Cond.initialized (ri_Yn 28).cls ∈ ri_G ∧ ((ri_Yn 28).cls ≠ "java/lang/invoke/MethodHandle" ∧ (ri_Yn 28).cls ≠ "java/lang/invoke/VarHandle" ∧ (parseMethodDescriptor (ri_Yn 28).desc).map (fun d => d.parameters.length) = some 2) := ⟨ri_tg5 (List.mem_of_getElem? (i := 164) rfl) rfl, ri_tg5 (List.mem_of_getElem? (i := 165) rfl) rfl, ri_tg1 (List.mem_of_getElem? (i := 3) rfl) rfl, ⟨by decide +kernel, by decide +kernel, by decide +kernel⟩⟩
set_option maxRecDepth 20000 in
theorem gw346 : Cond.methodLink RX11 362 (ri_Yn 169) ∈ ri_G := ri_tg5 (List.mem_of_getElem? (i := 179) rfl) rfl
set_option maxRecDepth 20000 in
theorem mw169v : Cond.instanceMethod (ri_Yn 169) ∈ ri_G ∧ Cond.selects (ri_Yn 169).cls (ri_Yn 169) (ri_Yn 169) ∈ ri_G ∧ Cond.initialized (ri_Yn 169).cls ∈ ri_G ∧ ((ri_Yn 169).cls ≠ "java/lang/invoke/MethodHandle" ∧ (ri_Yn 169).cls ≠ "java/lang/invoke/VarHandle" ∧ (parseMethodDescriptor (ri_Yn 169).desc).map (fun d => d.parameters.length) = some 2) := ⟨ri_tg5 (List.mem_of_getElem? (i := 181) rfl) rfl, ri_ps4 _ (List.mem_of_getElem? (i := 5) rfl : (⟨"FactorNets", "intervals", "(II)I"⟩, 19) ∈ lw_privs_4), ri_tg1 (List.mem_of_getElem? (i := 1) rfl) rfl, ⟨by decide +kernel, by decide +kernel, by decide +kernel⟩⟩
set_option maxRecDepth 20000 in
theorem gw347 : Cond.methodLink RX11 365 (ri_Yn 170) ∈ ri_G := ri_tg5 (List.mem_of_getElem? (i := 187) rfl) rfl
set_option maxRecDepth 20000 in
theorem mw170v : Cond.instanceMethod (ri_Yn 170) ∈ ri_G ∧ Cond.selects (ri_Yn 170).cls (ri_Yn 170) (ri_Yn 170) ∈ ri_G ∧ Cond.initialized (ri_Yn 170).cls ∈ ri_G ∧ ((ri_Yn 170).cls ≠ "java/lang/invoke/MethodHandle" ∧ (ri_Yn 170).cls ≠ "java/lang/invoke/VarHandle" ∧ (parseMethodDescriptor (ri_Yn 170).desc).map (fun d => d.parameters.length) = some 3) := ⟨ri_tg5 (List.mem_of_getElem? (i := 189) rfl) rfl, ri_ps4 _ (List.mem_of_getElem? (i := 6) rfl : (⟨"FactorNets", "middle", "(III)I"⟩, 19) ∈ lw_privs_4), ri_tg1 (List.mem_of_getElem? (i := 1) rfl) rfl, ⟨by decide +kernel, by decide +kernel, by decide +kernel⟩⟩
set_option maxRecDepth 20000 in
theorem gw348 : Cond.methodLink RX11 368 (ri_Yn 171) ∈ ri_G := ri_tg5 (List.mem_of_getElem? (i := 199) rfl) rfl
set_option maxRecDepth 20000 in
theorem mw171v : Cond.instanceMethod (ri_Yn 171) ∈ ri_G ∧ Cond.selects (ri_Yn 171).cls (ri_Yn 171) (ri_Yn 171) ∈ ri_G ∧ Cond.initialized (ri_Yn 171).cls ∈ ri_G ∧ ((ri_Yn 171).cls ≠ "java/lang/invoke/MethodHandle" ∧ (ri_Yn 171).cls ≠ "java/lang/invoke/VarHandle" ∧ (parseMethodDescriptor (ri_Yn 171).desc).map (fun d => d.parameters.length) = some 1) := ⟨ri_tg5 (List.mem_of_getElem? (i := 201) rfl) rfl, ri_ps4 _ (List.mem_of_getElem? (i := 7) rfl : (⟨"FactorNets", "partsWithout", "(I)I"⟩, 19) ∈ lw_privs_4), ri_tg1 (List.mem_of_getElem? (i := 1) rfl) rfl, ⟨by decide +kernel, by decide +kernel, by decide +kernel⟩⟩
set_option maxRecDepth 20000 in
theorem gw349 : Cond.methodLink RX11 371 (ri_Yn 24) ∈ ri_G := ri_tg5 (List.mem_of_getElem? (i := 162) rfl) rfl
set_option maxRecDepth 20000 in
theorem gw350 : Cond.methodLink RX11 374 (ri_Yn 91) ∈ ri_G := ri_tg5 (List.mem_of_getElem? (i := 207) rfl) rfl
set_option maxRecDepth 20000 in
theorem mw91v : Cond.instanceMethod (ri_Yn 91) ∈ ri_G ∧ Cond.selects (ri_Yn 91).cls (ri_Yn 91) (ri_Yn 91) ∈ ri_G ∧ Cond.initialized (ri_Yn 91).cls ∈ ri_G ∧ ((ri_Yn 91).cls ≠ "java/lang/invoke/MethodHandle" ∧ (ri_Yn 91).cls ≠ "java/lang/invoke/VarHandle" ∧ (parseMethodDescriptor (ri_Yn 91).desc).map (fun d => d.parameters.length) = some 0) := ⟨ri_tg5 (List.mem_of_getElem? (i := 208) rfl) rfl, ri_tg5 (List.mem_of_getElem? (i := 209) rfl) rfl, ri_tg1 (List.mem_of_getElem? (i := 4) rfl) rfl, ⟨by decide +kernel, by decide +kernel, by decide +kernel⟩⟩
set_option maxRecDepth 20000 in
theorem gw351 : Cond.methodLink RX11 377 (ri_Yn 172) ∈ ri_G := ri_tg5 (List.mem_of_getElem? (i := 227) rfl) rfl
set_option maxRecDepth 20000 in
theorem mw172v : Cond.instanceMethod (ri_Yn 172) ∈ ri_G ∧ Cond.selects (ri_Yn 172).cls (ri_Yn 172) (ri_Yn 172) ∈ ri_G ∧ Cond.initialized (ri_Yn 172).cls ∈ ri_G ∧ ((ri_Yn 172).cls ≠ "java/lang/invoke/MethodHandle" ∧ (ri_Yn 172).cls ≠ "java/lang/invoke/VarHandle" ∧ (parseMethodDescriptor (ri_Yn 172).desc).map (fun d => d.parameters.length) = some 0) := ⟨ri_tg5 (List.mem_of_getElem? (i := 229) rfl) rfl, ri_ps4 _ (List.mem_of_getElem? (i := 8) rfl : (⟨"FactorNets", "findLoosest", "()I"⟩, 19) ∈ lw_privs_4), ri_tg1 (List.mem_of_getElem? (i := 1) rfl) rfl, ⟨by decide +kernel, by decide +kernel, by decide +kernel⟩⟩
set_option maxRecDepth 20000 in
theorem gw352 : Cond.methodLink RX11 380 (ri_Yn 49) ∈ ri_G := ri_tg5 (List.mem_of_getElem? (i := 236) rfl) rfl
set_option maxRecDepth 20000 in
theorem mw49v : Cond.instanceMethod (ri_Yn 49) ∈ ri_G ∧ Cond.selects (ri_Yn 49).cls (ri_Yn 49) (ri_Yn 49) ∈ ri_G ∧ Cond.initialized (ri_Yn 49).cls ∈ ri_G ∧ ((ri_Yn 49).cls ≠ "java/lang/invoke/MethodHandle" ∧ (ri_Yn 49).cls ≠ "java/lang/invoke/VarHandle" ∧ (parseMethodDescriptor (ri_Yn 49).desc).map (fun d => d.parameters.length) = some 1) := ⟨ri_tg5 (List.mem_of_getElem? (i := 237) rfl) rfl, ri_tg5 (List.mem_of_getElem? (i := 238) rfl) rfl, ri_tg1 (List.mem_of_getElem? (i := 9) rfl) rfl, ⟨by decide +kernel, by decide +kernel, by decide +kernel⟩⟩
set_option maxRecDepth 20000 in
theorem gw353 : Cond.methodLink RX11 383 (ri_Yn 25) ∈ ri_G := ri_tg5 (List.mem_of_getElem? (i := 203) rfl) rfl
set_option maxRecDepth 20000 in
theorem mw25v : Cond.instanceMethod (ri_Yn 25) ∈ ri_G ∧ Cond.selects (ri_Yn 25).cls (ri_Yn 25) (ri_Yn 25) ∈ ri_G ∧ Cond.initialized (ri_Yn 25).cls ∈ ri_G ∧ ((ri_Yn 25).cls ≠ "java/lang/invoke/MethodHandle" ∧ (ri_Yn 25).cls ≠ "java/lang/invoke/VarHandle" ∧ (parseMethodDescriptor (ri_Yn 25).desc).map (fun d => d.parameters.length) = some 2) := ⟨ri_tg5 (List.mem_of_getElem? (i := 204) rfl) rfl, ri_tg5 (List.mem_of_getElem? (i := 205) rfl) rfl, ri_tg1 (List.mem_of_getElem? (i := 3) rfl) rfl, ⟨by decide +kernel, by decide +kernel, by decide +kernel⟩⟩
set_option maxRecDepth 20000 in
theorem gw354 : Cond.methodLink RX11 386 (ri_Yn 180) ∈ ri_G := ri_tg6 (List.mem_of_getElem? (i := 9) rfl) rfl
set_option maxRecDepth 20000 in
theorem gw355 : Cond.methodLink RX11 389 (ri_Yn 30) ∈ ri_G := ri_tg6 (List.mem_of_getElem? (i := 10) rfl) rfl
set_option maxRecDepth 20000 in
theorem gw356 : Cond.methodLink RX11 392 (ri_Yn 161) ∈ ri_G := ri_tg6 (List.mem_of_getElem? (i := 19) rfl) rfl
set_option maxRecDepth 20000 in
theorem mw161v : Cond.instanceMethod (ri_Yn 161) ∈ ri_G ∧ Cond.selects (ri_Yn 161).cls (ri_Yn 161) (ri_Yn 161) ∈ ri_G ∧ Cond.initialized (ri_Yn 161).cls ∈ ri_G ∧ ((ri_Yn 161).cls ≠ "java/lang/invoke/MethodHandle" ∧ (ri_Yn 161).cls ≠ "java/lang/invoke/VarHandle" ∧ (parseMethodDescriptor (ri_Yn 161).desc).map (fun d => d.parameters.length) = some 1) := ⟨ri_tg6 (List.mem_of_getElem? (i := 21) rfl) rfl, ri_ps4 _ (List.mem_of_getElem? (i := 9) rfl : (⟨"FactorNets", "imageOf", "(I)LFactorNets$Past;"⟩, 19) ∈ lw_privs_4), ri_tg1 (List.mem_of_getElem? (i := 1) rfl) rfl, ⟨by decide +kernel, by decide +kernel, by decide +kernel⟩⟩
set_option maxRecDepth 20000 in
theorem gw357 : Cond.methodLink RX11 396 (ri_Yn 48) ∈ ri_G := ri_tg6 (List.mem_of_getElem? (i := 23) rfl) rfl
set_option maxRecDepth 20000 in
theorem mw48v : Cond.instanceMethod (ri_Yn 48) ∈ ri_G ∧ Cond.selects (ri_Yn 48).cls (ri_Yn 48) (ri_Yn 48) ∈ ri_G ∧ Cond.initialized (ri_Yn 48).cls ∈ ri_G ∧ ((ri_Yn 48).cls ≠ "java/lang/invoke/MethodHandle" ∧ (ri_Yn 48).cls ≠ "java/lang/invoke/VarHandle" ∧ (parseMethodDescriptor (ri_Yn 48).desc).map (fun d => d.parameters.length) = some 1) := ⟨ri_tg6 (List.mem_of_getElem? (i := 24) rfl) rfl, ri_tg6 (List.mem_of_getElem? (i := 25) rfl) rfl, ri_tg1 (List.mem_of_getElem? (i := 9) rfl) rfl, ⟨by decide +kernel, by decide +kernel, by decide +kernel⟩⟩
set_option maxRecDepth 20000 in
theorem gw358 : Cond.methodLink RX11 399 (ri_Yn 50) ∈ ri_G := ri_tg6 (List.mem_of_getElem? (i := 31) rfl) rfl
set_option maxRecDepth 20000 in
theorem mw50v : Cond.instanceMethod (ri_Yn 50) ∈ ri_G ∧ Cond.selects (ri_Yn 50).cls (ri_Yn 50) (ri_Yn 50) ∈ ri_G ∧ Cond.initialized (ri_Yn 50).cls ∈ ri_G ∧ ((ri_Yn 50).cls ≠ "java/lang/invoke/MethodHandle" ∧ (ri_Yn 50).cls ≠ "java/lang/invoke/VarHandle" ∧ (parseMethodDescriptor (ri_Yn 50).desc).map (fun d => d.parameters.length) = some 1) := ⟨ri_tg6 (List.mem_of_getElem? (i := 32) rfl) rfl, ri_tg6 (List.mem_of_getElem? (i := 33) rfl) rfl, ri_tg1 (List.mem_of_getElem? (i := 9) rfl) rfl, ⟨by decide +kernel, by decide +kernel, by decide +kernel⟩⟩
set_option maxRecDepth 20000 in
theorem gw359 : Cond.fieldLink RX11 402 (TX11 16).1 (TX11 16).2.1 (TX11 16).2.2.1 ∈ ri_G := ri_tg2 (List.mem_of_getElem? (i := 133) rfl) rfl
set_option maxRecDepth 20000 in
theorem gw360 : Cond.fieldLink RX11 406 (TX11 17).1 (TX11 17).2.1 (TX11 17).2.2.1 ∈ ri_G := ri_tg2 (List.mem_of_getElem? (i := 134) rfl) rfl
set_option maxRecDepth 20000 in
theorem gw361 : Cond.methodLink RX11 409 (ri_Yn 39) ∈ ri_G := ri_tg4 (List.mem_of_getElem? (i := 53) rfl) rfl
set_option maxRecDepth 20000 in
theorem mw39v : Cond.instanceMethod (ri_Yn 39) ∈ ri_G ∧ Cond.selects (ri_Yn 39).cls (ri_Yn 39) (ri_Yn 39) ∈ ri_G ∧ Cond.initialized (ri_Yn 39).cls ∈ ri_G ∧ ((ri_Yn 39).cls ≠ "java/lang/invoke/MethodHandle" ∧ (ri_Yn 39).cls ≠ "java/lang/invoke/VarHandle" ∧ (parseMethodDescriptor (ri_Yn 39).desc).map (fun d => d.parameters.length) = some 2) := ⟨ri_tg4 (List.mem_of_getElem? (i := 54) rfl) rfl, ri_tg4 (List.mem_of_getElem? (i := 55) rfl) rfl, ri_tg1 (List.mem_of_getElem? (i := 8) rfl) rfl, ⟨by decide +kernel, by decide +kernel, by decide +kernel⟩⟩
set_option maxRecDepth 20000 in
theorem gw362 : Cond.methodLink RX11 412 (ri_Yn 21) ∈ ri_G := ri_tg3 (List.mem_of_getElem? (i := 228) rfl) rfl
set_option maxRecDepth 20000 in
theorem mw21v : Cond.instanceMethod (ri_Yn 21) ∈ ri_G ∧ Cond.selects (ri_Yn 21).cls (ri_Yn 21) (ri_Yn 21) ∈ ri_G ∧ Cond.initialized (ri_Yn 21).cls ∈ ri_G ∧ ((ri_Yn 21).cls ≠ "java/lang/invoke/MethodHandle" ∧ (ri_Yn 21).cls ≠ "java/lang/invoke/VarHandle" ∧ (parseMethodDescriptor (ri_Yn 21).desc).map (fun d => d.parameters.length) = some 1) := ⟨ri_tg3 (List.mem_of_getElem? (i := 229) rfl) rfl, ri_tg3 (List.mem_of_getElem? (i := 230) rfl) rfl, ri_tg1 (List.mem_of_getElem? (i := 3) rfl) rfl, ⟨by decide +kernel, by decide +kernel, by decide +kernel⟩⟩
set_option maxRecDepth 20000 in
theorem gw363 : Cond.methodLink RX11 415 (ri_Yn 163) ∈ ri_G := ri_tg4 (List.mem_of_getElem? (i := 17) rfl) rfl
set_option maxRecDepth 20000 in
theorem mw163v : Cond.instanceMethod (ri_Yn 163) ∈ ri_G ∧ Cond.selects (ri_Yn 163).cls (ri_Yn 163) (ri_Yn 163) ∈ ri_G ∧ Cond.initialized (ri_Yn 163).cls ∈ ri_G ∧ ((ri_Yn 163).cls ≠ "java/lang/invoke/MethodHandle" ∧ (ri_Yn 163).cls ≠ "java/lang/invoke/VarHandle" ∧ (parseMethodDescriptor (ri_Yn 163).desc).map (fun d => d.parameters.length) = some 1) := ⟨ri_tg4 (List.mem_of_getElem? (i := 19) rfl) rfl, ri_ps2 _ (List.mem_of_getElem? (i := 7) rfl : (⟨"FactorNets", "tallyOf", "(I)J"⟩, 19) ∈ lw_privs_2), ri_tg1 (List.mem_of_getElem? (i := 1) rfl) rfl, ⟨by decide +kernel, by decide +kernel, by decide +kernel⟩⟩
set_option maxRecDepth 20000 in
theorem gw364 : Cond.methodLink RX11 419 arraycopyName ∈ ri_G := ri_tg5 (List.mem_of_getElem? (i := 147) rfl) rfl
set_option maxRecDepth 20000 in
theorem gw365 : Cond.methodLink RX11 425 (ri_Yn 179) ∈ ri_G := ri_tg5 (List.mem_of_getElem? (i := 148) rfl) rfl
set_option maxRecDepth 20000 in
theorem gw366 : Cond.methodLink RX11 429 (ri_Yn 19) ∈ ri_G := ri_tg5 (List.mem_of_getElem? (i := 149) rfl) rfl
set_option maxRecDepth 20000 in
theorem gw367 : Cond.fieldLink RX11 432 (TX10 3).1 (TX10 3).2.1 (TX10 3).2.2.1 ∈ ri_G := ri_tg1 (List.mem_of_getElem? (i := 203) rfl) rfl
set_option maxRecDepth 20000 in
theorem gw368 : Cond.methodLink RX11 436 (ri_Yn 181) ∈ ri_G := ri_tg5 (List.mem_of_getElem? (i := 231) rfl) rfl
set_option maxRecDepth 20000 in
theorem gw369 : Cond.methodLink RX11 447 (ri_Yn 175) ∈ ri_G := ri_tg4 (List.mem_of_getElem? (i := 142) rfl) rfl
set_option maxRecDepth 20000 in
theorem mw175v : Cond.instanceMethod (ri_Yn 175) ∈ ri_G ∧ Cond.selects (ri_Yn 175).cls (ri_Yn 175) (ri_Yn 175) ∈ ri_G ∧ Cond.initialized (ri_Yn 175).cls ∈ ri_G ∧ ((ri_Yn 175).cls ≠ "java/lang/invoke/MethodHandle" ∧ (ri_Yn 175).cls ≠ "java/lang/invoke/VarHandle" ∧ (parseMethodDescriptor (ri_Yn 175).desc).map (fun d => d.parameters.length) = some 1) := ⟨ri_tg4 (List.mem_of_getElem? (i := 144) rfl) rfl, ri_ps3 _ (List.mem_of_getElem? (i := 0) rfl : (⟨"FactorNets", "writeNumber", "(I)V"⟩, 19) ∈ lw_privs_3), ri_tg1 (List.mem_of_getElem? (i := 1) rfl) rfl, ⟨by decide +kernel, by decide +kernel, by decide +kernel⟩⟩
set_option maxRecDepth 20000 in
theorem gw370 : Cond.methodLink RX11 450 (ri_Yn 41) ∈ ri_G := ri_tg4 (List.mem_of_getElem? (i := 146) rfl) rfl
set_option maxRecDepth 20000 in
theorem gw371 : Cond.methodLink RX11 453 jxLen ∈ ri_G := ri_tg4 (List.mem_of_getElem? (i := 127) rfl) rfl
set_option maxRecDepth 20000 in
theorem gw372 : Cond.methodLink RX11 457 jxChr ∈ ri_G := ri_tg4 (List.mem_of_getElem? (i := 128) rfl) rfl
set_option maxRecDepth 20000 in
theorem gw373 : Cond.methodLink RX11 461 (ri_Yn 176) ∈ ri_G := ri_tg4 (List.mem_of_getElem? (i := 129) rfl) rfl
set_option maxRecDepth 20000 in
theorem mw176v : Cond.instanceMethod (ri_Yn 176) ∈ ri_G ∧ Cond.selects (ri_Yn 176).cls (ri_Yn 176) (ri_Yn 176) ∈ ri_G ∧ Cond.initialized (ri_Yn 176).cls ∈ ri_G ∧ ((ri_Yn 176).cls ≠ "java/lang/invoke/MethodHandle" ∧ (ri_Yn 176).cls ≠ "java/lang/invoke/VarHandle" ∧ (parseMethodDescriptor (ri_Yn 176).desc).map (fun d => d.parameters.length) = some 1) := ⟨ri_tg4 (List.mem_of_getElem? (i := 131) rfl) rfl, ri_ps2 _ (List.mem_of_getElem? (i := 14) rfl : (⟨"FactorNets", "writeSign", "(C)V"⟩, 19) ∈ lw_privs_2), ri_tg1 (List.mem_of_getElem? (i := 1) rfl) rfl, ⟨by decide +kernel, by decide +kernel, by decide +kernel⟩⟩
set_option maxRecDepth 20000 in
theorem gw374 : Cond.methodLink RX11 465 (ri_Yn 183) ∈ ri_G := ri_tg5 (List.mem_of_getElem? (i := 92) rfl) rfl
set_option maxRecDepth 20000 in
theorem mw183s : Cond.static (ri_Yn 183) ∈ ri_G ∧ Cond.initialized (ri_Yn 183).cls ∈ ri_G ∧ ((ri_Yn 183).cls ≠ "java/lang/invoke/MethodHandle" ∧ (ri_Yn 183).cls ≠ "java/lang/invoke/VarHandle" ∧ (parseMethodDescriptor (ri_Yn 183).desc).map (fun d => d.parameters.length) = some 3) := ⟨ri_tg5 (List.mem_of_getElem? (i := 93) rfl) rfl, ri_tg1 (List.mem_of_getElem? (i := 1) rfl) rfl, ⟨by decide +kernel, by decide +kernel, by decide +kernel⟩⟩
set_option maxRecDepth 20000 in
theorem gw375 : Cond.methodLink RX11 469 (ri_Yn 184) ∈ ri_G := ri_tg5 (List.mem_of_getElem? (i := 95) rfl) rfl
set_option maxRecDepth 20000 in
theorem mw184s : Cond.static (ri_Yn 184) ∈ ri_G ∧ Cond.initialized (ri_Yn 184).cls ∈ ri_G ∧ ((ri_Yn 184).cls ≠ "java/lang/invoke/MethodHandle" ∧ (ri_Yn 184).cls ≠ "java/lang/invoke/VarHandle" ∧ (parseMethodDescriptor (ri_Yn 184).desc).map (fun d => d.parameters.length) = some 4) := ⟨ri_tg5 (List.mem_of_getElem? (i := 96) rfl) rfl, ri_tg1 (List.mem_of_getElem? (i := 1) rfl) rfl, ⟨by decide +kernel, by decide +kernel, by decide +kernel⟩⟩
set_option maxRecDepth 20000 in
theorem gw376 : Cond.constantLong RX11 473 (Int64.ofNat 1000003) ∈ ri_G := ri_tg5 (List.mem_of_getElem? (i := 98) rfl) rfl
set_option maxRecDepth 20000 in
theorem gw377 : Cond.methodLink RX11 475 (ri_Yn 185) ∈ ri_G := ri_tg5 (List.mem_of_getElem? (i := 99) rfl) rfl
set_option maxRecDepth 20000 in
theorem mw185s : Cond.static (ri_Yn 185) ∈ ri_G ∧ Cond.initialized (ri_Yn 185).cls ∈ ri_G ∧ ((ri_Yn 185).cls ≠ "java/lang/invoke/MethodHandle" ∧ (ri_Yn 185).cls ≠ "java/lang/invoke/VarHandle" ∧ (parseMethodDescriptor (ri_Yn 185).desc).map (fun d => d.parameters.length) = some 3) := ⟨ri_tg5 (List.mem_of_getElem? (i := 100) rfl) rfl, ri_tg1 (List.mem_of_getElem? (i := 1) rfl) rfl, ⟨by decide +kernel, by decide +kernel, by decide +kernel⟩⟩
set_option maxRecDepth 20000 in
theorem gw378 : Cond.constantLong RX11 479 (Int64.ofNat 1000001) ∈ ri_G := ri_tg5 (List.mem_of_getElem? (i := 102) rfl) rfl
set_option maxRecDepth 20000 in
theorem gw379 : Cond.methodLink RX11 481 (ri_Yn 186) ∈ ri_G := ri_tg5 (List.mem_of_getElem? (i := 103) rfl) rfl
set_option maxRecDepth 20000 in
theorem mw186s : Cond.static (ri_Yn 186) ∈ ri_G ∧ Cond.initialized (ri_Yn 186).cls ∈ ri_G ∧ ((ri_Yn 186).cls ≠ "java/lang/invoke/MethodHandle" ∧ (ri_Yn 186).cls ≠ "java/lang/invoke/VarHandle" ∧ (parseMethodDescriptor (ri_Yn 186).desc).map (fun d => d.parameters.length) = some 2) := ⟨ri_tg5 (List.mem_of_getElem? (i := 104) rfl) rfl, ri_tg1 (List.mem_of_getElem? (i := 1) rfl) rfl, ⟨by decide +kernel, by decide +kernel, by decide +kernel⟩⟩
set_option maxRecDepth 20000 in
theorem gw380 : Cond.methodLink RX12 1 objectInit ∈ ri_G := ri_tg6 (List.mem_of_getElem? (i := 48) rfl) rfl
set_option maxRecDepth 20000 in
theorem gw381 : Cond.fieldLink RX12 7 (TX12 0).1 (TX12 0).2.1 (TX12 0).2.2.1 ∈ ri_G := ri_tg6 (List.mem_of_getElem? (i := 49) rfl) rfl
set_option maxRecDepth 20000 in
theorem gw382 : Cond.fieldLink RX12 13 (TX12 1).1 (TX12 1).2.1 (TX12 1).2.2.1 ∈ ri_G := ri_tg6 (List.mem_of_getElem? (i := 50) rfl) rfl
set_option maxRecDepth 20000 in
theorem gw383 : Cond.fieldLink RX12 16 (TX12 3).1 (TX12 3).2.1 (TX12 3).2.2.1 ∈ ri_G := ri_tg6 (List.mem_of_getElem? (i := 52) rfl) rfl
set_option maxRecDepth 20000 in
theorem gw384 : Cond.fieldLink RX12 19 (TX12 4).1 (TX12 4).2.1 (TX12 4).2.2.1 ∈ ri_G := ri_tg6 (List.mem_of_getElem? (i := 53) rfl) rfl
set_option maxRecDepth 20000 in
theorem gw385 : Cond.fieldLink RX12 22 (TX12 5).1 (TX12 5).2.1 (TX12 5).2.2.1 ∈ ri_G := ri_tg6 (List.mem_of_getElem? (i := 54) rfl) rfl
set_option maxRecDepth 20000 in
theorem gw386 : Cond.fieldLink RX12 25 (TX12 6).1 (TX12 6).2.1 (TX12 6).2.2.1 ∈ ri_G := ri_tg6 (List.mem_of_getElem? (i := 55) rfl) rfl
set_option maxRecDepth 20000 in
theorem gw387 : Cond.arrayClass .boolean ∈ ri_G := ri_tg6 (List.mem_of_getElem? (i := 188) rfl) rfl
set_option maxRecDepth 20000 in
theorem gw388 : Cond.fieldLink RX12 28 (TX12 7).1 (TX12 7).2.1 (TX12 7).2.2.1 ∈ ri_G := ri_tg6 (List.mem_of_getElem? (i := 56) rfl) rfl
set_option maxRecDepth 20000 in
theorem gw389 : Cond.fieldLink RX12 32 (TX12 8).1 (TX12 8).2.1 (TX12 8).2.2.1 ∈ ri_G := ri_tg6 (List.mem_of_getElem? (i := 57) rfl) rfl
set_option maxRecDepth 20000 in
theorem gw390 : Cond.fieldLink RX12 35 (TX12 11).1 (TX12 11).2.1 (TX12 11).2.2.1 ∈ ri_G := ri_tg6 (List.mem_of_getElem? (i := 60) rfl) rfl
set_option maxRecDepth 20000 in
theorem gw391 : Cond.fieldLink RX12 39 (TX12 18).1 (TX12 18).2.1 (TX12 18).2.2.1 ∈ ri_G := ri_tg6 (List.mem_of_getElem? (i := 67) rfl) rfl
set_option maxRecDepth 20000 in
theorem gw392 : Cond.fieldLink RX12 42 (TX12 19).1 (TX12 19).2.1 (TX12 19).2.2.1 ∈ ri_G := ri_tg6 (List.mem_of_getElem? (i := 68) rfl) rfl
set_option maxRecDepth 20000 in
theorem gw393 : Cond.fieldLink RX12 45 (TX12 20).1 (TX12 20).2.1 (TX12 20).2.2.1 ∈ ri_G := ri_tg6 (List.mem_of_getElem? (i := 69) rfl) rfl
set_option maxRecDepth 20000 in
theorem gw394 : Cond.fieldLink RX12 48 (TX12 22).1 (TX12 22).2.1 (TX12 22).2.2.1 ∈ ri_G := ri_tg6 (List.mem_of_getElem? (i := 71) rfl) rfl
set_option maxRecDepth 20000 in
theorem gw395 : Cond.fieldLink RX12 51 (TX12 23).1 (TX12 23).2.1 (TX12 23).2.2.1 ∈ ri_G := ri_tg6 (List.mem_of_getElem? (i := 72) rfl) rfl
set_option maxRecDepth 20000 in
theorem gw396 : Cond.fieldLink RX12 54 (TX12 26).1 (TX12 26).2.1 (TX12 26).2.2.1 ∈ ri_G := ri_tg6 (List.mem_of_getElem? (i := 75) rfl) rfl
set_option maxRecDepth 20000 in
theorem gw397 : Cond.fieldLink RX12 57 (TX12 27).1 (TX12 27).2.1 (TX12 27).2.2.1 ∈ ri_G := ri_tg6 (List.mem_of_getElem? (i := 76) rfl) rfl
set_option maxRecDepth 20000 in
theorem gw398 : Cond.fieldLink RX12 61 (TX12 28).1 (TX12 28).2.1 (TX12 28).2.2.1 ∈ ri_G := ri_tg6 (List.mem_of_getElem? (i := 77) rfl) rfl
set_option maxRecDepth 20000 in
theorem gw399 : Cond.fieldLink RX12 64 (TX12 31).1 (TX12 31).2.1 (TX12 31).2.2.1 ∈ ri_G := ri_tg6 (List.mem_of_getElem? (i := 80) rfl) rfl
set_option maxRecDepth 20000 in
theorem gw400 : Cond.fieldLink RX12 67 (TX12 32).1 (TX12 32).2.1 (TX12 32).2.2.1 ∈ ri_G := ri_tg6 (List.mem_of_getElem? (i := 81) rfl) rfl
set_option maxRecDepth 20000 in
theorem gw401 : Cond.fieldLink RX12 70 (TX12 33).1 (TX12 33).2.1 (TX12 33).2.2.1 ∈ ri_G := ri_tg6 (List.mem_of_getElem? (i := 82) rfl) rfl
set_option maxRecDepth 20000 in
theorem gw402 : Cond.fieldLink RX12 73 (TX12 34).1 (TX12 34).2.1 (TX12 34).2.2.1 ∈ ri_G := ri_tg6 (List.mem_of_getElem? (i := 83) rfl) rfl
set_option maxRecDepth 20000 in
theorem gw403 : Cond.fieldLink RX12 76 (TX12 35).1 (TX12 35).2.1 (TX12 35).2.2.1 ∈ ri_G := ri_tg6 (List.mem_of_getElem? (i := 84) rfl) rfl
set_option maxRecDepth 20000 in
theorem gw404 : Cond.fieldLink RX12 79 (TX12 36).1 (TX12 36).2.1 (TX12 36).2.2.1 ∈ ri_G := ri_tg6 (List.mem_of_getElem? (i := 85) rfl) rfl
set_option maxRecDepth 20000 in
theorem gw405 : Cond.fieldLink RX12 82 (TX12 37).1 (TX12 37).2.1 (TX12 37).2.2.1 ∈ ri_G := ri_tg6 (List.mem_of_getElem? (i := 86) rfl) rfl
set_option maxRecDepth 20000 in
theorem gw406 : Cond.fieldLink RX12 85 (TX12 38).1 (TX12 38).2.1 (TX12 38).2.2.1 ∈ ri_G := ri_tg6 (List.mem_of_getElem? (i := 87) rfl) rfl
set_option maxRecDepth 20000 in
theorem gw407 : Cond.fieldLink RX12 88 (TX12 39).1 (TX12 39).2.1 (TX12 39).2.2.1 ∈ ri_G := ri_tg6 (List.mem_of_getElem? (i := 88) rfl) rfl
set_option maxRecDepth 20000 in
theorem gw408 : Cond.fieldLink RX12 91 (TX12 40).1 (TX12 40).2.1 (TX12 40).2.2.1 ∈ ri_G := ri_tg6 (List.mem_of_getElem? (i := 89) rfl) rfl
set_option maxRecDepth 20000 in
theorem gw409 : Cond.fieldLink RX12 94 (TX12 41).1 (TX12 41).2.1 (TX12 41).2.2.1 ∈ ri_G := ri_tg6 (List.mem_of_getElem? (i := 90) rfl) rfl
set_option maxRecDepth 20000 in
theorem gw410 : Cond.fieldLink RX12 97 (TX12 42).1 (TX12 42).2.1 (TX12 42).2.2.1 ∈ ri_G := ri_tg6 (List.mem_of_getElem? (i := 91) rfl) rfl
set_option maxRecDepth 20000 in
theorem gw411 : Cond.fieldLink RX12 100 (TX12 44).1 (TX12 44).2.1 (TX12 44).2.2.1 ∈ ri_G := ri_tg6 (List.mem_of_getElem? (i := 93) rfl) rfl
set_option maxRecDepth 20000 in
theorem gw412 : Cond.fieldLink RX12 103 (TX12 45).1 (TX12 45).2.1 (TX12 45).2.2.1 ∈ ri_G := ri_tg6 (List.mem_of_getElem? (i := 94) rfl) rfl
set_option maxRecDepth 20000 in
theorem gw413 : Cond.fieldLink RX12 106 (TX12 9).1 (TX12 9).2.1 (TX12 9).2.2.1 ∈ ri_G := ri_tg6 (List.mem_of_getElem? (i := 58) rfl) rfl
set_option maxRecDepth 20000 in
theorem gw414 : Cond.methodLink RX12 109 (ri_Yn 187) ∈ ri_G := ri_tg6 (List.mem_of_getElem? (i := 197) rfl) rfl
set_option maxRecDepth 20000 in
theorem mw187s : Cond.static (ri_Yn 187) ∈ ri_G ∧ Cond.initialized (ri_Yn 187).cls ∈ ri_G ∧ ((ri_Yn 187).cls ≠ "java/lang/invoke/MethodHandle" ∧ (ri_Yn 187).cls ≠ "java/lang/invoke/VarHandle" ∧ (parseMethodDescriptor (ri_Yn 187).desc).map (fun d => d.parameters.length) = some 3) := ⟨ri_tg6 (List.mem_of_getElem? (i := 198) rfl) rfl, ri_tg1 (List.mem_of_getElem? (i := 13) rfl) rfl, ⟨by decide +kernel, by decide +kernel, by decide +kernel⟩⟩
set_option maxRecDepth 20000 in
theorem gw415 : Cond.fieldLink RX12 113 (TX12 12).1 (TX12 12).2.1 (TX12 12).2.2.1 ∈ ri_G := ri_tg6 (List.mem_of_getElem? (i := 61) rfl) rfl
set_option maxRecDepth 20000 in
theorem gw416 : Cond.methodLink RX12 116 (ri_Yn 192) ∈ ri_G := ri_tg6 (List.mem_of_getElem? (i := 208) rfl) rfl
set_option maxRecDepth 20000 in
theorem mw192v : Cond.instanceMethod (ri_Yn 192) ∈ ri_G ∧ Cond.selects (ri_Yn 192).cls (ri_Yn 192) (ri_Yn 192) ∈ ri_G ∧ Cond.initialized (ri_Yn 192).cls ∈ ri_G ∧ ((ri_Yn 192).cls ≠ "java/lang/invoke/MethodHandle" ∧ (ri_Yn 192).cls ≠ "java/lang/invoke/VarHandle" ∧ (parseMethodDescriptor (ri_Yn 192).desc).map (fun d => d.parameters.length) = some 2) := ⟨ri_tg6 (List.mem_of_getElem? (i := 210) rfl) rfl, ri_ps4 _ (List.mem_of_getElem? (i := 11) rfl : (⟨"FactorNetsModel", "isAt", "(II)Z"⟩, 46) ∈ lw_privs_4), ri_tg1 (List.mem_of_getElem? (i := 13) rfl) rfl, ⟨by decide +kernel, by decide +kernel, by decide +kernel⟩⟩
set_option maxRecDepth 20000 in
theorem gw417 : Cond.fieldLink RX12 120 (TX12 13).1 (TX12 13).2.1 (TX12 13).2.2.1 ∈ ri_G := ri_tg6 (List.mem_of_getElem? (i := 62) rfl) rfl
set_option maxRecDepth 20000 in
theorem gw418 : Cond.fieldLink RX12 123 (TX12 15).1 (TX12 15).2.1 (TX12 15).2.2.1 ∈ ri_G := ri_tg6 (List.mem_of_getElem? (i := 64) rfl) rfl
set_option maxRecDepth 20000 in
theorem gw419 : Cond.fieldLink RX12 126 (TX12 14).1 (TX12 14).2.1 (TX12 14).2.2.1 ∈ ri_G := ri_tg6 (List.mem_of_getElem? (i := 63) rfl) rfl
set_option maxRecDepth 20000 in
theorem gw420 : Cond.constant RX12 129 (Int32.ofNat 99999) ∈ ri_G := ri_tg6 (List.mem_of_getElem? (i := 212) rfl) rfl
set_option maxRecDepth 20000 in
theorem gw421 : Cond.methodLink RX12 130 Lib.Math.min.name ∈ ri_G := ri_tg6 (List.mem_of_getElem? (i := 213) rfl) rfl
set_option maxRecDepth 20000 in
theorem gw422 : Cond.fieldLink RX12 136 (TX12 16).1 (TX12 16).2.1 (TX12 16).2.2.1 ∈ ri_G := ri_tg6 (List.mem_of_getElem? (i := 65) rfl) rfl
set_option maxRecDepth 20000 in
theorem gw423 : Cond.fieldLink RX12 140 (TX12 10).1 (TX12 10).2.1 (TX12 10).2.2.1 ∈ ri_G := ri_tg6 (List.mem_of_getElem? (i := 59) rfl) rfl
set_option maxRecDepth 20000 in
theorem gw424 : Cond.methodLink RX12 143 jxLen ∈ ri_G := ri_tg6 (List.mem_of_getElem? (i := 227) rfl) rfl
set_option maxRecDepth 20000 in
theorem gw425 : Cond.methodLink RX12 149 jxChr ∈ ri_G := ri_tg6 (List.mem_of_getElem? (i := 228) rfl) rfl
set_option maxRecDepth 20000 in
theorem gw426 : Cond.methodLink RX12 153 (ri_Yn 194) ∈ ri_G := ri_tg6 (List.mem_of_getElem? (i := 239) rfl) rfl
set_option maxRecDepth 20000 in
theorem mw194v : Cond.instanceMethod (ri_Yn 194) ∈ ri_G ∧ Cond.selects (ri_Yn 194).cls (ri_Yn 194) (ri_Yn 194) ∈ ri_G ∧ Cond.initialized (ri_Yn 194).cls ∈ ri_G ∧ ((ri_Yn 194).cls ≠ "java/lang/invoke/MethodHandle" ∧ (ri_Yn 194).cls ≠ "java/lang/invoke/VarHandle" ∧ (parseMethodDescriptor (ri_Yn 194).desc).map (fun d => d.parameters.length) = some 1) := ⟨ri_tg7 (List.mem_of_getElem? (i := 1) rfl) rfl, ri_ps5 _ (List.mem_of_getElem? (i := 1) rfl : (⟨"FactorNetsModel", "faults", "(I)V"⟩, 46) ∈ lw_privs_5), ri_tg1 (List.mem_of_getElem? (i := 13) rfl) rfl, ⟨by decide +kernel, by decide +kernel, by decide +kernel⟩⟩
set_option maxRecDepth 20000 in
theorem gw427 : Cond.methodLink RX12 157 (ri_Yn 193) ∈ ri_G := ri_tg6 (List.mem_of_getElem? (i := 204) rfl) rfl
set_option maxRecDepth 20000 in
theorem mw193v : Cond.instanceMethod (ri_Yn 193) ∈ ri_G ∧ Cond.selects (ri_Yn 193).cls (ri_Yn 193) (ri_Yn 193) ∈ ri_G ∧ Cond.initialized (ri_Yn 193).cls ∈ ri_G ∧ ((ri_Yn 193).cls ≠ "java/lang/invoke/MethodHandle" ∧ (ri_Yn 193).cls ≠ "java/lang/invoke/VarHandle" ∧ (parseMethodDescriptor (ri_Yn 193).desc).map (fun d => d.parameters.length) = some 0) := ⟨ri_tg6 (List.mem_of_getElem? (i := 206) rfl) rfl, ri_ps4 _ (List.mem_of_getElem? (i := 10) rfl : (⟨"FactorNetsModel", "next", "()V"⟩, 46) ∈ lw_privs_4), ri_tg1 (List.mem_of_getElem? (i := 13) rfl) rfl, ⟨by decide +kernel, by decide +kernel, by decide +kernel⟩⟩
set_option maxRecDepth 20000 in
theorem gw428 : Cond.methodLink RX12 160 (ri_Yn 196) ∈ ri_G := ri_tg6 (List.mem_of_getElem? (i := 235) rfl) rfl
set_option maxRecDepth 20000 in
theorem mw196v : Cond.instanceMethod (ri_Yn 196) ∈ ri_G ∧ Cond.selects (ri_Yn 196).cls (ri_Yn 196) (ri_Yn 196) ∈ ri_G ∧ Cond.initialized (ri_Yn 196).cls ∈ ri_G ∧ ((ri_Yn 196).cls ≠ "java/lang/invoke/MethodHandle" ∧ (ri_Yn 196).cls ≠ "java/lang/invoke/VarHandle" ∧ (parseMethodDescriptor (ri_Yn 196).desc).map (fun d => d.parameters.length) = some 1) := ⟨ri_tg6 (List.mem_of_getElem? (i := 237) rfl) rfl, ri_ps5 _ (List.mem_of_getElem? (i := 0) rfl : (⟨"FactorNetsModel", "passes", "(Z)V"⟩, 46) ∈ lw_privs_5), ri_tg1 (List.mem_of_getElem? (i := 13) rfl) rfl, ⟨by decide +kernel, by decide +kernel, by decide +kernel⟩⟩
set_option maxRecDepth 20000 in
theorem gw429 : Cond.methodLink RX12 164 (ri_Yn 188) ∈ ri_G := ri_tg7 (List.mem_of_getElem? (i := 34) rfl) rfl
set_option maxRecDepth 20000 in
theorem mw188s : Cond.static (ri_Yn 188) ∈ ri_G ∧ Cond.initialized (ri_Yn 188).cls ∈ ri_G ∧ ((ri_Yn 188).cls ≠ "java/lang/invoke/MethodHandle" ∧ (ri_Yn 188).cls ≠ "java/lang/invoke/VarHandle" ∧ (parseMethodDescriptor (ri_Yn 188).desc).map (fun d => d.parameters.length) = some 2) := ⟨ri_tg7 (List.mem_of_getElem? (i := 35) rfl) rfl, ri_tg1 (List.mem_of_getElem? (i := 13) rfl) rfl, ⟨by decide +kernel, by decide +kernel, by decide +kernel⟩⟩
set_option maxRecDepth 20000 in
theorem gw430 : Cond.methodLink RX12 169 (ri_Yn 195) ∈ ri_G := ri_tg6 (List.mem_of_getElem? (i := 223) rfl) rfl
set_option maxRecDepth 20000 in
theorem mw195v : Cond.instanceMethod (ri_Yn 195) ∈ ri_G ∧ Cond.selects (ri_Yn 195).cls (ri_Yn 195) (ri_Yn 195) ∈ ri_G ∧ Cond.initialized (ri_Yn 195).cls ∈ ri_G ∧ ((ri_Yn 195).cls ≠ "java/lang/invoke/MethodHandle" ∧ (ri_Yn 195).cls ≠ "java/lang/invoke/VarHandle" ∧ (parseMethodDescriptor (ri_Yn 195).desc).map (fun d => d.parameters.length) = some 1) := ⟨ri_tg6 (List.mem_of_getElem? (i := 225) rfl) rfl, ri_ps4 _ (List.mem_of_getElem? (i := 14) rfl : (⟨"FactorNetsModel", "isWord", "(Ljava/lang/String;)Z"⟩, 46) ∈ lw_privs_4), ri_tg1 (List.mem_of_getElem? (i := 13) rfl) rfl, ⟨by decide +kernel, by decide +kernel, by decide +kernel⟩⟩
set_option maxRecDepth 20000 in
theorem gw431 : Cond.methodLink RX12 173 (ri_Yn 197) ∈ ri_G := ri_tg7 (List.mem_of_getElem? (i := 6) rfl) rfl
set_option maxRecDepth 20000 in
theorem mw197v : Cond.instanceMethod (ri_Yn 197) ∈ ri_G ∧ Cond.selects (ri_Yn 197).cls (ri_Yn 197) (ri_Yn 197) ∈ ri_G ∧ Cond.initialized (ri_Yn 197).cls ∈ ri_G ∧ ((ri_Yn 197).cls ≠ "java/lang/invoke/MethodHandle" ∧ (ri_Yn 197).cls ≠ "java/lang/invoke/VarHandle" ∧ (parseMethodDescriptor (ri_Yn 197).desc).map (fun d => d.parameters.length) = some 2) := ⟨ri_tg7 (List.mem_of_getElem? (i := 8) rfl) rfl, ri_ps5 _ (List.mem_of_getElem? (i := 2) rfl : (⟨"FactorNetsModel", "reads", "(II)I"⟩, 46) ∈ lw_privs_5), ri_tg1 (List.mem_of_getElem? (i := 13) rfl) rfl, ⟨by decide +kernel, by decide +kernel, by decide +kernel⟩⟩
set_option maxRecDepth 20000 in
theorem gw432 : Cond.methodLink RX12 176 (ri_Yn 198) ∈ ri_G := ri_tg7 (List.mem_of_getElem? (i := 30) rfl) rfl
set_option maxRecDepth 20000 in
theorem mw198v : Cond.instanceMethod (ri_Yn 198) ∈ ri_G ∧ Cond.selects (ri_Yn 198).cls (ri_Yn 198) (ri_Yn 198) ∈ ri_G ∧ Cond.initialized (ri_Yn 198).cls ∈ ri_G ∧ ((ri_Yn 198).cls ≠ "java/lang/invoke/MethodHandle" ∧ (ri_Yn 198).cls ≠ "java/lang/invoke/VarHandle" ∧ (parseMethodDescriptor (ri_Yn 198).desc).map (fun d => d.parameters.length) = some 2) := ⟨ri_tg7 (List.mem_of_getElem? (i := 32) rfl) rfl, ri_ps5 _ (List.mem_of_getElem? (i := 7) rfl : (⟨"FactorNetsModel", "isBeside", "(II)Z"⟩, 46) ∈ lw_privs_5), ri_tg1 (List.mem_of_getElem? (i := 13) rfl) rfl, ⟨by decide +kernel, by decide +kernel, by decide +kernel⟩⟩
set_option maxRecDepth 20000 in
theorem gw433 : Cond.methodLink RX12 179 (ri_Yn 199) ∈ ri_G := ri_tg7 (List.mem_of_getElem? (i := 15) rfl) rfl
set_option maxRecDepth 20000 in
theorem mw199v : Cond.instanceMethod (ri_Yn 199) ∈ ri_G ∧ Cond.selects (ri_Yn 199).cls (ri_Yn 199) (ri_Yn 199) ∈ ri_G ∧ Cond.initialized (ri_Yn 199).cls ∈ ri_G ∧ ((ri_Yn 199).cls ≠ "java/lang/invoke/MethodHandle" ∧ (ri_Yn 199).cls ≠ "java/lang/invoke/VarHandle" ∧ (parseMethodDescriptor (ri_Yn 199).desc).map (fun d => d.parameters.length) = some 2) := ⟨ri_tg7 (List.mem_of_getElem? (i := 17) rfl) rfl, ri_ps5 _ (List.mem_of_getElem? (i := 4) rfl : (⟨"FactorNetsModel", "ties", "(II)V"⟩, 46) ∈ lw_privs_5), ri_tg1 (List.mem_of_getElem? (i := 13) rfl) rfl, ⟨by decide +kernel, by decide +kernel, by decide +kernel⟩⟩
set_option maxRecDepth 20000 in
theorem gw434 : Cond.constantLong RX12 183 (Int64.ofNat 3) ∈ ri_G := ri_tg7 (List.mem_of_getElem? (i := 3) rfl) rfl
set_option maxRecDepth 20000 in
theorem gw435 : Cond.constantLong RX12 185 (Int64.ofNat 2) ∈ ri_G := ri_tg7 (List.mem_of_getElem? (i := 4) rfl) rfl
set_option maxRecDepth 20000 in
theorem gw436 : Cond.constantLong RX12 187 (Int64.ofNat 20) ∈ ri_G := ri_tg7 (List.mem_of_getElem? (i := 5) rfl) rfl
set_option maxRecDepth 20000 in
theorem gw437 : Cond.methodLink RX12 189 Lib.Math.max.name ∈ ri_G := ri_tg7 (List.mem_of_getElem? (i := 10) rfl) rfl
set_option maxRecDepth 20000 in
theorem gw438 : Cond.methodLink RX12 192 (ri_Yn 208) ∈ ri_G := ri_tg7 (List.mem_of_getElem? (i := 11) rfl) rfl
set_option maxRecDepth 20000 in
theorem mw208v : Cond.instanceMethod (ri_Yn 208) ∈ ri_G ∧ Cond.selects (ri_Yn 208).cls (ri_Yn 208) (ri_Yn 208) ∈ ri_G ∧ Cond.initialized (ri_Yn 208).cls ∈ ri_G ∧ ((ri_Yn 208).cls ≠ "java/lang/invoke/MethodHandle" ∧ (ri_Yn 208).cls ≠ "java/lang/invoke/VarHandle" ∧ (parseMethodDescriptor (ri_Yn 208).desc).map (fun d => d.parameters.length) = some 2) := ⟨ri_tg7 (List.mem_of_getElem? (i := 13) rfl) rfl, ri_ps5 _ (List.mem_of_getElem? (i := 3) rfl : (⟨"FactorNetsModel", "multiplies", "(II)V"⟩, 46) ∈ lw_privs_5), ri_tg1 (List.mem_of_getElem? (i := 13) rfl) rfl, ⟨by decide +kernel, by decide +kernel, by decide +kernel⟩⟩
set_option maxRecDepth 20000 in
theorem gw439 : Cond.methodLink RX12 201 (ri_Yn 204) ∈ ri_G := ri_tg6 (List.mem_of_getElem? (i := 218) rfl) rfl
set_option maxRecDepth 20000 in
theorem mw204v : Cond.instanceMethod (ri_Yn 204) ∈ ri_G ∧ Cond.selects (ri_Yn 204).cls (ri_Yn 204) (ri_Yn 204) ∈ ri_G ∧ Cond.initialized (ri_Yn 204).cls ∈ ri_G ∧ ((ri_Yn 204).cls ≠ "java/lang/invoke/MethodHandle" ∧ (ri_Yn 204).cls ≠ "java/lang/invoke/VarHandle" ∧ (parseMethodDescriptor (ri_Yn 204).desc).map (fun d => d.parameters.length) = some 0) := ⟨ri_tg6 (List.mem_of_getElem? (i := 220) rfl) rfl, ri_ps4 _ (List.mem_of_getElem? (i := 13) rfl : (⟨"FactorNetsModel", "kindHere", "()I"⟩, 46) ∈ lw_privs_4), ri_tg1 (List.mem_of_getElem? (i := 13) rfl) rfl, ⟨by decide +kernel, by decide +kernel, by decide +kernel⟩⟩
set_option maxRecDepth 20000 in
theorem gw440 : Cond.methodLink RX12 204 (ri_Yn 203) ∈ ri_G := ri_tg6 (List.mem_of_getElem? (i := 231) rfl) rfl
set_option maxRecDepth 20000 in
theorem mw203v : Cond.instanceMethod (ri_Yn 203) ∈ ri_G ∧ Cond.selects (ri_Yn 203).cls (ri_Yn 203) (ri_Yn 203) ∈ ri_G ∧ Cond.initialized (ri_Yn 203).cls ∈ ri_G ∧ ((ri_Yn 203).cls ≠ "java/lang/invoke/MethodHandle" ∧ (ri_Yn 203).cls ≠ "java/lang/invoke/VarHandle" ∧ (parseMethodDescriptor (ri_Yn 203).desc).map (fun d => d.parameters.length) = some 1) := ⟨ri_tg6 (List.mem_of_getElem? (i := 233) rfl) rfl, ri_ps4 _ (List.mem_of_getElem? (i := 15) rfl : (⟨"FactorNetsModel", "readsTimes", "(I)V"⟩, 46) ∈ lw_privs_4), ri_tg1 (List.mem_of_getElem? (i := 13) rfl) rfl, ⟨by decide +kernel, by decide +kernel, by decide +kernel⟩⟩
set_option maxRecDepth 20000 in
theorem gw441 : Cond.methodLink RX12 209 (ri_Yn 201) ∈ ri_G := ri_tg7 (List.mem_of_getElem? (i := 20) rfl) rfl
set_option maxRecDepth 20000 in
theorem mw201v : Cond.instanceMethod (ri_Yn 201) ∈ ri_G ∧ Cond.selects (ri_Yn 201).cls (ri_Yn 201) (ri_Yn 201) ∈ ri_G ∧ Cond.initialized (ri_Yn 201).cls ∈ ri_G ∧ ((ri_Yn 201).cls ≠ "java/lang/invoke/MethodHandle" ∧ (ri_Yn 201).cls ≠ "java/lang/invoke/VarHandle" ∧ (parseMethodDescriptor (ri_Yn 201).desc).map (fun d => d.parameters.length) = some 0) := ⟨ri_tg7 (List.mem_of_getElem? (i := 22) rfl) rfl, ri_ps5 _ (List.mem_of_getElem? (i := 5) rfl : (⟨"FactorNetsModel", "readsNet", "()V"⟩, 46) ∈ lw_privs_5), ri_tg1 (List.mem_of_getElem? (i := 13) rfl) rfl, ⟨by decide +kernel, by decide +kernel, by decide +kernel⟩⟩
set_option maxRecDepth 20000 in
theorem gw442 : Cond.methodLink RX12 214 (ri_Yn 202) ∈ ri_G := ri_tg7 (List.mem_of_getElem? (i := 26) rfl) rfl
set_option maxRecDepth 20000 in
theorem mw202v : Cond.instanceMethod (ri_Yn 202) ∈ ri_G ∧ Cond.selects (ri_Yn 202).cls (ri_Yn 202) (ri_Yn 202) ∈ ri_G ∧ Cond.initialized (ri_Yn 202).cls ∈ ri_G ∧ ((ri_Yn 202).cls ≠ "java/lang/invoke/MethodHandle" ∧ (ri_Yn 202).cls ≠ "java/lang/invoke/VarHandle" ∧ (parseMethodDescriptor (ri_Yn 202).desc).map (fun d => d.parameters.length) = some 0) := ⟨ri_tg7 (List.mem_of_getElem? (i := 28) rfl) rfl, ri_ps5 _ (List.mem_of_getElem? (i := 6) rfl : (⟨"FactorNetsModel", "readsLine", "()V"⟩, 46) ∈ lw_privs_5), ri_tg1 (List.mem_of_getElem? (i := 13) rfl) rfl, ⟨by decide +kernel, by decide +kernel, by decide +kernel⟩⟩
set_option maxRecDepth 20000 in
theorem gw443 : Cond.methodLink RX12 217 (ri_Yn 205) ∈ ri_G := ri_tg6 (List.mem_of_getElem? (i := 214) rfl) rfl
set_option maxRecDepth 20000 in
theorem mw205v : Cond.instanceMethod (ri_Yn 205) ∈ ri_G ∧ Cond.selects (ri_Yn 205).cls (ri_Yn 205) (ri_Yn 205) ∈ ri_G ∧ Cond.initialized (ri_Yn 205).cls ∈ ri_G ∧ ((ri_Yn 205).cls ≠ "java/lang/invoke/MethodHandle" ∧ (ri_Yn 205).cls ≠ "java/lang/invoke/VarHandle" ∧ (parseMethodDescriptor (ri_Yn 205).desc).map (fun d => d.parameters.length) = some 0) := ⟨ri_tg6 (List.mem_of_getElem? (i := 216) rfl) rfl, ri_ps4 _ (List.mem_of_getElem? (i := 12) rfl : (⟨"FactorNetsModel", "readsAll", "()V"⟩, 46) ∈ lw_privs_4), ri_tg1 (List.mem_of_getElem? (i := 13) rfl) rfl, ⟨by decide +kernel, by decide +kernel, by decide +kernel⟩⟩
set_option maxRecDepth 20000 in
theorem gw444 : Cond.fieldLink RX12 220 (TX12 17).1 (TX12 17).2.1 (TX12 17).2.2.1 ∈ ri_G := ri_tg6 (List.mem_of_getElem? (i := 66) rfl) rfl
set_option maxRecDepth 20000 in
theorem gw445 : Cond.methodLink RX12 223 (ri_Yn 213) ∈ ri_G := ri_tg7 (List.mem_of_getElem? (i := 37) rfl) rfl
set_option maxRecDepth 20000 in
theorem mw213v : Cond.instanceMethod (ri_Yn 213) ∈ ri_G ∧ Cond.selects (ri_Yn 213).cls (ri_Yn 213) (ri_Yn 213) ∈ ri_G ∧ Cond.initialized (ri_Yn 213).cls ∈ ri_G ∧ ((ri_Yn 213).cls ≠ "java/lang/invoke/MethodHandle" ∧ (ri_Yn 213).cls ≠ "java/lang/invoke/VarHandle" ∧ (parseMethodDescriptor (ri_Yn 213).desc).map (fun d => d.parameters.length) = some 0) := ⟨ri_tg7 (List.mem_of_getElem? (i := 39) rfl) rfl, ri_ps5 _ (List.mem_of_getElem? (i := 8) rfl : (⟨"FactorNetsModel", "isWhole", "()Z"⟩, 46) ∈ lw_privs_5), ri_tg1 (List.mem_of_getElem? (i := 13) rfl) rfl, ⟨by decide +kernel, by decide +kernel, by decide +kernel⟩⟩
set_option maxRecDepth 20000 in
theorem gw446 : Cond.fieldLink RX12 227 (TX12 2).1 (TX12 2).2.1 (TX12 2).2.2.1 ∈ ri_G := ri_tg6 (List.mem_of_getElem? (i := 51) rfl) rfl
set_option maxRecDepth 20000 in
theorem gw447 : Cond.methodLink RX12 230 (ri_Yn 211) ∈ ri_G := ri_tg7 (List.mem_of_getElem? (i := 41) rfl) rfl
set_option maxRecDepth 20000 in
theorem mw211v : Cond.instanceMethod (ri_Yn 211) ∈ ri_G ∧ Cond.selects (ri_Yn 211).cls (ri_Yn 211) (ri_Yn 211) ∈ ri_G ∧ Cond.initialized (ri_Yn 211).cls ∈ ri_G ∧ ((ri_Yn 211).cls ≠ "java/lang/invoke/MethodHandle" ∧ (ri_Yn 211).cls ≠ "java/lang/invoke/VarHandle" ∧ (parseMethodDescriptor (ri_Yn 211).desc).map (fun d => d.parameters.length) = some 0) := ⟨ri_tg7 (List.mem_of_getElem? (i := 43) rfl) rfl, ri_ps5 _ (List.mem_of_getElem? (i := 9) rfl : (⟨"FactorNetsModel", "laysFar", "()V"⟩, 46) ∈ lw_privs_5), ri_tg1 (List.mem_of_getElem? (i := 13) rfl) rfl, ⟨by decide +kernel, by decide +kernel, by decide +kernel⟩⟩
set_option maxRecDepth 20000 in
theorem gw448 : Cond.methodLink RX12 233 (ri_Yn 212) ∈ ri_G := ri_tg7 (List.mem_of_getElem? (i := 45) rfl) rfl
set_option maxRecDepth 20000 in
theorem mw212v : Cond.instanceMethod (ri_Yn 212) ∈ ri_G ∧ Cond.selects (ri_Yn 212).cls (ri_Yn 212) (ri_Yn 212) ∈ ri_G ∧ Cond.initialized (ri_Yn 212).cls ∈ ri_G ∧ ((ri_Yn 212).cls ≠ "java/lang/invoke/MethodHandle" ∧ (ri_Yn 212).cls ≠ "java/lang/invoke/VarHandle" ∧ (parseMethodDescriptor (ri_Yn 212).desc).map (fun d => d.parameters.length) = some 2) := ⟨ri_tg7 (List.mem_of_getElem? (i := 47) rfl) rfl, ri_ps5 _ (List.mem_of_getElem? (i := 10) rfl : (⟨"FactorNetsModel", "farOf", "(II)I"⟩, 46) ∈ lw_privs_5), ri_tg1 (List.mem_of_getElem? (i := 13) rfl) rfl, ⟨by decide +kernel, by decide +kernel, by decide +kernel⟩⟩
set_option maxRecDepth 20000 in
theorem gw449 : Cond.methodLink RX12 236 (ri_Yn 215) ∈ ri_G := ri_tg7 (List.mem_of_getElem? (i := 77) rfl) rfl
set_option maxRecDepth 20000 in
theorem mw215v : Cond.instanceMethod (ri_Yn 215) ∈ ri_G ∧ Cond.selects (ri_Yn 215).cls (ri_Yn 215) (ri_Yn 215) ∈ ri_G ∧ Cond.initialized (ri_Yn 215).cls ∈ ri_G ∧ ((ri_Yn 215).cls ≠ "java/lang/invoke/MethodHandle" ∧ (ri_Yn 215).cls ≠ "java/lang/invoke/VarHandle" ∧ (parseMethodDescriptor (ri_Yn 215).desc).map (fun d => d.parameters.length) = some 2) := ⟨ri_tg7 (List.mem_of_getElem? (i := 79) rfl) rfl, ri_ps6 _ (List.mem_of_getElem? (i := 0) rfl : (⟨"FactorNetsModel", "joint", "(II)I"⟩, 46) ∈ lw_privs_6), ri_tg1 (List.mem_of_getElem? (i := 13) rfl) rfl, ⟨by decide +kernel, by decide +kernel, by decide +kernel⟩⟩
set_option maxRecDepth 20000 in
theorem gw450 : Cond.fieldLink RX12 239 (TX12 21).1 (TX12 21).2.1 (TX12 21).2.2.1 ∈ ri_G := ri_tg6 (List.mem_of_getElem? (i := 70) rfl) rfl
set_option maxRecDepth 20000 in
theorem gw451 : Cond.methodLink RX12 242 (ri_Yn 214) ∈ ri_G := ri_tg7 (List.mem_of_getElem? (i := 69) rfl) rfl
set_option maxRecDepth 20000 in
theorem mw214v : Cond.instanceMethod (ri_Yn 214) ∈ ri_G ∧ Cond.selects (ri_Yn 214).cls (ri_Yn 214) (ri_Yn 214) ∈ ri_G ∧ Cond.initialized (ri_Yn 214).cls ∈ ri_G ∧ ((ri_Yn 214).cls ≠ "java/lang/invoke/MethodHandle" ∧ (ri_Yn 214).cls ≠ "java/lang/invoke/VarHandle" ∧ (parseMethodDescriptor (ri_Yn 214).desc).map (fun d => d.parameters.length) = some 2) := ⟨ri_tg7 (List.mem_of_getElem? (i := 71) rfl) rfl, ri_ps5 _ (List.mem_of_getElem? (i := 14) rfl : (⟨"FactorNetsModel", "isTheta", "(II)Z"⟩, 46) ∈ lw_privs_5), ri_tg1 (List.mem_of_getElem? (i := 13) rfl) rfl, ⟨by decide +kernel, by decide +kernel, by decide +kernel⟩⟩
set_option maxRecDepth 20000 in
theorem gw452 : Cond.methodLink RX12 245 (ri_Yn 216) ∈ ri_G := ri_tg7 (List.mem_of_getElem? (i := 73) rfl) rfl
set_option maxRecDepth 20000 in
theorem mw216v : Cond.instanceMethod (ri_Yn 216) ∈ ri_G ∧ Cond.selects (ri_Yn 216).cls (ri_Yn 216) (ri_Yn 216) ∈ ri_G ∧ Cond.initialized (ri_Yn 216).cls ∈ ri_G ∧ ((ri_Yn 216).cls ≠ "java/lang/invoke/MethodHandle" ∧ (ri_Yn 216).cls ≠ "java/lang/invoke/VarHandle" ∧ (parseMethodDescriptor (ri_Yn 216).desc).map (fun d => d.parameters.length) = some 2) := ⟨ri_tg7 (List.mem_of_getElem? (i := 75) rfl) rfl, ri_ps5 _ (List.mem_of_getElem? (i := 15) rfl : (⟨"FactorNetsModel", "isTau", "(II)Z"⟩, 46) ∈ lw_privs_5), ri_tg1 (List.mem_of_getElem? (i := 13) rfl) rfl, ⟨by decide +kernel, by decide +kernel, by decide +kernel⟩⟩
set_option maxRecDepth 20000 in
theorem gw453 : Cond.methodLink RX12 248 (ri_Yn 218) ∈ ri_G := ri_tg7 (List.mem_of_getElem? (i := 81) rfl) rfl
set_option maxRecDepth 20000 in
theorem mw218v : Cond.instanceMethod (ri_Yn 218) ∈ ri_G ∧ Cond.selects (ri_Yn 218).cls (ri_Yn 218) (ri_Yn 218) ∈ ri_G ∧ Cond.initialized (ri_Yn 218).cls ∈ ri_G ∧ ((ri_Yn 218).cls ≠ "java/lang/invoke/MethodHandle" ∧ (ri_Yn 218).cls ≠ "java/lang/invoke/VarHandle" ∧ (parseMethodDescriptor (ri_Yn 218).desc).map (fun d => d.parameters.length) = some 3) := ⟨ri_tg7 (List.mem_of_getElem? (i := 83) rfl) rfl, ri_ps6 _ (List.mem_of_getElem? (i := 1) rfl : (⟨"FactorNetsModel", "joins", "([III)V"⟩, 46) ∈ lw_privs_6), ri_tg1 (List.mem_of_getElem? (i := 13) rfl) rfl, ⟨by decide +kernel, by decide +kernel, by decide +kernel⟩⟩
set_option maxRecDepth 20000 in
theorem gw454 : Cond.methodLink RX12 252 (ri_Yn 219) ∈ ri_G := ri_tg7 (List.mem_of_getElem? (i := 61) rfl) rfl
set_option maxRecDepth 20000 in
theorem mw219v : Cond.instanceMethod (ri_Yn 219) ∈ ri_G ∧ Cond.selects (ri_Yn 219).cls (ri_Yn 219) (ri_Yn 219) ∈ ri_G ∧ Cond.initialized (ri_Yn 219).cls ∈ ri_G ∧ ((ri_Yn 219).cls ≠ "java/lang/invoke/MethodHandle" ∧ (ri_Yn 219).cls ≠ "java/lang/invoke/VarHandle" ∧ (parseMethodDescriptor (ri_Yn 219).desc).map (fun d => d.parameters.length) = some 0) := ⟨ri_tg7 (List.mem_of_getElem? (i := 63) rfl) rfl, ri_ps5 _ (List.mem_of_getElem? (i := 12) rfl : (⟨"FactorNetsModel", "laysLines", "()V"⟩, 46) ∈ lw_privs_5), ri_tg1 (List.mem_of_getElem? (i := 13) rfl) rfl, ⟨by decide +kernel, by decide +kernel, by decide +kernel⟩⟩
set_option maxRecDepth 20000 in
theorem gw455 : Cond.methodLink RX12 255 (ri_Yn 217) ∈ ri_G := ri_tg7 (List.mem_of_getElem? (i := 65) rfl) rfl
set_option maxRecDepth 20000 in
theorem mw217v : Cond.instanceMethod (ri_Yn 217) ∈ ri_G ∧ Cond.selects (ri_Yn 217).cls (ri_Yn 217) (ri_Yn 217) ∈ ri_G ∧ Cond.initialized (ri_Yn 217).cls ∈ ri_G ∧ ((ri_Yn 217).cls ≠ "java/lang/invoke/MethodHandle" ∧ (ri_Yn 217).cls ≠ "java/lang/invoke/VarHandle" ∧ (parseMethodDescriptor (ri_Yn 217).desc).map (fun d => d.parameters.length) = some 2) := ⟨ri_tg7 (List.mem_of_getElem? (i := 67) rfl) rfl, ri_ps5 _ (List.mem_of_getElem? (i := 13) rfl : (⟨"FactorNetsModel", "sets", "([IZ)I"⟩, 46) ∈ lw_privs_5), ri_tg1 (List.mem_of_getElem? (i := 13) rfl) rfl, ⟨by decide +kernel, by decide +kernel, by decide +kernel⟩⟩
set_option maxRecDepth 20000 in
theorem gw456 : Cond.fieldLink RX12 259 (TX12 24).1 (TX12 24).2.1 (TX12 24).2.2.1 ∈ ri_G := ri_tg6 (List.mem_of_getElem? (i := 73) rfl) rfl
set_option maxRecDepth 20000 in
theorem gw457 : Cond.fieldLink RX12 262 (TX12 25).1 (TX12 25).2.1 (TX12 25).2.2.1 ∈ ri_G := ri_tg6 (List.mem_of_getElem? (i := 74) rfl) rfl
set_option maxRecDepth 20000 in
theorem gw458 : Cond.methodLink RX12 265 (ri_Yn 220) ∈ ri_G := ri_tg7 (List.mem_of_getElem? (i := 57) rfl) rfl
set_option maxRecDepth 20000 in
theorem mw220v : Cond.instanceMethod (ri_Yn 220) ∈ ri_G ∧ Cond.selects (ri_Yn 220).cls (ri_Yn 220) (ri_Yn 220) ∈ ri_G ∧ Cond.initialized (ri_Yn 220).cls ∈ ri_G ∧ ((ri_Yn 220).cls ≠ "java/lang/invoke/MethodHandle" ∧ (ri_Yn 220).cls ≠ "java/lang/invoke/VarHandle" ∧ (parseMethodDescriptor (ri_Yn 220).desc).map (fun d => d.parameters.length) = some 0) := ⟨ri_tg7 (List.mem_of_getElem? (i := 59) rfl) rfl, ri_ps5 _ (List.mem_of_getElem? (i := 11) rfl : (⟨"FactorNetsModel", "lays", "()V"⟩, 46) ∈ lw_privs_5), ri_tg1 (List.mem_of_getElem? (i := 13) rfl) rfl, ⟨by decide +kernel, by decide +kernel, by decide +kernel⟩⟩
set_option maxRecDepth 20000 in
theorem gw459 : Cond.methodLink RX12 268 (ri_Yn 210) ∈ ri_G := ri_tg7 (List.mem_of_getElem? (i := 101) rfl) rfl
set_option maxRecDepth 20000 in
theorem mw210v : Cond.instanceMethod (ri_Yn 210) ∈ ri_G ∧ Cond.selects (ri_Yn 210).cls (ri_Yn 210) (ri_Yn 210) ∈ ri_G ∧ Cond.initialized (ri_Yn 210).cls ∈ ri_G ∧ ((ri_Yn 210).cls ≠ "java/lang/invoke/MethodHandle" ∧ (ri_Yn 210).cls ≠ "java/lang/invoke/VarHandle" ∧ (parseMethodDescriptor (ri_Yn 210).desc).map (fun d => d.parameters.length) = some 1) := ⟨ri_tg7 (List.mem_of_getElem? (i := 103) rfl) rfl, ri_ps6 _ (List.mem_of_getElem? (i := 4) rfl : (⟨"FactorNetsModel", "isPoint", "(I)Z"⟩, 46) ∈ lw_privs_6), ri_tg1 (List.mem_of_getElem? (i := 13) rfl) rfl, ⟨by decide +kernel, by decide +kernel, by decide +kernel⟩⟩
set_option maxRecDepth 20000 in
theorem gw460 : Cond.fieldLink RX12 272 (TX12 29).1 (TX12 29).2.1 (TX12 29).2.2.1 ∈ ri_G := ri_tg6 (List.mem_of_getElem? (i := 78) rfl) rfl
set_option maxRecDepth 20000 in
theorem gw461 : Cond.methodLink RX12 275 (ri_Yn 221) ∈ ri_G := ri_tg7 (List.mem_of_getElem? (i := 89) rfl) rfl
set_option maxRecDepth 20000 in
theorem mw221v : Cond.instanceMethod (ri_Yn 221) ∈ ri_G ∧ Cond.selects (ri_Yn 221).cls (ri_Yn 221) (ri_Yn 221) ∈ ri_G ∧ Cond.initialized (ri_Yn 221).cls ∈ ri_G ∧ ((ri_Yn 221).cls ≠ "java/lang/invoke/MethodHandle" ∧ (ri_Yn 221).cls ≠ "java/lang/invoke/VarHandle" ∧ (parseMethodDescriptor (ri_Yn 221).desc).map (fun d => d.parameters.length) = some 1) := ⟨ri_tg7 (List.mem_of_getElem? (i := 91) rfl) rfl, ri_ps6 _ (List.mem_of_getElem? (i := 2) rfl : (⟨"FactorNetsModel", "isLine", "(I)Z"⟩, 46) ∈ lw_privs_6), ri_tg1 (List.mem_of_getElem? (i := 13) rfl) rfl, ⟨by decide +kernel, by decide +kernel, by decide +kernel⟩⟩
set_option maxRecDepth 20000 in
theorem gw462 : Cond.methodLink RX12 278 (ri_Yn 224) ∈ ri_G := ri_tg7 (List.mem_of_getElem? (i := 97) rfl) rfl
set_option maxRecDepth 20000 in
theorem mw224v : Cond.instanceMethod (ri_Yn 224) ∈ ri_G ∧ Cond.selects (ri_Yn 224).cls (ri_Yn 224) (ri_Yn 224) ∈ ri_G ∧ Cond.initialized (ri_Yn 224).cls ∈ ri_G ∧ ((ri_Yn 224).cls ≠ "java/lang/invoke/MethodHandle" ∧ (ri_Yn 224).cls ≠ "java/lang/invoke/VarHandle" ∧ (parseMethodDescriptor (ri_Yn 224).desc).map (fun d => d.parameters.length) = some 2) := ⟨ri_tg7 (List.mem_of_getElem? (i := 99) rfl) rfl, ri_ps6 _ (List.mem_of_getElem? (i := 3) rfl : (⟨"FactorNetsModel", "areTwo", "(II)Z"⟩, 46) ∈ lw_privs_6), ri_tg1 (List.mem_of_getElem? (i := 13) rfl) rfl, ⟨by decide +kernel, by decide +kernel, by decide +kernel⟩⟩
set_option maxRecDepth 20000 in
theorem gw463 : Cond.methodLink RX12 281 (ri_Yn 227) ∈ ri_G := ri_tg7 (List.mem_of_getElem? (i := 105) rfl) rfl
set_option maxRecDepth 20000 in
theorem mw227v : Cond.instanceMethod (ri_Yn 227) ∈ ri_G ∧ Cond.selects (ri_Yn 227).cls (ri_Yn 227) (ri_Yn 227) ∈ ri_G ∧ Cond.initialized (ri_Yn 227).cls ∈ ri_G ∧ ((ri_Yn 227).cls ≠ "java/lang/invoke/MethodHandle" ∧ (ri_Yn 227).cls ≠ "java/lang/invoke/VarHandle" ∧ (parseMethodDescriptor (ri_Yn 227).desc).map (fun d => d.parameters.length) = some 2) := ⟨ri_tg7 (List.mem_of_getElem? (i := 107) rfl) rfl, ri_ps6 _ (List.mem_of_getElem? (i := 5) rfl : (⟨"FactorNetsModel", "lineOf", "(II)I"⟩, 46) ∈ lw_privs_6), ri_tg1 (List.mem_of_getElem? (i := 13) rfl) rfl, ⟨by decide +kernel, by decide +kernel, by decide +kernel⟩⟩
set_option maxRecDepth 20000 in
theorem gw464 : Cond.constantLong RX12 284 (Int64.ofNat 18446744073709551614) ∈ ri_G := ri_tg7 (List.mem_of_getElem? (i := 121) rfl) rfl
set_option maxRecDepth 20000 in
theorem gw465 : Cond.methodLink RX12 286 (ri_Yn 232) ∈ ri_G := ri_tg7 (List.mem_of_getElem? (i := 126) rfl) rfl
set_option maxRecDepth 20000 in
theorem mw232v : Cond.instanceMethod (ri_Yn 232) ∈ ri_G ∧ Cond.selects (ri_Yn 232).cls (ri_Yn 232) (ri_Yn 232) ∈ ri_G ∧ Cond.initialized (ri_Yn 232).cls ∈ ri_G ∧ ((ri_Yn 232).cls ≠ "java/lang/invoke/MethodHandle" ∧ (ri_Yn 232).cls ≠ "java/lang/invoke/VarHandle" ∧ (parseMethodDescriptor (ri_Yn 232).desc).map (fun d => d.parameters.length) = some 2) := ⟨ri_tg7 (List.mem_of_getElem? (i := 128) rfl) rfl, ri_ps6 _ (List.mem_of_getElem? (i := 6) rfl : (⟨"FactorNetsModel", "amidOf", "(II)I"⟩, 46) ∈ lw_privs_6), ri_tg1 (List.mem_of_getElem? (i := 13) rfl) rfl, ⟨by decide +kernel, by decide +kernel, by decide +kernel⟩⟩
set_option maxRecDepth 20000 in
theorem gw466 : Cond.methodLink RX12 289 (ri_Yn 209) ∈ ri_G := ri_tg7 (List.mem_of_getElem? (i := 142) rfl) rfl
set_option maxRecDepth 20000 in
theorem mw209v : Cond.instanceMethod (ri_Yn 209) ∈ ri_G ∧ Cond.selects (ri_Yn 209).cls (ri_Yn 209) (ri_Yn 209) ∈ ri_G ∧ Cond.initialized (ri_Yn 209).cls ∈ ri_G ∧ ((ri_Yn 209).cls ≠ "java/lang/invoke/MethodHandle" ∧ (ri_Yn 209).cls ≠ "java/lang/invoke/VarHandle" ∧ (parseMethodDescriptor (ri_Yn 209).desc).map (fun d => d.parameters.length) = some 0) := ⟨ri_tg7 (List.mem_of_getElem? (i := 144) rfl) rfl, ri_ps6 _ (List.mem_of_getElem? (i := 7) rfl : (⟨"FactorNetsModel", "is", "()Z"⟩, 46) ∈ lw_privs_6), ri_tg1 (List.mem_of_getElem? (i := 13) rfl) rfl, ⟨by decide +kernel, by decide +kernel, by decide +kernel⟩⟩
set_option maxRecDepth 20000 in
theorem gw467 : Cond.methodLink RX12 292 (ri_Yn 222) ∈ ri_G := ri_tg7 (List.mem_of_getElem? (i := 150) rfl) rfl
set_option maxRecDepth 20000 in
theorem mw222v : Cond.instanceMethod (ri_Yn 222) ∈ ri_G ∧ Cond.selects (ri_Yn 222).cls (ri_Yn 222) (ri_Yn 222) ∈ ri_G ∧ Cond.initialized (ri_Yn 222).cls ∈ ri_G ∧ ((ri_Yn 222).cls ≠ "java/lang/invoke/MethodHandle" ∧ (ri_Yn 222).cls ≠ "java/lang/invoke/VarHandle" ∧ (parseMethodDescriptor (ri_Yn 222).desc).map (fun d => d.parameters.length) = some 1) := ⟨ri_tg7 (List.mem_of_getElem? (i := 152) rfl) rfl, ri_ps6 _ (List.mem_of_getElem? (i := 8) rfl : (⟨"FactorNetsModel", "isPart", "(I)Z"⟩, 46) ∈ lw_privs_6), ri_tg1 (List.mem_of_getElem? (i := 13) rfl) rfl, ⟨by decide +kernel, by decide +kernel, by decide +kernel⟩⟩
set_option maxRecDepth 20000 in
theorem gw468 : Cond.methodLink RX12 295 (ri_Yn 237) ∈ ri_G := ri_tg7 (List.mem_of_getElem? (i := 154) rfl) rfl
set_option maxRecDepth 20000 in
theorem mw237v : Cond.instanceMethod (ri_Yn 237) ∈ ri_G ∧ Cond.selects (ri_Yn 237).cls (ri_Yn 237) (ri_Yn 237) ∈ ri_G ∧ Cond.initialized (ri_Yn 237).cls ∈ ri_G ∧ ((ri_Yn 237).cls ≠ "java/lang/invoke/MethodHandle" ∧ (ri_Yn 237).cls ≠ "java/lang/invoke/VarHandle" ∧ (parseMethodDescriptor (ri_Yn 237).desc).map (fun d => d.parameters.length) = some 3) := ⟨ri_tg7 (List.mem_of_getElem? (i := 156) rfl) rfl, ri_ps6 _ (List.mem_of_getElem? (i := 9) rfl : (⟨"FactorNetsModel", "reach", "(IIZ)I"⟩, 46) ∈ lw_privs_6), ri_tg1 (List.mem_of_getElem? (i := 13) rfl) rfl, ⟨by decide +kernel, by decide +kernel, by decide +kernel⟩⟩
set_option maxRecDepth 20000 in
theorem gw469 : Cond.methodLink RX12 299 (ri_Yn 317) ∈ ri_G := ri_tg7 (List.mem_of_getElem? (i := 162) rfl) rfl
set_option maxRecDepth 20000 in
theorem gw470 : Cond.methodLink RX12 305 (ri_Yn 240) ∈ ri_G := ri_tg7 (List.mem_of_getElem? (i := 167) rfl) rfl
set_option maxRecDepth 20000 in
theorem mw240s : Cond.static (ri_Yn 240) ∈ ri_G ∧ Cond.initialized (ri_Yn 240).cls ∈ ri_G ∧ ((ri_Yn 240).cls ≠ "java/lang/invoke/MethodHandle" ∧ (ri_Yn 240).cls ≠ "java/lang/invoke/VarHandle" ∧ (parseMethodDescriptor (ri_Yn 240).desc).map (fun d => d.parameters.length) = some 2) := ⟨ri_tg7 (List.mem_of_getElem? (i := 168) rfl) rfl, ri_tg1 (List.mem_of_getElem? (i := 13) rfl) rfl, ⟨by decide +kernel, by decide +kernel, by decide +kernel⟩⟩
set_option maxRecDepth 20000 in
theorem gw471 : Cond.methodLink RX12 308 (ri_Yn 242) ∈ ri_G := ri_tg7 (List.mem_of_getElem? (i := 174) rfl) rfl
set_option maxRecDepth 20000 in
theorem mw242v : Cond.instanceMethod (ri_Yn 242) ∈ ri_G ∧ Cond.selects (ri_Yn 242).cls (ri_Yn 242) (ri_Yn 242) ∈ ri_G ∧ Cond.initialized (ri_Yn 242).cls ∈ ri_G ∧ ((ri_Yn 242).cls ≠ "java/lang/invoke/MethodHandle" ∧ (ri_Yn 242).cls ≠ "java/lang/invoke/VarHandle" ∧ (parseMethodDescriptor (ri_Yn 242).desc).map (fun d => d.parameters.length) = some 2) := ⟨ri_tg7 (List.mem_of_getElem? (i := 176) rfl) rfl, ri_ps6 _ (List.mem_of_getElem? (i := 10) rfl : (⟨"FactorNetsModel", "cornerOf", "(II)I"⟩, 46) ∈ lw_privs_6), ri_tg1 (List.mem_of_getElem? (i := 13) rfl) rfl, ⟨by decide +kernel, by decide +kernel, by decide +kernel⟩⟩
set_option maxRecDepth 20000 in
theorem gw472 : Cond.methodLink RX12 311 (ri_Yn 244) ∈ ri_G := ri_tg7 (List.mem_of_getElem? (i := 182) rfl) rfl
set_option maxRecDepth 20000 in
theorem mw244v : Cond.instanceMethod (ri_Yn 244) ∈ ri_G ∧ Cond.selects (ri_Yn 244).cls (ri_Yn 244) (ri_Yn 244) ∈ ri_G ∧ Cond.initialized (ri_Yn 244).cls ∈ ri_G ∧ ((ri_Yn 244).cls ≠ "java/lang/invoke/MethodHandle" ∧ (ri_Yn 244).cls ≠ "java/lang/invoke/VarHandle" ∧ (parseMethodDescriptor (ri_Yn 244).desc).map (fun d => d.parameters.length) = some 3) := ⟨ri_tg7 (List.mem_of_getElem? (i := 184) rfl) rfl, ri_ps6 _ (List.mem_of_getElem? (i := 11) rfl : (⟨"FactorNetsModel", "movedOf", "(III)I"⟩, 46) ∈ lw_privs_6), ri_tg1 (List.mem_of_getElem? (i := 13) rfl) rfl, ⟨by decide +kernel, by decide +kernel, by decide +kernel⟩⟩
set_option maxRecDepth 20000 in
theorem gw473 : Cond.methodLink RX12 315 (ri_Yn 247) ∈ ri_G := ri_tg7 (List.mem_of_getElem? (i := 198) rfl) rfl
set_option maxRecDepth 20000 in
theorem mw247v : Cond.instanceMethod (ri_Yn 247) ∈ ri_G ∧ Cond.selects (ri_Yn 247).cls (ri_Yn 247) (ri_Yn 247) ∈ ri_G ∧ Cond.initialized (ri_Yn 247).cls ∈ ri_G ∧ ((ri_Yn 247).cls ≠ "java/lang/invoke/MethodHandle" ∧ (ri_Yn 247).cls ≠ "java/lang/invoke/VarHandle" ∧ (parseMethodDescriptor (ri_Yn 247).desc).map (fun d => d.parameters.length) = some 1) := ⟨ri_tg7 (List.mem_of_getElem? (i := 200) rfl) rfl, ri_ps6 _ (List.mem_of_getElem? (i := 13) rfl : (⟨"FactorNetsModel", "linesOf", "(I)I"⟩, 46) ∈ lw_privs_6), ri_tg1 (List.mem_of_getElem? (i := 13) rfl) rfl, ⟨by decide +kernel, by decide +kernel, by decide +kernel⟩⟩
set_option maxRecDepth 20000 in
theorem gw474 : Cond.methodLink RX12 318 (ri_Yn 248) ∈ ri_G := ri_tg7 (List.mem_of_getElem? (i := 194) rfl) rfl
set_option maxRecDepth 20000 in
theorem mw248v : Cond.instanceMethod (ri_Yn 248) ∈ ri_G ∧ Cond.selects (ri_Yn 248).cls (ri_Yn 248) (ri_Yn 248) ∈ ri_G ∧ Cond.initialized (ri_Yn 248).cls ∈ ri_G ∧ ((ri_Yn 248).cls ≠ "java/lang/invoke/MethodHandle" ∧ (ri_Yn 248).cls ≠ "java/lang/invoke/VarHandle" ∧ (parseMethodDescriptor (ri_Yn 248).desc).map (fun d => d.parameters.length) = some 1) := ⟨ri_tg7 (List.mem_of_getElem? (i := 196) rfl) rfl, ri_ps6 _ (List.mem_of_getElem? (i := 12) rfl : (⟨"FactorNetsModel", "kindOf", "(I)I"⟩, 46) ∈ lw_privs_6), ri_tg1 (List.mem_of_getElem? (i := 13) rfl) rfl, ⟨by decide +kernel, by decide +kernel, by decide +kernel⟩⟩
set_option maxRecDepth 20000 in
theorem gw475 : Cond.methodLink RX12 321 (ri_Yn 251) ∈ ri_G := ri_tg7 (List.mem_of_getElem? (i := 216) rfl) rfl
set_option maxRecDepth 20000 in
theorem mw251v : Cond.instanceMethod (ri_Yn 251) ∈ ri_G ∧ Cond.selects (ri_Yn 251).cls (ri_Yn 251) (ri_Yn 251) ∈ ri_G ∧ Cond.initialized (ri_Yn 251).cls ∈ ri_G ∧ ((ri_Yn 251).cls ≠ "java/lang/invoke/MethodHandle" ∧ (ri_Yn 251).cls ≠ "java/lang/invoke/VarHandle" ∧ (parseMethodDescriptor (ri_Yn 251).desc).map (fun d => d.parameters.length) = some 1) := ⟨ri_tg7 (List.mem_of_getElem? (i := 218) rfl) rfl, ri_ps6 _ (List.mem_of_getElem? (i := 15) rfl : (⟨"FactorNetsModel", "saysNumber", "(I)V"⟩, 46) ∈ lw_privs_6), ri_tg1 (List.mem_of_getElem? (i := 13) rfl) rfl, ⟨by decide +kernel, by decide +kernel, by decide +kernel⟩⟩
set_option maxRecDepth 20000 in
theorem gw476 : Cond.methodLink RX12 328 (ri_Yn 250) ∈ ri_G := ri_tg7 (List.mem_of_getElem? (i := 208) rfl) rfl
set_option maxRecDepth 20000 in
theorem mw250v : Cond.instanceMethod (ri_Yn 250) ∈ ri_G ∧ Cond.selects (ri_Yn 250).cls (ri_Yn 250) (ri_Yn 250) ∈ ri_G ∧ Cond.initialized (ri_Yn 250).cls ∈ ri_G ∧ ((ri_Yn 250).cls ≠ "java/lang/invoke/MethodHandle" ∧ (ri_Yn 250).cls ≠ "java/lang/invoke/VarHandle" ∧ (parseMethodDescriptor (ri_Yn 250).desc).map (fun d => d.parameters.length) = some 1) := ⟨ri_tg7 (List.mem_of_getElem? (i := 210) rfl) rfl, ri_ps6 _ (List.mem_of_getElem? (i := 14) rfl : (⟨"FactorNetsModel", "says", "(Ljava/lang/String;)V"⟩, 46) ∈ lw_privs_6), ri_tg1 (List.mem_of_getElem? (i := 13) rfl) rfl, ⟨by decide +kernel, by decide +kernel, by decide +kernel⟩⟩
set_option maxRecDepth 20000 in
theorem gw477 : Cond.methodLink RX12 341 (ri_Yn 254) ∈ ri_G := ri_tg7 (List.mem_of_getElem? (i := 229) rfl) rfl
set_option maxRecDepth 20000 in
theorem mw254v : Cond.instanceMethod (ri_Yn 254) ∈ ri_G ∧ Cond.selects (ri_Yn 254).cls (ri_Yn 254) (ri_Yn 254) ∈ ri_G ∧ Cond.initialized (ri_Yn 254).cls ∈ ri_G ∧ ((ri_Yn 254).cls ≠ "java/lang/invoke/MethodHandle" ∧ (ri_Yn 254).cls ≠ "java/lang/invoke/VarHandle" ∧ (parseMethodDescriptor (ri_Yn 254).desc).map (fun d => d.parameters.length) = some 3) := ⟨ri_tg7 (List.mem_of_getElem? (i := 231) rfl) rfl, ri_ps7 _ (List.mem_of_getElem? (i := 0) rfl : (⟨"FactorNetsModel", "stepOn", "(III)I"⟩, 46) ∈ lw_privs_7), ri_tg1 (List.mem_of_getElem? (i := 13) rfl) rfl, ⟨by decide +kernel, by decide +kernel, by decide +kernel⟩⟩
set_option maxRecDepth 20000 in
theorem gw478 : Cond.fieldLink RX12 344 (TX12 30).1 (TX12 30).2.1 (TX12 30).2.2.1 ∈ ri_G := ri_tg6 (List.mem_of_getElem? (i := 79) rfl) rfl
set_option maxRecDepth 20000 in
theorem gw479 : Cond.methodLink RX12 347 (ri_Yn 259) ∈ ri_G := ri_tg8 (List.mem_of_getElem? (i := 5) rfl) rfl
set_option maxRecDepth 20000 in
theorem mw259v : Cond.instanceMethod (ri_Yn 259) ∈ ri_G ∧ Cond.selects (ri_Yn 259).cls (ri_Yn 259) (ri_Yn 259) ∈ ri_G ∧ Cond.initialized (ri_Yn 259).cls ∈ ri_G ∧ ((ri_Yn 259).cls ≠ "java/lang/invoke/MethodHandle" ∧ (ri_Yn 259).cls ≠ "java/lang/invoke/VarHandle" ∧ (parseMethodDescriptor (ri_Yn 259).desc).map (fun d => d.parameters.length) = some 1) := ⟨ri_tg8 (List.mem_of_getElem? (i := 7) rfl) rfl, ri_ps7 _ (List.mem_of_getElem? (i := 3) rfl : (⟨"FactorNetsModel", "isAtHand", "(I)Z"⟩, 46) ∈ lw_privs_7), ri_tg1 (List.mem_of_getElem? (i := 13) rfl) rfl, ⟨by decide +kernel, by decide +kernel, by decide +kernel⟩⟩
set_option maxRecDepth 20000 in
theorem gw480 : Cond.methodLink RX12 350 (ri_Yn 257) ∈ ri_G := ri_tg8 (List.mem_of_getElem? (i := 9) rfl) rfl
set_option maxRecDepth 20000 in
theorem mw257v : Cond.instanceMethod (ri_Yn 257) ∈ ri_G ∧ Cond.selects (ri_Yn 257).cls (ri_Yn 257) (ri_Yn 257) ∈ ri_G ∧ Cond.initialized (ri_Yn 257).cls ∈ ri_G ∧ ((ri_Yn 257).cls ≠ "java/lang/invoke/MethodHandle" ∧ (ri_Yn 257).cls ≠ "java/lang/invoke/VarHandle" ∧ (parseMethodDescriptor (ri_Yn 257).desc).map (fun d => d.parameters.length) = some 1) := ⟨ri_tg8 (List.mem_of_getElem? (i := 11) rfl) rfl, ri_ps7 _ (List.mem_of_getElem? (i := 4) rfl : (⟨"FactorNetsModel", "looks", "(I)V"⟩, 46) ∈ lw_privs_7), ri_tg1 (List.mem_of_getElem? (i := 13) rfl) rfl, ⟨by decide +kernel, by decide +kernel, by decide +kernel⟩⟩
set_option maxRecDepth 20000 in
theorem gw481 : Cond.methodLink RX12 353 (ri_Yn 258) ∈ ri_G := ri_tg8 (List.mem_of_getElem? (i := 13) rfl) rfl
set_option maxRecDepth 20000 in
theorem mw258v : Cond.instanceMethod (ri_Yn 258) ∈ ri_G ∧ Cond.selects (ri_Yn 258).cls (ri_Yn 258) (ri_Yn 258) ∈ ri_G ∧ Cond.initialized (ri_Yn 258).cls ∈ ri_G ∧ ((ri_Yn 258).cls ≠ "java/lang/invoke/MethodHandle" ∧ (ri_Yn 258).cls ≠ "java/lang/invoke/VarHandle" ∧ (parseMethodDescriptor (ri_Yn 258).desc).map (fun d => d.parameters.length) = some 2) := ⟨ri_tg8 (List.mem_of_getElem? (i := 15) rfl) rfl, ri_ps7 _ (List.mem_of_getElem? (i := 5) rfl : (⟨"FactorNetsModel", "seesAlike", "(II)Z"⟩, 46) ∈ lw_privs_7), ri_tg1 (List.mem_of_getElem? (i := 13) rfl) rfl, ⟨by decide +kernel, by decide +kernel, by decide +kernel⟩⟩
set_option maxRecDepth 20000 in
theorem gw482 : Cond.methodLink RX12 356 (ri_Yn 263) ∈ ri_G := ri_tg8 (List.mem_of_getElem? (i := 21) rfl) rfl
set_option maxRecDepth 20000 in
theorem mw263v : Cond.instanceMethod (ri_Yn 263) ∈ ri_G ∧ Cond.selects (ri_Yn 263).cls (ri_Yn 263) (ri_Yn 263) ∈ ri_G ∧ Cond.initialized (ri_Yn 263).cls ∈ ri_G ∧ ((ri_Yn 263).cls ≠ "java/lang/invoke/MethodHandle" ∧ (ri_Yn 263).cls ≠ "java/lang/invoke/VarHandle" ∧ (parseMethodDescriptor (ri_Yn 263).desc).map (fun d => d.parameters.length) = some 2) := ⟨ri_tg8 (List.mem_of_getElem? (i := 23) rfl) rfl, ri_ps7 _ (List.mem_of_getElem? (i := 7) rfl : (⟨"FactorNetsModel", "canGoOn", "(II)Z"⟩, 46) ∈ lw_privs_7), ri_tg1 (List.mem_of_getElem? (i := 13) rfl) rfl, ⟨by decide +kernel, by decide +kernel, by decide +kernel⟩⟩
set_option maxRecDepth 20000 in
theorem gw483 : Cond.methodLink RX12 359 (ri_Yn 262) ∈ ri_G := ri_tg8 (List.mem_of_getElem? (i := 25) rfl) rfl
set_option maxRecDepth 20000 in
theorem mw262v : Cond.instanceMethod (ri_Yn 262) ∈ ri_G ∧ Cond.selects (ri_Yn 262).cls (ri_Yn 262) (ri_Yn 262) ∈ ri_G ∧ Cond.initialized (ri_Yn 262).cls ∈ ri_G ∧ ((ri_Yn 262).cls ≠ "java/lang/invoke/MethodHandle" ∧ (ri_Yn 262).cls ≠ "java/lang/invoke/VarHandle" ∧ (parseMethodDescriptor (ri_Yn 262).desc).map (fun d => d.parameters.length) = some 4) := ⟨ri_tg8 (List.mem_of_getElem? (i := 27) rfl) rfl, ri_ps7 _ (List.mem_of_getElem? (i := 8) rfl : (⟨"FactorNetsModel", "narrows", "(IIII)Z"⟩, 46) ∈ lw_privs_7), ri_tg1 (List.mem_of_getElem? (i := 13) rfl) rfl, ⟨by decide +kernel, by decide +kernel, by decide +kernel⟩⟩
set_option maxRecDepth 20000 in
theorem gw484 : Cond.methodLink RX12 363 (ri_Yn 261) ∈ ri_G := ri_tg8 (List.mem_of_getElem? (i := 17) rfl) rfl
set_option maxRecDepth 20000 in
theorem mw261v : Cond.instanceMethod (ri_Yn 261) ∈ ri_G ∧ Cond.selects (ri_Yn 261).cls (ri_Yn 261) (ri_Yn 261) ∈ ri_G ∧ Cond.initialized (ri_Yn 261).cls ∈ ri_G ∧ ((ri_Yn 261).cls ≠ "java/lang/invoke/MethodHandle" ∧ (ri_Yn 261).cls ≠ "java/lang/invoke/VarHandle" ∧ (parseMethodDescriptor (ri_Yn 261).desc).map (fun d => d.parameters.length) = some 0) := ⟨ri_tg8 (List.mem_of_getElem? (i := 19) rfl) rfl, ri_ps7 _ (List.mem_of_getElem? (i := 6) rfl : (⟨"FactorNetsModel", "canGo", "()Z"⟩, 46) ∈ lw_privs_7), ri_tg1 (List.mem_of_getElem? (i := 13) rfl) rfl, ⟨by decide +kernel, by decide +kernel, by decide +kernel⟩⟩
set_option maxRecDepth 20000 in
theorem gw485 : Cond.methodLink RX12 366 (ri_Yn 256) ∈ ri_G := ri_tg7 (List.mem_of_getElem? (i := 237) rfl) rfl
set_option maxRecDepth 20000 in
theorem mw256v : Cond.instanceMethod (ri_Yn 256) ∈ ri_G ∧ Cond.selects (ri_Yn 256).cls (ri_Yn 256) (ri_Yn 256) ∈ ri_G ∧ Cond.initialized (ri_Yn 256).cls ∈ ri_G ∧ ((ri_Yn 256).cls ≠ "java/lang/invoke/MethodHandle" ∧ (ri_Yn 256).cls ≠ "java/lang/invoke/VarHandle" ∧ (parseMethodDescriptor (ri_Yn 256).desc).map (fun d => d.parameters.length) = some 2) := ⟨ri_tg7 (List.mem_of_getElem? (i := 239) rfl) rfl, ri_ps7 _ (List.mem_of_getElem? (i := 1) rfl : (⟨"FactorNetsModel", "laysHere", "(I[I)V"⟩, 46) ∈ lw_privs_7), ri_tg1 (List.mem_of_getElem? (i := 13) rfl) rfl, ⟨by decide +kernel, by decide +kernel, by decide +kernel⟩⟩
set_option maxRecDepth 20000 in
theorem gw486 : Cond.methodLink RX12 370 (ri_Yn 260) ∈ ri_G := ri_tg8 (List.mem_of_getElem? (i := 1) rfl) rfl
set_option maxRecDepth 20000 in
theorem mw260v : Cond.instanceMethod (ri_Yn 260) ∈ ri_G ∧ Cond.selects (ri_Yn 260).cls (ri_Yn 260) (ri_Yn 260) ∈ ri_G ∧ Cond.initialized (ri_Yn 260).cls ∈ ri_G ∧ ((ri_Yn 260).cls ≠ "java/lang/invoke/MethodHandle" ∧ (ri_Yn 260).cls ≠ "java/lang/invoke/VarHandle" ∧ (parseMethodDescriptor (ri_Yn 260).desc).map (fun d => d.parameters.length) = some 0) := ⟨ri_tg8 (List.mem_of_getElem? (i := 3) rfl) rfl, ri_ps7 _ (List.mem_of_getElem? (i := 2) rfl : (⟨"FactorNetsModel", "laysKinds", "()V"⟩, 46) ∈ lw_privs_7), ri_tg1 (List.mem_of_getElem? (i := 13) rfl) rfl, ⟨by decide +kernel, by decide +kernel, by decide +kernel⟩⟩
set_option maxRecDepth 20000 in
theorem gw487 : Cond.methodLink RX12 373 (ri_Yn 265) ∈ ri_G := ri_tg8 (List.mem_of_getElem? (i := 33) rfl) rfl
set_option maxRecDepth 20000 in
theorem mw265v : Cond.instanceMethod (ri_Yn 265) ∈ ri_G ∧ Cond.selects (ri_Yn 265).cls (ri_Yn 265) (ri_Yn 265) ∈ ri_G ∧ Cond.initialized (ri_Yn 265).cls ∈ ri_G ∧ ((ri_Yn 265).cls ≠ "java/lang/invoke/MethodHandle" ∧ (ri_Yn 265).cls ≠ "java/lang/invoke/VarHandle" ∧ (parseMethodDescriptor (ri_Yn 265).desc).map (fun d => d.parameters.length) = some 1) := ⟨ri_tg8 (List.mem_of_getElem? (i := 35) rfl) rfl, ri_ps7 _ (List.mem_of_getElem? (i := 9) rfl : (⟨"FactorNetsModel", "laysSame", "(I)V"⟩, 46) ∈ lw_privs_7), ri_tg1 (List.mem_of_getElem? (i := 13) rfl) rfl, ⟨by decide +kernel, by decide +kernel, by decide +kernel⟩⟩
set_option maxRecDepth 20000 in
theorem gw488 : Cond.methodLink RX12 376 (ri_Yn 264) ∈ ri_G := ri_tg8 (List.mem_of_getElem? (i := 37) rfl) rfl
set_option maxRecDepth 20000 in
theorem mw264v : Cond.instanceMethod (ri_Yn 264) ∈ ri_G ∧ Cond.selects (ri_Yn 264).cls (ri_Yn 264) (ri_Yn 264) ∈ ri_G ∧ Cond.initialized (ri_Yn 264).cls ∈ ri_G ∧ ((ri_Yn 264).cls ≠ "java/lang/invoke/MethodHandle" ∧ (ri_Yn 264).cls ≠ "java/lang/invoke/VarHandle" ∧ (parseMethodDescriptor (ri_Yn 264).desc).map (fun d => d.parameters.length) = some 1) := ⟨ri_tg8 (List.mem_of_getElem? (i := 39) rfl) rfl, ri_ps7 _ (List.mem_of_getElem? (i := 10) rfl : (⟨"FactorNetsModel", "leaving", "(I)J"⟩, 46) ∈ lw_privs_7), ri_tg1 (List.mem_of_getElem? (i := 13) rfl) rfl, ⟨by decide +kernel, by decide +kernel, by decide +kernel⟩⟩
set_option maxRecDepth 20000 in
theorem gw489 : Cond.methodLink RX12 380 (ri_Yn 266) ∈ ri_G := ri_tg8 (List.mem_of_getElem? (i := 49) rfl) rfl
set_option maxRecDepth 20000 in
theorem mw266v : Cond.instanceMethod (ri_Yn 266) ∈ ri_G ∧ Cond.selects (ri_Yn 266).cls (ri_Yn 266) (ri_Yn 266) ∈ ri_G ∧ Cond.initialized (ri_Yn 266).cls ∈ ri_G ∧ ((ri_Yn 266).cls ≠ "java/lang/invoke/MethodHandle" ∧ (ri_Yn 266).cls ≠ "java/lang/invoke/VarHandle" ∧ (parseMethodDescriptor (ri_Yn 266).desc).map (fun d => d.parameters.length) = some 0) := ⟨ri_tg8 (List.mem_of_getElem? (i := 51) rfl) rfl, ri_ps7 _ (List.mem_of_getElem? (i := 12) rfl : (⟨"FactorNetsModel", "allBits", "()I"⟩, 46) ∈ lw_privs_7), ri_tg1 (List.mem_of_getElem? (i := 13) rfl) rfl, ⟨by decide +kernel, by decide +kernel, by decide +kernel⟩⟩
set_option maxRecDepth 20000 in
theorem gw490 : Cond.methodLink RX12 383 (ri_Yn 269) ∈ ri_G := ri_tg8 (List.mem_of_getElem? (i := 45) rfl) rfl
set_option maxRecDepth 20000 in
theorem mw269v : Cond.instanceMethod (ri_Yn 269) ∈ ri_G ∧ Cond.selects (ri_Yn 269).cls (ri_Yn 269) (ri_Yn 269) ∈ ri_G ∧ Cond.initialized (ri_Yn 269).cls ∈ ri_G ∧ ((ri_Yn 269).cls ≠ "java/lang/invoke/MethodHandle" ∧ (ri_Yn 269).cls ≠ "java/lang/invoke/VarHandle" ∧ (parseMethodDescriptor (ri_Yn 269).desc).map (fun d => d.parameters.length) = some 0) := ⟨ri_tg8 (List.mem_of_getElem? (i := 47) rfl) rfl, ri_ps7 _ (List.mem_of_getElem? (i := 11) rfl : (⟨"FactorNetsModel", "allOf", "()J"⟩, 46) ∈ lw_privs_7), ri_tg1 (List.mem_of_getElem? (i := 13) rfl) rfl, ⟨by decide +kernel, by decide +kernel, by decide +kernel⟩⟩
set_option maxRecDepth 20000 in
theorem gw491 : Cond.methodLink RX12 387 (ri_Yn 271) ∈ ri_G := ri_tg8 (List.mem_of_getElem? (i := 57) rfl) rfl
set_option maxRecDepth 20000 in
theorem mw271v : Cond.instanceMethod (ri_Yn 271) ∈ ri_G ∧ Cond.selects (ri_Yn 271).cls (ri_Yn 271) (ri_Yn 271) ∈ ri_G ∧ Cond.initialized (ri_Yn 271).cls ∈ ri_G ∧ ((ri_Yn 271).cls ≠ "java/lang/invoke/MethodHandle" ∧ (ri_Yn 271).cls ≠ "java/lang/invoke/VarHandle" ∧ (parseMethodDescriptor (ri_Yn 271).desc).map (fun d => d.parameters.length) = some 1) := ⟨ri_tg8 (List.mem_of_getElem? (i := 59) rfl) rfl, ri_ps7 _ (List.mem_of_getElem? (i := 13) rfl : (⟨"FactorNetsModel", "orbitOf", "(I)I"⟩, 46) ∈ lw_privs_7), ri_tg1 (List.mem_of_getElem? (i := 13) rfl) rfl, ⟨by decide +kernel, by decide +kernel, by decide +kernel⟩⟩
set_option maxRecDepth 20000 in
theorem gw492 : Cond.methodLink RX12 390 (ri_Yn 274) ∈ ri_G := ri_tg8 (List.mem_of_getElem? (i := 69) rfl) rfl
set_option maxRecDepth 20000 in
theorem mw274v : Cond.instanceMethod (ri_Yn 274) ∈ ri_G ∧ Cond.selects (ri_Yn 274).cls (ri_Yn 274) (ri_Yn 274) ∈ ri_G ∧ Cond.initialized (ri_Yn 274).cls ∈ ri_G ∧ ((ri_Yn 274).cls ≠ "java/lang/invoke/MethodHandle" ∧ (ri_Yn 274).cls ≠ "java/lang/invoke/VarHandle" ∧ (parseMethodDescriptor (ri_Yn 274).desc).map (fun d => d.parameters.length) = some 2) := ⟨ri_tg8 (List.mem_of_getElem? (i := 71) rfl) rfl, ri_ps7 _ (List.mem_of_getElem? (i := 14) rfl : (⟨"FactorNetsModel", "isPrefix", "(II)Z"⟩, 46) ∈ lw_privs_7), ri_tg1 (List.mem_of_getElem? (i := 13) rfl) rfl, ⟨by decide +kernel, by decide +kernel, by decide +kernel⟩⟩
set_option maxRecDepth 20000 in
theorem gw493 : Cond.methodLink RX12 393 (ri_Yn 280) ∈ ri_G := ri_tg8 (List.mem_of_getElem? (i := 93) rfl) rfl
set_option maxRecDepth 20000 in
theorem mw280v : Cond.instanceMethod (ri_Yn 280) ∈ ri_G ∧ Cond.selects (ri_Yn 280).cls (ri_Yn 280) (ri_Yn 280) ∈ ri_G ∧ Cond.initialized (ri_Yn 280).cls ∈ ri_G ∧ ((ri_Yn 280).cls ≠ "java/lang/invoke/MethodHandle" ∧ (ri_Yn 280).cls ≠ "java/lang/invoke/VarHandle" ∧ (parseMethodDescriptor (ri_Yn 280).desc).map (fun d => d.parameters.length) = some 1) := ⟨ri_tg8 (List.mem_of_getElem? (i := 95) rfl) rfl, ri_ps7 _ (List.mem_of_getElem? (i := 15) rfl : (⟨"FactorNetsModel", "farthest", "(I)I"⟩, 46) ∈ lw_privs_7), ri_tg1 (List.mem_of_getElem? (i := 13) rfl) rfl, ⟨by decide +kernel, by decide +kernel, by decide +kernel⟩⟩
set_option maxRecDepth 20000 in
theorem gw494 : Cond.methodLink RX12 396 (ri_Yn 284) ∈ ri_G := ri_tg8 (List.mem_of_getElem? (i := 113) rfl) rfl
set_option maxRecDepth 20000 in
theorem mw284v : Cond.instanceMethod (ri_Yn 284) ∈ ri_G ∧ Cond.selects (ri_Yn 284).cls (ri_Yn 284) (ri_Yn 284) ∈ ri_G ∧ Cond.initialized (ri_Yn 284).cls ∈ ri_G ∧ ((ri_Yn 284).cls ≠ "java/lang/invoke/MethodHandle" ∧ (ri_Yn 284).cls ≠ "java/lang/invoke/VarHandle" ∧ (parseMethodDescriptor (ri_Yn 284).desc).map (fun d => d.parameters.length) = some 4) := ⟨ri_tg8 (List.mem_of_getElem? (i := 115) rfl) rfl, ri_ps8 _ (List.mem_of_getElem? (i := 1) rfl : (⟨"FactorNetsModel", "canColour", "(IIII)Z"⟩, 46) ∈ lw_privs_8), ri_tg1 (List.mem_of_getElem? (i := 13) rfl) rfl, ⟨by decide +kernel, by decide +kernel, by decide +kernel⟩⟩
set_option maxRecDepth 20000 in
theorem gw495 : Cond.methodLink RX12 399 (ri_Yn 285) ∈ ri_G := ri_tg8 (List.mem_of_getElem? (i := 109) rfl) rfl
set_option maxRecDepth 20000 in
theorem mw285v : Cond.instanceMethod (ri_Yn 285) ∈ ri_G ∧ Cond.selects (ri_Yn 285).cls (ri_Yn 285) (ri_Yn 285) ∈ ri_G ∧ Cond.initialized (ri_Yn 285).cls ∈ ri_G ∧ ((ri_Yn 285).cls ≠ "java/lang/invoke/MethodHandle" ∧ (ri_Yn 285).cls ≠ "java/lang/invoke/VarHandle" ∧ (parseMethodDescriptor (ri_Yn 285).desc).map (fun d => d.parameters.length) = some 1) := ⟨ri_tg8 (List.mem_of_getElem? (i := 111) rfl) rfl, ri_ps8 _ (List.mem_of_getElem? (i := 0) rfl : (⟨"FactorNetsModel", "coloursOf", "(I)I"⟩, 46) ∈ lw_privs_8), ri_tg1 (List.mem_of_getElem? (i := 13) rfl) rfl, ⟨by decide +kernel, by decide +kernel, by decide +kernel⟩⟩
set_option maxRecDepth 20000 in
theorem gw496 : Cond.constantLong RX12 402 (Int64.ofNat 1000003) ∈ ri_G := ri_tg8 (List.mem_of_getElem? (i := 130) rfl) rfl
set_option maxRecDepth 20000 in
theorem gw497 : Cond.constantLong RX12 404 (Int64.ofNat 1000002) ∈ ri_G := ri_tg8 (List.mem_of_getElem? (i := 129) rfl) rfl
set_option maxRecDepth 20000 in
theorem gw498 : Cond.constant RX12 406 (Int32.ofNat 1000001) ∈ ri_G := ri_tg8 (List.mem_of_getElem? (i := 131) rfl) rfl
set_option maxRecDepth 20000 in
theorem gw499 : Cond.methodLink RX12 407 (ri_Yn 289) ∈ ri_G := ri_tg8 (List.mem_of_getElem? (i := 132) rfl) rfl
set_option maxRecDepth 20000 in
theorem mw289s : Cond.static (ri_Yn 289) ∈ ri_G ∧ Cond.initialized (ri_Yn 289).cls ∈ ri_G ∧ ((ri_Yn 289).cls ≠ "java/lang/invoke/MethodHandle" ∧ (ri_Yn 289).cls ≠ "java/lang/invoke/VarHandle" ∧ (parseMethodDescriptor (ri_Yn 289).desc).map (fun d => d.parameters.length) = some 2) := ⟨ri_tg8 (List.mem_of_getElem? (i := 133) rfl) rfl, ri_tg1 (List.mem_of_getElem? (i := 13) rfl) rfl, ⟨by decide +kernel, by decide +kernel, by decide +kernel⟩⟩
set_option maxRecDepth 20000 in
theorem gw500 : Cond.fieldLink RX12 411 (TX12 43).1 (TX12 43).2.1 (TX12 43).2.2.1 ∈ ri_G := ri_tg6 (List.mem_of_getElem? (i := 92) rfl) rfl
set_option maxRecDepth 20000 in
theorem gw501 : Cond.methodLink RX12 414 (ri_Yn 223) ∈ ri_G := ri_tg8 (List.mem_of_getElem? (i := 143) rfl) rfl
set_option maxRecDepth 20000 in
theorem mw223v : Cond.instanceMethod (ri_Yn 223) ∈ ri_G ∧ Cond.selects (ri_Yn 223).cls (ri_Yn 223) (ri_Yn 223) ∈ ri_G ∧ Cond.initialized (ri_Yn 223).cls ∈ ri_G ∧ ((ri_Yn 223).cls ≠ "java/lang/invoke/MethodHandle" ∧ (ri_Yn 223).cls ≠ "java/lang/invoke/VarHandle" ∧ (parseMethodDescriptor (ri_Yn 223).desc).map (fun d => d.parameters.length) = some 1) := ⟨ri_tg8 (List.mem_of_getElem? (i := 145) rfl) rfl, ri_ps8 _ (List.mem_of_getElem? (i := 2) rfl : (⟨"FactorNetsModel", "isSide", "(I)Z"⟩, 46) ∈ lw_privs_8), ri_tg1 (List.mem_of_getElem? (i := 13) rfl) rfl, ⟨by decide +kernel, by decide +kernel, by decide +kernel⟩⟩
set_option maxRecDepth 20000 in
theorem gw502 : Cond.methodLink RX12 417 (ri_Yn 292) ∈ ri_G := ri_tg8 (List.mem_of_getElem? (i := 147) rfl) rfl
set_option maxRecDepth 20000 in
theorem mw292v : Cond.instanceMethod (ri_Yn 292) ∈ ri_G ∧ Cond.selects (ri_Yn 292).cls (ri_Yn 292) (ri_Yn 292) ∈ ri_G ∧ Cond.initialized (ri_Yn 292).cls ∈ ri_G ∧ ((ri_Yn 292).cls ≠ "java/lang/invoke/MethodHandle" ∧ (ri_Yn 292).cls ≠ "java/lang/invoke/VarHandle" ∧ (parseMethodDescriptor (ri_Yn 292).desc).map (fun d => d.parameters.length) = some 1) := ⟨ri_tg8 (List.mem_of_getElem? (i := 149) rfl) rfl, ri_ps8 _ (List.mem_of_getElem? (i := 3) rfl : (⟨"FactorNetsModel", "laysPieces", "(I)V"⟩, 46) ∈ lw_privs_8), ri_tg1 (List.mem_of_getElem? (i := 13) rfl) rfl, ⟨by decide +kernel, by decide +kernel, by decide +kernel⟩⟩
set_option maxRecDepth 20000 in
theorem gw503 : Cond.methodLink RX12 420 (ri_Yn 288) ∈ ri_G := ri_tg8 (List.mem_of_getElem? (i := 163) rfl) rfl
set_option maxRecDepth 20000 in
theorem mw288v : Cond.instanceMethod (ri_Yn 288) ∈ ri_G ∧ Cond.selects (ri_Yn 288).cls (ri_Yn 288) (ri_Yn 288) ∈ ri_G ∧ Cond.initialized (ri_Yn 288).cls ∈ ri_G ∧ ((ri_Yn 288).cls ≠ "java/lang/invoke/MethodHandle" ∧ (ri_Yn 288).cls ≠ "java/lang/invoke/VarHandle" ∧ (parseMethodDescriptor (ri_Yn 288).desc).map (fun d => d.parameters.length) = some 0) := ⟨ri_tg8 (List.mem_of_getElem? (i := 122) rfl) rfl, ri_tg8 (List.mem_of_getElem? (i := 123) rfl) rfl, ri_tg1 (List.mem_of_getElem? (i := 13) rfl) rfl, ⟨by decide +kernel, by decide +kernel, by decide +kernel⟩⟩
set_option maxRecDepth 20000 in
theorem gw504 : Cond.methodLink RX12 423 (ri_Yn 293) ∈ ri_G := ri_tg8 (List.mem_of_getElem? (i := 164) rfl) rfl
set_option maxRecDepth 20000 in
theorem mw293v : Cond.instanceMethod (ri_Yn 293) ∈ ri_G ∧ Cond.selects (ri_Yn 293).cls (ri_Yn 293) (ri_Yn 293) ∈ ri_G ∧ Cond.initialized (ri_Yn 293).cls ∈ ri_G ∧ ((ri_Yn 293).cls ≠ "java/lang/invoke/MethodHandle" ∧ (ri_Yn 293).cls ≠ "java/lang/invoke/VarHandle" ∧ (parseMethodDescriptor (ri_Yn 293).desc).map (fun d => d.parameters.length) = some 1) := ⟨ri_tg8 (List.mem_of_getElem? (i := 140) rfl) rfl, ri_tg8 (List.mem_of_getElem? (i := 141) rfl) rfl, ri_tg1 (List.mem_of_getElem? (i := 13) rfl) rfl, ⟨by decide +kernel, by decide +kernel, by decide +kernel⟩⟩
set_option maxRecDepth 20000 in
theorem gw505 : Cond.methodLink RX12 426 (ri_Yn 298) ∈ ri_G := ri_tg8 (List.mem_of_getElem? (i := 173) rfl) rfl
set_option maxRecDepth 20000 in
theorem mw298v : Cond.instanceMethod (ri_Yn 298) ∈ ri_G ∧ Cond.selects (ri_Yn 298).cls (ri_Yn 298) (ri_Yn 298) ∈ ri_G ∧ Cond.initialized (ri_Yn 298).cls ∈ ri_G ∧ ((ri_Yn 298).cls ≠ "java/lang/invoke/MethodHandle" ∧ (ri_Yn 298).cls ≠ "java/lang/invoke/VarHandle" ∧ (parseMethodDescriptor (ri_Yn 298).desc).map (fun d => d.parameters.length) = some 3) := ⟨ri_tg8 (List.mem_of_getElem? (i := 175) rfl) rfl, ri_ps8 _ (List.mem_of_getElem? (i := 4) rfl : (⟨"FactorNetsModel", "medianOf", "(III)I"⟩, 46) ∈ lw_privs_8), ri_tg1 (List.mem_of_getElem? (i := 13) rfl) rfl, ⟨by decide +kernel, by decide +kernel, by decide +kernel⟩⟩
set_option maxRecDepth 20000 in
theorem gw506 : Cond.methodLink RX12 429 (ri_Yn 200) ∈ ri_G := ri_tg8 (List.mem_of_getElem? (i := 189) rfl) rfl
set_option maxRecDepth 20000 in
theorem mw200v : Cond.instanceMethod (ri_Yn 200) ∈ ri_G ∧ Cond.selects (ri_Yn 200).cls (ri_Yn 200) (ri_Yn 200) ∈ ri_G ∧ Cond.initialized (ri_Yn 200).cls ∈ ri_G ∧ ((ri_Yn 200).cls ≠ "java/lang/invoke/MethodHandle" ∧ (ri_Yn 200).cls ≠ "java/lang/invoke/VarHandle" ∧ (parseMethodDescriptor (ri_Yn 200).desc).map (fun d => d.parameters.length) = some 2) := ⟨ri_tg8 (List.mem_of_getElem? (i := 191) rfl) rfl, ri_ps8 _ (List.mem_of_getElem? (i := 6) rfl : (⟨"FactorNetsModel", "unties", "(II)V"⟩, 46) ∈ lw_privs_8), ri_tg1 (List.mem_of_getElem? (i := 13) rfl) rfl, ⟨by decide +kernel, by decide +kernel, by decide +kernel⟩⟩
set_option maxRecDepth 20000 in
theorem gw507 : Cond.methodLink RX12 432 (ri_Yn 301) ∈ ri_G := ri_tg8 (List.mem_of_getElem? (i := 193) rfl) rfl
set_option maxRecDepth 20000 in
theorem mw301v : Cond.instanceMethod (ri_Yn 301) ∈ ri_G ∧ Cond.selects (ri_Yn 301).cls (ri_Yn 301) (ri_Yn 301) ∈ ri_G ∧ Cond.initialized (ri_Yn 301).cls ∈ ri_G ∧ ((ri_Yn 301).cls ≠ "java/lang/invoke/MethodHandle" ∧ (ri_Yn 301).cls ≠ "java/lang/invoke/VarHandle" ∧ (parseMethodDescriptor (ri_Yn 301).desc).map (fun d => d.parameters.length) = some 0) := ⟨ri_tg8 (List.mem_of_getElem? (i := 195) rfl) rfl, ri_ps8 _ (List.mem_of_getElem? (i := 7) rfl : (⟨"FactorNetsModel", "partsNow", "()I"⟩, 46) ∈ lw_privs_8), ri_tg1 (List.mem_of_getElem? (i := 13) rfl) rfl, ⟨by decide +kernel, by decide +kernel, by decide +kernel⟩⟩
set_option maxRecDepth 20000 in
theorem gw508 : Cond.methodLink RX12 435 (ri_Yn 302) ∈ ri_G := ri_tg8 (List.mem_of_getElem? (i := 185) rfl) rfl
set_option maxRecDepth 20000 in
theorem mw302v : Cond.instanceMethod (ri_Yn 302) ∈ ri_G ∧ Cond.selects (ri_Yn 302).cls (ri_Yn 302) (ri_Yn 302) ∈ ri_G ∧ Cond.initialized (ri_Yn 302).cls ∈ ri_G ∧ ((ri_Yn 302).cls ≠ "java/lang/invoke/MethodHandle" ∧ (ri_Yn 302).cls ≠ "java/lang/invoke/VarHandle" ∧ (parseMethodDescriptor (ri_Yn 302).desc).map (fun d => d.parameters.length) = some 2) := ⟨ri_tg8 (List.mem_of_getElem? (i := 187) rfl) rfl, ri_ps8 _ (List.mem_of_getElem? (i := 5) rfl : (⟨"FactorNetsModel", "withoutOf", "(II)I"⟩, 46) ∈ lw_privs_8), ri_tg1 (List.mem_of_getElem? (i := 13) rfl) rfl, ⟨by decide +kernel, by decide +kernel, by decide +kernel⟩⟩
set_option maxRecDepth 20000 in
theorem gw509 : Cond.methodLink RX12 438 (ri_Yn 306) ∈ ri_G := ri_tg8 (List.mem_of_getElem? (i := 209) rfl) rfl
set_option maxRecDepth 20000 in
theorem mw306v : Cond.instanceMethod (ri_Yn 306) ∈ ri_G ∧ Cond.selects (ri_Yn 306).cls (ri_Yn 306) (ri_Yn 306) ∈ ri_G ∧ Cond.initialized (ri_Yn 306).cls ∈ ri_G ∧ ((ri_Yn 306).cls ≠ "java/lang/invoke/MethodHandle" ∧ (ri_Yn 306).cls ≠ "java/lang/invoke/VarHandle" ∧ (parseMethodDescriptor (ri_Yn 306).desc).map (fun d => d.parameters.length) = some 0) := ⟨ri_tg8 (List.mem_of_getElem? (i := 211) rfl) rfl, ri_ps8 _ (List.mem_of_getElem? (i := 8) rfl : (⟨"FactorNetsModel", "isFull", "()Z"⟩, 46) ∈ lw_privs_8), ri_tg1 (List.mem_of_getElem? (i := 13) rfl) rfl, ⟨by decide +kernel, by decide +kernel, by decide +kernel⟩⟩
set_option maxRecDepth 20000 in
theorem gw510 : Cond.methodLink RX12 441 (ri_Yn 307) ∈ ri_G := ri_tg8 (List.mem_of_getElem? (i := 213) rfl) rfl
set_option maxRecDepth 20000 in
theorem mw307v : Cond.instanceMethod (ri_Yn 307) ∈ ri_G ∧ Cond.selects (ri_Yn 307).cls (ri_Yn 307) (ri_Yn 307) ∈ ri_G ∧ Cond.initialized (ri_Yn 307).cls ∈ ri_G ∧ ((ri_Yn 307).cls ≠ "java/lang/invoke/MethodHandle" ∧ (ri_Yn 307).cls ≠ "java/lang/invoke/VarHandle" ∧ (parseMethodDescriptor (ri_Yn 307).desc).map (fun d => d.parameters.length) = some 0) := ⟨ri_tg8 (List.mem_of_getElem? (i := 215) rfl) rfl, ri_ps8 _ (List.mem_of_getElem? (i := 9) rfl : (⟨"FactorNetsModel", "keeps", "()V"⟩, 46) ∈ lw_privs_8), ri_tg1 (List.mem_of_getElem? (i := 13) rfl) rfl, ⟨by decide +kernel, by decide +kernel, by decide +kernel⟩⟩
set_option maxRecDepth 20000 in
theorem gw511 : Cond.constantLong RX12 444 (Int64.ofNat 10) ∈ ri_G := ri_tg8 (List.mem_of_getElem? (i := 225) rfl) rfl
set_option maxRecDepth 20000 in
theorem gw512 : Cond.methodLink RX12 446 (ri_Yn 308) ∈ ri_G := ri_tg9 (List.mem_of_getElem? (i := 2) rfl) rfl
set_option maxRecDepth 20000 in
theorem mw308v : Cond.instanceMethod (ri_Yn 308) ∈ ri_G ∧ Cond.selects (ri_Yn 308).cls (ri_Yn 308) (ri_Yn 308) ∈ ri_G ∧ Cond.initialized (ri_Yn 308).cls ∈ ri_G ∧ ((ri_Yn 308).cls ≠ "java/lang/invoke/MethodHandle" ∧ (ri_Yn 308).cls ≠ "java/lang/invoke/VarHandle" ∧ (parseMethodDescriptor (ri_Yn 308).desc).map (fun d => d.parameters.length) = some 1) := ⟨ri_tg9 (List.mem_of_getElem? (i := 4) rfl) rfl, ri_ps8 _ (List.mem_of_getElem? (i := 10) rfl : (⟨"FactorNetsModel", "goesBack", "(I)V"⟩, 46) ∈ lw_privs_8), ri_tg1 (List.mem_of_getElem? (i := 13) rfl) rfl, ⟨by decide +kernel, by decide +kernel, by decide +kernel⟩⟩
set_option maxRecDepth 20000 in
theorem gw513 : Cond.constant RJ6 265 (Int32.ofNat 1431655765) ∈ ri_G := ri_tg3 (List.mem_of_getElem? (i := 109) rfl) rfl
set_option maxRecDepth 20000 in
theorem gw514 : Cond.constant RJ6 266 (Int32.ofNat 858993459) ∈ ri_G := ri_tg3 (List.mem_of_getElem? (i := 110) rfl) rfl
set_option maxRecDepth 20000 in
theorem gw515 : Cond.constant RJ6 267 (Int32.ofNat 252645135) ∈ ri_G := ri_tg3 (List.mem_of_getElem? (i := 111) rfl) rfl
set_option maxRecDepth 20000 in
theorem gw516 : Cond.classLink RL 7 RX11 ∈ ri_G := ri_tg1 (List.mem_of_getElem? (i := 22) rfl) rfl
set_option maxRecDepth 20000 in
theorem gw517 : Cond.instantiable RX11 19 ∈ ri_G := ri_tg1 (List.mem_of_getElem? (i := 23) rfl) rfl
set_option maxRecDepth 20000 in
theorem gw518 : Cond.initialized RX11 ∈ ri_G := ri_tg1 (List.mem_of_getElem? (i := 1) rfl) rfl
set_option maxRecDepth 20000 in
theorem gw519 : Cond.methodLink RL 9 (ri_Yn 92) ∈ ri_G := ri_tg1 (List.mem_of_getElem? (i := 24) rfl) rfl
set_option maxRecDepth 20000 in
theorem mw92i : (ri_Yn 92).name = "<init>" ∧ ri_Yr 92 = none ∧ Cond.instanceMethod (ri_Yn 92) ∈ ri_G ∧ Cond.initialized (ri_Yn 92).cls ∈ ri_G ∧ ((ri_Yn 92).cls ≠ "java/lang/invoke/MethodHandle" ∧ (ri_Yn 92).cls ≠ "java/lang/invoke/VarHandle" ∧ (parseMethodDescriptor (ri_Yn 92).desc).map (fun d => d.parameters.length) = some 0) := ⟨rfl, rfl, ri_tg1 (List.mem_of_getElem? (i := 25) rfl) rfl, ri_tg1 (List.mem_of_getElem? (i := 1) rfl) rfl, ⟨by decide +kernel, by decide +kernel, by decide +kernel⟩⟩
set_option maxRecDepth 20000 in
theorem gw520 : Cond.classLink RL 10 RX12 ∈ ri_G := ri_tg6 (List.mem_of_getElem? (i := 43) rfl) rfl
set_option maxRecDepth 20000 in
theorem gw521 : Cond.instantiable RX12 46 ∈ ri_G := ri_tg6 (List.mem_of_getElem? (i := 44) rfl) rfl
set_option maxRecDepth 20000 in
theorem gw522 : Cond.initialized RX12 ∈ ri_G := ri_tg1 (List.mem_of_getElem? (i := 13) rfl) rfl
set_option maxRecDepth 20000 in
theorem gw523 : Cond.methodLink RL 12 (ri_Yn 189) ∈ ri_G := ri_tg6 (List.mem_of_getElem? (i := 45) rfl) rfl
set_option maxRecDepth 20000 in
theorem mw189i : (ri_Yn 189).name = "<init>" ∧ ri_Yr 189 = none ∧ Cond.instanceMethod (ri_Yn 189) ∈ ri_G ∧ Cond.initialized (ri_Yn 189).cls ∈ ri_G ∧ ((ri_Yn 189).cls ≠ "java/lang/invoke/MethodHandle" ∧ (ri_Yn 189).cls ≠ "java/lang/invoke/VarHandle" ∧ (parseMethodDescriptor (ri_Yn 189).desc).map (fun d => d.parameters.length) = some 0) := ⟨rfl, rfl, ri_tg6 (List.mem_of_getElem? (i := 46) rfl) rfl, ri_tg1 (List.mem_of_getElem? (i := 13) rfl) rfl, ⟨by decide +kernel, by decide +kernel, by decide +kernel⟩⟩
set_option maxRecDepth 20000 in
theorem gw524 : Cond.methodLink RL 13 (ri_Yn 93) ∈ ri_G := ri_tg2 (List.mem_of_getElem? (i := 177) rfl) rfl
set_option maxRecDepth 20000 in
theorem mw93v : Cond.instanceMethod (ri_Yn 93) ∈ ri_G ∧ Cond.selects (ri_Yn 93).cls (ri_Yn 93) (ri_Yn 93) ∈ ri_G ∧ Cond.initialized (ri_Yn 93).cls ∈ ri_G ∧ ((ri_Yn 93).cls ≠ "java/lang/invoke/MethodHandle" ∧ (ri_Yn 93).cls ≠ "java/lang/invoke/VarHandle" ∧ (parseMethodDescriptor (ri_Yn 93).desc).map (fun d => d.parameters.length) = some 5) := ⟨ri_tg2 (List.mem_of_getElem? (i := 178) rfl) rfl, ri_tg2 (List.mem_of_getElem? (i := 179) rfl) rfl, ri_tg1 (List.mem_of_getElem? (i := 1) rfl) rfl, ⟨by decide +kernel, by decide +kernel, by decide +kernel⟩⟩
set_option maxRecDepth 20000 in
theorem gw525 : Cond.methodLink RL 17 (ri_Yn 190) ∈ ri_G := ri_tg6 (List.mem_of_getElem? (i := 189) rfl) rfl
set_option maxRecDepth 20000 in
theorem mw190v : Cond.instanceMethod (ri_Yn 190) ∈ ri_G ∧ Cond.selects (ri_Yn 190).cls (ri_Yn 190) (ri_Yn 190) ∈ ri_G ∧ Cond.initialized (ri_Yn 190).cls ∈ ri_G ∧ ((ri_Yn 190).cls ≠ "java/lang/invoke/MethodHandle" ∧ (ri_Yn 190).cls ≠ "java/lang/invoke/VarHandle" ∧ (parseMethodDescriptor (ri_Yn 190).desc).map (fun d => d.parameters.length) = some 5) := ⟨ri_tg6 (List.mem_of_getElem? (i := 190) rfl) rfl, ri_tg6 (List.mem_of_getElem? (i := 191) rfl) rfl, ri_tg1 (List.mem_of_getElem? (i := 13) rfl) rfl, ⟨by decide +kernel, by decide +kernel, by decide +kernel⟩⟩
set_option maxRecDepth 20000 in
theorem gw526 : Cond.methodLink RL 18 (ri_Yn 94) ∈ ri_G := ri_tg2 (List.mem_of_getElem? (i := 185) rfl) rfl
set_option maxRecDepth 20000 in
theorem mw94v : Cond.instanceMethod (ri_Yn 94) ∈ ri_G ∧ Cond.selects (ri_Yn 94).cls (ri_Yn 94) (ri_Yn 94) ∈ ri_G ∧ Cond.initialized (ri_Yn 94).cls ∈ ri_G ∧ ((ri_Yn 94).cls ≠ "java/lang/invoke/MethodHandle" ∧ (ri_Yn 94).cls ≠ "java/lang/invoke/VarHandle" ∧ (parseMethodDescriptor (ri_Yn 94).desc).map (fun d => d.parameters.length) = some 1) := ⟨ri_tg2 (List.mem_of_getElem? (i := 186) rfl) rfl, ri_tg2 (List.mem_of_getElem? (i := 187) rfl) rfl, ri_tg1 (List.mem_of_getElem? (i := 1) rfl) rfl, ⟨by decide +kernel, by decide +kernel, by decide +kernel⟩⟩
set_option maxRecDepth 20000 in
theorem gw527 : Cond.methodLink RL 22 (ri_Yn 191) ∈ ri_G := ri_tg6 (List.mem_of_getElem? (i := 193) rfl) rfl
set_option maxRecDepth 20000 in
theorem mw191v : Cond.instanceMethod (ri_Yn 191) ∈ ri_G ∧ Cond.selects (ri_Yn 191).cls (ri_Yn 191) (ri_Yn 191) ∈ ri_G ∧ Cond.initialized (ri_Yn 191).cls ∈ ri_G ∧ ((ri_Yn 191).cls ≠ "java/lang/invoke/MethodHandle" ∧ (ri_Yn 191).cls ≠ "java/lang/invoke/VarHandle" ∧ (parseMethodDescriptor (ri_Yn 191).desc).map (fun d => d.parameters.length) = some 1) := ⟨ri_tg6 (List.mem_of_getElem? (i := 194) rfl) rfl, ri_tg6 (List.mem_of_getElem? (i := 195) rfl) rfl, ri_tg1 (List.mem_of_getElem? (i := 13) rfl) rfl, ⟨by decide +kernel, by decide +kernel, by decide +kernel⟩⟩
set_option maxRecDepth 20000 in
theorem gw528 : Cond.methodLink RL 23 (ri_Yn 95) ∈ ri_G := ri_tg2 (List.mem_of_getElem? (i := 189) rfl) rfl
set_option maxRecDepth 20000 in
theorem mw95v : Cond.instanceMethod (ri_Yn 95) ∈ ri_G ∧ Cond.selects (ri_Yn 95).cls (ri_Yn 95) (ri_Yn 95) ∈ ri_G ∧ Cond.initialized (ri_Yn 95).cls ∈ ri_G ∧ ((ri_Yn 95).cls ≠ "java/lang/invoke/MethodHandle" ∧ (ri_Yn 95).cls ≠ "java/lang/invoke/VarHandle" ∧ (parseMethodDescriptor (ri_Yn 95).desc).map (fun d => d.parameters.length) = some 0) := ⟨ri_tg2 (List.mem_of_getElem? (i := 190) rfl) rfl, ri_tg2 (List.mem_of_getElem? (i := 191) rfl) rfl, ri_tg1 (List.mem_of_getElem? (i := 1) rfl) rfl, ⟨by decide +kernel, by decide +kernel, by decide +kernel⟩⟩
set_option maxRecDepth 20000 in
theorem gw529 : Cond.methodLink RL 27 (ri_Yn 206) ∈ ri_G := ri_tg6 (List.mem_of_getElem? (i := 200) rfl) rfl
set_option maxRecDepth 20000 in
theorem mw206v : Cond.instanceMethod (ri_Yn 206) ∈ ri_G ∧ Cond.selects (ri_Yn 206).cls (ri_Yn 206) (ri_Yn 206) ∈ ri_G ∧ Cond.initialized (ri_Yn 206).cls ∈ ri_G ∧ ((ri_Yn 206).cls ≠ "java/lang/invoke/MethodHandle" ∧ (ri_Yn 206).cls ≠ "java/lang/invoke/VarHandle" ∧ (parseMethodDescriptor (ri_Yn 206).desc).map (fun d => d.parameters.length) = some 0) := ⟨ri_tg6 (List.mem_of_getElem? (i := 201) rfl) rfl, ri_tg6 (List.mem_of_getElem? (i := 202) rfl) rfl, ri_tg1 (List.mem_of_getElem? (i := 13) rfl) rfl, ⟨by decide +kernel, by decide +kernel, by decide +kernel⟩⟩
set_option maxRecDepth 20000 in
theorem gw530 : Cond.methodLink RL 28 (ri_Yn 96) ∈ ri_G := ri_tg3 (List.mem_of_getElem? (i := 136) rfl) rfl
set_option maxRecDepth 20000 in
theorem mw96v : Cond.instanceMethod (ri_Yn 96) ∈ ri_G ∧ Cond.selects (ri_Yn 96).cls (ri_Yn 96) (ri_Yn 96) ∈ ri_G ∧ Cond.initialized (ri_Yn 96).cls ∈ ri_G ∧ ((ri_Yn 96).cls ≠ "java/lang/invoke/MethodHandle" ∧ (ri_Yn 96).cls ≠ "java/lang/invoke/VarHandle" ∧ (parseMethodDescriptor (ri_Yn 96).desc).map (fun d => d.parameters.length) = some 1) := ⟨ri_tg3 (List.mem_of_getElem? (i := 137) rfl) rfl, ri_tg3 (List.mem_of_getElem? (i := 138) rfl) rfl, ri_tg1 (List.mem_of_getElem? (i := 1) rfl) rfl, ⟨by decide +kernel, by decide +kernel, by decide +kernel⟩⟩
set_option maxRecDepth 20000 in
theorem gw531 : Cond.methodLink RL 31 (ri_Yn 207) ∈ ri_G := ri_tg7 (List.mem_of_getElem? (i := 49) rfl) rfl
set_option maxRecDepth 20000 in
theorem mw207v : Cond.instanceMethod (ri_Yn 207) ∈ ri_G ∧ Cond.selects (ri_Yn 207).cls (ri_Yn 207) (ri_Yn 207) ∈ ri_G ∧ Cond.initialized (ri_Yn 207).cls ∈ ri_G ∧ ((ri_Yn 207).cls ≠ "java/lang/invoke/MethodHandle" ∧ (ri_Yn 207).cls ≠ "java/lang/invoke/VarHandle" ∧ (parseMethodDescriptor (ri_Yn 207).desc).map (fun d => d.parameters.length) = some 1) := ⟨ri_tg7 (List.mem_of_getElem? (i := 50) rfl) rfl, ri_tg7 (List.mem_of_getElem? (i := 51) rfl) rfl, ri_tg1 (List.mem_of_getElem? (i := 13) rfl) rfl, ⟨by decide +kernel, by decide +kernel, by decide +kernel⟩⟩
set_option maxRecDepth 20000 in
theorem gw532 : Cond.methodLink RL 32 (ri_Yn 97) ∈ ri_G := ri_tg3 (List.mem_of_getElem? (i := 140) rfl) rfl
set_option maxRecDepth 20000 in
theorem mw97v : Cond.instanceMethod (ri_Yn 97) ∈ ri_G ∧ Cond.selects (ri_Yn 97).cls (ri_Yn 97) (ri_Yn 97) ∈ ri_G ∧ Cond.initialized (ri_Yn 97).cls ∈ ri_G ∧ ((ri_Yn 97).cls ≠ "java/lang/invoke/MethodHandle" ∧ (ri_Yn 97).cls ≠ "java/lang/invoke/VarHandle" ∧ (parseMethodDescriptor (ri_Yn 97).desc).map (fun d => d.parameters.length) = some 1) := ⟨ri_tg3 (List.mem_of_getElem? (i := 141) rfl) rfl, ri_tg3 (List.mem_of_getElem? (i := 142) rfl) rfl, ri_tg1 (List.mem_of_getElem? (i := 1) rfl) rfl, ⟨by decide +kernel, by decide +kernel, by decide +kernel⟩⟩
set_option maxRecDepth 20000 in
theorem gw533 : Cond.methodLink RL 35 (ri_Yn 225) ∈ ri_G := ri_tg7 (List.mem_of_getElem? (i := 53) rfl) rfl
set_option maxRecDepth 20000 in
theorem mw225v : Cond.instanceMethod (ri_Yn 225) ∈ ri_G ∧ Cond.selects (ri_Yn 225).cls (ri_Yn 225) (ri_Yn 225) ∈ ri_G ∧ Cond.initialized (ri_Yn 225).cls ∈ ri_G ∧ ((ri_Yn 225).cls ≠ "java/lang/invoke/MethodHandle" ∧ (ri_Yn 225).cls ≠ "java/lang/invoke/VarHandle" ∧ (parseMethodDescriptor (ri_Yn 225).desc).map (fun d => d.parameters.length) = some 1) := ⟨ri_tg7 (List.mem_of_getElem? (i := 54) rfl) rfl, ri_tg7 (List.mem_of_getElem? (i := 55) rfl) rfl, ri_tg1 (List.mem_of_getElem? (i := 13) rfl) rfl, ⟨by decide +kernel, by decide +kernel, by decide +kernel⟩⟩
set_option maxRecDepth 20000 in
theorem gw534 : Cond.methodLink RL 36 (ri_Yn 98) ∈ ri_G := ri_tg3 (List.mem_of_getElem? (i := 211) rfl) rfl
set_option maxRecDepth 20000 in
theorem mw98v : Cond.instanceMethod (ri_Yn 98) ∈ ri_G ∧ Cond.selects (ri_Yn 98).cls (ri_Yn 98) (ri_Yn 98) ∈ ri_G ∧ Cond.initialized (ri_Yn 98).cls ∈ ri_G ∧ ((ri_Yn 98).cls ≠ "java/lang/invoke/MethodHandle" ∧ (ri_Yn 98).cls ≠ "java/lang/invoke/VarHandle" ∧ (parseMethodDescriptor (ri_Yn 98).desc).map (fun d => d.parameters.length) = some 2) := ⟨ri_tg3 (List.mem_of_getElem? (i := 212) rfl) rfl, ri_tg3 (List.mem_of_getElem? (i := 213) rfl) rfl, ri_tg1 (List.mem_of_getElem? (i := 1) rfl) rfl, ⟨by decide +kernel, by decide +kernel, by decide +kernel⟩⟩
set_option maxRecDepth 20000 in
theorem gw535 : Cond.methodLink RL 40 (ri_Yn 226) ∈ ri_G := ri_tg7 (List.mem_of_getElem? (i := 85) rfl) rfl
set_option maxRecDepth 20000 in
theorem mw226v : Cond.instanceMethod (ri_Yn 226) ∈ ri_G ∧ Cond.selects (ri_Yn 226).cls (ri_Yn 226) (ri_Yn 226) ∈ ri_G ∧ Cond.initialized (ri_Yn 226).cls ∈ ri_G ∧ ((ri_Yn 226).cls ≠ "java/lang/invoke/MethodHandle" ∧ (ri_Yn 226).cls ≠ "java/lang/invoke/VarHandle" ∧ (parseMethodDescriptor (ri_Yn 226).desc).map (fun d => d.parameters.length) = some 2) := ⟨ri_tg7 (List.mem_of_getElem? (i := 86) rfl) rfl, ri_tg7 (List.mem_of_getElem? (i := 87) rfl) rfl, ri_tg1 (List.mem_of_getElem? (i := 13) rfl) rfl, ⟨by decide +kernel, by decide +kernel, by decide +kernel⟩⟩
set_option maxRecDepth 20000 in
theorem gw536 : Cond.methodLink RL 41 (ri_Yn 99) ∈ ri_G := ri_tg3 (List.mem_of_getElem? (i := 220) rfl) rfl
set_option maxRecDepth 20000 in
theorem mw99v : Cond.instanceMethod (ri_Yn 99) ∈ ri_G ∧ Cond.selects (ri_Yn 99).cls (ri_Yn 99) (ri_Yn 99) ∈ ri_G ∧ Cond.initialized (ri_Yn 99).cls ∈ ri_G ∧ ((ri_Yn 99).cls ≠ "java/lang/invoke/MethodHandle" ∧ (ri_Yn 99).cls ≠ "java/lang/invoke/VarHandle" ∧ (parseMethodDescriptor (ri_Yn 99).desc).map (fun d => d.parameters.length) = some 2) := ⟨ri_tg3 (List.mem_of_getElem? (i := 221) rfl) rfl, ri_tg3 (List.mem_of_getElem? (i := 222) rfl) rfl, ri_tg1 (List.mem_of_getElem? (i := 1) rfl) rfl, ⟨by decide +kernel, by decide +kernel, by decide +kernel⟩⟩
set_option maxRecDepth 20000 in
theorem gw537 : Cond.methodLink RL 44 (ri_Yn 228) ∈ ri_G := ri_tg7 (List.mem_of_getElem? (i := 93) rfl) rfl
set_option maxRecDepth 20000 in
theorem mw228v : Cond.instanceMethod (ri_Yn 228) ∈ ri_G ∧ Cond.selects (ri_Yn 228).cls (ri_Yn 228) (ri_Yn 228) ∈ ri_G ∧ Cond.initialized (ri_Yn 228).cls ∈ ri_G ∧ ((ri_Yn 228).cls ≠ "java/lang/invoke/MethodHandle" ∧ (ri_Yn 228).cls ≠ "java/lang/invoke/VarHandle" ∧ (parseMethodDescriptor (ri_Yn 228).desc).map (fun d => d.parameters.length) = some 2) := ⟨ri_tg7 (List.mem_of_getElem? (i := 94) rfl) rfl, ri_tg7 (List.mem_of_getElem? (i := 95) rfl) rfl, ri_tg1 (List.mem_of_getElem? (i := 13) rfl) rfl, ⟨by decide +kernel, by decide +kernel, by decide +kernel⟩⟩
set_option maxRecDepth 20000 in
theorem gw538 : Cond.methodLink RL 45 (ri_Yn 100) ∈ ri_G := ri_tg3 (List.mem_of_getElem? (i := 232) rfl) rfl
set_option maxRecDepth 20000 in
theorem mw100v : Cond.instanceMethod (ri_Yn 100) ∈ ri_G ∧ Cond.selects (ri_Yn 100).cls (ri_Yn 100) (ri_Yn 100) ∈ ri_G ∧ Cond.initialized (ri_Yn 100).cls ∈ ri_G ∧ ((ri_Yn 100).cls ≠ "java/lang/invoke/MethodHandle" ∧ (ri_Yn 100).cls ≠ "java/lang/invoke/VarHandle" ∧ (parseMethodDescriptor (ri_Yn 100).desc).map (fun d => d.parameters.length) = some 1) := ⟨ri_tg3 (List.mem_of_getElem? (i := 233) rfl) rfl, ri_tg3 (List.mem_of_getElem? (i := 234) rfl) rfl, ri_tg1 (List.mem_of_getElem? (i := 1) rfl) rfl, ⟨by decide +kernel, by decide +kernel, by decide +kernel⟩⟩
set_option maxRecDepth 20000 in
theorem gw539 : Cond.methodLink RL 48 (ri_Yn 229) ∈ ri_G := ri_tg7 (List.mem_of_getElem? (i := 109) rfl) rfl
set_option maxRecDepth 20000 in
theorem mw229v : Cond.instanceMethod (ri_Yn 229) ∈ ri_G ∧ Cond.selects (ri_Yn 229).cls (ri_Yn 229) (ri_Yn 229) ∈ ri_G ∧ Cond.initialized (ri_Yn 229).cls ∈ ri_G ∧ ((ri_Yn 229).cls ≠ "java/lang/invoke/MethodHandle" ∧ (ri_Yn 229).cls ≠ "java/lang/invoke/VarHandle" ∧ (parseMethodDescriptor (ri_Yn 229).desc).map (fun d => d.parameters.length) = some 1) := ⟨ri_tg7 (List.mem_of_getElem? (i := 110) rfl) rfl, ri_tg7 (List.mem_of_getElem? (i := 111) rfl) rfl, ri_tg1 (List.mem_of_getElem? (i := 13) rfl) rfl, ⟨by decide +kernel, by decide +kernel, by decide +kernel⟩⟩
set_option maxRecDepth 20000 in
theorem gw540 : Cond.methodLink RL 49 (ri_Yn 101) ∈ ri_G := ri_tg4 (List.mem_of_getElem? (i := 0) rfl) rfl
set_option maxRecDepth 20000 in
theorem mw101v : Cond.instanceMethod (ri_Yn 101) ∈ ri_G ∧ Cond.selects (ri_Yn 101).cls (ri_Yn 101) (ri_Yn 101) ∈ ri_G ∧ Cond.initialized (ri_Yn 101).cls ∈ ri_G ∧ ((ri_Yn 101).cls ≠ "java/lang/invoke/MethodHandle" ∧ (ri_Yn 101).cls ≠ "java/lang/invoke/VarHandle" ∧ (parseMethodDescriptor (ri_Yn 101).desc).map (fun d => d.parameters.length) = some 2) := ⟨ri_tg4 (List.mem_of_getElem? (i := 1) rfl) rfl, ri_tg4 (List.mem_of_getElem? (i := 2) rfl) rfl, ri_tg1 (List.mem_of_getElem? (i := 1) rfl) rfl, ⟨by decide +kernel, by decide +kernel, by decide +kernel⟩⟩
set_option maxRecDepth 20000 in
theorem gw541 : Cond.methodLink RL 52 (ri_Yn 230) ∈ ri_G := ri_tg7 (List.mem_of_getElem? (i := 113) rfl) rfl
set_option maxRecDepth 20000 in
theorem mw230v : Cond.instanceMethod (ri_Yn 230) ∈ ri_G ∧ Cond.selects (ri_Yn 230).cls (ri_Yn 230) (ri_Yn 230) ∈ ri_G ∧ Cond.initialized (ri_Yn 230).cls ∈ ri_G ∧ ((ri_Yn 230).cls ≠ "java/lang/invoke/MethodHandle" ∧ (ri_Yn 230).cls ≠ "java/lang/invoke/VarHandle" ∧ (parseMethodDescriptor (ri_Yn 230).desc).map (fun d => d.parameters.length) = some 2) := ⟨ri_tg7 (List.mem_of_getElem? (i := 114) rfl) rfl, ri_tg7 (List.mem_of_getElem? (i := 115) rfl) rfl, ri_tg1 (List.mem_of_getElem? (i := 13) rfl) rfl, ⟨by decide +kernel, by decide +kernel, by decide +kernel⟩⟩
set_option maxRecDepth 20000 in
theorem gw542 : Cond.methodLink RL 53 (ri_Yn 102) ∈ ri_G := ri_tg4 (List.mem_of_getElem? (i := 5) rfl) rfl
set_option maxRecDepth 20000 in
theorem mw102v : Cond.instanceMethod (ri_Yn 102) ∈ ri_G ∧ Cond.selects (ri_Yn 102).cls (ri_Yn 102) (ri_Yn 102) ∈ ri_G ∧ Cond.initialized (ri_Yn 102).cls ∈ ri_G ∧ ((ri_Yn 102).cls ≠ "java/lang/invoke/MethodHandle" ∧ (ri_Yn 102).cls ≠ "java/lang/invoke/VarHandle" ∧ (parseMethodDescriptor (ri_Yn 102).desc).map (fun d => d.parameters.length) = some 2) := ⟨ri_tg4 (List.mem_of_getElem? (i := 6) rfl) rfl, ri_tg4 (List.mem_of_getElem? (i := 7) rfl) rfl, ri_tg1 (List.mem_of_getElem? (i := 1) rfl) rfl, ⟨by decide +kernel, by decide +kernel, by decide +kernel⟩⟩
set_option maxRecDepth 20000 in
theorem gw543 : Cond.methodLink RL 57 (ri_Yn 231) ∈ ri_G := ri_tg7 (List.mem_of_getElem? (i := 117) rfl) rfl
set_option maxRecDepth 20000 in
theorem mw231v : Cond.instanceMethod (ri_Yn 231) ∈ ri_G ∧ Cond.selects (ri_Yn 231).cls (ri_Yn 231) (ri_Yn 231) ∈ ri_G ∧ Cond.initialized (ri_Yn 231).cls ∈ ri_G ∧ ((ri_Yn 231).cls ≠ "java/lang/invoke/MethodHandle" ∧ (ri_Yn 231).cls ≠ "java/lang/invoke/VarHandle" ∧ (parseMethodDescriptor (ri_Yn 231).desc).map (fun d => d.parameters.length) = some 2) := ⟨ri_tg7 (List.mem_of_getElem? (i := 118) rfl) rfl, ri_tg7 (List.mem_of_getElem? (i := 119) rfl) rfl, ri_tg1 (List.mem_of_getElem? (i := 13) rfl) rfl, ⟨by decide +kernel, by decide +kernel, by decide +kernel⟩⟩
set_option maxRecDepth 20000 in
theorem gw544 : Cond.methodLink RL 58 (ri_Yn 103) ∈ ri_G := ri_tg4 (List.mem_of_getElem? (i := 21) rfl) rfl
set_option maxRecDepth 20000 in
theorem mw103v : Cond.instanceMethod (ri_Yn 103) ∈ ri_G ∧ Cond.selects (ri_Yn 103).cls (ri_Yn 103) (ri_Yn 103) ∈ ri_G ∧ Cond.initialized (ri_Yn 103).cls ∈ ri_G ∧ ((ri_Yn 103).cls ≠ "java/lang/invoke/MethodHandle" ∧ (ri_Yn 103).cls ≠ "java/lang/invoke/VarHandle" ∧ (parseMethodDescriptor (ri_Yn 103).desc).map (fun d => d.parameters.length) = some 2) := ⟨ri_tg4 (List.mem_of_getElem? (i := 22) rfl) rfl, ri_tg4 (List.mem_of_getElem? (i := 23) rfl) rfl, ri_tg1 (List.mem_of_getElem? (i := 1) rfl) rfl, ⟨by decide +kernel, by decide +kernel, by decide +kernel⟩⟩
set_option maxRecDepth 20000 in
theorem gw545 : Cond.methodLink RL 61 (ri_Yn 233) ∈ ri_G := ri_tg7 (List.mem_of_getElem? (i := 122) rfl) rfl
set_option maxRecDepth 20000 in
theorem mw233v : Cond.instanceMethod (ri_Yn 233) ∈ ri_G ∧ Cond.selects (ri_Yn 233).cls (ri_Yn 233) (ri_Yn 233) ∈ ri_G ∧ Cond.initialized (ri_Yn 233).cls ∈ ri_G ∧ ((ri_Yn 233).cls ≠ "java/lang/invoke/MethodHandle" ∧ (ri_Yn 233).cls ≠ "java/lang/invoke/VarHandle" ∧ (parseMethodDescriptor (ri_Yn 233).desc).map (fun d => d.parameters.length) = some 2) := ⟨ri_tg7 (List.mem_of_getElem? (i := 123) rfl) rfl, ri_tg7 (List.mem_of_getElem? (i := 124) rfl) rfl, ri_tg1 (List.mem_of_getElem? (i := 13) rfl) rfl, ⟨by decide +kernel, by decide +kernel, by decide +kernel⟩⟩
set_option maxRecDepth 20000 in
theorem gw546 : Cond.methodLink RL 62 (ri_Yn 104) ∈ ri_G := ri_tg4 (List.mem_of_getElem? (i := 29) rfl) rfl
set_option maxRecDepth 20000 in
theorem mw104v : Cond.instanceMethod (ri_Yn 104) ∈ ri_G ∧ Cond.selects (ri_Yn 104).cls (ri_Yn 104) (ri_Yn 104) ∈ ri_G ∧ Cond.initialized (ri_Yn 104).cls ∈ ri_G ∧ ((ri_Yn 104).cls ≠ "java/lang/invoke/MethodHandle" ∧ (ri_Yn 104).cls ≠ "java/lang/invoke/VarHandle" ∧ (parseMethodDescriptor (ri_Yn 104).desc).map (fun d => d.parameters.length) = some 2) := ⟨ri_tg4 (List.mem_of_getElem? (i := 30) rfl) rfl, ri_tg4 (List.mem_of_getElem? (i := 31) rfl) rfl, ri_tg1 (List.mem_of_getElem? (i := 1) rfl) rfl, ⟨by decide +kernel, by decide +kernel, by decide +kernel⟩⟩
set_option maxRecDepth 20000 in
theorem gw547 : Cond.methodLink RL 65 (ri_Yn 234) ∈ ri_G := ri_tg7 (List.mem_of_getElem? (i := 130) rfl) rfl
set_option maxRecDepth 20000 in
theorem mw234v : Cond.instanceMethod (ri_Yn 234) ∈ ri_G ∧ Cond.selects (ri_Yn 234).cls (ri_Yn 234) (ri_Yn 234) ∈ ri_G ∧ Cond.initialized (ri_Yn 234).cls ∈ ri_G ∧ ((ri_Yn 234).cls ≠ "java/lang/invoke/MethodHandle" ∧ (ri_Yn 234).cls ≠ "java/lang/invoke/VarHandle" ∧ (parseMethodDescriptor (ri_Yn 234).desc).map (fun d => d.parameters.length) = some 2) := ⟨ri_tg7 (List.mem_of_getElem? (i := 131) rfl) rfl, ri_tg7 (List.mem_of_getElem? (i := 132) rfl) rfl, ri_tg1 (List.mem_of_getElem? (i := 13) rfl) rfl, ⟨by decide +kernel, by decide +kernel, by decide +kernel⟩⟩
set_option maxRecDepth 20000 in
theorem gw548 : Cond.methodLink RL 66 (ri_Yn 105) ∈ ri_G := ri_tg4 (List.mem_of_getElem? (i := 33) rfl) rfl
set_option maxRecDepth 20000 in
theorem mw105v : Cond.instanceMethod (ri_Yn 105) ∈ ri_G ∧ Cond.selects (ri_Yn 105).cls (ri_Yn 105) (ri_Yn 105) ∈ ri_G ∧ Cond.initialized (ri_Yn 105).cls ∈ ri_G ∧ ((ri_Yn 105).cls ≠ "java/lang/invoke/MethodHandle" ∧ (ri_Yn 105).cls ≠ "java/lang/invoke/VarHandle" ∧ (parseMethodDescriptor (ri_Yn 105).desc).map (fun d => d.parameters.length) = some 2) := ⟨ri_tg4 (List.mem_of_getElem? (i := 34) rfl) rfl, ri_tg4 (List.mem_of_getElem? (i := 35) rfl) rfl, ri_tg1 (List.mem_of_getElem? (i := 1) rfl) rfl, ⟨by decide +kernel, by decide +kernel, by decide +kernel⟩⟩
set_option maxRecDepth 20000 in
theorem gw549 : Cond.methodLink RL 69 (ri_Yn 235) ∈ ri_G := ri_tg7 (List.mem_of_getElem? (i := 134) rfl) rfl
set_option maxRecDepth 20000 in
theorem mw235v : Cond.instanceMethod (ri_Yn 235) ∈ ri_G ∧ Cond.selects (ri_Yn 235).cls (ri_Yn 235) (ri_Yn 235) ∈ ri_G ∧ Cond.initialized (ri_Yn 235).cls ∈ ri_G ∧ ((ri_Yn 235).cls ≠ "java/lang/invoke/MethodHandle" ∧ (ri_Yn 235).cls ≠ "java/lang/invoke/VarHandle" ∧ (parseMethodDescriptor (ri_Yn 235).desc).map (fun d => d.parameters.length) = some 2) := ⟨ri_tg7 (List.mem_of_getElem? (i := 135) rfl) rfl, ri_tg7 (List.mem_of_getElem? (i := 136) rfl) rfl, ri_tg1 (List.mem_of_getElem? (i := 13) rfl) rfl, ⟨by decide +kernel, by decide +kernel, by decide +kernel⟩⟩
set_option maxRecDepth 20000 in
theorem gw550 : Cond.methodLink RL 70 (ri_Yn 106) ∈ ri_G := ri_tg4 (List.mem_of_getElem? (i := 37) rfl) rfl
set_option maxRecDepth 20000 in
theorem mw106v : Cond.instanceMethod (ri_Yn 106) ∈ ri_G ∧ Cond.selects (ri_Yn 106).cls (ri_Yn 106) (ri_Yn 106) ∈ ri_G ∧ Cond.initialized (ri_Yn 106).cls ∈ ri_G ∧ ((ri_Yn 106).cls ≠ "java/lang/invoke/MethodHandle" ∧ (ri_Yn 106).cls ≠ "java/lang/invoke/VarHandle" ∧ (parseMethodDescriptor (ri_Yn 106).desc).map (fun d => d.parameters.length) = some 1) := ⟨ri_tg4 (List.mem_of_getElem? (i := 38) rfl) rfl, ri_tg4 (List.mem_of_getElem? (i := 39) rfl) rfl, ri_tg1 (List.mem_of_getElem? (i := 1) rfl) rfl, ⟨by decide +kernel, by decide +kernel, by decide +kernel⟩⟩
set_option maxRecDepth 20000 in
theorem gw551 : Cond.methodLink RL 73 (ri_Yn 236) ∈ ri_G := ri_tg7 (List.mem_of_getElem? (i := 138) rfl) rfl
set_option maxRecDepth 20000 in
theorem mw236v : Cond.instanceMethod (ri_Yn 236) ∈ ri_G ∧ Cond.selects (ri_Yn 236).cls (ri_Yn 236) (ri_Yn 236) ∈ ri_G ∧ Cond.initialized (ri_Yn 236).cls ∈ ri_G ∧ ((ri_Yn 236).cls ≠ "java/lang/invoke/MethodHandle" ∧ (ri_Yn 236).cls ≠ "java/lang/invoke/VarHandle" ∧ (parseMethodDescriptor (ri_Yn 236).desc).map (fun d => d.parameters.length) = some 1) := ⟨ri_tg7 (List.mem_of_getElem? (i := 139) rfl) rfl, ri_tg7 (List.mem_of_getElem? (i := 140) rfl) rfl, ri_tg1 (List.mem_of_getElem? (i := 13) rfl) rfl, ⟨by decide +kernel, by decide +kernel, by decide +kernel⟩⟩
set_option maxRecDepth 20000 in
theorem gw552 : Cond.methodLink RL 74 (ri_Yn 107) ∈ ri_G := ri_tg4 (List.mem_of_getElem? (i := 41) rfl) rfl
set_option maxRecDepth 20000 in
theorem mw107v : Cond.instanceMethod (ri_Yn 107) ∈ ri_G ∧ Cond.selects (ri_Yn 107).cls (ri_Yn 107) (ri_Yn 107) ∈ ri_G ∧ Cond.initialized (ri_Yn 107).cls ∈ ri_G ∧ ((ri_Yn 107).cls ≠ "java/lang/invoke/MethodHandle" ∧ (ri_Yn 107).cls ≠ "java/lang/invoke/VarHandle" ∧ (parseMethodDescriptor (ri_Yn 107).desc).map (fun d => d.parameters.length) = some 2) := ⟨ri_tg4 (List.mem_of_getElem? (i := 42) rfl) rfl, ri_tg4 (List.mem_of_getElem? (i := 43) rfl) rfl, ri_tg1 (List.mem_of_getElem? (i := 1) rfl) rfl, ⟨by decide +kernel, by decide +kernel, by decide +kernel⟩⟩
set_option maxRecDepth 20000 in
theorem gw553 : Cond.methodLink RL 77 (ri_Yn 238) ∈ ri_G := ri_tg7 (List.mem_of_getElem? (i := 146) rfl) rfl
set_option maxRecDepth 20000 in
theorem mw238v : Cond.instanceMethod (ri_Yn 238) ∈ ri_G ∧ Cond.selects (ri_Yn 238).cls (ri_Yn 238) (ri_Yn 238) ∈ ri_G ∧ Cond.initialized (ri_Yn 238).cls ∈ ri_G ∧ ((ri_Yn 238).cls ≠ "java/lang/invoke/MethodHandle" ∧ (ri_Yn 238).cls ≠ "java/lang/invoke/VarHandle" ∧ (parseMethodDescriptor (ri_Yn 238).desc).map (fun d => d.parameters.length) = some 2) := ⟨ri_tg7 (List.mem_of_getElem? (i := 147) rfl) rfl, ri_tg7 (List.mem_of_getElem? (i := 148) rfl) rfl, ri_tg1 (List.mem_of_getElem? (i := 13) rfl) rfl, ⟨by decide +kernel, by decide +kernel, by decide +kernel⟩⟩
set_option maxRecDepth 20000 in
theorem gw554 : Cond.methodLink RL 78 (ri_Yn 108) ∈ ri_G := ri_tg4 (List.mem_of_getElem? (i := 68) rfl) rfl
set_option maxRecDepth 20000 in
theorem mw108v : Cond.instanceMethod (ri_Yn 108) ∈ ri_G ∧ Cond.selects (ri_Yn 108).cls (ri_Yn 108) (ri_Yn 108) ∈ ri_G ∧ Cond.initialized (ri_Yn 108).cls ∈ ri_G ∧ ((ri_Yn 108).cls ≠ "java/lang/invoke/MethodHandle" ∧ (ri_Yn 108).cls ≠ "java/lang/invoke/VarHandle" ∧ (parseMethodDescriptor (ri_Yn 108).desc).map (fun d => d.parameters.length) = some 1) := ⟨ri_tg4 (List.mem_of_getElem? (i := 69) rfl) rfl, ri_tg4 (List.mem_of_getElem? (i := 70) rfl) rfl, ri_tg1 (List.mem_of_getElem? (i := 1) rfl) rfl, ⟨by decide +kernel, by decide +kernel, by decide +kernel⟩⟩
set_option maxRecDepth 20000 in
theorem gw555 : Cond.methodLink RL 81 (ri_Yn 239) ∈ ri_G := ri_tg7 (List.mem_of_getElem? (i := 158) rfl) rfl
set_option maxRecDepth 20000 in
theorem mw239v : Cond.instanceMethod (ri_Yn 239) ∈ ri_G ∧ Cond.selects (ri_Yn 239).cls (ri_Yn 239) (ri_Yn 239) ∈ ri_G ∧ Cond.initialized (ri_Yn 239).cls ∈ ri_G ∧ ((ri_Yn 239).cls ≠ "java/lang/invoke/MethodHandle" ∧ (ri_Yn 239).cls ≠ "java/lang/invoke/VarHandle" ∧ (parseMethodDescriptor (ri_Yn 239).desc).map (fun d => d.parameters.length) = some 1) := ⟨ri_tg7 (List.mem_of_getElem? (i := 159) rfl) rfl, ri_tg7 (List.mem_of_getElem? (i := 160) rfl) rfl, ri_tg1 (List.mem_of_getElem? (i := 13) rfl) rfl, ⟨by decide +kernel, by decide +kernel, by decide +kernel⟩⟩
set_option maxRecDepth 20000 in
theorem gw556 : Cond.methodLink RL 82 (ri_Yn 109) ∈ ri_G := ri_tg4 (List.mem_of_getElem? (i := 72) rfl) rfl
set_option maxRecDepth 20000 in
theorem mw109v : Cond.instanceMethod (ri_Yn 109) ∈ ri_G ∧ Cond.selects (ri_Yn 109).cls (ri_Yn 109) (ri_Yn 109) ∈ ri_G ∧ Cond.initialized (ri_Yn 109).cls ∈ ri_G ∧ ((ri_Yn 109).cls ≠ "java/lang/invoke/MethodHandle" ∧ (ri_Yn 109).cls ≠ "java/lang/invoke/VarHandle" ∧ (parseMethodDescriptor (ri_Yn 109).desc).map (fun d => d.parameters.length) = some 2) := ⟨ri_tg4 (List.mem_of_getElem? (i := 73) rfl) rfl, ri_tg4 (List.mem_of_getElem? (i := 74) rfl) rfl, ri_tg1 (List.mem_of_getElem? (i := 1) rfl) rfl, ⟨by decide +kernel, by decide +kernel, by decide +kernel⟩⟩
set_option maxRecDepth 20000 in
theorem gw557 : Cond.methodLink RL 85 (ri_Yn 241) ∈ ri_G := ri_tg7 (List.mem_of_getElem? (i := 163) rfl) rfl
set_option maxRecDepth 20000 in
theorem mw241v : Cond.instanceMethod (ri_Yn 241) ∈ ri_G ∧ Cond.selects (ri_Yn 241).cls (ri_Yn 241) (ri_Yn 241) ∈ ri_G ∧ Cond.initialized (ri_Yn 241).cls ∈ ri_G ∧ ((ri_Yn 241).cls ≠ "java/lang/invoke/MethodHandle" ∧ (ri_Yn 241).cls ≠ "java/lang/invoke/VarHandle" ∧ (parseMethodDescriptor (ri_Yn 241).desc).map (fun d => d.parameters.length) = some 2) := ⟨ri_tg7 (List.mem_of_getElem? (i := 164) rfl) rfl, ri_tg7 (List.mem_of_getElem? (i := 165) rfl) rfl, ri_tg1 (List.mem_of_getElem? (i := 13) rfl) rfl, ⟨by decide +kernel, by decide +kernel, by decide +kernel⟩⟩
set_option maxRecDepth 20000 in
theorem gw558 : Cond.methodLink RL 86 (ri_Yn 110) ∈ ri_G := ri_tg4 (List.mem_of_getElem? (i := 76) rfl) rfl
set_option maxRecDepth 20000 in
theorem mw110v : Cond.instanceMethod (ri_Yn 110) ∈ ri_G ∧ Cond.selects (ri_Yn 110).cls (ri_Yn 110) (ri_Yn 110) ∈ ri_G ∧ Cond.initialized (ri_Yn 110).cls ∈ ri_G ∧ ((ri_Yn 110).cls ≠ "java/lang/invoke/MethodHandle" ∧ (ri_Yn 110).cls ≠ "java/lang/invoke/VarHandle" ∧ (parseMethodDescriptor (ri_Yn 110).desc).map (fun d => d.parameters.length) = some 2) := ⟨ri_tg4 (List.mem_of_getElem? (i := 77) rfl) rfl, ri_tg4 (List.mem_of_getElem? (i := 78) rfl) rfl, ri_tg1 (List.mem_of_getElem? (i := 1) rfl) rfl, ⟨by decide +kernel, by decide +kernel, by decide +kernel⟩⟩
set_option maxRecDepth 20000 in
theorem gw559 : Cond.methodLink RL 89 (ri_Yn 243) ∈ ri_G := ri_tg7 (List.mem_of_getElem? (i := 170) rfl) rfl
set_option maxRecDepth 20000 in
theorem mw243v : Cond.instanceMethod (ri_Yn 243) ∈ ri_G ∧ Cond.selects (ri_Yn 243).cls (ri_Yn 243) (ri_Yn 243) ∈ ri_G ∧ Cond.initialized (ri_Yn 243).cls ∈ ri_G ∧ ((ri_Yn 243).cls ≠ "java/lang/invoke/MethodHandle" ∧ (ri_Yn 243).cls ≠ "java/lang/invoke/VarHandle" ∧ (parseMethodDescriptor (ri_Yn 243).desc).map (fun d => d.parameters.length) = some 2) := ⟨ri_tg7 (List.mem_of_getElem? (i := 171) rfl) rfl, ri_tg7 (List.mem_of_getElem? (i := 172) rfl) rfl, ri_tg1 (List.mem_of_getElem? (i := 13) rfl) rfl, ⟨by decide +kernel, by decide +kernel, by decide +kernel⟩⟩
set_option maxRecDepth 20000 in
theorem gw560 : Cond.methodLink RL 90 (ri_Yn 111) ∈ ri_G := ri_tg4 (List.mem_of_getElem? (i := 80) rfl) rfl
set_option maxRecDepth 20000 in
theorem mw111v : Cond.instanceMethod (ri_Yn 111) ∈ ri_G ∧ Cond.selects (ri_Yn 111).cls (ri_Yn 111) (ri_Yn 111) ∈ ri_G ∧ Cond.initialized (ri_Yn 111).cls ∈ ri_G ∧ ((ri_Yn 111).cls ≠ "java/lang/invoke/MethodHandle" ∧ (ri_Yn 111).cls ≠ "java/lang/invoke/VarHandle" ∧ (parseMethodDescriptor (ri_Yn 111).desc).map (fun d => d.parameters.length) = some 3) := ⟨ri_tg4 (List.mem_of_getElem? (i := 81) rfl) rfl, ri_tg4 (List.mem_of_getElem? (i := 82) rfl) rfl, ri_tg1 (List.mem_of_getElem? (i := 1) rfl) rfl, ⟨by decide +kernel, by decide +kernel, by decide +kernel⟩⟩
set_option maxRecDepth 20000 in
theorem gw561 : Cond.methodLink RL 94 (ri_Yn 245) ∈ ri_G := ri_tg7 (List.mem_of_getElem? (i := 178) rfl) rfl
set_option maxRecDepth 20000 in
theorem mw245v : Cond.instanceMethod (ri_Yn 245) ∈ ri_G ∧ Cond.selects (ri_Yn 245).cls (ri_Yn 245) (ri_Yn 245) ∈ ri_G ∧ Cond.initialized (ri_Yn 245).cls ∈ ri_G ∧ ((ri_Yn 245).cls ≠ "java/lang/invoke/MethodHandle" ∧ (ri_Yn 245).cls ≠ "java/lang/invoke/VarHandle" ∧ (parseMethodDescriptor (ri_Yn 245).desc).map (fun d => d.parameters.length) = some 3) := ⟨ri_tg7 (List.mem_of_getElem? (i := 179) rfl) rfl, ri_tg7 (List.mem_of_getElem? (i := 180) rfl) rfl, ri_tg1 (List.mem_of_getElem? (i := 13) rfl) rfl, ⟨by decide +kernel, by decide +kernel, by decide +kernel⟩⟩
set_option maxRecDepth 20000 in
theorem gw562 : Cond.methodLink RL 95 (ri_Yn 112) ∈ ri_G := ri_tg4 (List.mem_of_getElem? (i := 84) rfl) rfl
set_option maxRecDepth 20000 in
theorem mw112v : Cond.instanceMethod (ri_Yn 112) ∈ ri_G ∧ Cond.selects (ri_Yn 112).cls (ri_Yn 112) (ri_Yn 112) ∈ ri_G ∧ Cond.initialized (ri_Yn 112).cls ∈ ri_G ∧ ((ri_Yn 112).cls ≠ "java/lang/invoke/MethodHandle" ∧ (ri_Yn 112).cls ≠ "java/lang/invoke/VarHandle" ∧ (parseMethodDescriptor (ri_Yn 112).desc).map (fun d => d.parameters.length) = some 3) := ⟨ri_tg4 (List.mem_of_getElem? (i := 85) rfl) rfl, ri_tg4 (List.mem_of_getElem? (i := 86) rfl) rfl, ri_tg1 (List.mem_of_getElem? (i := 1) rfl) rfl, ⟨by decide +kernel, by decide +kernel, by decide +kernel⟩⟩
set_option maxRecDepth 20000 in
theorem gw563 : Cond.methodLink RL 98 (ri_Yn 246) ∈ ri_G := ri_tg7 (List.mem_of_getElem? (i := 186) rfl) rfl
set_option maxRecDepth 20000 in
theorem mw246v : Cond.instanceMethod (ri_Yn 246) ∈ ri_G ∧ Cond.selects (ri_Yn 246).cls (ri_Yn 246) (ri_Yn 246) ∈ ri_G ∧ Cond.initialized (ri_Yn 246).cls ∈ ri_G ∧ ((ri_Yn 246).cls ≠ "java/lang/invoke/MethodHandle" ∧ (ri_Yn 246).cls ≠ "java/lang/invoke/VarHandle" ∧ (parseMethodDescriptor (ri_Yn 246).desc).map (fun d => d.parameters.length) = some 3) := ⟨ri_tg7 (List.mem_of_getElem? (i := 187) rfl) rfl, ri_tg7 (List.mem_of_getElem? (i := 188) rfl) rfl, ri_tg1 (List.mem_of_getElem? (i := 13) rfl) rfl, ⟨by decide +kernel, by decide +kernel, by decide +kernel⟩⟩
set_option maxRecDepth 20000 in
theorem gw564 : Cond.methodLink RL 99 (ri_Yn 113) ∈ ri_G := ri_tg4 (List.mem_of_getElem? (i := 92) rfl) rfl
set_option maxRecDepth 20000 in
theorem mw113v : Cond.instanceMethod (ri_Yn 113) ∈ ri_G ∧ Cond.selects (ri_Yn 113).cls (ri_Yn 113) (ri_Yn 113) ∈ ri_G ∧ Cond.initialized (ri_Yn 113).cls ∈ ri_G ∧ ((ri_Yn 113).cls ≠ "java/lang/invoke/MethodHandle" ∧ (ri_Yn 113).cls ≠ "java/lang/invoke/VarHandle" ∧ (parseMethodDescriptor (ri_Yn 113).desc).map (fun d => d.parameters.length) = some 2) := ⟨ri_tg4 (List.mem_of_getElem? (i := 93) rfl) rfl, ri_tg4 (List.mem_of_getElem? (i := 94) rfl) rfl, ri_tg1 (List.mem_of_getElem? (i := 1) rfl) rfl, ⟨by decide +kernel, by decide +kernel, by decide +kernel⟩⟩
set_option maxRecDepth 20000 in
theorem gw565 : Cond.methodLink RL 102 (ri_Yn 267) ∈ ri_G := ri_tg7 (List.mem_of_getElem? (i := 233) rfl) rfl
set_option maxRecDepth 20000 in
theorem mw267v : Cond.instanceMethod (ri_Yn 267) ∈ ri_G ∧ Cond.selects (ri_Yn 267).cls (ri_Yn 267) (ri_Yn 267) ∈ ri_G ∧ Cond.initialized (ri_Yn 267).cls ∈ ri_G ∧ ((ri_Yn 267).cls ≠ "java/lang/invoke/MethodHandle" ∧ (ri_Yn 267).cls ≠ "java/lang/invoke/VarHandle" ∧ (parseMethodDescriptor (ri_Yn 267).desc).map (fun d => d.parameters.length) = some 2) := ⟨ri_tg7 (List.mem_of_getElem? (i := 234) rfl) rfl, ri_tg7 (List.mem_of_getElem? (i := 235) rfl) rfl, ri_tg1 (List.mem_of_getElem? (i := 13) rfl) rfl, ⟨by decide +kernel, by decide +kernel, by decide +kernel⟩⟩
set_option maxRecDepth 20000 in
theorem gw566 : Cond.methodLink RL 103 (ri_Yn 118) ∈ ri_G := ri_tg4 (List.mem_of_getElem? (i := 159) rfl) rfl
set_option maxRecDepth 20000 in
theorem mw118v : Cond.instanceMethod (ri_Yn 118) ∈ ri_G ∧ Cond.selects (ri_Yn 118).cls (ri_Yn 118) (ri_Yn 118) ∈ ri_G ∧ Cond.initialized (ri_Yn 118).cls ∈ ri_G ∧ ((ri_Yn 118).cls ≠ "java/lang/invoke/MethodHandle" ∧ (ri_Yn 118).cls ≠ "java/lang/invoke/VarHandle" ∧ (parseMethodDescriptor (ri_Yn 118).desc).map (fun d => d.parameters.length) = some 1) := ⟨ri_tg4 (List.mem_of_getElem? (i := 160) rfl) rfl, ri_tg4 (List.mem_of_getElem? (i := 161) rfl) rfl, ri_tg1 (List.mem_of_getElem? (i := 1) rfl) rfl, ⟨by decide +kernel, by decide +kernel, by decide +kernel⟩⟩
set_option maxRecDepth 20000 in
theorem gw567 : Cond.methodLink RL 107 (ri_Yn 268) ∈ ri_G := ri_tg8 (List.mem_of_getElem? (i := 29) rfl) rfl
set_option maxRecDepth 20000 in
theorem mw268v : Cond.instanceMethod (ri_Yn 268) ∈ ri_G ∧ Cond.selects (ri_Yn 268).cls (ri_Yn 268) (ri_Yn 268) ∈ ri_G ∧ Cond.initialized (ri_Yn 268).cls ∈ ri_G ∧ ((ri_Yn 268).cls ≠ "java/lang/invoke/MethodHandle" ∧ (ri_Yn 268).cls ≠ "java/lang/invoke/VarHandle" ∧ (parseMethodDescriptor (ri_Yn 268).desc).map (fun d => d.parameters.length) = some 1) := ⟨ri_tg8 (List.mem_of_getElem? (i := 30) rfl) rfl, ri_tg8 (List.mem_of_getElem? (i := 31) rfl) rfl, ri_tg1 (List.mem_of_getElem? (i := 13) rfl) rfl, ⟨by decide +kernel, by decide +kernel, by decide +kernel⟩⟩
set_option maxRecDepth 20000 in
theorem gw568 : Cond.methodLink RL 108 (ri_Yn 119) ∈ ri_G := ri_tg4 (List.mem_of_getElem? (i := 234) rfl) rfl
set_option maxRecDepth 20000 in
theorem mw119v : Cond.instanceMethod (ri_Yn 119) ∈ ri_G ∧ Cond.selects (ri_Yn 119).cls (ri_Yn 119) (ri_Yn 119) ∈ ri_G ∧ Cond.initialized (ri_Yn 119).cls ∈ ri_G ∧ ((ri_Yn 119).cls ≠ "java/lang/invoke/MethodHandle" ∧ (ri_Yn 119).cls ≠ "java/lang/invoke/VarHandle" ∧ (parseMethodDescriptor (ri_Yn 119).desc).map (fun d => d.parameters.length) = some 0) := ⟨ri_tg4 (List.mem_of_getElem? (i := 235) rfl) rfl, ri_tg4 (List.mem_of_getElem? (i := 236) rfl) rfl, ri_tg1 (List.mem_of_getElem? (i := 1) rfl) rfl, ⟨by decide +kernel, by decide +kernel, by decide +kernel⟩⟩
set_option maxRecDepth 20000 in
theorem gw569 : Cond.methodLink RL 112 (ri_Yn 270) ∈ ri_G := ri_tg8 (List.mem_of_getElem? (i := 41) rfl) rfl
set_option maxRecDepth 20000 in
theorem mw270v : Cond.instanceMethod (ri_Yn 270) ∈ ri_G ∧ Cond.selects (ri_Yn 270).cls (ri_Yn 270) (ri_Yn 270) ∈ ri_G ∧ Cond.initialized (ri_Yn 270).cls ∈ ri_G ∧ ((ri_Yn 270).cls ≠ "java/lang/invoke/MethodHandle" ∧ (ri_Yn 270).cls ≠ "java/lang/invoke/VarHandle" ∧ (parseMethodDescriptor (ri_Yn 270).desc).map (fun d => d.parameters.length) = some 0) := ⟨ri_tg8 (List.mem_of_getElem? (i := 42) rfl) rfl, ri_tg8 (List.mem_of_getElem? (i := 43) rfl) rfl, ri_tg1 (List.mem_of_getElem? (i := 13) rfl) rfl, ⟨by decide +kernel, by decide +kernel, by decide +kernel⟩⟩
set_option maxRecDepth 20000 in
theorem gw570 : Cond.methodLink RL 113 (ri_Yn 120) ∈ ri_G := ri_tg5 (List.mem_of_getElem? (i := 2) rfl) rfl
set_option maxRecDepth 20000 in
theorem mw120v : Cond.instanceMethod (ri_Yn 120) ∈ ri_G ∧ Cond.selects (ri_Yn 120).cls (ri_Yn 120) (ri_Yn 120) ∈ ri_G ∧ Cond.initialized (ri_Yn 120).cls ∈ ri_G ∧ ((ri_Yn 120).cls ≠ "java/lang/invoke/MethodHandle" ∧ (ri_Yn 120).cls ≠ "java/lang/invoke/VarHandle" ∧ (parseMethodDescriptor (ri_Yn 120).desc).map (fun d => d.parameters.length) = some 1) := ⟨ri_tg5 (List.mem_of_getElem? (i := 3) rfl) rfl, ri_tg5 (List.mem_of_getElem? (i := 4) rfl) rfl, ri_tg1 (List.mem_of_getElem? (i := 1) rfl) rfl, ⟨by decide +kernel, by decide +kernel, by decide +kernel⟩⟩
set_option maxRecDepth 20000 in
theorem gw571 : Cond.methodLink RL 116 (ri_Yn 272) ∈ ri_G := ri_tg8 (List.mem_of_getElem? (i := 53) rfl) rfl
set_option maxRecDepth 20000 in
theorem mw272v : Cond.instanceMethod (ri_Yn 272) ∈ ri_G ∧ Cond.selects (ri_Yn 272).cls (ri_Yn 272) (ri_Yn 272) ∈ ri_G ∧ Cond.initialized (ri_Yn 272).cls ∈ ri_G ∧ ((ri_Yn 272).cls ≠ "java/lang/invoke/MethodHandle" ∧ (ri_Yn 272).cls ≠ "java/lang/invoke/VarHandle" ∧ (parseMethodDescriptor (ri_Yn 272).desc).map (fun d => d.parameters.length) = some 1) := ⟨ri_tg8 (List.mem_of_getElem? (i := 54) rfl) rfl, ri_tg8 (List.mem_of_getElem? (i := 55) rfl) rfl, ri_tg1 (List.mem_of_getElem? (i := 13) rfl) rfl, ⟨by decide +kernel, by decide +kernel, by decide +kernel⟩⟩
set_option maxRecDepth 20000 in
theorem gw572 : Cond.methodLink RL 117 (ri_Yn 121) ∈ ri_G := ri_tg5 (List.mem_of_getElem? (i := 7) rfl) rfl
set_option maxRecDepth 20000 in
theorem mw121v : Cond.instanceMethod (ri_Yn 121) ∈ ri_G ∧ Cond.selects (ri_Yn 121).cls (ri_Yn 121) (ri_Yn 121) ∈ ri_G ∧ Cond.initialized (ri_Yn 121).cls ∈ ri_G ∧ ((ri_Yn 121).cls ≠ "java/lang/invoke/MethodHandle" ∧ (ri_Yn 121).cls ≠ "java/lang/invoke/VarHandle" ∧ (parseMethodDescriptor (ri_Yn 121).desc).map (fun d => d.parameters.length) = some 4) := ⟨ri_tg5 (List.mem_of_getElem? (i := 8) rfl) rfl, ri_tg5 (List.mem_of_getElem? (i := 9) rfl) rfl, ri_tg1 (List.mem_of_getElem? (i := 1) rfl) rfl, ⟨by decide +kernel, by decide +kernel, by decide +kernel⟩⟩
set_option maxRecDepth 20000 in
theorem gw573 : Cond.methodLink RL 121 (ri_Yn 273) ∈ ri_G := ri_tg8 (List.mem_of_getElem? (i := 61) rfl) rfl
set_option maxRecDepth 20000 in
theorem mw273v : Cond.instanceMethod (ri_Yn 273) ∈ ri_G ∧ Cond.selects (ri_Yn 273).cls (ri_Yn 273) (ri_Yn 273) ∈ ri_G ∧ Cond.initialized (ri_Yn 273).cls ∈ ri_G ∧ ((ri_Yn 273).cls ≠ "java/lang/invoke/MethodHandle" ∧ (ri_Yn 273).cls ≠ "java/lang/invoke/VarHandle" ∧ (parseMethodDescriptor (ri_Yn 273).desc).map (fun d => d.parameters.length) = some 4) := ⟨ri_tg8 (List.mem_of_getElem? (i := 62) rfl) rfl, ri_tg8 (List.mem_of_getElem? (i := 63) rfl) rfl, ri_tg1 (List.mem_of_getElem? (i := 13) rfl) rfl, ⟨by decide +kernel, by decide +kernel, by decide +kernel⟩⟩
set_option maxRecDepth 20000 in
theorem gw574 : Cond.methodLink RL 122 (ri_Yn 114) ∈ ri_G := ri_tg4 (List.mem_of_getElem? (i := 105) rfl) rfl
set_option maxRecDepth 20000 in
theorem mw114v : Cond.instanceMethod (ri_Yn 114) ∈ ri_G ∧ Cond.selects (ri_Yn 114).cls (ri_Yn 114) (ri_Yn 114) ∈ ri_G ∧ Cond.initialized (ri_Yn 114).cls ∈ ri_G ∧ ((ri_Yn 114).cls ≠ "java/lang/invoke/MethodHandle" ∧ (ri_Yn 114).cls ≠ "java/lang/invoke/VarHandle" ∧ (parseMethodDescriptor (ri_Yn 114).desc).map (fun d => d.parameters.length) = some 1) := ⟨ri_tg4 (List.mem_of_getElem? (i := 106) rfl) rfl, ri_tg4 (List.mem_of_getElem? (i := 107) rfl) rfl, ri_tg1 (List.mem_of_getElem? (i := 1) rfl) rfl, ⟨by decide +kernel, by decide +kernel, by decide +kernel⟩⟩
set_option maxRecDepth 20000 in
theorem gw575 : Cond.methodLink RL 125 (ri_Yn 249) ∈ ri_G := ri_tg7 (List.mem_of_getElem? (i := 190) rfl) rfl
set_option maxRecDepth 20000 in
theorem mw249v : Cond.instanceMethod (ri_Yn 249) ∈ ri_G ∧ Cond.selects (ri_Yn 249).cls (ri_Yn 249) (ri_Yn 249) ∈ ri_G ∧ Cond.initialized (ri_Yn 249).cls ∈ ri_G ∧ ((ri_Yn 249).cls ≠ "java/lang/invoke/MethodHandle" ∧ (ri_Yn 249).cls ≠ "java/lang/invoke/VarHandle" ∧ (parseMethodDescriptor (ri_Yn 249).desc).map (fun d => d.parameters.length) = some 1) := ⟨ri_tg7 (List.mem_of_getElem? (i := 191) rfl) rfl, ri_tg7 (List.mem_of_getElem? (i := 192) rfl) rfl, ri_tg1 (List.mem_of_getElem? (i := 13) rfl) rfl, ⟨by decide +kernel, by decide +kernel, by decide +kernel⟩⟩
set_option maxRecDepth 20000 in
theorem gw576 : Cond.methodLink RL 126 (ri_Yn 115) ∈ ri_G := ri_tg4 (List.mem_of_getElem? (i := 118) rfl) rfl
set_option maxRecDepth 20000 in
theorem mw115v : Cond.instanceMethod (ri_Yn 115) ∈ ri_G ∧ Cond.selects (ri_Yn 115).cls (ri_Yn 115) (ri_Yn 115) ∈ ri_G ∧ Cond.initialized (ri_Yn 115).cls ∈ ri_G ∧ ((ri_Yn 115).cls ≠ "java/lang/invoke/MethodHandle" ∧ (ri_Yn 115).cls ≠ "java/lang/invoke/VarHandle" ∧ (parseMethodDescriptor (ri_Yn 115).desc).map (fun d => d.parameters.length) = some 0) := ⟨ri_tg4 (List.mem_of_getElem? (i := 119) rfl) rfl, ri_tg4 (List.mem_of_getElem? (i := 120) rfl) rfl, ri_tg1 (List.mem_of_getElem? (i := 1) rfl) rfl, ⟨by decide +kernel, by decide +kernel, by decide +kernel⟩⟩
set_option maxRecDepth 20000 in
theorem gw577 : Cond.methodLink RL 129 (ri_Yn 252) ∈ ri_G := ri_tg7 (List.mem_of_getElem? (i := 202) rfl) rfl
set_option maxRecDepth 20000 in
theorem mw252v : Cond.instanceMethod (ri_Yn 252) ∈ ri_G ∧ Cond.selects (ri_Yn 252).cls (ri_Yn 252) (ri_Yn 252) ∈ ri_G ∧ Cond.initialized (ri_Yn 252).cls ∈ ri_G ∧ ((ri_Yn 252).cls ≠ "java/lang/invoke/MethodHandle" ∧ (ri_Yn 252).cls ≠ "java/lang/invoke/VarHandle" ∧ (parseMethodDescriptor (ri_Yn 252).desc).map (fun d => d.parameters.length) = some 0) := ⟨ri_tg7 (List.mem_of_getElem? (i := 203) rfl) rfl, ri_tg7 (List.mem_of_getElem? (i := 204) rfl) rfl, ri_tg1 (List.mem_of_getElem? (i := 13) rfl) rfl, ⟨by decide +kernel, by decide +kernel, by decide +kernel⟩⟩
set_option maxRecDepth 20000 in
theorem gw578 : Cond.methodLink RL 130 (ri_Yn 116) ∈ ri_G := ri_tg4 (List.mem_of_getElem? (i := 147) rfl) rfl
set_option maxRecDepth 20000 in
theorem mw116v : Cond.instanceMethod (ri_Yn 116) ∈ ri_G ∧ Cond.selects (ri_Yn 116).cls (ri_Yn 116) (ri_Yn 116) ∈ ri_G ∧ Cond.initialized (ri_Yn 116).cls ∈ ri_G ∧ ((ri_Yn 116).cls ≠ "java/lang/invoke/MethodHandle" ∧ (ri_Yn 116).cls ≠ "java/lang/invoke/VarHandle" ∧ (parseMethodDescriptor (ri_Yn 116).desc).map (fun d => d.parameters.length) = some 1) := ⟨ri_tg4 (List.mem_of_getElem? (i := 148) rfl) rfl, ri_tg4 (List.mem_of_getElem? (i := 149) rfl) rfl, ri_tg1 (List.mem_of_getElem? (i := 1) rfl) rfl, ⟨by decide +kernel, by decide +kernel, by decide +kernel⟩⟩
set_option maxRecDepth 20000 in
theorem gw579 : Cond.methodLink RL 133 (ri_Yn 253) ∈ ri_G := ri_tg7 (List.mem_of_getElem? (i := 221) rfl) rfl
set_option maxRecDepth 20000 in
theorem mw253v : Cond.instanceMethod (ri_Yn 253) ∈ ri_G ∧ Cond.selects (ri_Yn 253).cls (ri_Yn 253) (ri_Yn 253) ∈ ri_G ∧ Cond.initialized (ri_Yn 253).cls ∈ ri_G ∧ ((ri_Yn 253).cls ≠ "java/lang/invoke/MethodHandle" ∧ (ri_Yn 253).cls ≠ "java/lang/invoke/VarHandle" ∧ (parseMethodDescriptor (ri_Yn 253).desc).map (fun d => d.parameters.length) = some 1) := ⟨ri_tg7 (List.mem_of_getElem? (i := 222) rfl) rfl, ri_tg7 (List.mem_of_getElem? (i := 223) rfl) rfl, ri_tg1 (List.mem_of_getElem? (i := 13) rfl) rfl, ⟨by decide +kernel, by decide +kernel, by decide +kernel⟩⟩
set_option maxRecDepth 20000 in
theorem gw580 : Cond.methodLink RL 134 (ri_Yn 117) ∈ ri_G := ri_tg4 (List.mem_of_getElem? (i := 151) rfl) rfl
set_option maxRecDepth 20000 in
theorem mw117v : Cond.instanceMethod (ri_Yn 117) ∈ ri_G ∧ Cond.selects (ri_Yn 117).cls (ri_Yn 117) (ri_Yn 117) ∈ ri_G ∧ Cond.initialized (ri_Yn 117).cls ∈ ri_G ∧ ((ri_Yn 117).cls ≠ "java/lang/invoke/MethodHandle" ∧ (ri_Yn 117).cls ≠ "java/lang/invoke/VarHandle" ∧ (parseMethodDescriptor (ri_Yn 117).desc).map (fun d => d.parameters.length) = some 3) := ⟨ri_tg4 (List.mem_of_getElem? (i := 152) rfl) rfl, ri_tg4 (List.mem_of_getElem? (i := 153) rfl) rfl, ri_tg1 (List.mem_of_getElem? (i := 1) rfl) rfl, ⟨by decide +kernel, by decide +kernel, by decide +kernel⟩⟩
set_option maxRecDepth 20000 in
theorem gw581 : Cond.methodLink RL 137 (ri_Yn 255) ∈ ri_G := ri_tg7 (List.mem_of_getElem? (i := 225) rfl) rfl
set_option maxRecDepth 20000 in
theorem mw255v : Cond.instanceMethod (ri_Yn 255) ∈ ri_G ∧ Cond.selects (ri_Yn 255).cls (ri_Yn 255) (ri_Yn 255) ∈ ri_G ∧ Cond.initialized (ri_Yn 255).cls ∈ ri_G ∧ ((ri_Yn 255).cls ≠ "java/lang/invoke/MethodHandle" ∧ (ri_Yn 255).cls ≠ "java/lang/invoke/VarHandle" ∧ (parseMethodDescriptor (ri_Yn 255).desc).map (fun d => d.parameters.length) = some 3) := ⟨ri_tg7 (List.mem_of_getElem? (i := 226) rfl) rfl, ri_tg7 (List.mem_of_getElem? (i := 227) rfl) rfl, ri_tg1 (List.mem_of_getElem? (i := 13) rfl) rfl, ⟨by decide +kernel, by decide +kernel, by decide +kernel⟩⟩
set_option maxRecDepth 20000 in
theorem gw582 : Cond.constantLong RL 138 (Int64.ofNat 4294967295) ∈ ri_G := ri_tg9 (List.mem_of_getElem? (i := 10) rfl) rfl
set_option maxRecDepth 20000 in
theorem gw583 : Cond.methodLink RL 140 (ri_Yn 122) ∈ ri_G := ri_tg5 (List.mem_of_getElem? (i := 15) rfl) rfl
set_option maxRecDepth 20000 in
theorem mw122v : Cond.instanceMethod (ri_Yn 122) ∈ ri_G ∧ Cond.selects (ri_Yn 122).cls (ri_Yn 122) (ri_Yn 122) ∈ ri_G ∧ Cond.initialized (ri_Yn 122).cls ∈ ri_G ∧ ((ri_Yn 122).cls ≠ "java/lang/invoke/MethodHandle" ∧ (ri_Yn 122).cls ≠ "java/lang/invoke/VarHandle" ∧ (parseMethodDescriptor (ri_Yn 122).desc).map (fun d => d.parameters.length) = some 2) := ⟨ri_tg5 (List.mem_of_getElem? (i := 16) rfl) rfl, ri_tg5 (List.mem_of_getElem? (i := 17) rfl) rfl, ri_tg1 (List.mem_of_getElem? (i := 1) rfl) rfl, ⟨by decide +kernel, by decide +kernel, by decide +kernel⟩⟩
set_option maxRecDepth 20000 in
theorem gw584 : Cond.methodLink RL 144 (ri_Yn 275) ∈ ri_G := ri_tg8 (List.mem_of_getElem? (i := 65) rfl) rfl
set_option maxRecDepth 20000 in
theorem mw275v : Cond.instanceMethod (ri_Yn 275) ∈ ri_G ∧ Cond.selects (ri_Yn 275).cls (ri_Yn 275) (ri_Yn 275) ∈ ri_G ∧ Cond.initialized (ri_Yn 275).cls ∈ ri_G ∧ ((ri_Yn 275).cls ≠ "java/lang/invoke/MethodHandle" ∧ (ri_Yn 275).cls ≠ "java/lang/invoke/VarHandle" ∧ (parseMethodDescriptor (ri_Yn 275).desc).map (fun d => d.parameters.length) = some 2) := ⟨ri_tg8 (List.mem_of_getElem? (i := 66) rfl) rfl, ri_tg8 (List.mem_of_getElem? (i := 67) rfl) rfl, ri_tg1 (List.mem_of_getElem? (i := 13) rfl) rfl, ⟨by decide +kernel, by decide +kernel, by decide +kernel⟩⟩
set_option maxRecDepth 20000 in
theorem gw585 : Cond.methodLink RL 145 (ri_Yn 123) ∈ ri_G := ri_tg5 (List.mem_of_getElem? (i := 39) rfl) rfl
set_option maxRecDepth 20000 in
theorem mw123v : Cond.instanceMethod (ri_Yn 123) ∈ ri_G ∧ Cond.selects (ri_Yn 123).cls (ri_Yn 123) (ri_Yn 123) ∈ ri_G ∧ Cond.initialized (ri_Yn 123).cls ∈ ri_G ∧ ((ri_Yn 123).cls ≠ "java/lang/invoke/MethodHandle" ∧ (ri_Yn 123).cls ≠ "java/lang/invoke/VarHandle" ∧ (parseMethodDescriptor (ri_Yn 123).desc).map (fun d => d.parameters.length) = some 1) := ⟨ri_tg5 (List.mem_of_getElem? (i := 40) rfl) rfl, ri_tg5 (List.mem_of_getElem? (i := 41) rfl) rfl, ri_tg1 (List.mem_of_getElem? (i := 1) rfl) rfl, ⟨by decide +kernel, by decide +kernel, by decide +kernel⟩⟩
set_option maxRecDepth 20000 in
theorem gw586 : Cond.methodLink RL 148 (ri_Yn 276) ∈ ri_G := ri_tg8 (List.mem_of_getElem? (i := 73) rfl) rfl
set_option maxRecDepth 20000 in
theorem mw276v : Cond.instanceMethod (ri_Yn 276) ∈ ri_G ∧ Cond.selects (ri_Yn 276).cls (ri_Yn 276) (ri_Yn 276) ∈ ri_G ∧ Cond.initialized (ri_Yn 276).cls ∈ ri_G ∧ ((ri_Yn 276).cls ≠ "java/lang/invoke/MethodHandle" ∧ (ri_Yn 276).cls ≠ "java/lang/invoke/VarHandle" ∧ (parseMethodDescriptor (ri_Yn 276).desc).map (fun d => d.parameters.length) = some 1) := ⟨ri_tg8 (List.mem_of_getElem? (i := 74) rfl) rfl, ri_tg8 (List.mem_of_getElem? (i := 75) rfl) rfl, ri_tg1 (List.mem_of_getElem? (i := 13) rfl) rfl, ⟨by decide +kernel, by decide +kernel, by decide +kernel⟩⟩
set_option maxRecDepth 20000 in
theorem gw587 : Cond.methodLink RL 149 (ri_Yn 124) ∈ ri_G := ri_tg5 (List.mem_of_getElem? (i := 44) rfl) rfl
set_option maxRecDepth 20000 in
theorem mw124v : Cond.instanceMethod (ri_Yn 124) ∈ ri_G ∧ Cond.selects (ri_Yn 124).cls (ri_Yn 124) (ri_Yn 124) ∈ ri_G ∧ Cond.initialized (ri_Yn 124).cls ∈ ri_G ∧ ((ri_Yn 124).cls ≠ "java/lang/invoke/MethodHandle" ∧ (ri_Yn 124).cls ≠ "java/lang/invoke/VarHandle" ∧ (parseMethodDescriptor (ri_Yn 124).desc).map (fun d => d.parameters.length) = some 0) := ⟨ri_tg5 (List.mem_of_getElem? (i := 45) rfl) rfl, ri_tg5 (List.mem_of_getElem? (i := 46) rfl) rfl, ri_tg1 (List.mem_of_getElem? (i := 1) rfl) rfl, ⟨by decide +kernel, by decide +kernel, by decide +kernel⟩⟩
set_option maxRecDepth 20000 in
theorem gw588 : Cond.methodLink RL 152 (ri_Yn 277) ∈ ri_G := ri_tg8 (List.mem_of_getElem? (i := 77) rfl) rfl
set_option maxRecDepth 20000 in
theorem mw277v : Cond.instanceMethod (ri_Yn 277) ∈ ri_G ∧ Cond.selects (ri_Yn 277).cls (ri_Yn 277) (ri_Yn 277) ∈ ri_G ∧ Cond.initialized (ri_Yn 277).cls ∈ ri_G ∧ ((ri_Yn 277).cls ≠ "java/lang/invoke/MethodHandle" ∧ (ri_Yn 277).cls ≠ "java/lang/invoke/VarHandle" ∧ (parseMethodDescriptor (ri_Yn 277).desc).map (fun d => d.parameters.length) = some 0) := ⟨ri_tg8 (List.mem_of_getElem? (i := 78) rfl) rfl, ri_tg8 (List.mem_of_getElem? (i := 79) rfl) rfl, ri_tg1 (List.mem_of_getElem? (i := 13) rfl) rfl, ⟨by decide +kernel, by decide +kernel, by decide +kernel⟩⟩
set_option maxRecDepth 20000 in
theorem gw589 : Cond.methodLink RL 153 (ri_Yn 125) ∈ ri_G := ri_tg5 (List.mem_of_getElem? (i := 48) rfl) rfl
set_option maxRecDepth 20000 in
theorem mw125v : Cond.instanceMethod (ri_Yn 125) ∈ ri_G ∧ Cond.selects (ri_Yn 125).cls (ri_Yn 125) (ri_Yn 125) ∈ ri_G ∧ Cond.initialized (ri_Yn 125).cls ∈ ri_G ∧ ((ri_Yn 125).cls ≠ "java/lang/invoke/MethodHandle" ∧ (ri_Yn 125).cls ≠ "java/lang/invoke/VarHandle" ∧ (parseMethodDescriptor (ri_Yn 125).desc).map (fun d => d.parameters.length) = some 2) := ⟨ri_tg5 (List.mem_of_getElem? (i := 49) rfl) rfl, ri_tg5 (List.mem_of_getElem? (i := 50) rfl) rfl, ri_tg1 (List.mem_of_getElem? (i := 1) rfl) rfl, ⟨by decide +kernel, by decide +kernel, by decide +kernel⟩⟩
set_option maxRecDepth 20000 in
theorem gw590 : Cond.methodLink RL 156 (ri_Yn 278) ∈ ri_G := ri_tg8 (List.mem_of_getElem? (i := 81) rfl) rfl
set_option maxRecDepth 20000 in
theorem mw278v : Cond.instanceMethod (ri_Yn 278) ∈ ri_G ∧ Cond.selects (ri_Yn 278).cls (ri_Yn 278) (ri_Yn 278) ∈ ri_G ∧ Cond.initialized (ri_Yn 278).cls ∈ ri_G ∧ ((ri_Yn 278).cls ≠ "java/lang/invoke/MethodHandle" ∧ (ri_Yn 278).cls ≠ "java/lang/invoke/VarHandle" ∧ (parseMethodDescriptor (ri_Yn 278).desc).map (fun d => d.parameters.length) = some 2) := ⟨ri_tg8 (List.mem_of_getElem? (i := 82) rfl) rfl, ri_tg8 (List.mem_of_getElem? (i := 83) rfl) rfl, ri_tg1 (List.mem_of_getElem? (i := 13) rfl) rfl, ⟨by decide +kernel, by decide +kernel, by decide +kernel⟩⟩
set_option maxRecDepth 20000 in
theorem gw591 : Cond.methodLink RL 157 (ri_Yn 126) ∈ ri_G := ri_tg5 (List.mem_of_getElem? (i := 52) rfl) rfl
set_option maxRecDepth 20000 in
theorem mw126v : Cond.instanceMethod (ri_Yn 126) ∈ ri_G ∧ Cond.selects (ri_Yn 126).cls (ri_Yn 126) (ri_Yn 126) ∈ ri_G ∧ Cond.initialized (ri_Yn 126).cls ∈ ri_G ∧ ((ri_Yn 126).cls ≠ "java/lang/invoke/MethodHandle" ∧ (ri_Yn 126).cls ≠ "java/lang/invoke/VarHandle" ∧ (parseMethodDescriptor (ri_Yn 126).desc).map (fun d => d.parameters.length) = some 1) := ⟨ri_tg5 (List.mem_of_getElem? (i := 53) rfl) rfl, ri_tg5 (List.mem_of_getElem? (i := 54) rfl) rfl, ri_tg1 (List.mem_of_getElem? (i := 1) rfl) rfl, ⟨by decide +kernel, by decide +kernel, by decide +kernel⟩⟩
set_option maxRecDepth 20000 in
theorem gw592 : Cond.methodLink RL 160 (ri_Yn 279) ∈ ri_G := ri_tg8 (List.mem_of_getElem? (i := 85) rfl) rfl
set_option maxRecDepth 20000 in
theorem mw279v : Cond.instanceMethod (ri_Yn 279) ∈ ri_G ∧ Cond.selects (ri_Yn 279).cls (ri_Yn 279) (ri_Yn 279) ∈ ri_G ∧ Cond.initialized (ri_Yn 279).cls ∈ ri_G ∧ ((ri_Yn 279).cls ≠ "java/lang/invoke/MethodHandle" ∧ (ri_Yn 279).cls ≠ "java/lang/invoke/VarHandle" ∧ (parseMethodDescriptor (ri_Yn 279).desc).map (fun d => d.parameters.length) = some 1) := ⟨ri_tg8 (List.mem_of_getElem? (i := 86) rfl) rfl, ri_tg8 (List.mem_of_getElem? (i := 87) rfl) rfl, ri_tg1 (List.mem_of_getElem? (i := 13) rfl) rfl, ⟨by decide +kernel, by decide +kernel, by decide +kernel⟩⟩
set_option maxRecDepth 20000 in
theorem gw593 : Cond.methodLink RL 161 (ri_Yn 127) ∈ ri_G := ri_tg5 (List.mem_of_getElem? (i := 56) rfl) rfl
set_option maxRecDepth 20000 in
theorem mw127v : Cond.instanceMethod (ri_Yn 127) ∈ ri_G ∧ Cond.selects (ri_Yn 127).cls (ri_Yn 127) (ri_Yn 127) ∈ ri_G ∧ Cond.initialized (ri_Yn 127).cls ∈ ri_G ∧ ((ri_Yn 127).cls ≠ "java/lang/invoke/MethodHandle" ∧ (ri_Yn 127).cls ≠ "java/lang/invoke/VarHandle" ∧ (parseMethodDescriptor (ri_Yn 127).desc).map (fun d => d.parameters.length) = some 0) := ⟨ri_tg5 (List.mem_of_getElem? (i := 57) rfl) rfl, ri_tg5 (List.mem_of_getElem? (i := 58) rfl) rfl, ri_tg1 (List.mem_of_getElem? (i := 1) rfl) rfl, ⟨by decide +kernel, by decide +kernel, by decide +kernel⟩⟩
set_option maxRecDepth 20000 in
theorem gw594 : Cond.methodLink RL 164 (ri_Yn 286) ∈ ri_G := ri_tg8 (List.mem_of_getElem? (i := 105) rfl) rfl
set_option maxRecDepth 20000 in
theorem mw286v : Cond.instanceMethod (ri_Yn 286) ∈ ri_G ∧ Cond.selects (ri_Yn 286).cls (ri_Yn 286) (ri_Yn 286) ∈ ri_G ∧ Cond.initialized (ri_Yn 286).cls ∈ ri_G ∧ ((ri_Yn 286).cls ≠ "java/lang/invoke/MethodHandle" ∧ (ri_Yn 286).cls ≠ "java/lang/invoke/VarHandle" ∧ (parseMethodDescriptor (ri_Yn 286).desc).map (fun d => d.parameters.length) = some 0) := ⟨ri_tg8 (List.mem_of_getElem? (i := 106) rfl) rfl, ri_tg8 (List.mem_of_getElem? (i := 107) rfl) rfl, ri_tg1 (List.mem_of_getElem? (i := 13) rfl) rfl, ⟨by decide +kernel, by decide +kernel, by decide +kernel⟩⟩
set_option maxRecDepth 20000 in
theorem gw595 : Cond.methodLink RL 165 (ri_Yn 128) ∈ ri_G := ri_tg5 (List.mem_of_getElem? (i := 79) rfl) rfl
set_option maxRecDepth 20000 in
theorem mw128v : Cond.instanceMethod (ri_Yn 128) ∈ ri_G ∧ Cond.selects (ri_Yn 128).cls (ri_Yn 128) (ri_Yn 128) ∈ ri_G ∧ Cond.initialized (ri_Yn 128).cls ∈ ri_G ∧ ((ri_Yn 128).cls ≠ "java/lang/invoke/MethodHandle" ∧ (ri_Yn 128).cls ≠ "java/lang/invoke/VarHandle" ∧ (parseMethodDescriptor (ri_Yn 128).desc).map (fun d => d.parameters.length) = some 1) := ⟨ri_tg5 (List.mem_of_getElem? (i := 80) rfl) rfl, ri_tg5 (List.mem_of_getElem? (i := 81) rfl) rfl, ri_tg1 (List.mem_of_getElem? (i := 1) rfl) rfl, ⟨by decide +kernel, by decide +kernel, by decide +kernel⟩⟩
set_option maxRecDepth 20000 in
theorem gw596 : Cond.methodLink RL 168 (ri_Yn 287) ∈ ri_G := ri_tg8 (List.mem_of_getElem? (i := 117) rfl) rfl
set_option maxRecDepth 20000 in
theorem mw287v : Cond.instanceMethod (ri_Yn 287) ∈ ri_G ∧ Cond.selects (ri_Yn 287).cls (ri_Yn 287) (ri_Yn 287) ∈ ri_G ∧ Cond.initialized (ri_Yn 287).cls ∈ ri_G ∧ ((ri_Yn 287).cls ≠ "java/lang/invoke/MethodHandle" ∧ (ri_Yn 287).cls ≠ "java/lang/invoke/VarHandle" ∧ (parseMethodDescriptor (ri_Yn 287).desc).map (fun d => d.parameters.length) = some 1) := ⟨ri_tg8 (List.mem_of_getElem? (i := 118) rfl) rfl, ri_tg8 (List.mem_of_getElem? (i := 119) rfl) rfl, ri_tg1 (List.mem_of_getElem? (i := 13) rfl) rfl, ⟨by decide +kernel, by decide +kernel, by decide +kernel⟩⟩
set_option maxRecDepth 20000 in
theorem gw597 : Cond.methodLink RL 169 (ri_Yn 129) ∈ ri_G := ri_tg5 (List.mem_of_getElem? (i := 83) rfl) rfl
set_option maxRecDepth 20000 in
theorem mw129v : Cond.instanceMethod (ri_Yn 129) ∈ ri_G ∧ Cond.selects (ri_Yn 129).cls (ri_Yn 129) (ri_Yn 129) ∈ ri_G ∧ Cond.initialized (ri_Yn 129).cls ∈ ri_G ∧ ((ri_Yn 129).cls ≠ "java/lang/invoke/MethodHandle" ∧ (ri_Yn 129).cls ≠ "java/lang/invoke/VarHandle" ∧ (parseMethodDescriptor (ri_Yn 129).desc).map (fun d => d.parameters.length) = some 0) := ⟨ri_tg5 (List.mem_of_getElem? (i := 84) rfl) rfl, ri_tg5 (List.mem_of_getElem? (i := 85) rfl) rfl, ri_tg1 (List.mem_of_getElem? (i := 1) rfl) rfl, ⟨by decide +kernel, by decide +kernel, by decide +kernel⟩⟩
set_option maxRecDepth 20000 in
theorem gw598 : Cond.methodLink RL 172 (ri_Yn 290) ∈ ri_G := ri_tg8 (List.mem_of_getElem? (i := 125) rfl) rfl
set_option maxRecDepth 20000 in
theorem mw290v : Cond.instanceMethod (ri_Yn 290) ∈ ri_G ∧ Cond.selects (ri_Yn 290).cls (ri_Yn 290) (ri_Yn 290) ∈ ri_G ∧ Cond.initialized (ri_Yn 290).cls ∈ ri_G ∧ ((ri_Yn 290).cls ≠ "java/lang/invoke/MethodHandle" ∧ (ri_Yn 290).cls ≠ "java/lang/invoke/VarHandle" ∧ (parseMethodDescriptor (ri_Yn 290).desc).map (fun d => d.parameters.length) = some 0) := ⟨ri_tg8 (List.mem_of_getElem? (i := 126) rfl) rfl, ri_tg8 (List.mem_of_getElem? (i := 127) rfl) rfl, ri_tg1 (List.mem_of_getElem? (i := 13) rfl) rfl, ⟨by decide +kernel, by decide +kernel, by decide +kernel⟩⟩
set_option maxRecDepth 20000 in
theorem gw599 : Cond.methodLink RL 173 (ri_Yn 130) ∈ ri_G := ri_tg5 (List.mem_of_getElem? (i := 106) rfl) rfl
set_option maxRecDepth 20000 in
theorem mw130v : Cond.instanceMethod (ri_Yn 130) ∈ ri_G ∧ Cond.selects (ri_Yn 130).cls (ri_Yn 130) (ri_Yn 130) ∈ ri_G ∧ Cond.initialized (ri_Yn 130).cls ∈ ri_G ∧ ((ri_Yn 130).cls ≠ "java/lang/invoke/MethodHandle" ∧ (ri_Yn 130).cls ≠ "java/lang/invoke/VarHandle" ∧ (parseMethodDescriptor (ri_Yn 130).desc).map (fun d => d.parameters.length) = some 0) := ⟨ri_tg5 (List.mem_of_getElem? (i := 107) rfl) rfl, ri_tg5 (List.mem_of_getElem? (i := 108) rfl) rfl, ri_tg1 (List.mem_of_getElem? (i := 1) rfl) rfl, ⟨by decide +kernel, by decide +kernel, by decide +kernel⟩⟩
set_option maxRecDepth 20000 in
theorem gw600 : Cond.methodLink RL 176 (ri_Yn 281) ∈ ri_G := ri_tg8 (List.mem_of_getElem? (i := 89) rfl) rfl
set_option maxRecDepth 20000 in
theorem mw281v : Cond.instanceMethod (ri_Yn 281) ∈ ri_G ∧ Cond.selects (ri_Yn 281).cls (ri_Yn 281) (ri_Yn 281) ∈ ri_G ∧ Cond.initialized (ri_Yn 281).cls ∈ ri_G ∧ ((ri_Yn 281).cls ≠ "java/lang/invoke/MethodHandle" ∧ (ri_Yn 281).cls ≠ "java/lang/invoke/VarHandle" ∧ (parseMethodDescriptor (ri_Yn 281).desc).map (fun d => d.parameters.length) = some 0) := ⟨ri_tg8 (List.mem_of_getElem? (i := 90) rfl) rfl, ri_tg8 (List.mem_of_getElem? (i := 91) rfl) rfl, ri_tg1 (List.mem_of_getElem? (i := 13) rfl) rfl, ⟨by decide +kernel, by decide +kernel, by decide +kernel⟩⟩
set_option maxRecDepth 20000 in
theorem gw601 : Cond.methodLink RL 177 (ri_Yn 131) ∈ ri_G := ri_tg5 (List.mem_of_getElem? (i := 114) rfl) rfl
set_option maxRecDepth 20000 in
theorem mw131v : Cond.instanceMethod (ri_Yn 131) ∈ ri_G ∧ Cond.selects (ri_Yn 131).cls (ri_Yn 131) (ri_Yn 131) ∈ ri_G ∧ Cond.initialized (ri_Yn 131).cls ∈ ri_G ∧ ((ri_Yn 131).cls ≠ "java/lang/invoke/MethodHandle" ∧ (ri_Yn 131).cls ≠ "java/lang/invoke/VarHandle" ∧ (parseMethodDescriptor (ri_Yn 131).desc).map (fun d => d.parameters.length) = some 0) := ⟨ri_tg5 (List.mem_of_getElem? (i := 115) rfl) rfl, ri_tg5 (List.mem_of_getElem? (i := 116) rfl) rfl, ri_tg1 (List.mem_of_getElem? (i := 1) rfl) rfl, ⟨by decide +kernel, by decide +kernel, by decide +kernel⟩⟩
set_option maxRecDepth 20000 in
theorem gw602 : Cond.methodLink RL 180 (ri_Yn 282) ∈ ri_G := ri_tg8 (List.mem_of_getElem? (i := 97) rfl) rfl
set_option maxRecDepth 20000 in
theorem mw282v : Cond.instanceMethod (ri_Yn 282) ∈ ri_G ∧ Cond.selects (ri_Yn 282).cls (ri_Yn 282) (ri_Yn 282) ∈ ri_G ∧ Cond.initialized (ri_Yn 282).cls ∈ ri_G ∧ ((ri_Yn 282).cls ≠ "java/lang/invoke/MethodHandle" ∧ (ri_Yn 282).cls ≠ "java/lang/invoke/VarHandle" ∧ (parseMethodDescriptor (ri_Yn 282).desc).map (fun d => d.parameters.length) = some 0) := ⟨ri_tg8 (List.mem_of_getElem? (i := 98) rfl) rfl, ri_tg8 (List.mem_of_getElem? (i := 99) rfl) rfl, ri_tg1 (List.mem_of_getElem? (i := 13) rfl) rfl, ⟨by decide +kernel, by decide +kernel, by decide +kernel⟩⟩
set_option maxRecDepth 20000 in
theorem gw603 : Cond.methodLink RL 181 (ri_Yn 132) ∈ ri_G := ri_tg5 (List.mem_of_getElem? (i := 118) rfl) rfl
set_option maxRecDepth 20000 in
theorem mw132v : Cond.instanceMethod (ri_Yn 132) ∈ ri_G ∧ Cond.selects (ri_Yn 132).cls (ri_Yn 132) (ri_Yn 132) ∈ ri_G ∧ Cond.initialized (ri_Yn 132).cls ∈ ri_G ∧ ((ri_Yn 132).cls ≠ "java/lang/invoke/MethodHandle" ∧ (ri_Yn 132).cls ≠ "java/lang/invoke/VarHandle" ∧ (parseMethodDescriptor (ri_Yn 132).desc).map (fun d => d.parameters.length) = some 0) := ⟨ri_tg5 (List.mem_of_getElem? (i := 119) rfl) rfl, ri_tg5 (List.mem_of_getElem? (i := 120) rfl) rfl, ri_tg1 (List.mem_of_getElem? (i := 1) rfl) rfl, ⟨by decide +kernel, by decide +kernel, by decide +kernel⟩⟩
set_option maxRecDepth 20000 in
theorem gw604 : Cond.methodLink RL 184 (ri_Yn 283) ∈ ri_G := ri_tg8 (List.mem_of_getElem? (i := 101) rfl) rfl
set_option maxRecDepth 20000 in
theorem mw283v : Cond.instanceMethod (ri_Yn 283) ∈ ri_G ∧ Cond.selects (ri_Yn 283).cls (ri_Yn 283) (ri_Yn 283) ∈ ri_G ∧ Cond.initialized (ri_Yn 283).cls ∈ ri_G ∧ ((ri_Yn 283).cls ≠ "java/lang/invoke/MethodHandle" ∧ (ri_Yn 283).cls ≠ "java/lang/invoke/VarHandle" ∧ (parseMethodDescriptor (ri_Yn 283).desc).map (fun d => d.parameters.length) = some 0) := ⟨ri_tg8 (List.mem_of_getElem? (i := 102) rfl) rfl, ri_tg8 (List.mem_of_getElem? (i := 103) rfl) rfl, ri_tg1 (List.mem_of_getElem? (i := 13) rfl) rfl, ⟨by decide +kernel, by decide +kernel, by decide +kernel⟩⟩
set_option maxRecDepth 20000 in
theorem gw605 : Cond.methodLink RL 185 (ri_Yn 133) ∈ ri_G := ri_tg5 (List.mem_of_getElem? (i := 122) rfl) rfl
set_option maxRecDepth 20000 in
theorem mw133v : Cond.instanceMethod (ri_Yn 133) ∈ ri_G ∧ Cond.selects (ri_Yn 133).cls (ri_Yn 133) (ri_Yn 133) ∈ ri_G ∧ Cond.initialized (ri_Yn 133).cls ∈ ri_G ∧ ((ri_Yn 133).cls ≠ "java/lang/invoke/MethodHandle" ∧ (ri_Yn 133).cls ≠ "java/lang/invoke/VarHandle" ∧ (parseMethodDescriptor (ri_Yn 133).desc).map (fun d => d.parameters.length) = some 0) := ⟨ri_tg5 (List.mem_of_getElem? (i := 123) rfl) rfl, ri_tg5 (List.mem_of_getElem? (i := 124) rfl) rfl, ri_tg1 (List.mem_of_getElem? (i := 1) rfl) rfl, ⟨by decide +kernel, by decide +kernel, by decide +kernel⟩⟩
set_option maxRecDepth 20000 in
theorem gw606 : Cond.methodLink RL 188 (ri_Yn 288) ∈ ri_G := ri_tg8 (List.mem_of_getElem? (i := 121) rfl) rfl
set_option maxRecDepth 20000 in
theorem gw607 : Cond.methodLink RL 189 (ri_Yn 134) ∈ ri_G := ri_tg5 (List.mem_of_getElem? (i := 130) rfl) rfl
set_option maxRecDepth 20000 in
theorem mw134v : Cond.instanceMethod (ri_Yn 134) ∈ ri_G ∧ Cond.selects (ri_Yn 134).cls (ri_Yn 134) (ri_Yn 134) ∈ ri_G ∧ Cond.initialized (ri_Yn 134).cls ∈ ri_G ∧ ((ri_Yn 134).cls ≠ "java/lang/invoke/MethodHandle" ∧ (ri_Yn 134).cls ≠ "java/lang/invoke/VarHandle" ∧ (parseMethodDescriptor (ri_Yn 134).desc).map (fun d => d.parameters.length) = some 2) := ⟨ri_tg5 (List.mem_of_getElem? (i := 131) rfl) rfl, ri_tg5 (List.mem_of_getElem? (i := 132) rfl) rfl, ri_tg1 (List.mem_of_getElem? (i := 1) rfl) rfl, ⟨by decide +kernel, by decide +kernel, by decide +kernel⟩⟩
set_option maxRecDepth 20000 in
theorem gw608 : Cond.methodLink RL 192 (ri_Yn 291) ∈ ri_G := ri_tg8 (List.mem_of_getElem? (i := 135) rfl) rfl
set_option maxRecDepth 20000 in
theorem mw291v : Cond.instanceMethod (ri_Yn 291) ∈ ri_G ∧ Cond.selects (ri_Yn 291).cls (ri_Yn 291) (ri_Yn 291) ∈ ri_G ∧ Cond.initialized (ri_Yn 291).cls ∈ ri_G ∧ ((ri_Yn 291).cls ≠ "java/lang/invoke/MethodHandle" ∧ (ri_Yn 291).cls ≠ "java/lang/invoke/VarHandle" ∧ (parseMethodDescriptor (ri_Yn 291).desc).map (fun d => d.parameters.length) = some 2) := ⟨ri_tg8 (List.mem_of_getElem? (i := 136) rfl) rfl, ri_tg8 (List.mem_of_getElem? (i := 137) rfl) rfl, ri_tg1 (List.mem_of_getElem? (i := 13) rfl) rfl, ⟨by decide +kernel, by decide +kernel, by decide +kernel⟩⟩
set_option maxRecDepth 20000 in
theorem gw609 : Cond.methodLink RL 193 (ri_Yn 135) ∈ ri_G := ri_tg5 (List.mem_of_getElem? (i := 135) rfl) rfl
set_option maxRecDepth 20000 in
theorem mw135v : Cond.instanceMethod (ri_Yn 135) ∈ ri_G ∧ Cond.selects (ri_Yn 135).cls (ri_Yn 135) (ri_Yn 135) ∈ ri_G ∧ Cond.initialized (ri_Yn 135).cls ∈ ri_G ∧ ((ri_Yn 135).cls ≠ "java/lang/invoke/MethodHandle" ∧ (ri_Yn 135).cls ≠ "java/lang/invoke/VarHandle" ∧ (parseMethodDescriptor (ri_Yn 135).desc).map (fun d => d.parameters.length) = some 1) := ⟨ri_tg5 (List.mem_of_getElem? (i := 136) rfl) rfl, ri_tg5 (List.mem_of_getElem? (i := 137) rfl) rfl, ri_tg1 (List.mem_of_getElem? (i := 1) rfl) rfl, ⟨by decide +kernel, by decide +kernel, by decide +kernel⟩⟩
set_option maxRecDepth 20000 in
theorem gw610 : Cond.methodLink RL 196 (ri_Yn 293) ∈ ri_G := ri_tg8 (List.mem_of_getElem? (i := 139) rfl) rfl
set_option maxRecDepth 20000 in
theorem gw611 : Cond.methodLink RL 197 (ri_Yn 136) ∈ ri_G := ri_tg5 (List.mem_of_getElem? (i := 150) rfl) rfl
set_option maxRecDepth 20000 in
theorem mw136v : Cond.instanceMethod (ri_Yn 136) ∈ ri_G ∧ Cond.selects (ri_Yn 136).cls (ri_Yn 136) (ri_Yn 136) ∈ ri_G ∧ Cond.initialized (ri_Yn 136).cls ∈ ri_G ∧ ((ri_Yn 136).cls ≠ "java/lang/invoke/MethodHandle" ∧ (ri_Yn 136).cls ≠ "java/lang/invoke/VarHandle" ∧ (parseMethodDescriptor (ri_Yn 136).desc).map (fun d => d.parameters.length) = some 2) := ⟨ri_tg5 (List.mem_of_getElem? (i := 151) rfl) rfl, ri_tg5 (List.mem_of_getElem? (i := 152) rfl) rfl, ri_tg1 (List.mem_of_getElem? (i := 1) rfl) rfl, ⟨by decide +kernel, by decide +kernel, by decide +kernel⟩⟩
set_option maxRecDepth 20000 in
theorem gw612 : Cond.methodLink RL 200 (ri_Yn 294) ∈ ri_G := ri_tg8 (List.mem_of_getElem? (i := 151) rfl) rfl
set_option maxRecDepth 20000 in
theorem mw294v : Cond.instanceMethod (ri_Yn 294) ∈ ri_G ∧ Cond.selects (ri_Yn 294).cls (ri_Yn 294) (ri_Yn 294) ∈ ri_G ∧ Cond.initialized (ri_Yn 294).cls ∈ ri_G ∧ ((ri_Yn 294).cls ≠ "java/lang/invoke/MethodHandle" ∧ (ri_Yn 294).cls ≠ "java/lang/invoke/VarHandle" ∧ (parseMethodDescriptor (ri_Yn 294).desc).map (fun d => d.parameters.length) = some 2) := ⟨ri_tg8 (List.mem_of_getElem? (i := 152) rfl) rfl, ri_tg8 (List.mem_of_getElem? (i := 153) rfl) rfl, ri_tg1 (List.mem_of_getElem? (i := 13) rfl) rfl, ⟨by decide +kernel, by decide +kernel, by decide +kernel⟩⟩
set_option maxRecDepth 20000 in
theorem gw613 : Cond.methodLink RL 201 (ri_Yn 137) ∈ ri_G := ri_tg5 (List.mem_of_getElem? (i := 154) rfl) rfl
set_option maxRecDepth 20000 in
theorem mw137v : Cond.instanceMethod (ri_Yn 137) ∈ ri_G ∧ Cond.selects (ri_Yn 137).cls (ri_Yn 137) (ri_Yn 137) ∈ ri_G ∧ Cond.initialized (ri_Yn 137).cls ∈ ri_G ∧ ((ri_Yn 137).cls ≠ "java/lang/invoke/MethodHandle" ∧ (ri_Yn 137).cls ≠ "java/lang/invoke/VarHandle" ∧ (parseMethodDescriptor (ri_Yn 137).desc).map (fun d => d.parameters.length) = some 3) := ⟨ri_tg5 (List.mem_of_getElem? (i := 155) rfl) rfl, ri_tg5 (List.mem_of_getElem? (i := 156) rfl) rfl, ri_tg1 (List.mem_of_getElem? (i := 1) rfl) rfl, ⟨by decide +kernel, by decide +kernel, by decide +kernel⟩⟩
set_option maxRecDepth 20000 in
theorem gw614 : Cond.methodLink RL 204 (ri_Yn 295) ∈ ri_G := ri_tg8 (List.mem_of_getElem? (i := 155) rfl) rfl
set_option maxRecDepth 20000 in
theorem mw295v : Cond.instanceMethod (ri_Yn 295) ∈ ri_G ∧ Cond.selects (ri_Yn 295).cls (ri_Yn 295) (ri_Yn 295) ∈ ri_G ∧ Cond.initialized (ri_Yn 295).cls ∈ ri_G ∧ ((ri_Yn 295).cls ≠ "java/lang/invoke/MethodHandle" ∧ (ri_Yn 295).cls ≠ "java/lang/invoke/VarHandle" ∧ (parseMethodDescriptor (ri_Yn 295).desc).map (fun d => d.parameters.length) = some 3) := ⟨ri_tg8 (List.mem_of_getElem? (i := 156) rfl) rfl, ri_tg8 (List.mem_of_getElem? (i := 157) rfl) rfl, ri_tg1 (List.mem_of_getElem? (i := 13) rfl) rfl, ⟨by decide +kernel, by decide +kernel, by decide +kernel⟩⟩
set_option maxRecDepth 20000 in
theorem gw615 : Cond.methodLink RL 205 (ri_Yn 138) ∈ ri_G := ri_tg5 (List.mem_of_getElem? (i := 171) rfl) rfl
set_option maxRecDepth 20000 in
theorem mw138v : Cond.instanceMethod (ri_Yn 138) ∈ ri_G ∧ Cond.selects (ri_Yn 138).cls (ri_Yn 138) (ri_Yn 138) ∈ ri_G ∧ Cond.initialized (ri_Yn 138).cls ∈ ri_G ∧ ((ri_Yn 138).cls ≠ "java/lang/invoke/MethodHandle" ∧ (ri_Yn 138).cls ≠ "java/lang/invoke/VarHandle" ∧ (parseMethodDescriptor (ri_Yn 138).desc).map (fun d => d.parameters.length) = some 0) := ⟨ri_tg5 (List.mem_of_getElem? (i := 172) rfl) rfl, ri_tg5 (List.mem_of_getElem? (i := 173) rfl) rfl, ri_tg1 (List.mem_of_getElem? (i := 1) rfl) rfl, ⟨by decide +kernel, by decide +kernel, by decide +kernel⟩⟩
set_option maxRecDepth 20000 in
theorem gw616 : Cond.methodLink RL 208 (ri_Yn 296) ∈ ri_G := ri_tg8 (List.mem_of_getElem? (i := 159) rfl) rfl
set_option maxRecDepth 20000 in
theorem mw296v : Cond.instanceMethod (ri_Yn 296) ∈ ri_G ∧ Cond.selects (ri_Yn 296).cls (ri_Yn 296) (ri_Yn 296) ∈ ri_G ∧ Cond.initialized (ri_Yn 296).cls ∈ ri_G ∧ ((ri_Yn 296).cls ≠ "java/lang/invoke/MethodHandle" ∧ (ri_Yn 296).cls ≠ "java/lang/invoke/VarHandle" ∧ (parseMethodDescriptor (ri_Yn 296).desc).map (fun d => d.parameters.length) = some 0) := ⟨ri_tg8 (List.mem_of_getElem? (i := 160) rfl) rfl, ri_tg8 (List.mem_of_getElem? (i := 161) rfl) rfl, ri_tg1 (List.mem_of_getElem? (i := 13) rfl) rfl, ⟨by decide +kernel, by decide +kernel, by decide +kernel⟩⟩
set_option maxRecDepth 20000 in
theorem gw617 : Cond.methodLink RL 209 (ri_Yn 139) ∈ ri_G := ri_tg5 (List.mem_of_getElem? (i := 175) rfl) rfl
set_option maxRecDepth 20000 in
theorem mw139v : Cond.instanceMethod (ri_Yn 139) ∈ ri_G ∧ Cond.selects (ri_Yn 139).cls (ri_Yn 139) (ri_Yn 139) ∈ ri_G ∧ Cond.initialized (ri_Yn 139).cls ∈ ri_G ∧ ((ri_Yn 139).cls ≠ "java/lang/invoke/MethodHandle" ∧ (ri_Yn 139).cls ≠ "java/lang/invoke/VarHandle" ∧ (parseMethodDescriptor (ri_Yn 139).desc).map (fun d => d.parameters.length) = some 1) := ⟨ri_tg5 (List.mem_of_getElem? (i := 176) rfl) rfl, ri_tg5 (List.mem_of_getElem? (i := 177) rfl) rfl, ri_tg1 (List.mem_of_getElem? (i := 1) rfl) rfl, ⟨by decide +kernel, by decide +kernel, by decide +kernel⟩⟩
set_option maxRecDepth 20000 in
theorem gw618 : Cond.methodLink RL 212 (ri_Yn 297) ∈ ri_G := ri_tg8 (List.mem_of_getElem? (i := 165) rfl) rfl
set_option maxRecDepth 20000 in
theorem mw297v : Cond.instanceMethod (ri_Yn 297) ∈ ri_G ∧ Cond.selects (ri_Yn 297).cls (ri_Yn 297) (ri_Yn 297) ∈ ri_G ∧ Cond.initialized (ri_Yn 297).cls ∈ ri_G ∧ ((ri_Yn 297).cls ≠ "java/lang/invoke/MethodHandle" ∧ (ri_Yn 297).cls ≠ "java/lang/invoke/VarHandle" ∧ (parseMethodDescriptor (ri_Yn 297).desc).map (fun d => d.parameters.length) = some 1) := ⟨ri_tg8 (List.mem_of_getElem? (i := 166) rfl) rfl, ri_tg8 (List.mem_of_getElem? (i := 167) rfl) rfl, ri_tg1 (List.mem_of_getElem? (i := 13) rfl) rfl, ⟨by decide +kernel, by decide +kernel, by decide +kernel⟩⟩
set_option maxRecDepth 20000 in
theorem gw619 : Cond.methodLink RL 213 (ri_Yn 140) ∈ ri_G := ri_tg5 (List.mem_of_getElem? (i := 183) rfl) rfl
set_option maxRecDepth 20000 in
theorem mw140v : Cond.instanceMethod (ri_Yn 140) ∈ ri_G ∧ Cond.selects (ri_Yn 140).cls (ri_Yn 140) (ri_Yn 140) ∈ ri_G ∧ Cond.initialized (ri_Yn 140).cls ∈ ri_G ∧ ((ri_Yn 140).cls ≠ "java/lang/invoke/MethodHandle" ∧ (ri_Yn 140).cls ≠ "java/lang/invoke/VarHandle" ∧ (parseMethodDescriptor (ri_Yn 140).desc).map (fun d => d.parameters.length) = some 3) := ⟨ri_tg5 (List.mem_of_getElem? (i := 184) rfl) rfl, ri_tg5 (List.mem_of_getElem? (i := 185) rfl) rfl, ri_tg1 (List.mem_of_getElem? (i := 1) rfl) rfl, ⟨by decide +kernel, by decide +kernel, by decide +kernel⟩⟩
set_option maxRecDepth 20000 in
theorem gw620 : Cond.methodLink RL 216 (ri_Yn 299) ∈ ri_G := ri_tg8 (List.mem_of_getElem? (i := 169) rfl) rfl
set_option maxRecDepth 20000 in
theorem mw299v : Cond.instanceMethod (ri_Yn 299) ∈ ri_G ∧ Cond.selects (ri_Yn 299).cls (ri_Yn 299) (ri_Yn 299) ∈ ri_G ∧ Cond.initialized (ri_Yn 299).cls ∈ ri_G ∧ ((ri_Yn 299).cls ≠ "java/lang/invoke/MethodHandle" ∧ (ri_Yn 299).cls ≠ "java/lang/invoke/VarHandle" ∧ (parseMethodDescriptor (ri_Yn 299).desc).map (fun d => d.parameters.length) = some 3) := ⟨ri_tg8 (List.mem_of_getElem? (i := 170) rfl) rfl, ri_tg8 (List.mem_of_getElem? (i := 171) rfl) rfl, ri_tg1 (List.mem_of_getElem? (i := 13) rfl) rfl, ⟨by decide +kernel, by decide +kernel, by decide +kernel⟩⟩
set_option maxRecDepth 20000 in
theorem gw621 : Cond.methodLink RL 217 (ri_Yn 141) ∈ ri_G := ri_tg5 (List.mem_of_getElem? (i := 191) rfl) rfl
set_option maxRecDepth 20000 in
theorem mw141v : Cond.instanceMethod (ri_Yn 141) ∈ ri_G ∧ Cond.selects (ri_Yn 141).cls (ri_Yn 141) (ri_Yn 141) ∈ ri_G ∧ Cond.initialized (ri_Yn 141).cls ∈ ri_G ∧ ((ri_Yn 141).cls ≠ "java/lang/invoke/MethodHandle" ∧ (ri_Yn 141).cls ≠ "java/lang/invoke/VarHandle" ∧ (parseMethodDescriptor (ri_Yn 141).desc).map (fun d => d.parameters.length) = some 0) := ⟨ri_tg5 (List.mem_of_getElem? (i := 192) rfl) rfl, ri_tg5 (List.mem_of_getElem? (i := 193) rfl) rfl, ri_tg1 (List.mem_of_getElem? (i := 1) rfl) rfl, ⟨by decide +kernel, by decide +kernel, by decide +kernel⟩⟩
set_option maxRecDepth 20000 in
theorem gw622 : Cond.methodLink RL 220 (ri_Yn 300) ∈ ri_G := ri_tg8 (List.mem_of_getElem? (i := 177) rfl) rfl
set_option maxRecDepth 20000 in
theorem mw300v : Cond.instanceMethod (ri_Yn 300) ∈ ri_G ∧ Cond.selects (ri_Yn 300).cls (ri_Yn 300) (ri_Yn 300) ∈ ri_G ∧ Cond.initialized (ri_Yn 300).cls ∈ ri_G ∧ ((ri_Yn 300).cls ≠ "java/lang/invoke/MethodHandle" ∧ (ri_Yn 300).cls ≠ "java/lang/invoke/VarHandle" ∧ (parseMethodDescriptor (ri_Yn 300).desc).map (fun d => d.parameters.length) = some 0) := ⟨ri_tg8 (List.mem_of_getElem? (i := 178) rfl) rfl, ri_tg8 (List.mem_of_getElem? (i := 179) rfl) rfl, ri_tg1 (List.mem_of_getElem? (i := 13) rfl) rfl, ⟨by decide +kernel, by decide +kernel, by decide +kernel⟩⟩
set_option maxRecDepth 20000 in
theorem gw623 : Cond.methodLink RL 221 (ri_Yn 142) ∈ ri_G := ri_tg5 (List.mem_of_getElem? (i := 195) rfl) rfl
set_option maxRecDepth 20000 in
theorem mw142v : Cond.instanceMethod (ri_Yn 142) ∈ ri_G ∧ Cond.selects (ri_Yn 142).cls (ri_Yn 142) (ri_Yn 142) ∈ ri_G ∧ Cond.initialized (ri_Yn 142).cls ∈ ri_G ∧ ((ri_Yn 142).cls ≠ "java/lang/invoke/MethodHandle" ∧ (ri_Yn 142).cls ≠ "java/lang/invoke/VarHandle" ∧ (parseMethodDescriptor (ri_Yn 142).desc).map (fun d => d.parameters.length) = some 1) := ⟨ri_tg5 (List.mem_of_getElem? (i := 196) rfl) rfl, ri_tg5 (List.mem_of_getElem? (i := 197) rfl) rfl, ri_tg1 (List.mem_of_getElem? (i := 1) rfl) rfl, ⟨by decide +kernel, by decide +kernel, by decide +kernel⟩⟩
set_option maxRecDepth 20000 in
theorem gw624 : Cond.methodLink RL 224 (ri_Yn 303) ∈ ri_G := ri_tg8 (List.mem_of_getElem? (i := 181) rfl) rfl
set_option maxRecDepth 20000 in
theorem mw303v : Cond.instanceMethod (ri_Yn 303) ∈ ri_G ∧ Cond.selects (ri_Yn 303).cls (ri_Yn 303) (ri_Yn 303) ∈ ri_G ∧ Cond.initialized (ri_Yn 303).cls ∈ ri_G ∧ ((ri_Yn 303).cls ≠ "java/lang/invoke/MethodHandle" ∧ (ri_Yn 303).cls ≠ "java/lang/invoke/VarHandle" ∧ (parseMethodDescriptor (ri_Yn 303).desc).map (fun d => d.parameters.length) = some 1) := ⟨ri_tg8 (List.mem_of_getElem? (i := 182) rfl) rfl, ri_tg8 (List.mem_of_getElem? (i := 183) rfl) rfl, ri_tg1 (List.mem_of_getElem? (i := 13) rfl) rfl, ⟨by decide +kernel, by decide +kernel, by decide +kernel⟩⟩
set_option maxRecDepth 20000 in
theorem gw625 : Cond.methodLink RL 225 (ri_Yn 143) ∈ ri_G := ri_tg5 (List.mem_of_getElem? (i := 219) rfl) rfl
set_option maxRecDepth 20000 in
theorem mw143v : Cond.instanceMethod (ri_Yn 143) ∈ ri_G ∧ Cond.selects (ri_Yn 143).cls (ri_Yn 143) (ri_Yn 143) ∈ ri_G ∧ Cond.initialized (ri_Yn 143).cls ∈ ri_G ∧ ((ri_Yn 143).cls ≠ "java/lang/invoke/MethodHandle" ∧ (ri_Yn 143).cls ≠ "java/lang/invoke/VarHandle" ∧ (parseMethodDescriptor (ri_Yn 143).desc).map (fun d => d.parameters.length) = some 2) := ⟨ri_tg5 (List.mem_of_getElem? (i := 220) rfl) rfl, ri_tg5 (List.mem_of_getElem? (i := 221) rfl) rfl, ri_tg1 (List.mem_of_getElem? (i := 1) rfl) rfl, ⟨by decide +kernel, by decide +kernel, by decide +kernel⟩⟩
set_option maxRecDepth 20000 in
theorem gw626 : Cond.methodLink RL 228 (ri_Yn 304) ∈ ri_G := ri_tg8 (List.mem_of_getElem? (i := 197) rfl) rfl
set_option maxRecDepth 20000 in
theorem mw304v : Cond.instanceMethod (ri_Yn 304) ∈ ri_G ∧ Cond.selects (ri_Yn 304).cls (ri_Yn 304) (ri_Yn 304) ∈ ri_G ∧ Cond.initialized (ri_Yn 304).cls ∈ ri_G ∧ ((ri_Yn 304).cls ≠ "java/lang/invoke/MethodHandle" ∧ (ri_Yn 304).cls ≠ "java/lang/invoke/VarHandle" ∧ (parseMethodDescriptor (ri_Yn 304).desc).map (fun d => d.parameters.length) = some 2) := ⟨ri_tg8 (List.mem_of_getElem? (i := 198) rfl) rfl, ri_tg8 (List.mem_of_getElem? (i := 199) rfl) rfl, ri_tg1 (List.mem_of_getElem? (i := 13) rfl) rfl, ⟨by decide +kernel, by decide +kernel, by decide +kernel⟩⟩
set_option maxRecDepth 20000 in
theorem gw627 : Cond.methodLink RL 229 (ri_Yn 144) ∈ ri_G := ri_tg5 (List.mem_of_getElem? (i := 223) rfl) rfl
set_option maxRecDepth 20000 in
theorem mw144v : Cond.instanceMethod (ri_Yn 144) ∈ ri_G ∧ Cond.selects (ri_Yn 144).cls (ri_Yn 144) (ri_Yn 144) ∈ ri_G ∧ Cond.initialized (ri_Yn 144).cls ∈ ri_G ∧ ((ri_Yn 144).cls ≠ "java/lang/invoke/MethodHandle" ∧ (ri_Yn 144).cls ≠ "java/lang/invoke/VarHandle" ∧ (parseMethodDescriptor (ri_Yn 144).desc).map (fun d => d.parameters.length) = some 0) := ⟨ri_tg5 (List.mem_of_getElem? (i := 224) rfl) rfl, ri_tg5 (List.mem_of_getElem? (i := 225) rfl) rfl, ri_tg1 (List.mem_of_getElem? (i := 1) rfl) rfl, ⟨by decide +kernel, by decide +kernel, by decide +kernel⟩⟩
set_option maxRecDepth 20000 in
theorem gw628 : Cond.methodLink RL 232 (ri_Yn 305) ∈ ri_G := ri_tg8 (List.mem_of_getElem? (i := 201) rfl) rfl
set_option maxRecDepth 20000 in
theorem mw305v : Cond.instanceMethod (ri_Yn 305) ∈ ri_G ∧ Cond.selects (ri_Yn 305).cls (ri_Yn 305) (ri_Yn 305) ∈ ri_G ∧ Cond.initialized (ri_Yn 305).cls ∈ ri_G ∧ ((ri_Yn 305).cls ≠ "java/lang/invoke/MethodHandle" ∧ (ri_Yn 305).cls ≠ "java/lang/invoke/VarHandle" ∧ (parseMethodDescriptor (ri_Yn 305).desc).map (fun d => d.parameters.length) = some 0) := ⟨ri_tg8 (List.mem_of_getElem? (i := 202) rfl) rfl, ri_tg8 (List.mem_of_getElem? (i := 203) rfl) rfl, ri_tg1 (List.mem_of_getElem? (i := 13) rfl) rfl, ⟨by decide +kernel, by decide +kernel, by decide +kernel⟩⟩
set_option maxRecDepth 20000 in
theorem gw629 : Cond.methodLink RL 233 (ri_Yn 145) ∈ ri_G := ri_tg5 (List.mem_of_getElem? (i := 232) rfl) rfl
set_option maxRecDepth 20000 in
theorem mw145v : Cond.instanceMethod (ri_Yn 145) ∈ ri_G ∧ Cond.selects (ri_Yn 145).cls (ri_Yn 145) (ri_Yn 145) ∈ ri_G ∧ Cond.initialized (ri_Yn 145).cls ∈ ri_G ∧ ((ri_Yn 145).cls ≠ "java/lang/invoke/MethodHandle" ∧ (ri_Yn 145).cls ≠ "java/lang/invoke/VarHandle" ∧ (parseMethodDescriptor (ri_Yn 145).desc).map (fun d => d.parameters.length) = some 2) := ⟨ri_tg5 (List.mem_of_getElem? (i := 233) rfl) rfl, ri_tg5 (List.mem_of_getElem? (i := 234) rfl) rfl, ri_tg1 (List.mem_of_getElem? (i := 1) rfl) rfl, ⟨by decide +kernel, by decide +kernel, by decide +kernel⟩⟩
set_option maxRecDepth 20000 in
theorem gw630 : Cond.methodLink RL 236 (ri_Yn 309) ∈ ri_G := ri_tg8 (List.mem_of_getElem? (i := 205) rfl) rfl
set_option maxRecDepth 20000 in
theorem mw309v : Cond.instanceMethod (ri_Yn 309) ∈ ri_G ∧ Cond.selects (ri_Yn 309).cls (ri_Yn 309) (ri_Yn 309) ∈ ri_G ∧ Cond.initialized (ri_Yn 309).cls ∈ ri_G ∧ ((ri_Yn 309).cls ≠ "java/lang/invoke/MethodHandle" ∧ (ri_Yn 309).cls ≠ "java/lang/invoke/VarHandle" ∧ (parseMethodDescriptor (ri_Yn 309).desc).map (fun d => d.parameters.length) = some 2) := ⟨ri_tg8 (List.mem_of_getElem? (i := 206) rfl) rfl, ri_tg8 (List.mem_of_getElem? (i := 207) rfl) rfl, ri_tg1 (List.mem_of_getElem? (i := 13) rfl) rfl, ⟨by decide +kernel, by decide +kernel, by decide +kernel⟩⟩
set_option maxRecDepth 20000 in
theorem gw631 : Cond.methodLink RL 237 (ri_Yn 146) ∈ ri_G := ri_tg6 (List.mem_of_getElem? (i := 1) rfl) rfl
set_option maxRecDepth 20000 in
theorem mw146v : Cond.instanceMethod (ri_Yn 146) ∈ ri_G ∧ Cond.selects (ri_Yn 146).cls (ri_Yn 146) (ri_Yn 146) ∈ ri_G ∧ Cond.initialized (ri_Yn 146).cls ∈ ri_G ∧ ((ri_Yn 146).cls ≠ "java/lang/invoke/MethodHandle" ∧ (ri_Yn 146).cls ≠ "java/lang/invoke/VarHandle" ∧ (parseMethodDescriptor (ri_Yn 146).desc).map (fun d => d.parameters.length) = some 1) := ⟨ri_tg6 (List.mem_of_getElem? (i := 2) rfl) rfl, ri_tg6 (List.mem_of_getElem? (i := 3) rfl) rfl, ri_tg1 (List.mem_of_getElem? (i := 1) rfl) rfl, ⟨by decide +kernel, by decide +kernel, by decide +kernel⟩⟩
set_option maxRecDepth 20000 in
theorem gw632 : Cond.methodLink RL 240 (ri_Yn 310) ∈ ri_G := ri_tg8 (List.mem_of_getElem? (i := 217) rfl) rfl
set_option maxRecDepth 20000 in
theorem mw310v : Cond.instanceMethod (ri_Yn 310) ∈ ri_G ∧ Cond.selects (ri_Yn 310).cls (ri_Yn 310) (ri_Yn 310) ∈ ri_G ∧ Cond.initialized (ri_Yn 310).cls ∈ ri_G ∧ ((ri_Yn 310).cls ≠ "java/lang/invoke/MethodHandle" ∧ (ri_Yn 310).cls ≠ "java/lang/invoke/VarHandle" ∧ (parseMethodDescriptor (ri_Yn 310).desc).map (fun d => d.parameters.length) = some 1) := ⟨ri_tg8 (List.mem_of_getElem? (i := 218) rfl) rfl, ri_tg8 (List.mem_of_getElem? (i := 219) rfl) rfl, ri_tg1 (List.mem_of_getElem? (i := 13) rfl) rfl, ⟨by decide +kernel, by decide +kernel, by decide +kernel⟩⟩
set_option maxRecDepth 20000 in
theorem gw633 : Cond.methodLink RL 241 (ri_Yn 147) ∈ ri_G := ri_tg6 (List.mem_of_getElem? (i := 5) rfl) rfl
set_option maxRecDepth 20000 in
theorem mw147v : Cond.instanceMethod (ri_Yn 147) ∈ ri_G ∧ Cond.selects (ri_Yn 147).cls (ri_Yn 147) (ri_Yn 147) ∈ ri_G ∧ Cond.initialized (ri_Yn 147).cls ∈ ri_G ∧ ((ri_Yn 147).cls ≠ "java/lang/invoke/MethodHandle" ∧ (ri_Yn 147).cls ≠ "java/lang/invoke/VarHandle" ∧ (parseMethodDescriptor (ri_Yn 147).desc).map (fun d => d.parameters.length) = some 2) := ⟨ri_tg6 (List.mem_of_getElem? (i := 6) rfl) rfl, ri_tg6 (List.mem_of_getElem? (i := 7) rfl) rfl, ri_tg1 (List.mem_of_getElem? (i := 1) rfl) rfl, ⟨by decide +kernel, by decide +kernel, by decide +kernel⟩⟩
set_option maxRecDepth 20000 in
theorem gw634 : Cond.methodLink RL 244 (ri_Yn 311) ∈ ri_G := ri_tg8 (List.mem_of_getElem? (i := 221) rfl) rfl
set_option maxRecDepth 20000 in
theorem mw311v : Cond.instanceMethod (ri_Yn 311) ∈ ri_G ∧ Cond.selects (ri_Yn 311).cls (ri_Yn 311) (ri_Yn 311) ∈ ri_G ∧ Cond.initialized (ri_Yn 311).cls ∈ ri_G ∧ ((ri_Yn 311).cls ≠ "java/lang/invoke/MethodHandle" ∧ (ri_Yn 311).cls ≠ "java/lang/invoke/VarHandle" ∧ (parseMethodDescriptor (ri_Yn 311).desc).map (fun d => d.parameters.length) = some 2) := ⟨ri_tg8 (List.mem_of_getElem? (i := 222) rfl) rfl, ri_tg8 (List.mem_of_getElem? (i := 223) rfl) rfl, ri_tg1 (List.mem_of_getElem? (i := 13) rfl) rfl, ⟨by decide +kernel, by decide +kernel, by decide +kernel⟩⟩
set_option maxRecDepth 20000 in
theorem gw635 : Cond.methodLink RL 245 (ri_Yn 148) ∈ ri_G := ri_tg6 (List.mem_of_getElem? (i := 11) rfl) rfl
set_option maxRecDepth 20000 in
theorem mw148v : Cond.instanceMethod (ri_Yn 148) ∈ ri_G ∧ Cond.selects (ri_Yn 148).cls (ri_Yn 148) (ri_Yn 148) ∈ ri_G ∧ Cond.initialized (ri_Yn 148).cls ∈ ri_G ∧ ((ri_Yn 148).cls ≠ "java/lang/invoke/MethodHandle" ∧ (ri_Yn 148).cls ≠ "java/lang/invoke/VarHandle" ∧ (parseMethodDescriptor (ri_Yn 148).desc).map (fun d => d.parameters.length) = some 1) := ⟨ri_tg6 (List.mem_of_getElem? (i := 12) rfl) rfl, ri_tg6 (List.mem_of_getElem? (i := 13) rfl) rfl, ri_tg1 (List.mem_of_getElem? (i := 1) rfl) rfl, ⟨by decide +kernel, by decide +kernel, by decide +kernel⟩⟩
set_option maxRecDepth 20000 in
theorem gw636 : Cond.methodLink RL 248 (ri_Yn 312) ∈ ri_G := ri_tg8 (List.mem_of_getElem? (i := 226) rfl) rfl
set_option maxRecDepth 20000 in
theorem mw312v : Cond.instanceMethod (ri_Yn 312) ∈ ri_G ∧ Cond.selects (ri_Yn 312).cls (ri_Yn 312) (ri_Yn 312) ∈ ri_G ∧ Cond.initialized (ri_Yn 312).cls ∈ ri_G ∧ ((ri_Yn 312).cls ≠ "java/lang/invoke/MethodHandle" ∧ (ri_Yn 312).cls ≠ "java/lang/invoke/VarHandle" ∧ (parseMethodDescriptor (ri_Yn 312).desc).map (fun d => d.parameters.length) = some 1) := ⟨ri_tg8 (List.mem_of_getElem? (i := 227) rfl) rfl, ri_tg8 (List.mem_of_getElem? (i := 228) rfl) rfl, ri_tg1 (List.mem_of_getElem? (i := 13) rfl) rfl, ⟨by decide +kernel, by decide +kernel, by decide +kernel⟩⟩
set_option maxRecDepth 20000 in
theorem gw637 : Cond.methodLink RL 249 (ri_Yn 149) ∈ ri_G := ri_tg6 (List.mem_of_getElem? (i := 15) rfl) rfl
set_option maxRecDepth 20000 in
theorem mw149v : Cond.instanceMethod (ri_Yn 149) ∈ ri_G ∧ Cond.selects (ri_Yn 149).cls (ri_Yn 149) (ri_Yn 149) ∈ ri_G ∧ Cond.initialized (ri_Yn 149).cls ∈ ri_G ∧ ((ri_Yn 149).cls ≠ "java/lang/invoke/MethodHandle" ∧ (ri_Yn 149).cls ≠ "java/lang/invoke/VarHandle" ∧ (parseMethodDescriptor (ri_Yn 149).desc).map (fun d => d.parameters.length) = some 1) := ⟨ri_tg6 (List.mem_of_getElem? (i := 16) rfl) rfl, ri_tg6 (List.mem_of_getElem? (i := 17) rfl) rfl, ri_tg1 (List.mem_of_getElem? (i := 1) rfl) rfl, ⟨by decide +kernel, by decide +kernel, by decide +kernel⟩⟩
set_option maxRecDepth 20000 in
theorem gw638 : Cond.methodLink RL 252 (ri_Yn 313) ∈ ri_G := ri_tg8 (List.mem_of_getElem? (i := 230) rfl) rfl
set_option maxRecDepth 20000 in
theorem mw313v : Cond.instanceMethod (ri_Yn 313) ∈ ri_G ∧ Cond.selects (ri_Yn 313).cls (ri_Yn 313) (ri_Yn 313) ∈ ri_G ∧ Cond.initialized (ri_Yn 313).cls ∈ ri_G ∧ ((ri_Yn 313).cls ≠ "java/lang/invoke/MethodHandle" ∧ (ri_Yn 313).cls ≠ "java/lang/invoke/VarHandle" ∧ (parseMethodDescriptor (ri_Yn 313).desc).map (fun d => d.parameters.length) = some 1) := ⟨ri_tg8 (List.mem_of_getElem? (i := 231) rfl) rfl, ri_tg8 (List.mem_of_getElem? (i := 232) rfl) rfl, ri_tg1 (List.mem_of_getElem? (i := 13) rfl) rfl, ⟨by decide +kernel, by decide +kernel, by decide +kernel⟩⟩
set_option maxRecDepth 20000 in
theorem gw639 : Cond.methodLink RL 253 (ri_Yn 150) ∈ ri_G := ri_tg6 (List.mem_of_getElem? (i := 27) rfl) rfl
set_option maxRecDepth 20000 in
theorem mw150v : Cond.instanceMethod (ri_Yn 150) ∈ ri_G ∧ Cond.selects (ri_Yn 150).cls (ri_Yn 150) (ri_Yn 150) ∈ ri_G ∧ Cond.initialized (ri_Yn 150).cls ∈ ri_G ∧ ((ri_Yn 150).cls ≠ "java/lang/invoke/MethodHandle" ∧ (ri_Yn 150).cls ≠ "java/lang/invoke/VarHandle" ∧ (parseMethodDescriptor (ri_Yn 150).desc).map (fun d => d.parameters.length) = some 1) := ⟨ri_tg6 (List.mem_of_getElem? (i := 28) rfl) rfl, ri_tg6 (List.mem_of_getElem? (i := 29) rfl) rfl, ri_tg1 (List.mem_of_getElem? (i := 1) rfl) rfl, ⟨by decide +kernel, by decide +kernel, by decide +kernel⟩⟩
set_option maxRecDepth 20000 in
theorem gw640 : Cond.methodLink RL 256 (ri_Yn 314) ∈ ri_G := ri_tg8 (List.mem_of_getElem? (i := 234) rfl) rfl
set_option maxRecDepth 20000 in
theorem mw314v : Cond.instanceMethod (ri_Yn 314) ∈ ri_G ∧ Cond.selects (ri_Yn 314).cls (ri_Yn 314) (ri_Yn 314) ∈ ri_G ∧ Cond.initialized (ri_Yn 314).cls ∈ ri_G ∧ ((ri_Yn 314).cls ≠ "java/lang/invoke/MethodHandle" ∧ (ri_Yn 314).cls ≠ "java/lang/invoke/VarHandle" ∧ (parseMethodDescriptor (ri_Yn 314).desc).map (fun d => d.parameters.length) = some 1) := ⟨ri_tg8 (List.mem_of_getElem? (i := 235) rfl) rfl, ri_tg8 (List.mem_of_getElem? (i := 236) rfl) rfl, ri_tg1 (List.mem_of_getElem? (i := 13) rfl) rfl, ⟨by decide +kernel, by decide +kernel, by decide +kernel⟩⟩
set_option maxRecDepth 20000 in
theorem gw641 : Cond.methodLink RL 257 (ri_Yn 151) ∈ ri_G := ri_tg6 (List.mem_of_getElem? (i := 35) rfl) rfl
set_option maxRecDepth 20000 in
theorem mw151v : Cond.instanceMethod (ri_Yn 151) ∈ ri_G ∧ Cond.selects (ri_Yn 151).cls (ri_Yn 151) (ri_Yn 151) ∈ ri_G ∧ Cond.initialized (ri_Yn 151).cls ∈ ri_G ∧ ((ri_Yn 151).cls ≠ "java/lang/invoke/MethodHandle" ∧ (ri_Yn 151).cls ≠ "java/lang/invoke/VarHandle" ∧ (parseMethodDescriptor (ri_Yn 151).desc).map (fun d => d.parameters.length) = some 0) := ⟨ri_tg6 (List.mem_of_getElem? (i := 36) rfl) rfl, ri_tg6 (List.mem_of_getElem? (i := 37) rfl) rfl, ri_tg1 (List.mem_of_getElem? (i := 1) rfl) rfl, ⟨by decide +kernel, by decide +kernel, by decide +kernel⟩⟩
set_option maxRecDepth 20000 in
theorem gw642 : Cond.methodLink RL 260 (ri_Yn 315) ∈ ri_G := ri_tg8 (List.mem_of_getElem? (i := 238) rfl) rfl
set_option maxRecDepth 20000 in
theorem mw315v : Cond.instanceMethod (ri_Yn 315) ∈ ri_G ∧ Cond.selects (ri_Yn 315).cls (ri_Yn 315) (ri_Yn 315) ∈ ri_G ∧ Cond.initialized (ri_Yn 315).cls ∈ ri_G ∧ ((ri_Yn 315).cls ≠ "java/lang/invoke/MethodHandle" ∧ (ri_Yn 315).cls ≠ "java/lang/invoke/VarHandle" ∧ (parseMethodDescriptor (ri_Yn 315).desc).map (fun d => d.parameters.length) = some 0) := ⟨ri_tg8 (List.mem_of_getElem? (i := 239) rfl) rfl, ri_tg9 (List.mem_of_getElem? (i := 0) rfl) rfl, ri_tg1 (List.mem_of_getElem? (i := 13) rfl) rfl, ⟨by decide +kernel, by decide +kernel, by decide +kernel⟩⟩
set_option maxRecDepth 20000 in
theorem gw643 : Cond.methodLink RL 261 (ri_Yn 152) ∈ ri_G := ri_tg6 (List.mem_of_getElem? (i := 39) rfl) rfl
set_option maxRecDepth 20000 in
theorem mw152v : Cond.instanceMethod (ri_Yn 152) ∈ ri_G ∧ Cond.selects (ri_Yn 152).cls (ri_Yn 152) (ri_Yn 152) ∈ ri_G ∧ Cond.initialized (ri_Yn 152).cls ∈ ri_G ∧ ((ri_Yn 152).cls ≠ "java/lang/invoke/MethodHandle" ∧ (ri_Yn 152).cls ≠ "java/lang/invoke/VarHandle" ∧ (parseMethodDescriptor (ri_Yn 152).desc).map (fun d => d.parameters.length) = some 0) := ⟨ri_tg6 (List.mem_of_getElem? (i := 40) rfl) rfl, ri_tg6 (List.mem_of_getElem? (i := 41) rfl) rfl, ri_tg1 (List.mem_of_getElem? (i := 1) rfl) rfl, ⟨by decide +kernel, by decide +kernel, by decide +kernel⟩⟩
set_option maxRecDepth 20000 in
theorem gw644 : Cond.methodLink RL 264 (ri_Yn 316) ∈ ri_G := ri_tg9 (List.mem_of_getElem? (i := 6) rfl) rfl
set_option maxRecDepth 20000 in
theorem mw316v : Cond.instanceMethod (ri_Yn 316) ∈ ri_G ∧ Cond.selects (ri_Yn 316).cls (ri_Yn 316) (ri_Yn 316) ∈ ri_G ∧ Cond.initialized (ri_Yn 316).cls ∈ ri_G ∧ ((ri_Yn 316).cls ≠ "java/lang/invoke/MethodHandle" ∧ (ri_Yn 316).cls ≠ "java/lang/invoke/VarHandle" ∧ (parseMethodDescriptor (ri_Yn 316).desc).map (fun d => d.parameters.length) = some 0) := ⟨ri_tg9 (List.mem_of_getElem? (i := 7) rfl) rfl, ri_tg9 (List.mem_of_getElem? (i := 8) rfl) rfl, ri_tg1 (List.mem_of_getElem? (i := 13) rfl) rfl, ⟨by decide +kernel, by decide +kernel, by decide +kernel⟩⟩
