/-! the methods: depth, cells, slots; written fields; makings -/
abbrev ed_init : MI := (yX0_init, cX0_init, 5, none, 1, 0, 0)
abbrev fd_init : MI := (yX1_init, cX1_init, 6, none, 1, 0, 0)
abbrev fd_has : MI := (yX1_has, cX1_has, 2, (some FieldType.boolean), 0, 0, 0)
abbrev fd_isNumeric : MI := (yX1_isNumeric, cX1_isNumeric, 1, (some FieldType.boolean), 0, 0, 0)
abbrev fd_leads : MI := (yX1_leads, cX1_leads, 1, (some FieldType.boolean), 0, 0, 0)
abbrev fd_holdsOn : MI := (yX1_holdsOn, cX1_holdsOn, 1, (some FieldType.boolean), 1, 0, 0)
abbrev fd_firstRow : MI := (yX1_firstRow, cX1_firstRow, 1, (some (FieldType.array FieldType.int)), 0, 1, 1)
abbrev fd_plainValue : MI := (yX1_plainValue, cX1_plainValue, 2, (some FieldType.int), 0, 0, 0)
abbrev gr_init : MI := (yX2_init, cX2_init, 1, none, 4, 1, 3)
abbrev hi_init : MI := (yX3_init, cX3_init, 1, none, 4, 2, 6)
abbrev hi_hasRoom : MI := (yX3_hasRoom, cX3_hasRoom, 1, (some FieldType.boolean), 1, 0, 0)
abbrev hi_keep : MI := (yX3_keep, cX3_keep, 3, none, 8, 4, 1610)
abbrev hi_push : MI := (yX3_push, cX3_push, 2, none, 7, 1, 800)
abbrev pa_init : MI := (yX4_init, cX4_init, 1, none, 1, 3, 180)
abbrev pa_start : MI := (yX4_start, cX4_start, 2, none, 0, 0, 0)
abbrev pa_join : MI := (yX4_join, cX4_join, 6, none, 0, 0, 0)
abbrev pt_init : MI := (yX5_init, cX5_init, 1, none, 1, 2, 10)
abbrev pt_append : MI := (yX5_append, cX5_append, 3, (some FieldType.int), 0, 0, 0)
abbrev re_init : MI := (yX6_init, cX6_init, 1, none, 1, 2, 120)
abbrev re_start : MI := (yX6_start, cX6_start, 3, none, 1, 0, 0)
abbrev re_addAll : MI := (yX6_addAll, cX6_addAll, 6, none, 1, 0, 0)
abbrev re_add : MI := (yX6_add, cX6_add, 2, none, 0, 0, 0)
abbrev sh_init : MI := (yX7_init, cX7_init, 2, none, 1, 1, 8)
abbrev sh_inherit : MI := (yX7_inherit, cX7_inherit, 3, none, 1, 0, 0)
abbrev sh_append : MI := (yX7_append, cX7_append, 2, (some FieldType.int), 0, 0, 0)
abbrev sh_fieldAt : MI := (yX7_fieldAt, cX7_fieldAt, 2, (some (FieldType.object "FieldEditor$Field")), 0, 0, 0)
abbrev so_init : MI := (yX8_init, cX8_init, 1, none, 1, 2, 72)
abbrev so_add : MI := (yX8_add, cX8_add, 3, none, 0, 0, 0)
abbrev th_init : MI := (yX9_init, cX9_init, 3, none, 1, 1, 8)
abbrev wa_init : MI := (yX10_init, cX10_init, 5, none, 1, 3, 120)
abbrev wa_write : MI := (yX10_write, cX10_write, 4, none, 0, 0, 0)
abbrev fe_init : MI := (yX11_init, cX11_init, 1, none, 5, 30, 700)
abbrev fe_shape : MI := (yX11_shape, cX11_shape, 3, (some FieldType.int), 2, 2, 12)
abbrev fe_number : MI := (yX11_number, cX11_number, 6, (some FieldType.int), 2, 1, 5)
abbrev fe_link : MI := (yX11_link, cX11_link, 7, (some FieldType.int), 2, 1, 5)
abbrev fe_derived : MI := (yX11_derived, cX11_derived, 5, (some FieldType.int), 2, 1, 5)
abbrev fe_told : MI := (yX11_told, cX11_told, 5, (some FieldType.int), 1, 0, 0)
abbrev fe_isShape : MI := (yX11_isShape, cX11_isShape, 2, (some FieldType.boolean), 0, 0, 0)
abbrev fe_flags : MI := (yX11_flags, cX11_flags, 3, (some FieldType.int), 0, 0, 0)
abbrev fe_addField : MI := (yX11_addField, cX11_addField, 2, (some FieldType.int), 1, 0, 0)
abbrev fe_canFollow : MI := (yX11_canFollow, cX11_canFollow, 8, (some FieldType.boolean), 1, 0, 0)
abbrev fe_isOf : MI := (yX11_isOf, cX11_isOf, 5, (some FieldType.boolean), 0, 0, 0)
abbrev fe_object : MI := (yX11_object, cX11_object, 5, (some FieldType.int), 2, 10, 18)
abbrev fe_get : MI := (yX11_get, cX11_get, 3, (some FieldType.int), 5, 0, 0)
abbrev fe_element : MI := (yX11_element, cX11_element, 6, (some FieldType.int), 2, 0, 0)
abbrev fe_shapeOf : MI := (yX11_shapeOf, cX11_shapeOf, 2, (some FieldType.int), 1, 0, 0)
abbrev fe_holders : MI := (yX11_holders, cX11_holders, 6, (some FieldType.int), 1, 0, 0)
abbrev fe_holds : MI := (yX11_holds, cX11_holds, 3, (some FieldType.int), 3, 0, 0)
abbrev fe_isThing : MI := (yX11_isThing, cX11_isThing, 2, (some FieldType.boolean), 0, 0, 0)
abbrev fe_fieldOf : MI := (yX11_fieldOf, cX11_fieldOf, 3, (some (FieldType.object "FieldEditor$Field")), 1, 0, 0)
abbrev fe_timesIn : MI := (yX11_timesIn, cX11_timesIn, 7, (some FieldType.int), 0, 0, 0)
abbrev fe_valueOf : MI := (yX11_valueOf, cX11_valueOf, 5, (some FieldType.int), 4, 0, 0)
abbrev fe_fillValues : MI := (yX11_fillValues, cX11_fillValues, 6, none, 3, 0, 0)
abbrev fe_derive : MI := (yX11_derive, cX11_derive, 6, (some FieldType.int), 2, 0, 0)
abbrev fe_ofTwo : MI := (yX11_ofTwo, cX11_ofTwo, 3, (some FieldType.int), 1, 0, 0)
abbrev fe_total : MI := (yX11_total, cX11_total, 9, (some FieldType.int), 0, 0, 0)
abbrev fe_reach : MI := (yX11_reach, cX11_reach, 6, none, 2, 0, 0)
abbrev fe_set : MI := (yX11_set, cX11_set, 5, (some FieldType.int), 10, 6, 1630)
abbrev fe_lead : MI := (yX11_lead, cX11_lead, 5, (some FieldType.int), 10, 6, 1630)
abbrev fe_unset : MI := (yX11_unset, cX11_unset, 4, (some FieldType.int), 10, 6, 1630)
abbrev fe_insert : MI := (yX11_insert, cX11_insert, 7, (some FieldType.int), 10, 6, 1630)
abbrev fe_remove : MI := (yX11_remove, cX11_remove, 6, (some FieldType.int), 10, 6, 1630)
abbrev fe_sort : MI := (yX11_sort, cX11_sort, 6, (some FieldType.int), 10, 8, 1640)
abbrev fe_begin : MI := (yX11_begin, cX11_begin, 1, (some FieldType.int), 5, 2, 4)
abbrev fe_commit : MI := (yX11_commit, cX11_commit, 2, (some FieldType.int), 8, 1, 800)
abbrev fe_abort : MI := (yX11_abort, cX11_abort, 2, (some FieldType.int), 7, 0, 0)
abbrev fe_undo : MI := (yX11_undo, cX11_undo, 2, (some FieldType.int), 7, 1, 800)
abbrev fe_redo : MI := (yX11_redo, cX11_redo, 2, (some FieldType.int), 7, 1, 800)
abbrev fe_isLocked : MI := (yX11_isLocked, cX11_isLocked, 4, (some FieldType.boolean), 5, 0, 0)
abbrev fe_wouldLoop : MI := (yX11_wouldLoop, cX11_wouldLoop, 4, (some FieldType.boolean), 3, 0, 0)
abbrev fe_isVetoed : MI := (yX11_isVetoed, cX11_isVetoed, 6, (some FieldType.boolean), 2, 0, 0)
abbrev fe_withPlace : MI := (yX11_withPlace, cX11_withPlace, 4, (some (FieldType.array FieldType.int)), 1, 1, 6)
abbrev fe_withoutPlace : MI := (yX11_withoutPlace, cX11_withoutPlace, 3, (some (FieldType.array FieldType.int)), 1, 1, 5)
abbrev fe_inOrder : MI := (yX11_inOrder, cX11_inOrder, 8, (some (FieldType.array FieldType.int)), 6, 2, 12)
abbrev fe_sortKey : MI := (yX11_sortKey, cX11_sortKey, 4, (some FieldType.int), 5, 0, 0)
abbrev fe_goesAhead : MI := (yX11_goesAhead, cX11_goesAhead, 3, (some FieldType.boolean), 0, 0, 0)
abbrev fe_swap : MI := (yX11_swap, cX11_swap, 3, none, 0, 0, 0)
abbrev fe_take : MI := (yX11_take, cX11_take, 4, (some FieldType.int), 9, 5, 1620)
abbrev fe_takeBack : MI := (yX11_takeBack, cX11_takeBack, 4, none, 6, 0, 0)
abbrev fe_doAgain : MI := (yX11_doAgain, cX11_doAgain, 4, none, 6, 0, 0)
abbrev fe_put : MI := (yX11_put, cX11_put, 7, none, 5, 0, 0)
abbrev fe_path : MI := (yX11_path, cX11_path, 1, (some FieldType.int), 2, 3, 13)
abbrev fe_step : MI := (yX11_step, cX11_step, 4, (some FieldType.int), 2, 0, 0)
abbrev fe_fault : MI := (yX11_fault, cX11_fault, 6, (some FieldType.int), 2, 0, 0)
abbrev fe_matches : MI := (yX11_matches, cX11_matches, 3, (some FieldType.int), 5, 0, 0)
abbrev fe_match : MI := (yX11_match, cX11_match, 6, (some FieldType.int), 5, 0, 0)
abbrev fe_isPath : MI := (yX11_isPath, cX11_isPath, 2, (some FieldType.boolean), 0, 0, 0)
abbrev fe_isStep : MI := (yX11_isStep, cX11_isStep, 3, (some FieldType.boolean), 1, 0, 0)
abbrev fe_judge : MI := (yX11_judge, cX11_judge, 5, (some FieldType.int), 1, 0, 0)
abbrev fe_judgeField : MI := (yX11_judgeField, cX11_judgeField, 1, (some FieldType.int), 0, 0, 0)
abbrev fe_walk : MI := (yX11_walk, cX11_walk, 7, (some (FieldType.object "FieldEditor$Spots")), 4, 0, 0)
abbrev fe_go : MI := (yX11_go, cX11_go, 9, none, 3, 0, 0)
abbrev fe_goToField : MI := (yX11_goToField, cX11_goToField, 7, none, 2, 0, 0)
abbrev fe_goIntoList : MI := (yX11_goIntoList, cX11_goIntoList, 7, none, 1, 0, 0)
abbrev fe_copy : MI := (yX11_copy, cX11_copy, 4, (some FieldType.int), 3, 600, 3480)
abbrev fe_alike : MI := (yX11_alike, cX11_alike, 4, (some FieldType.int), 3, 0, 0)
abbrev fe_copyOf : MI := (yX11_copyOf, cX11_copyOf, 7, (some (FieldType.object "FieldEditor$Thing")), 2, 10, 58)
abbrev fe_leadToCopies : MI := (yX11_leadToCopies, cX11_leadToCopies, 5, none, 0, 0, 0)
abbrev fe_areLike : MI := (yX11_areLike, cX11_areLike, 5, (some FieldType.boolean), 2, 0, 0)
abbrev fe_rowsLike : MI := (yX11_rowsLike, cX11_rowsLike, 5, (some FieldType.boolean), 1, 0, 0)
abbrev fe_watch : MI := (yX11_watch, cX11_watch, 6, (some FieldType.int), 2, 4, 128)
abbrev fe_note : MI := (yX11_note, cX11_note, 5, (some FieldType.int), 0, 0, 0)
abbrev fe_lacks : MI := (yX11_lacks, cX11_lacks, 5, (some FieldType.int), 5, 0, 0)
abbrev fe_count : MI := (yX11_count, cX11_count, 2, (some FieldType.int), 1, 0, 0)
abbrev fe_digest : MI := (yX11_digest, cX11_digest, 4, (some FieldType.long), 5, 0, 0)
abbrev fe_digestOf : MI := (yX11_digestOf, cX11_digestOf, 12, (some FieldType.long), 4, 0, 0)
abbrev fe_sees : MI := (yX11_sees, cX11_sees, 4, (some FieldType.boolean), 1, 0, 0)
abbrev md_init : MI := (yX12_init, cX12_init, 1, none, 1, 60, 26000)
abbrev md_in : MI := (yX12_in, cX12_in, 3, (some FieldType.boolean), 0, 0, 0)
abbrev md_isShape : MI := (yX12_isShape, cX12_isShape, 2, (some FieldType.boolean), 1, 0, 0)
abbrev md_isOf : MI := (yX12_isOf, cX12_isOf, 4, (some FieldType.boolean), 0, 0, 0)
abbrev md_shape : MI := (yX12_shape, cX12_shape, 6, (some FieldType.int), 2, 0, 0)
abbrev md_against : MI := (yX12_against, cX12_against, 3, (some FieldType.int), 0, 0, 0)
abbrev md_adds : MI := (yX12_adds, cX12_adds, 9, (some FieldType.int), 1, 0, 0)
abbrev md_flag : MI := (yX12_flag, cX12_flag, 3, (some FieldType.int), 0, 0, 0)
abbrev md_number : MI := (yX12_number, cX12_number, 6, (some FieldType.int), 2, 0, 0)
abbrev md_link : MI := (yX12_link, cX12_link, 7, (some FieldType.int), 2, 0, 0)
abbrev md_isNumeric : MI := (yX12_isNumeric, cX12_isNumeric, 3, (some FieldType.boolean), 1, 0, 0)
abbrev md_isKind : MI := (yX12_isKind, cX12_isKind, 4, (some FieldType.boolean), 1, 0, 0)
abbrev md_mayFollow : MI := (yX12_mayFollow, cX12_mayFollow, 5, (some FieldType.boolean), 2, 0, 0)
abbrev md_derived : MI := (yX12_derived, cX12_derived, 5, (some FieldType.int), 3, 0, 0)
abbrev md_told : MI := (yX12_told, cX12_told, 5, (some FieldType.int), 2, 0, 0)
abbrev md_isObject : MI := (yX12_isObject, cX12_isObject, 2, (some FieldType.boolean), 1, 0, 0)
abbrev md_hasField : MI := (yX12_hasField, cX12_hasField, 3, (some FieldType.boolean), 2, 0, 0)
abbrev md_at : MI := (yX12_at, cX12_at, 3, (some FieldType.int), 0, 0, 0)
abbrev md_by : MI := (yX12_by, cX12_by, 3, (some FieldType.int), 0, 0, 0)
abbrev md_makes : MI := (yX12_makes, cX12_makes, 4, (some FieldType.int), 1, 0, 0)
abbrev md_object : MI := (yX12_object, cX12_object, 2, (some FieldType.int), 2, 0, 0)
abbrev md_total : MI := (yX12_total, cX12_total, 7, (some FieldType.int), 1, 0, 0)
abbrev md_followed : MI := (yX12_followed, cX12_followed, 8, (some FieldType.int), 2, 0, 0)
abbrev md_valueOf : MI := (yX12_valueOf, cX12_valueOf, 5, (some FieldType.int), 3, 0, 0)
abbrev md_get : MI := (yX12_get, cX12_get, 3, (some FieldType.int), 4, 0, 0)
abbrev md_element : MI := (yX12_element, cX12_element, 4, (some FieldType.int), 3, 0, 0)
abbrev md_shapeOf : MI := (yX12_shapeOf, cX12_shapeOf, 2, (some FieldType.int), 2, 0, 0)
abbrev md_holders : MI := (yX12_holders, cX12_holders, 7, (some FieldType.int), 2, 0, 0)
abbrev md_comes : MI := (yX12_comes, cX12_comes, 2, none, 0, 0, 0)
abbrev md_comesHeld : MI := (yX12_comesHeld, cX12_comesHeld, 5, none, 1, 0, 0)
abbrev md_findHeld : MI := (yX12_findHeld, cX12_findHeld, 3, none, 2, 0, 0)
abbrev md_isHeld : MI := (yX12_isHeld, cX12_isHeld, 4, (some FieldType.boolean), 2, 0, 0)
abbrev md_holds : MI := (yX12_holds, cX12_holds, 3, (some FieldType.int), 3, 0, 0)
abbrev md_keeps : MI := (yX12_keeps, cX12_keeps, 5, none, 0, 0, 0)
abbrev md_puts : MI := (yX12_puts, cX12_puts, 5, none, 0, 0, 0)
abbrev md_notes : MI := (yX12_notes, cX12_notes, 6, none, 1, 0, 0)
abbrev md_doneEnd : MI := (yX12_doneEnd, cX12_doneEnd, 1, (some FieldType.int), 0, 0, 0)
abbrev md_begins : MI := (yX12_begins, cX12_begins, 3, none, 1, 0, 0)
abbrev md_ends : MI := (yX12_ends, cX12_ends, 3, (some FieldType.int), 2, 0, 0)
abbrev md_enters : MI := (yX12_enters, cX12_enters, 4, none, 0, 0, 0)
abbrev md_isReadOnly : MI := (yX12_isReadOnly, cX12_isReadOnly, 4, (some FieldType.boolean), 1, 0, 0)
abbrev md_isVetoed : MI := (yX12_isVetoed, cX12_isVetoed, 5, (some FieldType.boolean), 1, 0, 0)
abbrev md_set : MI := (yX12_set, cX12_set, 5, (some FieldType.int), 3, 0, 0)
abbrev md_wouldLoop : MI := (yX12_wouldLoop, cX12_wouldLoop, 4, (some FieldType.boolean), 3, 0, 0)
abbrev md_lead : MI := (yX12_lead, cX12_lead, 5, (some FieldType.int), 4, 0, 0)
abbrev md_unset : MI := (yX12_unset, cX12_unset, 4, (some FieldType.int), 3, 0, 0)
abbrev md_insert : MI := (yX12_insert, cX12_insert, 8, (some FieldType.int), 4, 0, 0)
abbrev md_remove : MI := (yX12_remove, cX12_remove, 6, (some FieldType.int), 3, 0, 0)
abbrev md_weightOf : MI := (yX12_weightOf, cX12_weightOf, 3, (some FieldType.int), 4, 0, 0)
abbrev md_isAhead : MI := (yX12_isAhead, cX12_isAhead, 3, (some FieldType.boolean), 0, 0, 0)
abbrev md_sort : MI := (yX12_sort, cX12_sort, 10, (some FieldType.int), 5, 0, 0)
abbrev md_begin : MI := (yX12_begin, cX12_begin, 1, (some FieldType.int), 1, 0, 0)
abbrev md_groupSize : MI := (yX12_groupSize, cX12_groupSize, 1, (some FieldType.int), 0, 0, 0)
abbrev md_commit : MI := (yX12_commit, cX12_commit, 2, (some FieldType.int), 1, 0, 0)
abbrev md_goes : MI := (yX12_goes, cX12_goes, 5, none, 2, 0, 0)
abbrev md_abort : MI := (yX12_abort, cX12_abort, 3, (some FieldType.int), 3, 0, 0)
abbrev md_undo : MI := (yX12_undo, cX12_undo, 3, (some FieldType.int), 3, 0, 0)
abbrev md_redo : MI := (yX12_redo, cX12_redo, 2, (some FieldType.int), 3, 0, 0)
abbrev md_isPath : MI := (yX12_isPath, cX12_isPath, 2, (some FieldType.boolean), 1, 0, 0)
abbrev md_path : MI := (yX12_path, cX12_path, 1, (some FieldType.int), 0, 0, 0)
abbrev md_step : MI := (yX12_step, cX12_step, 4, (some FieldType.int), 2, 0, 0)
abbrev md_fault : MI := (yX12_fault, cX12_fault, 10, (some FieldType.int), 2, 0, 0)
abbrev md_matched : MI := (yX12_matched, cX12_matched, 3, none, 0, 0, 0)
abbrev md_walkField : MI := (yX12_walkField, cX12_walkField, 4, none, 3, 0, 0)
abbrev md_walkList : MI := (yX12_walkList, cX12_walkList, 9, none, 1, 0, 0)
abbrev md_walk : MI := (yX12_walk, cX12_walk, 9, none, 4, 0, 0)
abbrev md_matches : MI := (yX12_matches, cX12_matches, 3, (some FieldType.int), 5, 0, 0)
abbrev md_match : MI := (yX12_match, cX12_match, 5, (some FieldType.int), 5, 0, 0)
abbrev md_copied : MI := (yX12_copied, cX12_copied, 3, (some FieldType.int), 0, 0, 0)
abbrev md_copy : MI := (yX12_copy, cX12_copy, 10, (some FieldType.int), 3, 0, 0)
abbrev md_alsoAlike : MI := (yX12_alsoAlike, cX12_alsoAlike, 4, none, 0, 0, 0)
abbrev md_areLike : MI := (yX12_areLike, cX12_areLike, 8, (some FieldType.boolean), 1, 0, 0)
abbrev md_alike : MI := (yX12_alike, cX12_alike, 4, (some FieldType.int), 2, 0, 0)
abbrev md_watch : MI := (yX12_watch, cX12_watch, 5, (some FieldType.int), 2, 0, 0)
abbrev md_note : MI := (yX12_note, cX12_note, 4, (some FieldType.int), 1, 0, 0)
abbrev md_lacks : MI := (yX12_lacks, cX12_lacks, 4, (some FieldType.int), 1, 0, 0)
abbrev md_count : MI := (yX12_count, cX12_count, 2, (some FieldType.int), 1, 0, 0)
abbrev md_digest : MI := (yX12_digest, cX12_digest, 7, (some FieldType.long), 4, 0, 0)
abbrev ac_init : MI := (yJxa1e45_init_da8c8, cJxa1e45_init_da8c8, 1, none, 1, 0, 0)
abbrev ab_init : MI := (yJxc12de_init_da8c8, cJxc12de_init_da8c8, 1, none, 2, 0, 0)
abbrev al_init : MI := (yJx4a65c_init_da8c8, cJx4a65c_init_da8c8, 1, none, 3, 0, 0)
abbrev al_grow1 : MI := (yJx4a65c_grow_92f84, cJx4a65c_grow_92f84, 4, (some (FieldType.array (FieldType.object "java/lang/Object"))), 3, 1, 800)
abbrev al_grow0 : MI := (yJx4a65c_grow_d5877, cJx4a65c_grow_d5877, 1, (some (FieldType.array (FieldType.object "java/lang/Object"))), 4, 1, 800)
abbrev al_size : MI := (yJx4a65c_size_8abf5, cJx4a65c_size_8abf5, 1, (some FieldType.int), 0, 0, 0)
abbrev al_isEmpty : MI := (yJx4a65c_isEmpty_aae02, cJx4a65c_isEmpty_aae02, 1, (some FieldType.boolean), 0, 0, 0)
abbrev al_elementData : MI := (yJx4a65c_elementData_915e3, cJx4a65c_elementData_915e3, 2, (some (FieldType.object "java/lang/Object")), 0, 0, 0)
abbrev al_get : MI := (yJx4a65c_get_915e3, cJx4a65c_get_915e3, 2, (some (FieldType.object "java/lang/Object")), 3, 0, 0)
abbrev al_add3 : MI := (yJx4a65c_add_72be8, cJx4a65c_add_72be8, 4, none, 5, 1, 800)
abbrev al_add1 : MI := (yJx4a65c_add_9ea2d, cJx4a65c_add_9ea2d, 2, (some FieldType.boolean), 6, 1, 800)
abbrev al_remove : MI := (yJx4a65c_remove_915e3, cJx4a65c_remove_915e3, 4, (some (FieldType.object "java/lang/Object")), 3, 0, 0)
abbrev al_fastRemove : MI := (yJx4a65c_fastRemove_b59b0, cJx4a65c_fastRemove_b59b0, 4, none, 1, 0, 0)
abbrev al_clear : MI := (yJx4a65c_clear_da8c8, cJx4a65c_clear_da8c8, 4, none, 0, 0, 0)
abbrev ar_copyOf2 : MI := (yJ7_copyOf_1904c, cJ7_copyOf_1904c, 2, (some (FieldType.array (FieldType.object "java/lang/Object"))), 2, 1, 800)
abbrev ar_copyOf3 : MI := (yJ7_copyOf_6403c, cJ7_copyOf_6403c, 4, (some (FieldType.array (FieldType.object "java/lang/Object"))), 1, 1, 800)
abbrev oj_checkIndex : MI := (yJ15_checkIndex_7cf53, cJ15_checkIndex_7cf53, 2, (some FieldType.int), 2, 0, 0)
abbrev as_newLength : MI := (yJ8_newLength_cabcc, cJ8_newLength_cabcc, 4, (some FieldType.int), 2, 0, 0)
abbrev as_hugeLength : MI := (yJ8_hugeLength_7cf53, cJ8_hugeLength_7cf53, 3, (some FieldType.int), 1, 0, 0)
abbrev pr_checkIndex : MI := (yJ3_checkIndex_8e157, cJ3_checkIndex_8e157, 3, (some FieldType.int), 1, 0, 0)
theorem fp_fe_11 : FP RX11 11 12 0 (.array (.object "FieldEditor$Shape")) true := ⟨fl_fe_11, _, rfl, by decide +kernel, rfl, fun _ => rfl⟩
theorem fp_fe_17 : FP RX11 17 12 2 (.array (.object "FieldEditor$Thing")) true := ⟨fl_fe_17, _, rfl, by decide +kernel, rfl, fun _ => rfl⟩
theorem fp_fe_23 : FP RX11 23 12 4 (.array (.object "FieldEditor$Path")) true := ⟨fl_fe_23, _, rfl, by decide +kernel, rfl, fun _ => rfl⟩
theorem fp_fe_29 : FP RX11 29 12 6 (.array (.object "FieldEditor$Watch")) true := ⟨fl_fe_29, _, rfl, by decide +kernel, rfl, fun _ => rfl⟩
theorem fp_fe_36 : FP RX11 36 12 8 (.object "FieldEditor$History") true := ⟨fl_fe_36, _, rfl, by decide +kernel, rfl, fun _ => rfl⟩
theorem fp_fe_43 : FP RX11 43 12 9 (.object "FieldEditor$Reach") true := ⟨fl_fe_43, _, rfl, by decide +kernel, rfl, fun _ => rfl⟩
theorem fp_fe_50 : FP RX11 50 12 10 (.object "FieldEditor$Pairs") true := ⟨fl_fe_50, _, rfl, by decide +kernel, rfl, fun _ => rfl⟩
theorem fp_fe_57 : FP RX11 57 12 11 (.object "FieldEditor$Spots") true := ⟨fl_fe_57, _, rfl, by decide +kernel, rfl, fun _ => rfl⟩
theorem fp_fe_61 : FP RX11 61 12 12 (.object "FieldEditor$Spots") true := ⟨fl_fe_61, _, rfl, by decide +kernel, rfl, fun _ => rfl⟩
theorem fp_fe_64 : FP RX11 64 12 13 (.array .int) true := ⟨fl_fe_64, _, rfl, by decide +kernel, rfl, fun _ => rfl⟩
theorem fp_fe_72 : FP RX11 72 12 1 .int false := ⟨fl_fe_72, _, rfl, by decide +kernel, rfl, fun h => by cases h⟩
theorem fp_fe_83 : FP RX11 83 8 3 .boolean false := ⟨fl_fe_83, _, rfl, by decide +kernel, rfl, fun h => by cases h⟩
theorem fp_fe_134 : FP RX11 134 12 3 .int false := ⟨fl_fe_134, _, rfl, by decide +kernel, rfl, fun h => by cases h⟩
theorem fp_fe_255 : FP RX11 255 4 2 (.object "FieldEditor$Group") false := ⟨fl_fe_255, _, rfl, by decide +kernel, rfl, fun h => by cases h⟩
theorem fp_fe_298 : FP RX11 298 12 7 .int false := ⟨fl_fe_298, _, rfl, by decide +kernel, rfl, fun h => by cases h⟩
theorem fp_fe_368 : FP RX11 368 12 5 .int false := ⟨fl_fe_368, _, rfl, by decide +kernel, rfl, fun h => by cases h⟩
theorem fp_fe_394 : FP RX11 394 9 2 .int false := ⟨fl_fe_394, _, rfl, by decide +kernel, rfl, fun h => by cases h⟩
theorem fp_ed_7 : FP RX0 7 1 0 .int true := ⟨fl_ed_7, _, rfl, by decide +kernel, rfl, fun _ => rfl⟩
theorem fp_ed_13 : FP RX0 13 1 1 .int true := ⟨fl_ed_13, _, rfl, by decide +kernel, rfl, fun _ => rfl⟩
theorem fp_ed_16 : FP RX0 16 1 2 (.array .int) true := ⟨fl_ed_16, _, rfl, by decide +kernel, rfl, fun _ => rfl⟩
theorem fp_ed_20 : FP RX0 20 1 3 (.array .int) true := ⟨fl_ed_20, _, rfl, by decide +kernel, rfl, fun _ => rfl⟩
theorem fp_fd_9 : FP RX1 9 2 0 .int true := ⟨fl_fd_9, _, rfl, by decide +kernel, rfl, fun _ => rfl⟩
theorem fp_fd_15 : FP RX1 15 2 1 .int true := ⟨fl_fd_15, _, rfl, by decide +kernel, rfl, fun _ => rfl⟩
theorem fp_fd_18 : FP RX1 18 2 2 .int true := ⟨fl_fd_18, _, rfl, by decide +kernel, rfl, fun _ => rfl⟩
theorem fp_fd_21 : FP RX1 21 2 3 .int true := ⟨fl_fd_21, _, rfl, by decide +kernel, rfl, fun _ => rfl⟩
theorem fp_fd_24 : FP RX1 24 2 4 .int true := ⟨fl_fd_24, _, rfl, by decide +kernel, rfl, fun _ => rfl⟩
theorem fp_gr_10 : FP RX2 10 3 0 (.object "java/util/ArrayList") true := ⟨fl_gr_10, _, rfl, by decide +kernel, rfl, fun _ => rfl⟩
theorem fp_hi_12 : FP RX3 12 4 0 (.object "java/util/ArrayList") true := ⟨fl_hi_12, _, rfl, by decide +kernel, rfl, fun _ => rfl⟩
theorem fp_hi_18 : FP RX3 18 4 1 (.object "java/util/ArrayList") true := ⟨fl_hi_18, _, rfl, by decide +kernel, rfl, fun _ => rfl⟩
theorem fp_pa_9 : FP RX4 9 5 0 (.array .int) true := ⟨fl_pa_9, _, rfl, by decide +kernel, rfl, fun _ => rfl⟩
theorem fp_pa_15 : FP RX4 15 5 1 (.array .int) true := ⟨fl_pa_15, _, rfl, by decide +kernel, rfl, fun _ => rfl⟩
theorem fp_pa_18 : FP RX4 18 5 2 (.array .int) true := ⟨fl_pa_18, _, rfl, by decide +kernel, rfl, fun _ => rfl⟩
theorem fp_pa_21 : FP RX4 21 5 3 .int false := ⟨fl_pa_21, _, rfl, by decide +kernel, rfl, fun h => by cases h⟩
theorem fp_pt_9 : FP RX5 9 6 0 (.array .int) true := ⟨fl_pt_9, _, rfl, by decide +kernel, rfl, fun _ => rfl⟩
theorem fp_pt_15 : FP RX5 15 6 1 (.array .int) true := ⟨fl_pt_15, _, rfl, by decide +kernel, rfl, fun _ => rfl⟩
theorem fp_pt_18 : FP RX5 18 6 2 .int false := ⟨fl_pt_18, _, rfl, by decide +kernel, rfl, fun h => by cases h⟩
theorem fp_re_9 : FP RX6 9 7 0 (.array .int) true := ⟨fl_re_9, _, rfl, by decide +kernel, rfl, fun _ => rfl⟩
theorem fp_re_15 : FP RX6 15 7 1 (.array .int) true := ⟨fl_re_15, _, rfl, by decide +kernel, rfl, fun _ => rfl⟩
theorem fp_re_18 : FP RX6 18 7 2 .int false := ⟨fl_re_18, _, rfl, by decide +kernel, rfl, fun h => by cases h⟩
theorem fp_sh_9 : FP RX7 9 8 0 .int true := ⟨fl_sh_9, _, rfl, by decide +kernel, rfl, fun _ => rfl⟩
theorem fp_sh_17 : FP RX7 17 8 1 (.array (.object "FieldEditor$Field")) true := ⟨fl_sh_17, _, rfl, by decide +kernel, rfl, fun _ => rfl⟩
theorem fp_sh_21 : FP RX7 21 8 2 .int false := ⟨fl_sh_21, _, rfl, by decide +kernel, rfl, fun h => by cases h⟩
theorem fp_so_9 : FP RX8 9 9 0 (.array .int) true := ⟨fl_so_9, _, rfl, by decide +kernel, rfl, fun _ => rfl⟩
theorem fp_so_15 : FP RX8 15 9 1 (.array .int) true := ⟨fl_so_15, _, rfl, by decide +kernel, rfl, fun _ => rfl⟩
theorem fp_so_18 : FP RX8 18 9 2 .int false := ⟨fl_so_18, _, rfl, by decide +kernel, rfl, fun h => by cases h⟩
theorem fp_th_7 : FP RX9 7 10 0 .int true := ⟨fl_th_7, _, rfl, by decide +kernel, rfl, fun _ => rfl⟩
theorem fp_th_15 : FP RX9 15 10 1 (.array (.array .int)) true := ⟨fl_th_15, _, rfl, by decide +kernel, rfl, fun _ => rfl⟩
theorem fp_wa_9 : FP RX10 9 11 4 (.array .int) true := ⟨fl_wa_9, _, rfl, by decide +kernel, rfl, fun _ => rfl⟩
theorem fp_wa_15 : FP RX10 15 11 5 (.array .int) true := ⟨fl_wa_15, _, rfl, by decide +kernel, rfl, fun _ => rfl⟩
theorem fp_wa_18 : FP RX10 18 11 6 (.array .int) true := ⟨fl_wa_18, _, rfl, by decide +kernel, rfl, fun _ => rfl⟩
theorem fp_wa_21 : FP RX10 21 11 0 .int true := ⟨fl_wa_21, _, rfl, by decide +kernel, rfl, fun _ => rfl⟩
theorem fp_wa_25 : FP RX10 25 11 1 .int true := ⟨fl_wa_25, _, rfl, by decide +kernel, rfl, fun _ => rfl⟩
theorem fp_wa_28 : FP RX10 28 11 2 .boolean true := ⟨fl_wa_28, _, rfl, by decide +kernel, rfl, fun _ => rfl⟩
theorem fp_wa_32 : FP RX10 32 11 3 .int true := ⟨fl_wa_32, _, rfl, by decide +kernel, rfl, fun _ => rfl⟩
theorem fp_wa_35 : FP RX10 35 11 7 .int false := ⟨fl_wa_35, _, rfl, by decide +kernel, rfl, fun h => by cases h⟩
theorem fp_md_7 : FP RX12 7 13 1 (.array .int) true := ⟨fl_md_7, _, rfl, by decide +kernel, rfl, fun _ => rfl⟩
theorem fp_md_13 : FP RX12 13 13 2 (.array .int) true := ⟨fl_md_13, _, rfl, by decide +kernel, rfl, fun _ => rfl⟩
theorem fp_md_16 : FP RX12 16 13 3 (.array .int) true := ⟨fl_md_16, _, rfl, by decide +kernel, rfl, fun _ => rfl⟩
theorem fp_md_19 : FP RX12 19 13 4 (.array .int) true := ⟨fl_md_19, _, rfl, by decide +kernel, rfl, fun _ => rfl⟩
theorem fp_md_22 : FP RX12 22 13 5 (.array .int) true := ⟨fl_md_22, _, rfl, by decide +kernel, rfl, fun _ => rfl⟩
theorem fp_md_25 : FP RX12 25 13 6 (.array .int) true := ⟨fl_md_25, _, rfl, by decide +kernel, rfl, fun _ => rfl⟩
theorem fp_md_28 : FP RX12 28 13 7 (.array .int) true := ⟨fl_md_28, _, rfl, by decide +kernel, rfl, fun _ => rfl⟩
theorem fp_md_31 : FP RX12 31 13 9 (.array .int) true := ⟨fl_md_31, _, rfl, by decide +kernel, rfl, fun _ => rfl⟩
theorem fp_md_34 : FP RX12 34 13 10 (.array .int) true := ⟨fl_md_34, _, rfl, by decide +kernel, rfl, fun _ => rfl⟩
theorem fp_md_37 : FP RX12 37 13 11 (.array .int) true := ⟨fl_md_37, _, rfl, by decide +kernel, rfl, fun _ => rfl⟩
theorem fp_md_40 : FP RX12 40 13 12 (.array .int) true := ⟨fl_md_40, _, rfl, by decide +kernel, rfl, fun _ => rfl⟩
theorem fp_md_43 : FP RX12 43 13 13 (.array .int) true := ⟨fl_md_43, _, rfl, by decide +kernel, rfl, fun _ => rfl⟩
theorem fp_md_46 : FP RX12 46 13 14 (.array .int) true := ⟨fl_md_46, _, rfl, by decide +kernel, rfl, fun _ => rfl⟩
theorem fp_md_49 : FP RX12 49 13 17 (.array .int) true := ⟨fl_md_49, _, rfl, by decide +kernel, rfl, fun _ => rfl⟩
theorem fp_md_52 : FP RX12 52 13 18 (.array .int) true := ⟨fl_md_52, _, rfl, by decide +kernel, rfl, fun _ => rfl⟩
theorem fp_md_55 : FP RX12 55 13 19 (.array .int) true := ⟨fl_md_55, _, rfl, by decide +kernel, rfl, fun _ => rfl⟩
theorem fp_md_58 : FP RX12 58 13 22 (.array .int) true := ⟨fl_md_58, _, rfl, by decide +kernel, rfl, fun _ => rfl⟩
theorem fp_md_61 : FP RX12 61 13 26 (.array .int) true := ⟨fl_md_61, _, rfl, by decide +kernel, rfl, fun _ => rfl⟩
theorem fp_md_64 : FP RX12 64 13 27 (.array .int) true := ⟨fl_md_64, _, rfl, by decide +kernel, rfl, fun _ => rfl⟩
theorem fp_md_67 : FP RX12 67 13 28 (.array .boolean) true := ⟨fl_md_67, _, rfl, by decide +kernel, rfl, fun _ => rfl⟩
theorem fp_md_71 : FP RX12 71 13 29 (.array .int) true := ⟨fl_md_71, _, rfl, by decide +kernel, rfl, fun _ => rfl⟩
theorem fp_md_74 : FP RX12 74 13 30 (.array .int) true := ⟨fl_md_74, _, rfl, by decide +kernel, rfl, fun _ => rfl⟩
theorem fp_md_77 : FP RX12 77 13 31 (.array .int) true := ⟨fl_md_77, _, rfl, by decide +kernel, rfl, fun _ => rfl⟩
theorem fp_md_80 : FP RX12 80 13 32 (.array .int) true := ⟨fl_md_80, _, rfl, by decide +kernel, rfl, fun _ => rfl⟩
theorem fp_md_83 : FP RX12 83 13 34 (.array .int) true := ⟨fl_md_83, _, rfl, by decide +kernel, rfl, fun _ => rfl⟩
theorem fp_md_86 : FP RX12 86 13 35 (.array .int) true := ⟨fl_md_86, _, rfl, by decide +kernel, rfl, fun _ => rfl⟩
theorem fp_md_89 : FP RX12 89 13 36 (.array .int) true := ⟨fl_md_89, _, rfl, by decide +kernel, rfl, fun _ => rfl⟩
theorem fp_md_92 : FP RX12 92 13 38 (.array .int) true := ⟨fl_md_92, _, rfl, by decide +kernel, rfl, fun _ => rfl⟩
theorem fp_md_95 : FP RX12 95 13 39 (.array .int) true := ⟨fl_md_95, _, rfl, by decide +kernel, rfl, fun _ => rfl⟩
theorem fp_md_98 : FP RX12 98 13 41 (.array .int) true := ⟨fl_md_98, _, rfl, by decide +kernel, rfl, fun _ => rfl⟩
theorem fp_md_101 : FP RX12 101 13 42 (.array .int) true := ⟨fl_md_101, _, rfl, by decide +kernel, rfl, fun _ => rfl⟩
theorem fp_md_104 : FP RX12 104 13 43 (.array .int) true := ⟨fl_md_104, _, rfl, by decide +kernel, rfl, fun _ => rfl⟩
theorem fp_md_107 : FP RX12 107 13 44 (.array .boolean) true := ⟨fl_md_107, _, rfl, by decide +kernel, rfl, fun _ => rfl⟩
theorem fp_md_110 : FP RX12 110 13 0 .int false := ⟨fl_md_110, _, rfl, by decide +kernel, rfl, fun h => by cases h⟩
theorem fp_md_122 : FP RX12 122 13 8 .int false := ⟨fl_md_122, _, rfl, by decide +kernel, rfl, fun h => by cases h⟩
theorem fp_md_175 : FP RX12 175 13 15 .int false := ⟨fl_md_175, _, rfl, by decide +kernel, rfl, fun h => by cases h⟩
theorem fp_md_188 : FP RX12 188 13 25 .int false := ⟨fl_md_188, _, rfl, by decide +kernel, rfl, fun h => by cases h⟩
theorem fp_md_194 : FP RX12 194 13 21 .int false := ⟨fl_md_194, _, rfl, by decide +kernel, rfl, fun h => by cases h⟩
theorem fp_md_197 : FP RX12 197 13 20 .int false := ⟨fl_md_197, _, rfl, by decide +kernel, rfl, fun h => by cases h⟩
theorem fp_md_204 : FP RX12 204 13 16 .int false := ⟨fl_md_204, _, rfl, by decide +kernel, rfl, fun h => by cases h⟩
theorem fp_md_214 : FP RX12 214 13 23 .boolean false := ⟨fl_md_214, _, rfl, by decide +kernel, rfl, fun h => by cases h⟩
theorem fp_md_244 : FP RX12 244 13 24 .int false := ⟨fl_md_244, _, rfl, by decide +kernel, rfl, fun h => by cases h⟩
theorem fp_md_257 : FP RX12 257 13 33 .int false := ⟨fl_md_257, _, rfl, by decide +kernel, rfl, fun h => by cases h⟩
theorem fp_md_263 : FP RX12 263 13 40 .int false := ⟨fl_md_263, _, rfl, by decide +kernel, rfl, fun h => by cases h⟩
theorem fp_md_269 : FP RX12 269 13 37 .int false := ⟨fl_md_269, _, rfl, by decide +kernel, rfl, fun h => by cases h⟩
theorem fp_md_289 : FP RX12 289 13 45 .int false := ⟨fl_md_289, _, rfl, by decide +kernel, rfl, fun h => by cases h⟩
theorem fp_ab_7 : FP RJxc12de 7 0 0 .int false := ⟨fl_ab_7, _, rfl, by decide +kernel, rfl, fun h => by cases h⟩
theorem fp_al_9 : FP RJx4a65c 9 0 1 (.array (.object "java/lang/Object")) false := ⟨fl_al_9, _, rfl, by decide +kernel, rfl, fun h => by cases h⟩
theorem fp_al_48 : FP RJx4a65c 48 0 2 .int false := ⟨fl_al_48, _, rfl, by decide +kernel, rfl, fun h => by cases h⟩
theorem fp_al_63 : FP RJx4a65c 63 0 0 .int false := ⟨fl_al_63, _, rfl, by decide +kernel, rfl, fun h => by cases h⟩
theorem nw_fe_9 : NW RX11 9 8 4 := ⟨_, rfl, rfl, kl_fe_9, wm_sh, wini_sh⟩
theorem nw_fe_15 : NW RX11 15 10 2 := ⟨_, rfl, rfl, kl_fe_15, wm_th, wini_th⟩
theorem nw_fe_21 : NW RX11 21 6 3 := ⟨_, rfl, rfl, kl_fe_21, wm_pt, wini_pt⟩
theorem nw_fe_27 : NW RX11 27 11 8 := ⟨_, rfl, rfl, kl_fe_27, wm_wa, wini_wa⟩
theorem nw_fe_33 : NW RX11 33 4 3 := ⟨_, rfl, rfl, kl_fe_33, wm_hi, wini_hi⟩
theorem nw_fe_40 : NW RX11 40 7 3 := ⟨_, rfl, rfl, kl_fe_40, wm_re, wini_re⟩
theorem nw_fe_47 : NW RX11 47 5 4 := ⟨_, rfl, rfl, kl_fe_47, wm_pa, wini_pa⟩
theorem nw_fe_54 : NW RX11 54 9 3 := ⟨_, rfl, rfl, kl_fe_54, wm_so, wini_so⟩
theorem nw_fe_88 : NW RX11 88 2 5 := ⟨_, rfl, rfl, kl_fe_88, wm_fd, wini_fd⟩
theorem nw_fe_259 : NW RX11 259 3 1 := ⟨_, rfl, rfl, kl_fe_259, wm_gr, wini_gr⟩
theorem nw_fe_336 : NW RX11 336 1 4 := ⟨_, rfl, rfl, kl_fe_336, wm_ed, wini_ed⟩
theorem nw_gr_7 : NW RX2 7 0 3 := ⟨_, rfl, rfl, kl_gr_7, wm_al, wini_al⟩
theorem nw_hi_9 : NW RX3 9 0 3 := ⟨_, rfl, rfl, kl_hi_9, wm_al, wini_al⟩
theorem nw_hi_26 : NW RX3 26 3 1 := ⟨_, rfl, rfl, kl_hi_26, wm_gr, wini_gr⟩
theorem nw_la_7 : NW RL 7 12 14 := ⟨_, rfl, rfl, kl_la_7, wm_fe, wini_fe⟩
theorem nw_la_10 : NW RL 10 13 46 := ⟨_, rfl, rfl, kl_la_10, wm_md, wini_md⟩
theorem an_fe_9 : AN RX11 9 24 := ⟨_, by decide, rfl, kl_fe_9, wo_arrayOver_0⟩
theorem an_fe_15 : AN RX11 15 25 := ⟨_, by decide, rfl, kl_fe_15, wo_arrayOver_1⟩
theorem an_fe_21 : AN RX11 21 23 := ⟨_, by decide, rfl, kl_fe_21, wo_arrayOver_2⟩
theorem an_fe_27 : AN RX11 27 26 := ⟨_, by decide, rfl, kl_fe_27, wo_arrayOver_3⟩
theorem an_sh_15 : AN RX7 15 22 := ⟨_, by decide, rfl, kl_sh_15, wo_arrayOver_4⟩
theorem an_al_7 : AN RJx4a65c 7 27 := ⟨_, by decide, rfl, kl_al_7, wo_arrayOver_6⟩
theorem an_ar_2 : AN RJ7 2 27 := ⟨_, by decide, rfl, kl_ar_2, wo_arrayOver_6⟩
theorem ov_AI : Cond.arrayOver (.array .int) ∈ lw_tbl := wo_arrayOver_5
/-- arguments of one slot each -/
theorem lv_argsC : ∀ (as : List Value) (k : Nat), as.all (fun v => v.category == 1) = true → ∀ (i : Nat) (v : Value), as[i]? = some v → (k + i, v) ∈ lv_args k as
  | [], k, _, i, v, h => by simp at h
  | a :: l, k, hc, i, v, h => by
    simp only [List.all_cons, Bool.and_eq_true, beq_iff_eq] at hc
    have hne : ¬ a.category = 2 := by omega
    show (k + i, v) ∈ (k, a) :: lv_args (if a.category = 2 then k + 2 else k + 1) l
    rw [if_neg hne]
    cases i with
    | zero =>
      simp only [List.getElem?_cons_zero, Option.some.injEq] at h
      subst h
      exact List.mem_cons_self
    | succ i =>
      rw [List.getElem?_cons_succ] at h
      have := lv_argsC l (k + 1) hc.2 i v h
      rw [show k + (i + 1) = k + 1 + i by omega]
      exact List.mem_cons_of_mem _ this
theorem lg_slC : ∀ as : List Value, as.all (fun v => v.category == 1) = true → (lg_sl as).length = as.length
  | [], _ => rfl
  | a :: l, hc => by
    simp only [List.all_cons, Bool.and_eq_true, beq_iff_eq] at hc
    have h1 := lg_slC l hc.2
    unfold lg_sl at h1 ⊢
    rw [List.flatMap_cons, List.length_append, h1, if_neg (by omega)]
    simp [Nat.add_comm]
theorem Ct.ofL {G : Gk} {M : MI} {post : Option Value → Hp → Prop} {h : Hp} {as : List Value} {n : Nat} {lv : List (Option Value)} (md : MD M.1 M.2.1 M.2.2.1 M.2.2.2.1 n) (hc : as.all (fun v => v.category == 1) = true) (hle : as.length ≤ M.2.2.1) (hlv : as.map some ++ List.replicate (M.2.2.1 - as.length) none = lv) (k : V G M post h M.2.2.2.2.2.1 M.2.2.2.2.2.2 0 lv []) : Ct G M as h post := by
  refine Ct.of md.2.2.1 (by rw [lg_slC as hc]; exact hle) (fun i v hi => ?_) k
  rw [← hlv] at hi
  have h1 : as[i]? = some v := by
    rw [List.getElem?_append] at hi
    split at hi
    · rw [List.getElem?_map] at hi
      cases e : as[i]? with
      | none => rw [e] at hi; cases hi
      | some w => rw [e] at hi; simpa using hi
    · rw [List.getElem?_replicate] at hi
      split at hi <;> cases hi
  have := lv_argsC as 0 hc i v h1
  rwa [Nat.zero_add] at this

