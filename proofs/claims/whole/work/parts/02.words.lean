def lwT : List Cond := lw_tbl.filter goodWord
theorem tw_in {w : Cond} (h : w ∈ lw_tbl) (hg : goodWord w = true) : w ∈ lwT := List.mem_filter.mpr ⟨h, hg⟩
theorem tw_out {w : Cond} (h : w ∈ lwT) : w ∈ lw_tbl ∧ ((w.onTables && w.keeps) = true ∨ ∃ ty, w = .arrayClass ty) := ⟨(List.mem_filter.mp h).1, good_of_word (List.mem_filter.mp h).2⟩
theorem tw_c0 {w : Cond} (h : w ∈ k2_sels lw_privs) : w ∈ lw_tbl := List.mem_append_left _ h
theorem tw_c1 {w : Cond} (h : w ∈ tables_1_1) : w ∈ lw_tbl := List.mem_append_right _ (show w ∈ tables_1 from List.mem_append_left _ h)
theorem tw_c2 {w : Cond} (h : w ∈ tables_1_2) : w ∈ lw_tbl := List.mem_append_right _ (show w ∈ tables_1 from List.mem_append_right _ (List.mem_append_left _ h))
theorem tw_c3 {w : Cond} (h : w ∈ tables_1_3) : w ∈ lw_tbl := List.mem_append_right _ (show w ∈ tables_1 from List.mem_append_right _ (List.mem_append_right _ (List.mem_append_left _ h)))
theorem tw_c4 {w : Cond} (h : w ∈ tables_1_4) : w ∈ lw_tbl := List.mem_append_right _ (show w ∈ tables_1 from List.mem_append_right _ (List.mem_append_right _ (List.mem_append_right _ (List.mem_append_left _ h))))
theorem tw_c5 {w : Cond} (h : w ∈ tables_1_5) : w ∈ lw_tbl := List.mem_append_right _ (show w ∈ tables_1 from List.mem_append_right _ (List.mem_append_right _ (List.mem_append_right _ (List.mem_append_right _ (h)))))
theorem tv_X7_settle : Cond.selects RX7 yX7_settle yX7_settle ∈ lwT := tw_in (tw_c0 (List.mem_of_getElem? (i := 0) rfl)) rfl
theorem tv_X7_report : Cond.selects RX7 yX7_report yX7_report ∈ lwT := tw_in (tw_c0 (List.mem_of_getElem? (i := 1) rfl)) rfl
theorem tv_X3_countAcceptedLeft : Cond.selects RX3 yX3_countAcceptedLeft yX3_countAcceptedLeft ∈ lwT := tw_in (tw_c0 (List.mem_of_getElem? (i := 2) rfl)) rfl
theorem tv_X3_countAcceptedRight : Cond.selects RX3 yX3_countAcceptedRight yX3_countAcceptedRight ∈ lwT := tw_in (tw_c0 (List.mem_of_getElem? (i := 3) rfl)) rfl
theorem tv_X3_countAcceptedJoined : Cond.selects RX3 yX3_countAcceptedJoined yX3_countAcceptedJoined ∈ lwT := tw_in (tw_c0 (List.mem_of_getElem? (i := 4) rfl)) rfl
theorem tv_X3_tallyMatches : Cond.selects RX3 yX3_tallyMatches yX3_tallyMatches ∈ lwT := tw_in (tw_c0 (List.mem_of_getElem? (i := 5) rfl)) rfl
theorem tv_X3_joinedBs : Cond.selects RX3 yX3_joinedBs yX3_joinedBs ∈ lwT := tw_in (tw_c0 (List.mem_of_getElem? (i := 6) rfl)) rfl
theorem tv_X3_emptyingFilter : Cond.selects RX3 yX3_emptyingFilter yX3_emptyingFilter ∈ lwT := tw_in (tw_c0 (List.mem_of_getElem? (i := 7) rfl)) rfl
theorem tv_X3_acceptedBs : Cond.selects RX3 yX3_acceptedBs yX3_acceptedBs ∈ lwT := tw_in (tw_c0 (List.mem_of_getElem? (i := 8) rfl)) rfl
theorem tv_X3_survivors : Cond.selects RX3 yX3_survivors yX3_survivors ∈ lwT := tw_in (tw_c0 (List.mem_of_getElem? (i := 9) rfl)) rfl
theorem tv_X3_bsAcceptedByOthers : Cond.selects RX3 yX3_bsAcceptedByOthers yX3_bsAcceptedByOthers ∈ lwT := tw_in (tw_c0 (List.mem_of_getElem? (i := 10) rfl)) rfl
theorem tv_X3_isRepair : Cond.selects RX3 yX3_isRepair yX3_isRepair ∈ lwT := tw_in (tw_c0 (List.mem_of_getElem? (i := 11) rfl)) rfl
theorem tv_X3_costOf : Cond.selects RX3 yX3_costOf yX3_costOf ∈ lwT := tw_in (tw_c0 (List.mem_of_getElem? (i := 12) rfl)) rfl
theorem tv_X7_insertRowsOf : Cond.selects RX7 yX7_insertRowsOf yX7_insertRowsOf ∈ lwT := tw_in (tw_c0 (List.mem_of_getElem? (i := 13) rfl)) rfl
theorem tv_X7_dropFiltersAgainst : Cond.selects RX7 yX7_dropFiltersAgainst yX7_dropFiltersAgainst ∈ lwT := tw_in (tw_c0 (List.mem_of_getElem? (i := 14) rfl)) rfl
theorem tv_X3_listWishRejecters : Cond.selects RX3 yX3_listWishRejecters yX3_listWishRejecters ∈ lwT := tw_in (tw_c0 (List.mem_of_getElem? (i := 15) rfl)) rfl
theorem tv_X3_grantsWishes : Cond.selects RX3 yX3_grantsWishes yX3_grantsWishes ∈ lwT := tw_in (tw_c0 (List.mem_of_getElem? (i := 16) rfl)) rfl
theorem tv_X3_grantsWish : Cond.selects RX3 yX3_grantsWish yX3_grantsWish ∈ lwT := tw_in (tw_c0 (List.mem_of_getElem? (i := 17) rfl)) rfl
theorem tv_X4_skipSpaces : Cond.selects RX4 yX4_skipSpaces yX4_skipSpaces ∈ lwT := tw_in (tw_c0 (List.mem_of_getElem? (i := 18) rfl)) rfl
theorem tv_X4_readCommand : Cond.selects RX4 yX4_readCommand yX4_readCommand ∈ lwT := tw_in (tw_c0 (List.mem_of_getElem? (i := 19) rfl)) rfl
theorem tv_X4_readNumber : Cond.selects RX4 yX4_readNumber yX4_readNumber ∈ lwT := tw_in (tw_c0 (List.mem_of_getElem? (i := 20) rfl)) rfl
theorem tv_X7_perform : Cond.selects RX7 yX7_perform yX7_perform ∈ lwT := tw_in (tw_c0 (List.mem_of_getElem? (i := 21) rfl)) rfl
theorem tv_X7_mixFilters : Cond.selects RX7 yX7_mixFilters yX7_mixFilters ∈ lwT := tw_in (tw_c0 (List.mem_of_getElem? (i := 22) rfl)) rfl
theorem tv_X7_mixAnswers : Cond.selects RX7 yX7_mixAnswers yX7_mixAnswers ∈ lwT := tw_in (tw_c0 (List.mem_of_getElem? (i := 23) rfl)) rfl
theorem tv_X7_mixWishes : Cond.selects RX7 yX7_mixWishes yX7_mixWishes ∈ lwT := tw_in (tw_c0 (List.mem_of_getElem? (i := 24) rfl)) rfl
theorem tv_X8_adds : Cond.selects RX8 yX8_adds yX8_adds ∈ lwT := tw_in (tw_c0 (List.mem_of_getElem? (i := 25) rfl)) rfl
theorem tv_X8_fail : Cond.selects RX8 yX8_fail yX8_fail ∈ lwT := tw_in (tw_c0 (List.mem_of_getElem? (i := 26) rfl)) rfl
theorem tv_X8_placeOf : Cond.selects RX8 yX8_placeOf yX8_placeOf ∈ lwT := tw_in (tw_c0 (List.mem_of_getElem? (i := 27) rfl)) rfl
theorem tv_X8_note : Cond.selects RX8 yX8_note yX8_note ∈ lwT := tw_in (tw_c0 (List.mem_of_getElem? (i := 28) rfl)) rfl
theorem tv_X8_putBehind : Cond.selects RX8 yX8_putBehind yX8_putBehind ∈ lwT := tw_in (tw_c0 (List.mem_of_getElem? (i := 29) rfl)) rfl
theorem tv_X8_removes : Cond.selects RX8 yX8_removes yX8_removes ∈ lwT := tw_in (tw_c0 (List.mem_of_getElem? (i := 30) rfl)) rfl
theorem tv_X8_rowAt : Cond.selects RX8 yX8_rowAt yX8_rowAt ∈ lwT := tw_in (tw_c0 (List.mem_of_getElem? (i := 31) rfl)) rfl
theorem tv_X8_isFilter : Cond.selects RX8 yX8_isFilter yX8_isFilter ∈ lwT := tw_in (tw_c0 (List.mem_of_getElem? (i := 32) rfl)) rfl
theorem tv_X8_dropFilter : Cond.selects RX8 yX8_dropFilter yX8_dropFilter ∈ lwT := tw_in (tw_c0 (List.mem_of_getElem? (i := 33) rfl)) rfl
theorem tv_X8_of : Cond.selects RX8 yX8_of yX8_of ∈ lwT := tw_in (tw_c0 (List.mem_of_getElem? (i := 34) rfl)) rfl
theorem tv_X8_accepted : Cond.selects RX8 yX8_accepted yX8_accepted ∈ lwT := tw_in (tw_c0 (List.mem_of_getElem? (i := 35) rfl)) rfl
theorem tv_X8_accepts : Cond.selects RX8 yX8_accepts yX8_accepts ∈ lwT := tw_in (tw_c0 (List.mem_of_getElem? (i := 36) rfl)) rfl
theorem tv_X8_answers : Cond.selects RX8 yX8_answers yX8_answers ∈ lwT := tw_in (tw_c0 (List.mem_of_getElem? (i := 37) rfl)) rfl
theorem tv_X8_isAnswer : Cond.selects RX8 yX8_isAnswer yX8_isAnswer ∈ lwT := tw_in (tw_c0 (List.mem_of_getElem? (i := 38) rfl)) rfl
theorem tv_X8_matches : Cond.selects RX8 yX8_matches yX8_matches ∈ lwT := tw_in (tw_c0 (List.mem_of_getElem? (i := 39) rfl)) rfl
theorem tv_X8_hasLeft : Cond.selects RX8 yX8_hasLeft yX8_hasLeft ∈ lwT := tw_in (tw_c0 (List.mem_of_getElem? (i := 40) rfl)) rfl
theorem tv_X8_hasRight : Cond.selects RX8 yX8_hasRight yX8_hasRight ∈ lwT := tw_in (tw_c0 (List.mem_of_getElem? (i := 41) rfl)) rfl
theorem tv_X8_passesAll : Cond.selects RX8 yX8_passesAll yX8_passesAll ∈ lwT := tw_in (tw_c0 (List.mem_of_getElem? (i := 42) rfl)) rfl
theorem tv_X8_passes : Cond.selects RX8 yX8_passes yX8_passes ∈ lwT := tw_in (tw_c0 (List.mem_of_getElem? (i := 43) rfl)) rfl
theorem tv_X8_answerAt : Cond.selects RX8 yX8_answerAt yX8_answerAt ∈ lwT := tw_in (tw_c0 (List.mem_of_getElem? (i := 44) rfl)) rfl
theorem tv_X8_cause : Cond.selects RX8 yX8_cause yX8_cause ∈ lwT := tw_in (tw_c0 (List.mem_of_getElem? (i := 45) rfl)) rfl
theorem tv_X8_dropper : Cond.selects RX8 yX8_dropper yX8_dropper ∈ lwT := tw_in (tw_c0 (List.mem_of_getElem? (i := 46) rfl)) rfl
theorem tv_X8_removal : Cond.selects RX8 yX8_removal yX8_removal ∈ lwT := tw_in (tw_c0 (List.mem_of_getElem? (i := 47) rfl)) rfl
theorem tv_X8_missing : Cond.selects RX8 yX8_missing yX8_missing ∈ lwT := tw_in (tw_c0 (List.mem_of_getElem? (i := 48) rfl)) rfl
theorem tv_X8_bestB : Cond.selects RX8 yX8_bestB yX8_bestB ∈ lwT := tw_in (tw_c0 (List.mem_of_getElem? (i := 49) rfl)) rfl
theorem tv_X8_costOf : Cond.selects RX8 yX8_costOf yX8_costOf ∈ lwT := tw_in (tw_c0 (List.mem_of_getElem? (i := 50) rfl)) rfl
theorem tv_X8_missingAt : Cond.selects RX8 yX8_missingAt yX8_missingAt ∈ lwT := tw_in (tw_c0 (List.mem_of_getElem? (i := 51) rfl)) rfl
theorem tv_X8_satisfied : Cond.selects RX8 yX8_satisfied yX8_satisfied ∈ lwT := tw_in (tw_c0 (List.mem_of_getElem? (i := 52) rfl)) rfl
theorem tv_X8_removalForWishes : Cond.selects RX8 yX8_removalForWishes yX8_removalForWishes ∈ lwT := tw_in (tw_c0 (List.mem_of_getElem? (i := 53) rfl)) rfl
theorem tv_X8_readCommand : Cond.selects RX8 yX8_readCommand yX8_readCommand ∈ lwT := tw_in (tw_c0 (List.mem_of_getElem? (i := 54) rfl)) rfl
theorem tv_X8_skip : Cond.selects RX8 yX8_skip yX8_skip ∈ lwT := tw_in (tw_c0 (List.mem_of_getElem? (i := 55) rfl)) rfl
theorem tv_X8_here : Cond.selects RX8 yX8_here yX8_here ∈ lwT := tw_in (tw_c0 (List.mem_of_getElem? (i := 56) rfl)) rfl
theorem tv_X8_readNumber : Cond.selects RX8 yX8_readNumber yX8_readNumber ∈ lwT := tw_in (tw_c0 (List.mem_of_getElem? (i := 57) rfl)) rfl
theorem tv_X8_execute : Cond.selects RX8 yX8_execute yX8_execute ∈ lwT := tw_in (tw_c0 (List.mem_of_getElem? (i := 58) rfl)) rfl
theorem tv_X8_ends : Cond.selects RX8 yX8_ends yX8_ends ∈ lwT := tw_in (tw_c0 (List.mem_of_getElem? (i := 59) rfl)) rfl
theorem tv_X8_add : Cond.selects RX8 yX8_add yX8_add ∈ lwT := tw_in (tw_c0 (List.mem_of_getElem? (i := 60) rfl)) rfl
theorem tv_X8_addRows : Cond.selects RX8 yX8_addRows yX8_addRows ∈ lwT := tw_in (tw_c0 (List.mem_of_getElem? (i := 61) rfl)) rfl
theorem tv_X8_addFilters : Cond.selects RX8 yX8_addFilters yX8_addFilters ∈ lwT := tw_in (tw_c0 (List.mem_of_getElem? (i := 62) rfl)) rfl
theorem tv_X8_addWishes : Cond.selects RX8 yX8_addWishes yX8_addWishes ∈ lwT := tw_in (tw_c0 (List.mem_of_getElem? (i := 63) rfl)) rfl
theorem tw_1_0 : Cond.initialized RL ∈ lwT := tw_in (tw_c1 (List.mem_of_getElem? (i := 0) rfl)) rfl
theorem tw_1_1 : Cond.initialized RX7 ∈ lwT := tw_in (tw_c1 (List.mem_of_getElem? (i := 1) rfl)) rfl
theorem tw_1_2 : Cond.initialized RX3 ∈ lwT := tw_in (tw_c1 (List.mem_of_getElem? (i := 2) rfl)) rfl
theorem tw_1_3 : Cond.initialized RX5 ∈ lwT := tw_in (tw_c1 (List.mem_of_getElem? (i := 3) rfl)) rfl
theorem tw_1_4 : Cond.initialized RX2 ∈ lwT := tw_in (tw_c1 (List.mem_of_getElem? (i := 4) rfl)) rfl
theorem tw_1_5 : Cond.initialized RJ9 ∈ lwT := tw_in (tw_c1 (List.mem_of_getElem? (i := 5) rfl)) rfl
theorem tw_1_6 : Cond.initialized RX0 ∈ lwT := tw_in (tw_c1 (List.mem_of_getElem? (i := 6) rfl)) rfl
theorem tw_1_7 : Cond.initialized RX1 ∈ lwT := tw_in (tw_c1 (List.mem_of_getElem? (i := 7) rfl)) rfl
theorem tw_1_8 : Cond.initialized RX4 ∈ lwT := tw_in (tw_c1 (List.mem_of_getElem? (i := 8) rfl)) rfl
theorem tw_1_9 : Cond.initialized RX6 ∈ lwT := tw_in (tw_c1 (List.mem_of_getElem? (i := 9) rfl)) rfl
theorem tw_1_10 : Cond.initialized RX8 ∈ lwT := tw_in (tw_c1 (List.mem_of_getElem? (i := 10) rfl)) rfl
theorem tw_1_11 : Cond.initialized RJ10 ∈ lwT := tw_in (tw_c1 (List.mem_of_getElem? (i := 11) rfl)) rfl
theorem tw_1_12 : Cond.initialized RJ7 ∈ lwT := tw_in (tw_c1 (List.mem_of_getElem? (i := 12) rfl)) rfl
theorem tw_1_13 : Cond.initialized RJ6 ∈ lwT := tw_in (tw_c1 (List.mem_of_getElem? (i := 13) rfl)) rfl
theorem tw_1_14 : Cond.classLink RL 7 "WhyNotJoin" ∈ lwT := tw_in (tw_c1 (List.mem_of_getElem? (i := 14) rfl)) rfl
theorem tw_1_15 : Cond.instantiable RX7 6 ∈ lwT := tw_in (tw_c1 (List.mem_of_getElem? (i := 15) rfl)) rfl
theorem tw_1_16 : Cond.methodLink RL 9 yX7_init ∈ lwT := tw_in (tw_c1 (List.mem_of_getElem? (i := 16) rfl)) rfl
theorem tw_1_17 : Cond.instanceMethod yX7_init ∈ lwT := tw_in (tw_c1 (List.mem_of_getElem? (i := 17) rfl)) rfl
theorem tw_1_18 : Cond.code yX7_init cX7_init 1 (none : Option ClassFile.FieldType) ∈ lwT := tw_in (tw_c1 (List.mem_of_getElem? (i := 18) rfl)) rfl
theorem tw_1_19 : Cond.methodLink RX7 3 ⟨"java/lang/Object", "<init>", "()V"⟩ ∈ lwT := tw_in (tw_c1 (List.mem_of_getElem? (i := 19) rfl)) rfl
theorem tw_1_20 : Cond.instanceMethod ⟨"java/lang/Object", "<init>", "()V"⟩ ∈ lwT := tw_in (tw_c1 (List.mem_of_getElem? (i := 20) rfl)) rfl
theorem tw_1_21 : Cond.code ⟨"java/lang/Object", "<init>", "()V"⟩ object_method_1_code 1 (none : Option ClassFile.FieldType) ∈ lwT := tw_in (tw_c1 (List.mem_of_getElem? (i := 21) rfl)) rfl
theorem tw_1_22 : Cond.classLink RX7 9 "WhyNotJoin$Query" ∈ lwT := tw_in (tw_c1 (List.mem_of_getElem? (i := 22) rfl)) rfl
theorem tw_1_23 : Cond.instantiable RX3 3 ∈ lwT := tw_in (tw_c1 (List.mem_of_getElem? (i := 23) rfl)) rfl
theorem tw_1_25 : Cond.instanceMethod yX3_init ∈ lwT := tw_in (tw_c1 (List.mem_of_getElem? (i := 25) rfl)) rfl
theorem tw_1_26 : Cond.code yX3_init cX3_init 1 (none : Option ClassFile.FieldType) ∈ lwT := tw_in (tw_c1 (List.mem_of_getElem? (i := 26) rfl)) rfl
theorem tw_1_27 : Cond.methodLink RX3 3 ⟨"java/lang/Object", "<init>", "()V"⟩ ∈ lwT := tw_in (tw_c1 (List.mem_of_getElem? (i := 27) rfl)) rfl
theorem tw_1_28 : Cond.classLink RX3 9 "WhyNotJoin$State" ∈ lwT := tw_in (tw_c1 (List.mem_of_getElem? (i := 28) rfl)) rfl
theorem tw_1_29 : Cond.instantiable RX5 4 ∈ lwT := tw_in (tw_c1 (List.mem_of_getElem? (i := 29) rfl)) rfl
theorem tw_1_31 : Cond.instanceMethod yX5_init ∈ lwT := tw_in (tw_c1 (List.mem_of_getElem? (i := 31) rfl)) rfl
theorem tw_1_32 : Cond.code yX5_init cX5_init 1 (none : Option ClassFile.FieldType) ∈ lwT := tw_in (tw_c1 (List.mem_of_getElem? (i := 32) rfl)) rfl
theorem tw_1_33 : Cond.methodLink RX5 3 ⟨"java/lang/Object", "<init>", "()V"⟩ ∈ lwT := tw_in (tw_c1 (List.mem_of_getElem? (i := 33) rfl)) rfl
theorem tw_1_34 : Cond.classLink RX5 9 "WhyNotJoin$PairList" ∈ lwT := tw_in (tw_c1 (List.mem_of_getElem? (i := 34) rfl)) rfl
theorem tw_1_35 : Cond.instantiable RX2 3 ∈ lwT := tw_in (tw_c1 (List.mem_of_getElem? (i := 35) rfl)) rfl
theorem tw_1_36 : Cond.methodLink RX5 11 yX2_init ∈ lwT := tw_in (tw_c1 (List.mem_of_getElem? (i := 36) rfl)) rfl
theorem tw_1_37 : Cond.instanceMethod yX2_init ∈ lwT := tw_in (tw_c1 (List.mem_of_getElem? (i := 37) rfl)) rfl
theorem tw_1_38 : Cond.code yX2_init cX2_init 2 (none : Option ClassFile.FieldType) ∈ lwT := tw_in (tw_c1 (List.mem_of_getElem? (i := 38) rfl)) rfl
theorem tw_1_39 : Cond.methodLink RX2 3 ⟨"java/lang/Object", "<init>", "()V"⟩ ∈ lwT := tw_in (tw_c1 (List.mem_of_getElem? (i := 39) rfl)) rfl
theorem tw_1_40 : Cond.methodLink RX2 15 yJ9_min_7cf53 ∈ lwT := tw_in (tw_c1 (List.mem_of_getElem? (i := 40) rfl)) rfl
theorem tw_1_41 : Cond.static yJ9_min_7cf53 ∈ lwT := tw_in (tw_c1 (List.mem_of_getElem? (i := 41) rfl)) rfl
theorem tw_1_42 : Cond.code yJ9_min_7cf53 cJ9_min_7cf53 2 (some .int) ∈ lwT := tw_in (tw_c1 (List.mem_of_getElem? (i := 42) rfl)) rfl
theorem tw_1_43 : Cond.fieldLink RX2 9 "WhyNotJoin$PairList" "pairs" "[I" ∈ lwT := tw_in (tw_c1 (List.mem_of_getElem? (i := 43) rfl)) rfl
theorem tw_1_44 : Cond.fieldLink RX2 21 "WhyNotJoin$PairList" "limit" "I" ∈ lwT := tw_in (tw_c1 (List.mem_of_getElem? (i := 44) rfl)) rfl
theorem tw_1_45 : Cond.fieldLink RX2 31 "WhyNotJoin$PairList" "size" "I" ∈ lwT := tw_in (tw_c1 (List.mem_of_getElem? (i := 45) rfl)) rfl
theorem tw_1_48 : Cond.laysFinal RX2 "WhyNotJoin$PairList" "pairs" "[I" ∈ lwT := tw_in (tw_c1 (List.mem_of_getElem? (i := 48) rfl)) rfl
theorem tw_1_50 : Cond.laysFinal RX2 "WhyNotJoin$PairList" "limit" "I" ∈ lwT := tw_in (tw_c1 (List.mem_of_getElem? (i := 50) rfl)) rfl
theorem tw_1_52 : Cond.lays RX2 "WhyNotJoin$PairList" "size" "I" ∈ lwT := tw_in (tw_c1 (List.mem_of_getElem? (i := 52) rfl)) rfl
theorem tw_1_55 : Cond.arrayClass .int ∈ lwT := tw_in (tw_c1 (List.mem_of_getElem? (i := 55) rfl)) rfl
theorem tw_1_56 : Cond.classLink RX5 23 "WhyNotJoin$FilterList" ∈ lwT := tw_in (tw_c1 (List.mem_of_getElem? (i := 56) rfl)) rfl
theorem tw_1_57 : Cond.instantiable RX0 5 ∈ lwT := tw_in (tw_c1 (List.mem_of_getElem? (i := 57) rfl)) rfl
theorem tw_1_59 : Cond.instanceMethod yX0_init ∈ lwT := tw_in (tw_c1 (List.mem_of_getElem? (i := 59) rfl)) rfl
theorem tw_1_60 : Cond.code yX0_init cX0_init 1 (none : Option ClassFile.FieldType) ∈ lwT := tw_in (tw_c1 (List.mem_of_getElem? (i := 60) rfl)) rfl
theorem tw_1_61 : Cond.methodLink RX0 3 ⟨"java/lang/Object", "<init>", "()V"⟩ ∈ lwT := tw_in (tw_c1 (List.mem_of_getElem? (i := 61) rfl)) rfl
theorem tw_1_62 : Cond.fieldLink RX0 9 "WhyNotJoin$FilterList" "stages" "[I" ∈ lwT := tw_in (tw_c1 (List.mem_of_getElem? (i := 62) rfl)) rfl
theorem tw_1_64 : Cond.fieldLink RX0 15 "WhyNotJoin$FilterList" "columns" "[I" ∈ lwT := tw_in (tw_c1 (List.mem_of_getElem? (i := 64) rfl)) rfl
theorem tw_1_66 : Cond.fieldLink RX0 18 "WhyNotJoin$FilterList" "operators" "[I" ∈ lwT := tw_in (tw_c1 (List.mem_of_getElem? (i := 66) rfl)) rfl
theorem tw_1_68 : Cond.fieldLink RX0 21 "WhyNotJoin$FilterList" "constants" "[I" ∈ lwT := tw_in (tw_c1 (List.mem_of_getElem? (i := 68) rfl)) rfl
theorem tw_1_70 : Cond.fieldLink RX0 30 "WhyNotJoin$FilterList" "size" "I" ∈ lwT := tw_in (tw_c1 (List.mem_of_getElem? (i := 70) rfl)) rfl
theorem tw_1_73 : Cond.laysFinal RX0 "WhyNotJoin$FilterList" "stages" "[I" ∈ lwT := tw_in (tw_c1 (List.mem_of_getElem? (i := 73) rfl)) rfl
theorem tw_1_75 : Cond.laysFinal RX0 "WhyNotJoin$FilterList" "columns" "[I" ∈ lwT := tw_in (tw_c1 (List.mem_of_getElem? (i := 75) rfl)) rfl
theorem tw_1_77 : Cond.laysFinal RX0 "WhyNotJoin$FilterList" "operators" "[I" ∈ lwT := tw_in (tw_c1 (List.mem_of_getElem? (i := 77) rfl)) rfl
theorem tw_1_79 : Cond.laysFinal RX0 "WhyNotJoin$FilterList" "constants" "[I" ∈ lwT := tw_in (tw_c1 (List.mem_of_getElem? (i := 79) rfl)) rfl
theorem tw_1_81 : Cond.lays RX0 "WhyNotJoin$FilterList" "size" "I" ∈ lwT := tw_in (tw_c1 (List.mem_of_getElem? (i := 81) rfl)) rfl
theorem tw_1_84 : Cond.fieldLink RX5 14 "WhyNotJoin$State" "left" "LWhyNotJoin$PairList;" ∈ lwT := tw_in (tw_c1 (List.mem_of_getElem? (i := 84) rfl)) rfl
theorem tw_1_87 : Cond.fieldLink RX5 20 "WhyNotJoin$State" "right" "LWhyNotJoin$PairList;" ∈ lwT := tw_in (tw_c1 (List.mem_of_getElem? (i := 87) rfl)) rfl
theorem tw_1_90 : Cond.fieldLink RX5 26 "WhyNotJoin$State" "filters" "LWhyNotJoin$FilterList;" ∈ lwT := tw_in (tw_c1 (List.mem_of_getElem? (i := 90) rfl)) rfl
theorem tw_1_93 : Cond.fieldLink RX5 30 "WhyNotJoin$State" "wishes" "LWhyNotJoin$PairList;" ∈ lwT := tw_in (tw_c1 (List.mem_of_getElem? (i := 93) rfl)) rfl
theorem tw_1_96 : Cond.laysFinal RX5 "WhyNotJoin$State" "left" "LWhyNotJoin$PairList;" ∈ lwT := tw_in (tw_c1 (List.mem_of_getElem? (i := 96) rfl)) rfl
theorem tw_1_98 : Cond.laysFinal RX5 "WhyNotJoin$State" "right" "LWhyNotJoin$PairList;" ∈ lwT := tw_in (tw_c1 (List.mem_of_getElem? (i := 98) rfl)) rfl
theorem tw_1_100 : Cond.laysFinal RX5 "WhyNotJoin$State" "filters" "LWhyNotJoin$FilterList;" ∈ lwT := tw_in (tw_c1 (List.mem_of_getElem? (i := 100) rfl)) rfl
theorem tw_1_102 : Cond.laysFinal RX5 "WhyNotJoin$State" "wishes" "LWhyNotJoin$PairList;" ∈ lwT := tw_in (tw_c1 (List.mem_of_getElem? (i := 102) rfl)) rfl
theorem tw_1_105 : Cond.fieldLink RX3 12 "WhyNotJoin$Query" "state" "LWhyNotJoin$State;" ∈ lwT := tw_in (tw_c1 (List.mem_of_getElem? (i := 105) rfl)) rfl
theorem tw_1_107 : Cond.fieldLink RX3 18 "WhyNotJoin$Query" "matches" "[I" ∈ lwT := tw_in (tw_c1 (List.mem_of_getElem? (i := 107) rfl)) rfl
theorem tw_1_109 : Cond.fieldLink RX3 22 "WhyNotJoin$Query" "wishRejecters" "[I" ∈ lwT := tw_in (tw_c1 (List.mem_of_getElem? (i := 109) rfl)) rfl
theorem tw_1_110 : Cond.laysFinal RX3 "WhyNotJoin$Query" "state" "LWhyNotJoin$State;" ∈ lwT := tw_in (tw_c1 (List.mem_of_getElem? (i := 110) rfl)) rfl
theorem tw_1_112 : Cond.laysFinal RX3 "WhyNotJoin$Query" "matches" "[I" ∈ lwT := tw_in (tw_c1 (List.mem_of_getElem? (i := 112) rfl)) rfl
theorem tw_1_114 : Cond.laysFinal RX3 "WhyNotJoin$Query" "wishRejecters" "[I" ∈ lwT := tw_in (tw_c1 (List.mem_of_getElem? (i := 114) rfl)) rfl
theorem tw_1_117 : Cond.classLink RX7 21 "WhyNotJoin$History" ∈ lwT := tw_in (tw_c1 (List.mem_of_getElem? (i := 117) rfl)) rfl
theorem tw_1_118 : Cond.instantiable RX1 3 ∈ lwT := tw_in (tw_c1 (List.mem_of_getElem? (i := 118) rfl)) rfl
theorem tw_1_119 : Cond.methodLink RX7 23 yX1_init ∈ lwT := tw_in (tw_c1 (List.mem_of_getElem? (i := 119) rfl)) rfl
theorem tw_1_120 : Cond.instanceMethod yX1_init ∈ lwT := tw_in (tw_c1 (List.mem_of_getElem? (i := 120) rfl)) rfl
theorem tw_1_121 : Cond.code yX1_init cX1_init 2 (none : Option ClassFile.FieldType) ∈ lwT := tw_in (tw_c1 (List.mem_of_getElem? (i := 121) rfl)) rfl
theorem tw_1_122 : Cond.methodLink RX1 3 ⟨"java/lang/Object", "<init>", "()V"⟩ ∈ lwT := tw_in (tw_c1 (List.mem_of_getElem? (i := 122) rfl)) rfl
theorem tw_1_123 : Cond.classLink RX1 11 "WhyNotJoin$State" ∈ lwT := tw_in (tw_c1 (List.mem_of_getElem? (i := 123) rfl)) rfl
theorem tw_1_126 : Cond.fieldLink RX1 13 "WhyNotJoin$History" "slots" "[LWhyNotJoin$State;" ∈ lwT := tw_in (tw_c1 (List.mem_of_getElem? (i := 126) rfl)) rfl
theorem tw_1_127 : Cond.fieldLink RX1 18 "WhyNotJoin$History" "draftSlot" "I" ∈ lwT := tw_in (tw_c1 (List.mem_of_getElem? (i := 127) rfl)) rfl
theorem tw_1_128 : Cond.fieldLink RX1 26 "WhyNotJoin$History" "depth" "I" ∈ lwT := tw_in (tw_c1 (List.mem_of_getElem? (i := 128) rfl)) rfl
theorem tw_1_130 : Cond.laysFinal RX1 "WhyNotJoin$History" "slots" "[LWhyNotJoin$State;" ∈ lwT := tw_in (tw_c1 (List.mem_of_getElem? (i := 130) rfl)) rfl
theorem tw_1_132 : Cond.lays RX1 "WhyNotJoin$History" "draftSlot" "I" ∈ lwT := tw_in (tw_c1 (List.mem_of_getElem? (i := 132) rfl)) rfl
theorem tw_1_134 : Cond.lays RX1 "WhyNotJoin$History" "depth" "I" ∈ lwT := tw_in (tw_c1 (List.mem_of_getElem? (i := 134) rfl)) rfl
theorem tw_1_137 : Cond.classLink RX7 28 "WhyNotJoin$Script" ∈ lwT := tw_in (tw_c1 (List.mem_of_getElem? (i := 137) rfl)) rfl
theorem tw_1_138 : Cond.instantiable RX4 5 ∈ lwT := tw_in (tw_c1 (List.mem_of_getElem? (i := 138) rfl)) rfl
theorem tw_1_140 : Cond.instanceMethod yX4_init ∈ lwT := tw_in (tw_c1 (List.mem_of_getElem? (i := 140) rfl)) rfl
theorem tw_1_141 : Cond.code yX4_init cX4_init 1 (none : Option ClassFile.FieldType) ∈ lwT := tw_in (tw_c1 (List.mem_of_getElem? (i := 141) rfl)) rfl
theorem tw_1_142 : Cond.methodLink RX4 3 ⟨"java/lang/Object", "<init>", "()V"⟩ ∈ lwT := tw_in (tw_c1 (List.mem_of_getElem? (i := 142) rfl)) rfl
theorem tw_1_143 : Cond.classLink RX4 9 "WhyNotJoin$Text" ∈ lwT := tw_in (tw_c1 (List.mem_of_getElem? (i := 143) rfl)) rfl
theorem tw_1_144 : Cond.instantiable RX6 2 ∈ lwT := tw_in (tw_c1 (List.mem_of_getElem? (i := 144) rfl)) rfl
theorem tw_1_146 : Cond.instanceMethod yX6_init ∈ lwT := tw_in (tw_c1 (List.mem_of_getElem? (i := 146) rfl)) rfl
theorem tw_1_147 : Cond.code yX6_init cX6_init 1 (none : Option ClassFile.FieldType) ∈ lwT := tw_in (tw_c1 (List.mem_of_getElem? (i := 147) rfl)) rfl
theorem tw_1_148 : Cond.methodLink RX6 3 ⟨"java/lang/Object", "<init>", "()V"⟩ ∈ lwT := tw_in (tw_c1 (List.mem_of_getElem? (i := 148) rfl)) rfl
theorem tw_1_149 : Cond.fieldLink RX6 9 "WhyNotJoin$Text" "bytes" "[I" ∈ lwT := tw_in (tw_c1 (List.mem_of_getElem? (i := 149) rfl)) rfl
theorem tw_1_150 : Cond.fieldLink RX6 15 "WhyNotJoin$Text" "length" "I" ∈ lwT := tw_in (tw_c1 (List.mem_of_getElem? (i := 150) rfl)) rfl
theorem tw_1_153 : Cond.laysFinal RX6 "WhyNotJoin$Text" "bytes" "[I" ∈ lwT := tw_in (tw_c1 (List.mem_of_getElem? (i := 153) rfl)) rfl
theorem tw_1_155 : Cond.lays RX6 "WhyNotJoin$Text" "length" "I" ∈ lwT := tw_in (tw_c1 (List.mem_of_getElem? (i := 155) rfl)) rfl
theorem tw_1_158 : Cond.fieldLink RX4 12 "WhyNotJoin$Script" "text" "LWhyNotJoin$Text;" ∈ lwT := tw_in (tw_c1 (List.mem_of_getElem? (i := 158) rfl)) rfl
theorem tw_1_160 : Cond.fieldLink RX4 18 "WhyNotJoin$Script" "letters" "[I" ∈ lwT := tw_in (tw_c1 (List.mem_of_getElem? (i := 160) rfl)) rfl
theorem tw_1_161 : Cond.fieldLink RX4 22 "WhyNotJoin$Script" "numbers" "[I" ∈ lwT := tw_in (tw_c1 (List.mem_of_getElem? (i := 161) rfl)) rfl
theorem tw_1_162 : Cond.fieldLink RX4 25 "WhyNotJoin$Script" "size" "I" ∈ lwT := tw_in (tw_c1 (List.mem_of_getElem? (i := 162) rfl)) rfl
theorem tw_1_164 : Cond.fieldLink RX4 29 "WhyNotJoin$Script" "position" "I" ∈ lwT := tw_in (tw_c1 (List.mem_of_getElem? (i := 164) rfl)) rfl
theorem tw_1_166 : Cond.laysFinal RX4 "WhyNotJoin$Script" "text" "LWhyNotJoin$Text;" ∈ lwT := tw_in (tw_c1 (List.mem_of_getElem? (i := 166) rfl)) rfl
theorem tw_1_168 : Cond.laysFinal RX4 "WhyNotJoin$Script" "letters" "[I" ∈ lwT := tw_in (tw_c1 (List.mem_of_getElem? (i := 168) rfl)) rfl
theorem tw_1_170 : Cond.laysFinal RX4 "WhyNotJoin$Script" "numbers" "[I" ∈ lwT := tw_in (tw_c1 (List.mem_of_getElem? (i := 170) rfl)) rfl
theorem tw_1_172 : Cond.lays RX4 "WhyNotJoin$Script" "size" "I" ∈ lwT := tw_in (tw_c1 (List.mem_of_getElem? (i := 172) rfl)) rfl
theorem tw_1_174 : Cond.lays RX4 "WhyNotJoin$Script" "position" "I" ∈ lwT := tw_in (tw_c1 (List.mem_of_getElem? (i := 174) rfl)) rfl
theorem tw_1_177 : Cond.fieldLink RX7 12 "WhyNotJoin" "query" "LWhyNotJoin$Query;" ∈ lwT := tw_in (tw_c1 (List.mem_of_getElem? (i := 177) rfl)) rfl
theorem tw_1_178 : Cond.fieldLink RX7 20 "WhyNotJoin" "state" "LWhyNotJoin$State;" ∈ lwT := tw_in (tw_c1 (List.mem_of_getElem? (i := 178) rfl)) rfl
theorem tw_1_179 : Cond.fieldLink RX7 24 "WhyNotJoin" "history" "LWhyNotJoin$History;" ∈ lwT := tw_in (tw_c1 (List.mem_of_getElem? (i := 179) rfl)) rfl
theorem tw_1_180 : Cond.fieldLink RX7 31 "WhyNotJoin" "script" "LWhyNotJoin$Script;" ∈ lwT := tw_in (tw_c1 (List.mem_of_getElem? (i := 180) rfl)) rfl
theorem tw_1_181 : Cond.fieldLink RX7 39 "WhyNotJoin" "text" "LWhyNotJoin$Text;" ∈ lwT := tw_in (tw_c1 (List.mem_of_getElem? (i := 181) rfl)) rfl
theorem tw_1_182 : Cond.fieldLink RX7 40 "WhyNotJoin" "errors" "[I" ∈ lwT := tw_in (tw_c1 (List.mem_of_getElem? (i := 182) rfl)) rfl
theorem tw_1_183 : Cond.laysFinal RX7 "WhyNotJoin" "query" "LWhyNotJoin$Query;" ∈ lwT := tw_in (tw_c1 (List.mem_of_getElem? (i := 183) rfl)) rfl
theorem tw_1_185 : Cond.laysFinal RX7 "WhyNotJoin" "state" "LWhyNotJoin$State;" ∈ lwT := tw_in (tw_c1 (List.mem_of_getElem? (i := 185) rfl)) rfl
theorem tw_1_187 : Cond.laysFinal RX7 "WhyNotJoin" "history" "LWhyNotJoin$History;" ∈ lwT := tw_in (tw_c1 (List.mem_of_getElem? (i := 187) rfl)) rfl
theorem tw_1_189 : Cond.laysFinal RX7 "WhyNotJoin" "script" "LWhyNotJoin$Script;" ∈ lwT := tw_in (tw_c1 (List.mem_of_getElem? (i := 189) rfl)) rfl
theorem tw_1_191 : Cond.laysFinal RX7 "WhyNotJoin" "text" "LWhyNotJoin$Text;" ∈ lwT := tw_in (tw_c1 (List.mem_of_getElem? (i := 191) rfl)) rfl
theorem tw_1_193 : Cond.laysFinal RX7 "WhyNotJoin" "errors" "[I" ∈ lwT := tw_in (tw_c1 (List.mem_of_getElem? (i := 193) rfl)) rfl
theorem tw_1_196 : Cond.methodLink RL 13 yX7_addLeft ∈ lwT := tw_in (tw_c1 (List.mem_of_getElem? (i := 196) rfl)) rfl
theorem tw_1_197 : Cond.instanceMethod yX7_addLeft ∈ lwT := tw_in (tw_c1 (List.mem_of_getElem? (i := 197) rfl)) rfl
theorem tw_1_198 : Cond.selects RX7 yX7_addLeft yX7_addLeft ∈ lwT := tw_in (tw_c1 (List.mem_of_getElem? (i := 198) rfl)) rfl
theorem tw_1_199 : Cond.code yX7_addLeft cX7_addLeft 3 (some .int) ∈ lwT := tw_in (tw_c1 (List.mem_of_getElem? (i := 199) rfl)) rfl
theorem tw_1_200 : Cond.methodLink RX7 44 yX1_draft ∈ lwT := tw_in (tw_c1 (List.mem_of_getElem? (i := 200) rfl)) rfl
theorem tw_1_201 : Cond.instanceMethod yX1_draft ∈ lwT := tw_in (tw_c1 (List.mem_of_getElem? (i := 201) rfl)) rfl
theorem tw_1_202 : Cond.selects RX1 yX1_draft yX1_draft ∈ lwT := tw_in (tw_c1 (List.mem_of_getElem? (i := 202) rfl)) rfl
theorem tw_1_203 : Cond.code yX1_draft cX1_draft 2 (none : Option ClassFile.FieldType) ∈ lwT := tw_in (tw_c1 (List.mem_of_getElem? (i := 203) rfl)) rfl
theorem tw_1_204 : Cond.methodLink RX1 22 yX5_copyFrom ∈ lwT := tw_in (tw_c1 (List.mem_of_getElem? (i := 204) rfl)) rfl
theorem tw_1_205 : Cond.instanceMethod yX5_copyFrom ∈ lwT := tw_in (tw_c1 (List.mem_of_getElem? (i := 205) rfl)) rfl
theorem tw_1_206 : Cond.selects RX5 yX5_copyFrom yX5_copyFrom ∈ lwT := tw_in (tw_c1 (List.mem_of_getElem? (i := 206) rfl)) rfl
theorem tw_1_207 : Cond.code yX5_copyFrom cX5_copyFrom 2 (none : Option ClassFile.FieldType) ∈ lwT := tw_in (tw_c1 (List.mem_of_getElem? (i := 207) rfl)) rfl
theorem tw_1_208 : Cond.methodLink RX5 33 yX2_copyFrom ∈ lwT := tw_in (tw_c1 (List.mem_of_getElem? (i := 208) rfl)) rfl
theorem tw_1_209 : Cond.instanceMethod yX2_copyFrom ∈ lwT := tw_in (tw_c1 (List.mem_of_getElem? (i := 209) rfl)) rfl
theorem tw_1_210 : Cond.selects RX2 yX2_copyFrom yX2_copyFrom ∈ lwT := tw_in (tw_c1 (List.mem_of_getElem? (i := 210) rfl)) rfl
theorem tw_1_211 : Cond.code yX2_copyFrom cX2_copyFrom 2 (none : Option ClassFile.FieldType) ∈ lwT := tw_in (tw_c1 (List.mem_of_getElem? (i := 211) rfl)) rfl
theorem tw_1_212 : Cond.methodLink RX2 25 ⟨"java/lang/System", "arraycopy", "(Ljava/lang/Object;ILjava/lang/Object;II)V"⟩ ∈ lwT := tw_in (tw_c1 (List.mem_of_getElem? (i := 212) rfl)) rfl
theorem tw_1_213 : Cond.static ⟨"java/lang/System", "arraycopy", "(Ljava/lang/Object;ILjava/lang/Object;II)V"⟩ ∈ lwT := tw_in (tw_c1 (List.mem_of_getElem? (i := 213) rfl)) rfl
theorem tw_1_214 : Cond.native ⟨"java/lang/System", "arraycopy", "(Ljava/lang/Object;ILjava/lang/Object;II)V"⟩ ∈ lwT := tw_in (tw_c1 (List.mem_of_getElem? (i := 214) rfl)) rfl
theorem tw_1_215 : Cond.methodLink RX5 37 yX0_copyFrom ∈ lwT := tw_in (tw_c1 (List.mem_of_getElem? (i := 215) rfl)) rfl
theorem tw_1_216 : Cond.instanceMethod yX0_copyFrom ∈ lwT := tw_in (tw_c1 (List.mem_of_getElem? (i := 216) rfl)) rfl
theorem tw_1_217 : Cond.selects RX0 yX0_copyFrom yX0_copyFrom ∈ lwT := tw_in (tw_c1 (List.mem_of_getElem? (i := 217) rfl)) rfl
theorem tw_1_218 : Cond.code yX0_copyFrom cX0_copyFrom 2 (none : Option ClassFile.FieldType) ∈ lwT := tw_in (tw_c1 (List.mem_of_getElem? (i := 218) rfl)) rfl
theorem tw_1_219 : Cond.methodLink RX0 24 ⟨"java/lang/System", "arraycopy", "(Ljava/lang/Object;ILjava/lang/Object;II)V"⟩ ∈ lwT := tw_in (tw_c1 (List.mem_of_getElem? (i := 219) rfl)) rfl
theorem tw_1_220 : Cond.methodLink RX7 54 yX2_insert ∈ lwT := tw_in (tw_c1 (List.mem_of_getElem? (i := 220) rfl)) rfl
theorem tw_1_221 : Cond.instanceMethod yX2_insert ∈ lwT := tw_in (tw_c1 (List.mem_of_getElem? (i := 221) rfl)) rfl
theorem tw_1_222 : Cond.selects RX2 yX2_insert yX2_insert ∈ lwT := tw_in (tw_c1 (List.mem_of_getElem? (i := 222) rfl)) rfl
theorem tw_1_223 : Cond.code yX2_insert cX2_insert 3 (some .int) ∈ lwT := tw_in (tw_c1 (List.mem_of_getElem? (i := 223) rfl)) rfl
theorem tw_1_225 : Cond.static yX7_isPair ∈ lwT := tw_in (tw_c1 (List.mem_of_getElem? (i := 225) rfl)) rfl
theorem tw_1_226 : Cond.code yX7_isPair cX7_isPair 2 (some .boolean) ∈ lwT := tw_in (tw_c1 (List.mem_of_getElem? (i := 226) rfl)) rfl
theorem tw_1_227 : Cond.methodLink RX7 246 yX7_isValue ∈ lwT := tw_in (tw_c1 (List.mem_of_getElem? (i := 227) rfl)) rfl
theorem tw_1_228 : Cond.static yX7_isValue ∈ lwT := tw_in (tw_c1 (List.mem_of_getElem? (i := 228) rfl)) rfl
theorem tw_1_229 : Cond.code yX7_isValue cX7_isValue 1 (some .boolean) ∈ lwT := tw_in (tw_c1 (List.mem_of_getElem? (i := 229) rfl)) rfl
theorem tw_1_230 : Cond.methodLink RX2 38 yX2_holds ∈ lwT := tw_in (tw_c1 (List.mem_of_getElem? (i := 230) rfl)) rfl
theorem tw_1_231 : Cond.instanceMethod yX2_holds ∈ lwT := tw_in (tw_c1 (List.mem_of_getElem? (i := 231) rfl)) rfl
theorem tw_1_232 : Cond.selects RX2 yX2_holds yX2_holds ∈ lwT := tw_in (tw_c1 (List.mem_of_getElem? (i := 232) rfl)) rfl
theorem tw_1_233 : Cond.code yX2_holds cX2_holds 5 (some .boolean) ∈ lwT := tw_in (tw_c1 (List.mem_of_getElem? (i := 233) rfl)) rfl
theorem tw_1_234 : Cond.methodLink RX2 41 yX2_isFull ∈ lwT := tw_in (tw_c1 (List.mem_of_getElem? (i := 234) rfl)) rfl
theorem tw_1_235 : Cond.instanceMethod yX2_isFull ∈ lwT := tw_in (tw_c1 (List.mem_of_getElem? (i := 235) rfl)) rfl
theorem tw_1_236 : Cond.selects RX2 yX2_isFull yX2_isFull ∈ lwT := tw_in (tw_c1 (List.mem_of_getElem? (i := 236) rfl)) rfl
theorem tw_1_237 : Cond.code yX2_isFull cX2_isFull 1 (some .boolean) ∈ lwT := tw_in (tw_c1 (List.mem_of_getElem? (i := 237) rfl)) rfl
theorem tw_1_238 : Cond.methodLink RX7 60 yX7_settle ∈ lwT := tw_in (tw_c1 (List.mem_of_getElem? (i := 238) rfl)) rfl
theorem tw_2_0 : Cond.instanceMethod yX7_settle ∈ lwT := tw_in (tw_c2 (List.mem_of_getElem? (i := 0) rfl)) rfl
theorem tw_2_1 : Cond.code yX7_settle cX7_settle 2 (some .int) ∈ lwT := tw_in (tw_c2 (List.mem_of_getElem? (i := 1) rfl)) rfl
theorem tw_2_2 : Cond.methodLink RX7 170 yX7_isError ∈ lwT := tw_in (tw_c2 (List.mem_of_getElem? (i := 2) rfl)) rfl
theorem tw_2_3 : Cond.static yX7_isError ∈ lwT := tw_in (tw_c2 (List.mem_of_getElem? (i := 3) rfl)) rfl
theorem tw_2_4 : Cond.code yX7_isError cX7_isError 1 (some .boolean) ∈ lwT := tw_in (tw_c2 (List.mem_of_getElem? (i := 4) rfl)) rfl
theorem tw_2_5 : Cond.methodLink RX7 176 yX1_keepDraft ∈ lwT := tw_in (tw_c2 (List.mem_of_getElem? (i := 5) rfl)) rfl
theorem tw_2_6 : Cond.instanceMethod yX1_keepDraft ∈ lwT := tw_in (tw_c2 (List.mem_of_getElem? (i := 6) rfl)) rfl
theorem tw_2_7 : Cond.selects RX1 yX1_keepDraft yX1_keepDraft ∈ lwT := tw_in (tw_c2 (List.mem_of_getElem? (i := 7) rfl)) rfl
theorem tw_2_8 : Cond.code yX1_keepDraft cX1_keepDraft 1 (none : Option ClassFile.FieldType) ∈ lwT := tw_in (tw_c2 (List.mem_of_getElem? (i := 8) rfl)) rfl
theorem tw_2_9 : Cond.methodLink RX1 29 yJ9_min_7cf53 ∈ lwT := tw_in (tw_c2 (List.mem_of_getElem? (i := 9) rfl)) rfl
theorem tw_2_10 : Cond.methodLink RX7 73 yX7_report ∈ lwT := tw_in (tw_c2 (List.mem_of_getElem? (i := 10) rfl)) rfl
theorem tw_2_12 : Cond.instanceMethod yX7_report ∈ lwT := tw_in (tw_c2 (List.mem_of_getElem? (i := 12) rfl)) rfl
theorem tw_2_13 : Cond.code yX7_report cX7_report 2 (some .int) ∈ lwT := tw_in (tw_c2 (List.mem_of_getElem? (i := 13) rfl)) rfl
theorem tw_2_14 : Cond.methodLink RL 18 yX7_addRight ∈ lwT := tw_in (tw_c2 (List.mem_of_getElem? (i := 14) rfl)) rfl
theorem tw_2_15 : Cond.instanceMethod yX7_addRight ∈ lwT := tw_in (tw_c2 (List.mem_of_getElem? (i := 15) rfl)) rfl
theorem tw_2_16 : Cond.selects RX7 yX7_addRight yX7_addRight ∈ lwT := tw_in (tw_c2 (List.mem_of_getElem? (i := 16) rfl)) rfl
theorem tw_2_17 : Cond.code yX7_addRight cX7_addRight 3 (some .int) ∈ lwT := tw_in (tw_c2 (List.mem_of_getElem? (i := 17) rfl)) rfl
theorem tw_2_18 : Cond.methodLink RL 22 yX7_removeLeft ∈ lwT := tw_in (tw_c2 (List.mem_of_getElem? (i := 18) rfl)) rfl
theorem tw_2_19 : Cond.instanceMethod yX7_removeLeft ∈ lwT := tw_in (tw_c2 (List.mem_of_getElem? (i := 19) rfl)) rfl
theorem tw_2_20 : Cond.selects RX7 yX7_removeLeft yX7_removeLeft ∈ lwT := tw_in (tw_c2 (List.mem_of_getElem? (i := 20) rfl)) rfl
theorem tw_2_21 : Cond.code yX7_removeLeft cX7_removeLeft 2 (some .int) ∈ lwT := tw_in (tw_c2 (List.mem_of_getElem? (i := 21) rfl)) rfl
theorem tw_2_22 : Cond.methodLink RX7 67 yX2_drop ∈ lwT := tw_in (tw_c2 (List.mem_of_getElem? (i := 22) rfl)) rfl
theorem tw_2_23 : Cond.instanceMethod yX2_drop ∈ lwT := tw_in (tw_c2 (List.mem_of_getElem? (i := 23) rfl)) rfl
theorem tw_2_24 : Cond.selects RX2 yX2_drop yX2_drop ∈ lwT := tw_in (tw_c2 (List.mem_of_getElem? (i := 24) rfl)) rfl
theorem tw_2_25 : Cond.code yX2_drop cX2_drop 3 (some .int) ∈ lwT := tw_in (tw_c2 (List.mem_of_getElem? (i := 25) rfl)) rfl
theorem tw_2_26 : Cond.methodLink RL 27 yX7_removeRight ∈ lwT := tw_in (tw_c2 (List.mem_of_getElem? (i := 26) rfl)) rfl
theorem tw_2_27 : Cond.instanceMethod yX7_removeRight ∈ lwT := tw_in (tw_c2 (List.mem_of_getElem? (i := 27) rfl)) rfl
theorem tw_2_28 : Cond.selects RX7 yX7_removeRight yX7_removeRight ∈ lwT := tw_in (tw_c2 (List.mem_of_getElem? (i := 28) rfl)) rfl
theorem tw_2_29 : Cond.code yX7_removeRight cX7_removeRight 2 (some .int) ∈ lwT := tw_in (tw_c2 (List.mem_of_getElem? (i := 29) rfl)) rfl
theorem tw_2_30 : Cond.methodLink RL 31 yX7_leftRow ∈ lwT := tw_in (tw_c2 (List.mem_of_getElem? (i := 30) rfl)) rfl
theorem tw_2_31 : Cond.instanceMethod yX7_leftRow ∈ lwT := tw_in (tw_c2 (List.mem_of_getElem? (i := 31) rfl)) rfl
theorem tw_2_32 : Cond.selects RX7 yX7_leftRow yX7_leftRow ∈ lwT := tw_in (tw_c2 (List.mem_of_getElem? (i := 32) rfl)) rfl
theorem tw_2_33 : Cond.code yX7_leftRow cX7_leftRow 2 (some .int) ∈ lwT := tw_in (tw_c2 (List.mem_of_getElem? (i := 33) rfl)) rfl
theorem tw_2_34 : Cond.methodLink RX7 70 yX2_pairAt ∈ lwT := tw_in (tw_c2 (List.mem_of_getElem? (i := 34) rfl)) rfl
theorem tw_2_35 : Cond.instanceMethod yX2_pairAt ∈ lwT := tw_in (tw_c2 (List.mem_of_getElem? (i := 35) rfl)) rfl
theorem tw_2_36 : Cond.selects RX2 yX2_pairAt yX2_pairAt ∈ lwT := tw_in (tw_c2 (List.mem_of_getElem? (i := 36) rfl)) rfl
theorem tw_2_37 : Cond.code yX2_pairAt cX2_pairAt 2 (some .int) ∈ lwT := tw_in (tw_c2 (List.mem_of_getElem? (i := 37) rfl)) rfl
theorem tw_2_38 : Cond.methodLink RL 35 yX7_rightRow ∈ lwT := tw_in (tw_c2 (List.mem_of_getElem? (i := 38) rfl)) rfl
theorem tw_2_39 : Cond.instanceMethod yX7_rightRow ∈ lwT := tw_in (tw_c2 (List.mem_of_getElem? (i := 39) rfl)) rfl
theorem tw_2_40 : Cond.selects RX7 yX7_rightRow yX7_rightRow ∈ lwT := tw_in (tw_c2 (List.mem_of_getElem? (i := 40) rfl)) rfl
theorem tw_2_41 : Cond.code yX7_rightRow cX7_rightRow 2 (some .int) ∈ lwT := tw_in (tw_c2 (List.mem_of_getElem? (i := 41) rfl)) rfl
theorem tw_2_42 : Cond.methodLink RL 39 yX7_addFilter ∈ lwT := tw_in (tw_c2 (List.mem_of_getElem? (i := 42) rfl)) rfl
theorem tw_2_43 : Cond.instanceMethod yX7_addFilter ∈ lwT := tw_in (tw_c2 (List.mem_of_getElem? (i := 43) rfl)) rfl
theorem tw_2_44 : Cond.selects RX7 yX7_addFilter yX7_addFilter ∈ lwT := tw_in (tw_c2 (List.mem_of_getElem? (i := 44) rfl)) rfl
theorem tw_2_45 : Cond.code yX7_addFilter cX7_addFilter 5 (some .int) ∈ lwT := tw_in (tw_c2 (List.mem_of_getElem? (i := 45) rfl)) rfl
theorem tw_2_46 : Cond.methodLink RX7 80 yX0_insert ∈ lwT := tw_in (tw_c2 (List.mem_of_getElem? (i := 46) rfl)) rfl
theorem tw_2_47 : Cond.instanceMethod yX0_insert ∈ lwT := tw_in (tw_c2 (List.mem_of_getElem? (i := 47) rfl)) rfl
theorem tw_2_48 : Cond.selects RX0 yX0_insert yX0_insert ∈ lwT := tw_in (tw_c2 (List.mem_of_getElem? (i := 48) rfl)) rfl
theorem tw_2_49 : Cond.code yX0_insert cX0_insert 5 (some .int) ∈ lwT := tw_in (tw_c2 (List.mem_of_getElem? (i := 49) rfl)) rfl
theorem tw_2_50 : Cond.methodLink RX0 34 yX0_isColumn ∈ lwT := tw_in (tw_c2 (List.mem_of_getElem? (i := 50) rfl)) rfl
theorem tw_2_51 : Cond.static yX0_isColumn ∈ lwT := tw_in (tw_c2 (List.mem_of_getElem? (i := 51) rfl)) rfl
theorem tw_2_52 : Cond.code yX0_isColumn cX0_isColumn 2 (some .boolean) ∈ lwT := tw_in (tw_c2 (List.mem_of_getElem? (i := 52) rfl)) rfl
theorem tw_2_53 : Cond.methodLink RX0 38 yX0_isConstant ∈ lwT := tw_in (tw_c2 (List.mem_of_getElem? (i := 53) rfl)) rfl
theorem tw_2_54 : Cond.static yX0_isConstant ∈ lwT := tw_in (tw_c2 (List.mem_of_getElem? (i := 54) rfl)) rfl
theorem tw_2_55 : Cond.code yX0_isConstant cX0_isConstant 2 (some .boolean) ∈ lwT := tw_in (tw_c2 (List.mem_of_getElem? (i := 55) rfl)) rfl
theorem tw_2_57 : Cond.methodLink RL 44 yX7_removeFilter ∈ lwT := tw_in (tw_c2 (List.mem_of_getElem? (i := 57) rfl)) rfl
theorem tw_2_58 : Cond.instanceMethod yX7_removeFilter ∈ lwT := tw_in (tw_c2 (List.mem_of_getElem? (i := 58) rfl)) rfl
theorem tw_2_59 : Cond.selects RX7 yX7_removeFilter yX7_removeFilter ∈ lwT := tw_in (tw_c2 (List.mem_of_getElem? (i := 59) rfl)) rfl
theorem tw_2_60 : Cond.code yX7_removeFilter cX7_removeFilter 2 (some .int) ∈ lwT := tw_in (tw_c2 (List.mem_of_getElem? (i := 60) rfl)) rfl
theorem tw_2_61 : Cond.methodLink RX7 85 yX0_drop ∈ lwT := tw_in (tw_c2 (List.mem_of_getElem? (i := 61) rfl)) rfl
theorem tw_2_62 : Cond.instanceMethod yX0_drop ∈ lwT := tw_in (tw_c2 (List.mem_of_getElem? (i := 62) rfl)) rfl
theorem tw_2_63 : Cond.selects RX0 yX0_drop yX0_drop ∈ lwT := tw_in (tw_c2 (List.mem_of_getElem? (i := 63) rfl)) rfl
theorem tw_2_64 : Cond.code yX0_drop cX0_drop 3 (some .int) ∈ lwT := tw_in (tw_c2 (List.mem_of_getElem? (i := 64) rfl)) rfl
theorem tw_2_65 : Cond.methodLink RX0 41 yX0_holds ∈ lwT := tw_in (tw_c2 (List.mem_of_getElem? (i := 65) rfl)) rfl
theorem tw_2_66 : Cond.instanceMethod yX0_holds ∈ lwT := tw_in (tw_c2 (List.mem_of_getElem? (i := 66) rfl)) rfl
theorem tw_2_67 : Cond.selects RX0 yX0_holds yX0_holds ∈ lwT := tw_in (tw_c2 (List.mem_of_getElem? (i := 67) rfl)) rfl
theorem tw_2_68 : Cond.code yX0_holds cX0_holds 2 (some .boolean) ∈ lwT := tw_in (tw_c2 (List.mem_of_getElem? (i := 68) rfl)) rfl
theorem tw_2_69 : Cond.methodLink RL 48 yX7_setConstant ∈ lwT := tw_in (tw_c2 (List.mem_of_getElem? (i := 69) rfl)) rfl
theorem tw_2_70 : Cond.instanceMethod yX7_setConstant ∈ lwT := tw_in (tw_c2 (List.mem_of_getElem? (i := 70) rfl)) rfl
theorem tw_2_71 : Cond.selects RX7 yX7_setConstant yX7_setConstant ∈ lwT := tw_in (tw_c2 (List.mem_of_getElem? (i := 71) rfl)) rfl
theorem tw_2_72 : Cond.code yX7_setConstant cX7_setConstant 3 (some .int) ∈ lwT := tw_in (tw_c2 (List.mem_of_getElem? (i := 72) rfl)) rfl
theorem tw_2_73 : Cond.methodLink RX7 86 yX0_replaceConstant ∈ lwT := tw_in (tw_c2 (List.mem_of_getElem? (i := 73) rfl)) rfl
theorem tw_2_74 : Cond.instanceMethod yX0_replaceConstant ∈ lwT := tw_in (tw_c2 (List.mem_of_getElem? (i := 74) rfl)) rfl
theorem tw_2_75 : Cond.selects RX0 yX0_replaceConstant yX0_replaceConstant ∈ lwT := tw_in (tw_c2 (List.mem_of_getElem? (i := 75) rfl)) rfl
theorem tw_2_76 : Cond.code yX0_replaceConstant cX0_replaceConstant 4 (some .int) ∈ lwT := tw_in (tw_c2 (List.mem_of_getElem? (i := 76) rfl)) rfl
theorem tw_2_77 : Cond.methodLink RL 52 yX7_filterCount ∈ lwT := tw_in (tw_c2 (List.mem_of_getElem? (i := 77) rfl)) rfl
theorem tw_2_78 : Cond.instanceMethod yX7_filterCount ∈ lwT := tw_in (tw_c2 (List.mem_of_getElem? (i := 78) rfl)) rfl
theorem tw_2_79 : Cond.selects RX7 yX7_filterCount yX7_filterCount ∈ lwT := tw_in (tw_c2 (List.mem_of_getElem? (i := 79) rfl)) rfl
theorem tw_2_80 : Cond.code yX7_filterCount cX7_filterCount 1 (some .int) ∈ lwT := tw_in (tw_c2 (List.mem_of_getElem? (i := 80) rfl)) rfl
theorem tw_2_81 : Cond.methodLink RL 57 yX7_constant ∈ lwT := tw_in (tw_c2 (List.mem_of_getElem? (i := 81) rfl)) rfl
theorem tw_2_82 : Cond.instanceMethod yX7_constant ∈ lwT := tw_in (tw_c2 (List.mem_of_getElem? (i := 82) rfl)) rfl
theorem tw_2_83 : Cond.selects RX7 yX7_constant yX7_constant ∈ lwT := tw_in (tw_c2 (List.mem_of_getElem? (i := 83) rfl)) rfl
theorem tw_2_84 : Cond.code yX7_constant cX7_constant 2 (some .int) ∈ lwT := tw_in (tw_c2 (List.mem_of_getElem? (i := 84) rfl)) rfl
theorem tw_2_85 : Cond.methodLink RX7 93 yX0_constantAt ∈ lwT := tw_in (tw_c2 (List.mem_of_getElem? (i := 85) rfl)) rfl
theorem tw_2_86 : Cond.instanceMethod yX0_constantAt ∈ lwT := tw_in (tw_c2 (List.mem_of_getElem? (i := 86) rfl)) rfl
theorem tw_2_87 : Cond.selects RX0 yX0_constantAt yX0_constantAt ∈ lwT := tw_in (tw_c2 (List.mem_of_getElem? (i := 87) rfl)) rfl
theorem tw_2_88 : Cond.code yX0_constantAt cX0_constantAt 2 (some .int) ∈ lwT := tw_in (tw_c2 (List.mem_of_getElem? (i := 88) rfl)) rfl
theorem tw_2_89 : Cond.methodLink RL 61 yX7_acceptedBy ∈ lwT := tw_in (tw_c2 (List.mem_of_getElem? (i := 89) rfl)) rfl
theorem tw_2_90 : Cond.instanceMethod yX7_acceptedBy ∈ lwT := tw_in (tw_c2 (List.mem_of_getElem? (i := 90) rfl)) rfl
theorem tw_2_91 : Cond.selects RX7 yX7_acceptedBy yX7_acceptedBy ∈ lwT := tw_in (tw_c2 (List.mem_of_getElem? (i := 91) rfl)) rfl
theorem tw_2_92 : Cond.code yX7_acceptedBy cX7_acceptedBy 2 (some .int) ∈ lwT := tw_in (tw_c2 (List.mem_of_getElem? (i := 92) rfl)) rfl
theorem tw_2_93 : Cond.methodLink RX7 96 yX0_holds ∈ lwT := tw_in (tw_c2 (List.mem_of_getElem? (i := 93) rfl)) rfl
theorem tw_2_94 : Cond.methodLink RX7 100 yX3_countAccepted ∈ lwT := tw_in (tw_c2 (List.mem_of_getElem? (i := 94) rfl)) rfl
theorem tw_2_95 : Cond.instanceMethod yX3_countAccepted ∈ lwT := tw_in (tw_c2 (List.mem_of_getElem? (i := 95) rfl)) rfl
theorem tw_2_96 : Cond.selects RX3 yX3_countAccepted yX3_countAccepted ∈ lwT := tw_in (tw_c2 (List.mem_of_getElem? (i := 96) rfl)) rfl
theorem tw_2_97 : Cond.code yX3_countAccepted cX3_countAccepted 2 (some .int) ∈ lwT := tw_in (tw_c2 (List.mem_of_getElem? (i := 97) rfl)) rfl
theorem tw_2_98 : Cond.methodLink RX3 29 yX0_isAtStage ∈ lwT := tw_in (tw_c2 (List.mem_of_getElem? (i := 98) rfl)) rfl
theorem tw_2_99 : Cond.instanceMethod yX0_isAtStage ∈ lwT := tw_in (tw_c2 (List.mem_of_getElem? (i := 99) rfl)) rfl
theorem tw_2_100 : Cond.selects RX0 yX0_isAtStage yX0_isAtStage ∈ lwT := tw_in (tw_c2 (List.mem_of_getElem? (i := 100) rfl)) rfl
theorem tw_2_101 : Cond.code yX0_isAtStage cX0_isAtStage 3 (some .boolean) ∈ lwT := tw_in (tw_c2 (List.mem_of_getElem? (i := 101) rfl)) rfl
theorem tw_2_102 : Cond.methodLink RX3 35 yX3_countAcceptedLeft ∈ lwT := tw_in (tw_c2 (List.mem_of_getElem? (i := 102) rfl)) rfl
theorem tw_2_104 : Cond.instanceMethod yX3_countAcceptedLeft ∈ lwT := tw_in (tw_c2 (List.mem_of_getElem? (i := 104) rfl)) rfl
theorem tw_2_105 : Cond.code yX3_countAcceptedLeft cX3_countAcceptedLeft 4 (some .int) ∈ lwT := tw_in (tw_c2 (List.mem_of_getElem? (i := 105) rfl)) rfl
theorem tw_2_106 : Cond.methodLink RX3 55 yX2_firstAt ∈ lwT := tw_in (tw_c2 (List.mem_of_getElem? (i := 106) rfl)) rfl
theorem tw_2_107 : Cond.instanceMethod yX2_firstAt ∈ lwT := tw_in (tw_c2 (List.mem_of_getElem? (i := 107) rfl)) rfl
theorem tw_2_108 : Cond.selects RX2 yX2_firstAt yX2_firstAt ∈ lwT := tw_in (tw_c2 (List.mem_of_getElem? (i := 108) rfl)) rfl
theorem tw_2_109 : Cond.code yX2_firstAt cX2_firstAt 2 (some .int) ∈ lwT := tw_in (tw_c2 (List.mem_of_getElem? (i := 109) rfl)) rfl
theorem tw_2_110 : Cond.methodLink RX2 45 yX2_pairAt ∈ lwT := tw_in (tw_c2 (List.mem_of_getElem? (i := 110) rfl)) rfl
theorem tw_2_111 : Cond.methodLink RX3 58 yX2_secondAt ∈ lwT := tw_in (tw_c2 (List.mem_of_getElem? (i := 111) rfl)) rfl
theorem tw_2_112 : Cond.instanceMethod yX2_secondAt ∈ lwT := tw_in (tw_c2 (List.mem_of_getElem? (i := 112) rfl)) rfl
theorem tw_2_113 : Cond.selects RX2 yX2_secondAt yX2_secondAt ∈ lwT := tw_in (tw_c2 (List.mem_of_getElem? (i := 113) rfl)) rfl
theorem tw_2_114 : Cond.code yX2_secondAt cX2_secondAt 2 (some .int) ∈ lwT := tw_in (tw_c2 (List.mem_of_getElem? (i := 114) rfl)) rfl
theorem tw_2_115 : Cond.methodLink RX3 61 yX0_accepts ∈ lwT := tw_in (tw_c2 (List.mem_of_getElem? (i := 115) rfl)) rfl
theorem tw_2_116 : Cond.instanceMethod yX0_accepts ∈ lwT := tw_in (tw_c2 (List.mem_of_getElem? (i := 116) rfl)) rfl
theorem tw_2_117 : Cond.selects RX0 yX0_accepts yX0_accepts ∈ lwT := tw_in (tw_c2 (List.mem_of_getElem? (i := 117) rfl)) rfl
theorem tw_2_118 : Cond.code yX0_accepts cX0_accepts 5 (some .boolean) ∈ lwT := tw_in (tw_c2 (List.mem_of_getElem? (i := 118) rfl)) rfl
theorem tw_2_119 : Cond.methodLink RX0 45 yX0_columnValue ∈ lwT := tw_in (tw_c2 (List.mem_of_getElem? (i := 119) rfl)) rfl
theorem tw_2_120 : Cond.static yX0_columnValue ∈ lwT := tw_in (tw_c2 (List.mem_of_getElem? (i := 120) rfl)) rfl
theorem tw_2_121 : Cond.code yX0_columnValue cX0_columnValue 5 (some .int) ∈ lwT := tw_in (tw_c2 (List.mem_of_getElem? (i := 121) rfl)) rfl
theorem tw_2_122 : Cond.methodLink RX0 49 yX0_compare ∈ lwT := tw_in (tw_c2 (List.mem_of_getElem? (i := 122) rfl)) rfl
theorem tw_2_123 : Cond.static yX0_compare ∈ lwT := tw_in (tw_c2 (List.mem_of_getElem? (i := 123) rfl)) rfl
theorem tw_2_124 : Cond.code yX0_compare cX0_compare 3 (some .boolean) ∈ lwT := tw_in (tw_c2 (List.mem_of_getElem? (i := 124) rfl)) rfl
theorem tw_2_125 : Cond.methodLink RX3 39 yX3_countAcceptedRight ∈ lwT := tw_in (tw_c2 (List.mem_of_getElem? (i := 125) rfl)) rfl
theorem tw_2_127 : Cond.instanceMethod yX3_countAcceptedRight ∈ lwT := tw_in (tw_c2 (List.mem_of_getElem? (i := 127) rfl)) rfl
theorem tw_2_128 : Cond.code yX3_countAcceptedRight cX3_countAcceptedRight 4 (some .int) ∈ lwT := tw_in (tw_c2 (List.mem_of_getElem? (i := 128) rfl)) rfl
theorem tw_2_129 : Cond.methodLink RX3 42 yX3_countAcceptedJoined ∈ lwT := tw_in (tw_c2 (List.mem_of_getElem? (i := 129) rfl)) rfl
theorem tw_2_131 : Cond.instanceMethod yX3_countAcceptedJoined ∈ lwT := tw_in (tw_c2 (List.mem_of_getElem? (i := 131) rfl)) rfl
theorem tw_2_132 : Cond.code yX3_countAcceptedJoined cX3_countAcceptedJoined 7 (some .int) ∈ lwT := tw_in (tw_c2 (List.mem_of_getElem? (i := 132) rfl)) rfl
theorem tw_2_133 : Cond.methodLink RL 65 yX7_answerCount ∈ lwT := tw_in (tw_c2 (List.mem_of_getElem? (i := 133) rfl)) rfl
theorem tw_2_134 : Cond.instanceMethod yX7_answerCount ∈ lwT := tw_in (tw_c2 (List.mem_of_getElem? (i := 134) rfl)) rfl
theorem tw_2_135 : Cond.selects RX7 yX7_answerCount yX7_answerCount ∈ lwT := tw_in (tw_c2 (List.mem_of_getElem? (i := 135) rfl)) rfl
theorem tw_2_136 : Cond.code yX7_answerCount cX7_answerCount 1 (some .int) ∈ lwT := tw_in (tw_c2 (List.mem_of_getElem? (i := 136) rfl)) rfl
theorem tw_2_137 : Cond.methodLink RX7 103 yX3_countAnswers ∈ lwT := tw_in (tw_c2 (List.mem_of_getElem? (i := 137) rfl)) rfl
theorem tw_2_138 : Cond.instanceMethod yX3_countAnswers ∈ lwT := tw_in (tw_c2 (List.mem_of_getElem? (i := 138) rfl)) rfl
theorem tw_2_139 : Cond.selects RX3 yX3_countAnswers yX3_countAnswers ∈ lwT := tw_in (tw_c2 (List.mem_of_getElem? (i := 139) rfl)) rfl
theorem tw_2_140 : Cond.code yX3_countAnswers cX3_countAnswers 3 (some .int) ∈ lwT := tw_in (tw_c2 (List.mem_of_getElem? (i := 140) rfl)) rfl
theorem tw_2_141 : Cond.methodLink RX3 81 yX3_tallyMatches ∈ lwT := tw_in (tw_c2 (List.mem_of_getElem? (i := 141) rfl)) rfl
theorem tw_2_143 : Cond.instanceMethod yX3_tallyMatches ∈ lwT := tw_in (tw_c2 (List.mem_of_getElem? (i := 143) rfl)) rfl
theorem tw_2_144 : Cond.code yX3_tallyMatches cX3_tallyMatches 6 (none : Option ClassFile.FieldType) ∈ lwT := tw_in (tw_c2 (List.mem_of_getElem? (i := 144) rfl)) rfl
theorem tw_2_145 : Cond.methodLink RX3 68 yJ7_fill_53178 ∈ lwT := tw_in (tw_c2 (List.mem_of_getElem? (i := 145) rfl)) rfl
theorem tw_2_146 : Cond.static yJ7_fill_53178 ∈ lwT := tw_in (tw_c2 (List.mem_of_getElem? (i := 146) rfl)) rfl
theorem tw_2_147 : Cond.code yJ7_fill_53178 cJ7_fill_53178 4 (none : Option ClassFile.FieldType) ∈ lwT := tw_in (tw_c2 (List.mem_of_getElem? (i := 147) rfl)) rfl
theorem tw_2_149 : Cond.methodLink RX3 77 yX0_rejecters ∈ lwT := tw_in (tw_c2 (List.mem_of_getElem? (i := 149) rfl)) rfl
theorem tw_2_150 : Cond.instanceMethod yX0_rejecters ∈ lwT := tw_in (tw_c2 (List.mem_of_getElem? (i := 150) rfl)) rfl
theorem tw_2_151 : Cond.selects RX0 yX0_rejecters yX0_rejecters ∈ lwT := tw_in (tw_c2 (List.mem_of_getElem? (i := 151) rfl)) rfl
theorem tw_2_152 : Cond.code yX0_rejecters cX0_rejecters 6 (some .int) ∈ lwT := tw_in (tw_c2 (List.mem_of_getElem? (i := 152) rfl)) rfl
theorem tw_2_153 : Cond.methodLink RX0 53 yX0_accepts ∈ lwT := tw_in (tw_c2 (List.mem_of_getElem? (i := 153) rfl)) rfl
theorem tw_2_154 : Cond.methodLink RL 69 yX7_answer ∈ lwT := tw_in (tw_c2 (List.mem_of_getElem? (i := 154) rfl)) rfl
theorem tw_2_155 : Cond.instanceMethod yX7_answer ∈ lwT := tw_in (tw_c2 (List.mem_of_getElem? (i := 155) rfl)) rfl
theorem tw_2_156 : Cond.selects RX7 yX7_answer yX7_answer ∈ lwT := tw_in (tw_c2 (List.mem_of_getElem? (i := 156) rfl)) rfl
theorem tw_2_157 : Cond.code yX7_answer cX7_answer 2 (some .int) ∈ lwT := tw_in (tw_c2 (List.mem_of_getElem? (i := 157) rfl)) rfl
theorem tw_2_158 : Cond.methodLink RX7 107 yX3_answerAt ∈ lwT := tw_in (tw_c2 (List.mem_of_getElem? (i := 158) rfl)) rfl
theorem tw_2_159 : Cond.instanceMethod yX3_answerAt ∈ lwT := tw_in (tw_c2 (List.mem_of_getElem? (i := 159) rfl)) rfl
theorem tw_2_160 : Cond.selects RX3 yX3_answerAt yX3_answerAt ∈ lwT := tw_in (tw_c2 (List.mem_of_getElem? (i := 160) rfl)) rfl
theorem tw_2_161 : Cond.code yX3_answerAt cX3_answerAt 4 (some .int) ∈ lwT := tw_in (tw_c2 (List.mem_of_getElem? (i := 161) rfl)) rfl
theorem tw_2_162 : Cond.methodLink RL 73 yX7_matchCount ∈ lwT := tw_in (tw_c2 (List.mem_of_getElem? (i := 162) rfl)) rfl
theorem tw_2_163 : Cond.instanceMethod yX7_matchCount ∈ lwT := tw_in (tw_c2 (List.mem_of_getElem? (i := 163) rfl)) rfl
theorem tw_2_164 : Cond.selects RX7 yX7_matchCount yX7_matchCount ∈ lwT := tw_in (tw_c2 (List.mem_of_getElem? (i := 164) rfl)) rfl
theorem tw_2_165 : Cond.code yX7_matchCount cX7_matchCount 3 (some .int) ∈ lwT := tw_in (tw_c2 (List.mem_of_getElem? (i := 165) rfl)) rfl
theorem tw_2_166 : Cond.methodLink RX7 110 yX7_isPair ∈ lwT := tw_in (tw_c2 (List.mem_of_getElem? (i := 166) rfl)) rfl
theorem tw_2_167 : Cond.methodLink RX7 114 yX3_countMatches ∈ lwT := tw_in (tw_c2 (List.mem_of_getElem? (i := 167) rfl)) rfl
theorem tw_2_168 : Cond.instanceMethod yX3_countMatches ∈ lwT := tw_in (tw_c2 (List.mem_of_getElem? (i := 168) rfl)) rfl
theorem tw_2_169 : Cond.selects RX3 yX3_countMatches yX3_countMatches ∈ lwT := tw_in (tw_c2 (List.mem_of_getElem? (i := 169) rfl)) rfl
theorem tw_2_170 : Cond.code yX3_countMatches cX3_countMatches 6 (some .int) ∈ lwT := tw_in (tw_c2 (List.mem_of_getElem? (i := 170) rfl)) rfl
theorem tw_2_171 : Cond.methodLink RX3 90 yX3_joinedBs ∈ lwT := tw_in (tw_c2 (List.mem_of_getElem? (i := 171) rfl)) rfl
theorem tw_2_173 : Cond.instanceMethod yX3_joinedBs ∈ lwT := tw_in (tw_c2 (List.mem_of_getElem? (i := 173) rfl)) rfl
theorem tw_2_174 : Cond.code yX3_joinedBs cX3_joinedBs 3 (some .int) ∈ lwT := tw_in (tw_c2 (List.mem_of_getElem? (i := 174) rfl)) rfl
theorem tw_2_175 : Cond.methodLink RX3 84 yX2_secondsOf ∈ lwT := tw_in (tw_c2 (List.mem_of_getElem? (i := 175) rfl)) rfl
theorem tw_2_176 : Cond.instanceMethod yX2_secondsOf ∈ lwT := tw_in (tw_c2 (List.mem_of_getElem? (i := 176) rfl)) rfl
theorem tw_2_177 : Cond.selects RX2 yX2_secondsOf yX2_secondsOf ∈ lwT := tw_in (tw_c2 (List.mem_of_getElem? (i := 177) rfl)) rfl
theorem tw_2_178 : Cond.code yX2_secondsOf cX2_secondsOf 4 (some .int) ∈ lwT := tw_in (tw_c2 (List.mem_of_getElem? (i := 178) rfl)) rfl
theorem tw_2_179 : Cond.methodLink RX2 49 yX2_firstAt ∈ lwT := tw_in (tw_c2 (List.mem_of_getElem? (i := 179) rfl)) rfl
theorem tw_2_180 : Cond.methodLink RX2 52 yX2_secondAt ∈ lwT := tw_in (tw_c2 (List.mem_of_getElem? (i := 180) rfl)) rfl
theorem tw_2_181 : Cond.methodLink RX3 87 yX2_firstsOf ∈ lwT := tw_in (tw_c2 (List.mem_of_getElem? (i := 181) rfl)) rfl
theorem tw_2_182 : Cond.instanceMethod yX2_firstsOf ∈ lwT := tw_in (tw_c2 (List.mem_of_getElem? (i := 182) rfl)) rfl
theorem tw_2_183 : Cond.selects RX2 yX2_firstsOf yX2_firstsOf ∈ lwT := tw_in (tw_c2 (List.mem_of_getElem? (i := 183) rfl)) rfl
theorem tw_2_184 : Cond.code yX2_firstsOf cX2_firstsOf 4 (some .int) ∈ lwT := tw_in (tw_c2 (List.mem_of_getElem? (i := 184) rfl)) rfl
theorem tw_2_186 : Cond.static yX7_isIn ∈ lwT := tw_in (tw_c2 (List.mem_of_getElem? (i := 186) rfl)) rfl
theorem tw_2_187 : Cond.code yX7_isIn cX7_isIn 2 (some .boolean) ∈ lwT := tw_in (tw_c2 (List.mem_of_getElem? (i := 187) rfl)) rfl
theorem tw_2_188 : Cond.methodLink RL 77 yX7_blame ∈ lwT := tw_in (tw_c2 (List.mem_of_getElem? (i := 188) rfl)) rfl
theorem tw_2_189 : Cond.instanceMethod yX7_blame ∈ lwT := tw_in (tw_c2 (List.mem_of_getElem? (i := 189) rfl)) rfl
theorem tw_2_190 : Cond.selects RX7 yX7_blame yX7_blame ∈ lwT := tw_in (tw_c2 (List.mem_of_getElem? (i := 190) rfl)) rfl
theorem tw_2_191 : Cond.code yX7_blame cX7_blame 3 (some .int) ∈ lwT := tw_in (tw_c2 (List.mem_of_getElem? (i := 191) rfl)) rfl
theorem tw_2_192 : Cond.methodLink RX7 117 yX3_firstCause ∈ lwT := tw_in (tw_c2 (List.mem_of_getElem? (i := 192) rfl)) rfl
theorem tw_2_193 : Cond.instanceMethod yX3_firstCause ∈ lwT := tw_in (tw_c2 (List.mem_of_getElem? (i := 193) rfl)) rfl
theorem tw_2_194 : Cond.selects RX3 yX3_firstCause yX3_firstCause ∈ lwT := tw_in (tw_c2 (List.mem_of_getElem? (i := 194) rfl)) rfl
theorem tw_2_195 : Cond.code yX3_firstCause cX3_firstCause 7 (some .int) ∈ lwT := tw_in (tw_c2 (List.mem_of_getElem? (i := 195) rfl)) rfl
theorem tw_2_196 : Cond.methodLink RX3 97 yX3_emptyingFilter ∈ lwT := tw_in (tw_c2 (List.mem_of_getElem? (i := 196) rfl)) rfl
theorem tw_2_198 : Cond.instanceMethod yX3_emptyingFilter ∈ lwT := tw_in (tw_c2 (List.mem_of_getElem? (i := 198) rfl)) rfl
theorem tw_2_199 : Cond.code yX3_emptyingFilter cX3_emptyingFilter 7 (some .int) ∈ lwT := tw_in (tw_c2 (List.mem_of_getElem? (i := 199) rfl)) rfl
theorem tw_2_200 : Cond.methodLink RX3 105 yX3_acceptedBs ∈ lwT := tw_in (tw_c2 (List.mem_of_getElem? (i := 200) rfl)) rfl
theorem tw_2_202 : Cond.instanceMethod yX3_acceptedBs ∈ lwT := tw_in (tw_c2 (List.mem_of_getElem? (i := 202) rfl)) rfl
theorem tw_2_203 : Cond.code yX3_acceptedBs cX3_acceptedBs 7 (some .int) ∈ lwT := tw_in (tw_c2 (List.mem_of_getElem? (i := 203) rfl)) rfl
theorem tw_2_204 : Cond.methodLink RX3 101 yX3_survivors ∈ lwT := tw_in (tw_c2 (List.mem_of_getElem? (i := 204) rfl)) rfl
theorem tw_2_206 : Cond.instanceMethod yX3_survivors ∈ lwT := tw_in (tw_c2 (List.mem_of_getElem? (i := 206) rfl)) rfl
theorem tw_2_207 : Cond.code yX3_survivors cX3_survivors 7 (some .int) ∈ lwT := tw_in (tw_c2 (List.mem_of_getElem? (i := 207) rfl)) rfl
theorem tw_2_208 : Cond.methodLink RL 81 yX7_filtersToRemove ∈ lwT := tw_in (tw_c2 (List.mem_of_getElem? (i := 208) rfl)) rfl
theorem tw_2_209 : Cond.instanceMethod yX7_filtersToRemove ∈ lwT := tw_in (tw_c2 (List.mem_of_getElem? (i := 209) rfl)) rfl
theorem tw_2_210 : Cond.selects RX7 yX7_filtersToRemove yX7_filtersToRemove ∈ lwT := tw_in (tw_c2 (List.mem_of_getElem? (i := 210) rfl)) rfl
theorem tw_2_211 : Cond.code yX7_filtersToRemove cX7_filtersToRemove 3 (some .int) ∈ lwT := tw_in (tw_c2 (List.mem_of_getElem? (i := 211) rfl)) rfl
theorem tw_2_212 : Cond.methodLink RX7 120 yX3_smallestRemoval ∈ lwT := tw_in (tw_c2 (List.mem_of_getElem? (i := 212) rfl)) rfl
theorem tw_2_213 : Cond.instanceMethod yX3_smallestRemoval ∈ lwT := tw_in (tw_c2 (List.mem_of_getElem? (i := 213) rfl)) rfl
theorem tw_2_214 : Cond.selects RX3 yX3_smallestRemoval yX3_smallestRemoval ∈ lwT := tw_in (tw_c2 (List.mem_of_getElem? (i := 214) rfl)) rfl
theorem tw_2_215 : Cond.code yX3_smallestRemoval cX3_smallestRemoval 7 (some .int) ∈ lwT := tw_in (tw_c2 (List.mem_of_getElem? (i := 215) rfl)) rfl
theorem tw_2_216 : Cond.methodLink RX3 108 yX3_isSmallerSet ∈ lwT := tw_in (tw_c2 (List.mem_of_getElem? (i := 216) rfl)) rfl
theorem tw_2_217 : Cond.static yX3_isSmallerSet ∈ lwT := tw_in (tw_c2 (List.mem_of_getElem? (i := 217) rfl)) rfl
theorem tw_2_218 : Cond.code yX3_isSmallerSet cX3_isSmallerSet 3 (some .boolean) ∈ lwT := tw_in (tw_c2 (List.mem_of_getElem? (i := 218) rfl)) rfl
theorem tw_2_219 : Cond.methodLink RX3 111 yJ6_bitCount_0f7a4 ∈ lwT := tw_in (tw_c2 (List.mem_of_getElem? (i := 219) rfl)) rfl
theorem tw_2_220 : Cond.static yJ6_bitCount_0f7a4 ∈ lwT := tw_in (tw_c2 (List.mem_of_getElem? (i := 220) rfl)) rfl
theorem tw_2_221 : Cond.code yJ6_bitCount_0f7a4 cJ6_bitCount_0f7a4 1 (some .int) ∈ lwT := tw_in (tw_c2 (List.mem_of_getElem? (i := 221) rfl)) rfl
theorem tw_2_222 : Cond.constant RJ6 265 (1431655765 : Int32) ∈ lwT := tw_in (tw_c2 (List.mem_of_getElem? (i := 222) rfl)) rfl
theorem tw_2_223 : Cond.constant RJ6 266 (858993459 : Int32) ∈ lwT := tw_in (tw_c2 (List.mem_of_getElem? (i := 223) rfl)) rfl
theorem tw_2_224 : Cond.constant RJ6 267 (252645135 : Int32) ∈ lwT := tw_in (tw_c2 (List.mem_of_getElem? (i := 224) rfl)) rfl
theorem tw_2_225 : Cond.methodLink RL 85 yX7_repairedConstant ∈ lwT := tw_in (tw_c2 (List.mem_of_getElem? (i := 225) rfl)) rfl
theorem tw_2_226 : Cond.instanceMethod yX7_repairedConstant ∈ lwT := tw_in (tw_c2 (List.mem_of_getElem? (i := 226) rfl)) rfl
theorem tw_2_227 : Cond.selects RX7 yX7_repairedConstant yX7_repairedConstant ∈ lwT := tw_in (tw_c2 (List.mem_of_getElem? (i := 227) rfl)) rfl
theorem tw_2_228 : Cond.code yX7_repairedConstant cX7_repairedConstant 4 (some .int) ∈ lwT := tw_in (tw_c2 (List.mem_of_getElem? (i := 228) rfl)) rfl
theorem tw_2_229 : Cond.methodLink RX7 123 yX3_nearestConstant ∈ lwT := tw_in (tw_c2 (List.mem_of_getElem? (i := 229) rfl)) rfl
theorem tw_2_230 : Cond.instanceMethod yX3_nearestConstant ∈ lwT := tw_in (tw_c2 (List.mem_of_getElem? (i := 230) rfl)) rfl
theorem tw_2_231 : Cond.selects RX3 yX3_nearestConstant yX3_nearestConstant ∈ lwT := tw_in (tw_c2 (List.mem_of_getElem? (i := 231) rfl)) rfl
theorem tw_2_232 : Cond.code yX3_nearestConstant cX3_nearestConstant 8 (some .int) ∈ lwT := tw_in (tw_c2 (List.mem_of_getElem? (i := 232) rfl)) rfl
theorem tw_2_233 : Cond.methodLink RX3 116 yX0_constantAt ∈ lwT := tw_in (tw_c2 (List.mem_of_getElem? (i := 233) rfl)) rfl
theorem tw_2_234 : Cond.methodLink RX3 119 yX3_bsAcceptedByOthers ∈ lwT := tw_in (tw_c2 (List.mem_of_getElem? (i := 234) rfl)) rfl
theorem tw_2_236 : Cond.instanceMethod yX3_bsAcceptedByOthers ∈ lwT := tw_in (tw_c2 (List.mem_of_getElem? (i := 236) rfl)) rfl
theorem tw_2_237 : Cond.code yX3_bsAcceptedByOthers cX3_bsAcceptedByOthers 7 (some .int) ∈ lwT := tw_in (tw_c2 (List.mem_of_getElem? (i := 237) rfl)) rfl
theorem tw_2_238 : Cond.methodLink RX3 122 yX3_isRepair ∈ lwT := tw_in (tw_c2 (List.mem_of_getElem? (i := 238) rfl)) rfl
theorem tw_3_0 : Cond.instanceMethod yX3_isRepair ∈ lwT := tw_in (tw_c3 (List.mem_of_getElem? (i := 0) rfl)) rfl
theorem tw_3_1 : Cond.code yX3_isRepair cX3_isRepair 7 (some .boolean) ∈ lwT := tw_in (tw_c3 (List.mem_of_getElem? (i := 1) rfl)) rfl
theorem tw_3_2 : Cond.methodLink RX3 126 yX0_mayHaveConstant ∈ lwT := tw_in (tw_c3 (List.mem_of_getElem? (i := 2) rfl)) rfl
theorem tw_3_3 : Cond.instanceMethod yX0_mayHaveConstant ∈ lwT := tw_in (tw_c3 (List.mem_of_getElem? (i := 3) rfl)) rfl
theorem tw_3_4 : Cond.selects RX0 yX0_mayHaveConstant yX0_mayHaveConstant ∈ lwT := tw_in (tw_c3 (List.mem_of_getElem? (i := 4) rfl)) rfl
theorem tw_3_5 : Cond.code yX0_mayHaveConstant cX0_mayHaveConstant 3 (some .boolean) ∈ lwT := tw_in (tw_c3 (List.mem_of_getElem? (i := 5) rfl)) rfl
theorem tw_3_6 : Cond.methodLink RX3 129 yX0_acceptsWith ∈ lwT := tw_in (tw_c3 (List.mem_of_getElem? (i := 6) rfl)) rfl
theorem tw_3_7 : Cond.instanceMethod yX0_acceptsWith ∈ lwT := tw_in (tw_c3 (List.mem_of_getElem? (i := 7) rfl)) rfl
theorem tw_3_8 : Cond.selects RX0 yX0_acceptsWith yX0_acceptsWith ∈ lwT := tw_in (tw_c3 (List.mem_of_getElem? (i := 8) rfl)) rfl
theorem tw_3_9 : Cond.code yX0_acceptsWith cX0_acceptsWith 6 (some .boolean) ∈ lwT := tw_in (tw_c3 (List.mem_of_getElem? (i := 9) rfl)) rfl
theorem tw_3_10 : Cond.methodLink RL 90 yX7_missingRows ∈ lwT := tw_in (tw_c3 (List.mem_of_getElem? (i := 10) rfl)) rfl
theorem tw_3_11 : Cond.instanceMethod yX7_missingRows ∈ lwT := tw_in (tw_c3 (List.mem_of_getElem? (i := 11) rfl)) rfl
theorem tw_3_12 : Cond.selects RX7 yX7_missingRows yX7_missingRows ∈ lwT := tw_in (tw_c3 (List.mem_of_getElem? (i := 12) rfl)) rfl
theorem tw_3_13 : Cond.code yX7_missingRows cX7_missingRows 3 (some .int) ∈ lwT := tw_in (tw_c3 (List.mem_of_getElem? (i := 13) rfl)) rfl
theorem tw_3_14 : Cond.methodLink RX7 127 yX3_lowestCost ∈ lwT := tw_in (tw_c3 (List.mem_of_getElem? (i := 14) rfl)) rfl
theorem tw_3_15 : Cond.instanceMethod yX3_lowestCost ∈ lwT := tw_in (tw_c3 (List.mem_of_getElem? (i := 15) rfl)) rfl
theorem tw_3_16 : Cond.selects RX3 yX3_lowestCost yX3_lowestCost ∈ lwT := tw_in (tw_c3 (List.mem_of_getElem? (i := 16) rfl)) rfl
theorem tw_3_17 : Cond.code yX3_lowestCost cX3_lowestCost 4 (some .int) ∈ lwT := tw_in (tw_c3 (List.mem_of_getElem? (i := 17) rfl)) rfl
theorem tw_3_18 : Cond.methodLink RX3 138 yX3_cheapestB ∈ lwT := tw_in (tw_c3 (List.mem_of_getElem? (i := 18) rfl)) rfl
theorem tw_3_19 : Cond.instanceMethod yX3_cheapestB ∈ lwT := tw_in (tw_c3 (List.mem_of_getElem? (i := 19) rfl)) rfl
theorem tw_3_20 : Cond.selects RX3 yX3_cheapestB yX3_cheapestB ∈ lwT := tw_in (tw_c3 (List.mem_of_getElem? (i := 20) rfl)) rfl
theorem tw_3_21 : Cond.code yX3_cheapestB cX3_cheapestB 7 (some .int) ∈ lwT := tw_in (tw_c3 (List.mem_of_getElem? (i := 21) rfl)) rfl
theorem tw_3_22 : Cond.methodLink RX3 132 yX3_costOf ∈ lwT := tw_in (tw_c3 (List.mem_of_getElem? (i := 22) rfl)) rfl
theorem tw_3_24 : Cond.instanceMethod yX3_costOf ∈ lwT := tw_in (tw_c3 (List.mem_of_getElem? (i := 24) rfl)) rfl
theorem tw_3_25 : Cond.code yX3_costOf cX3_costOf 4 (some .int) ∈ lwT := tw_in (tw_c3 (List.mem_of_getElem? (i := 25) rfl)) rfl
theorem tw_3_26 : Cond.methodLink RX3 135 yX2_holds ∈ lwT := tw_in (tw_c3 (List.mem_of_getElem? (i := 26) rfl)) rfl
theorem tw_3_27 : Cond.methodLink RL 94 yX7_missingB ∈ lwT := tw_in (tw_c3 (List.mem_of_getElem? (i := 27) rfl)) rfl
theorem tw_3_28 : Cond.instanceMethod yX7_missingB ∈ lwT := tw_in (tw_c3 (List.mem_of_getElem? (i := 28) rfl)) rfl
theorem tw_3_29 : Cond.selects RX7 yX7_missingB yX7_missingB ∈ lwT := tw_in (tw_c3 (List.mem_of_getElem? (i := 29) rfl)) rfl
theorem tw_3_30 : Cond.code yX7_missingB cX7_missingB 3 (some .int) ∈ lwT := tw_in (tw_c3 (List.mem_of_getElem? (i := 30) rfl)) rfl
theorem tw_3_31 : Cond.methodLink RX7 130 yX3_bToInsert ∈ lwT := tw_in (tw_c3 (List.mem_of_getElem? (i := 31) rfl)) rfl
theorem tw_3_32 : Cond.instanceMethod yX3_bToInsert ∈ lwT := tw_in (tw_c3 (List.mem_of_getElem? (i := 32) rfl)) rfl
theorem tw_3_33 : Cond.selects RX3 yX3_bToInsert yX3_bToInsert ∈ lwT := tw_in (tw_c3 (List.mem_of_getElem? (i := 33) rfl)) rfl
theorem tw_3_34 : Cond.code yX3_bToInsert cX3_bToInsert 4 (some .int) ∈ lwT := tw_in (tw_c3 (List.mem_of_getElem? (i := 34) rfl)) rfl
theorem tw_3_35 : Cond.methodLink RL 98 yX7_insertMissing ∈ lwT := tw_in (tw_c3 (List.mem_of_getElem? (i := 35) rfl)) rfl
theorem tw_3_36 : Cond.instanceMethod yX7_insertMissing ∈ lwT := tw_in (tw_c3 (List.mem_of_getElem? (i := 36) rfl)) rfl
theorem tw_3_37 : Cond.selects RX7 yX7_insertMissing yX7_insertMissing ∈ lwT := tw_in (tw_c3 (List.mem_of_getElem? (i := 37) rfl)) rfl
theorem tw_3_38 : Cond.code yX7_insertMissing cX7_insertMissing 3 (some .int) ∈ lwT := tw_in (tw_c3 (List.mem_of_getElem? (i := 38) rfl)) rfl
theorem tw_3_39 : Cond.methodLink RX7 133 yX7_insertRowsOf ∈ lwT := tw_in (tw_c3 (List.mem_of_getElem? (i := 39) rfl)) rfl
theorem tw_3_41 : Cond.instanceMethod yX7_insertRowsOf ∈ lwT := tw_in (tw_c3 (List.mem_of_getElem? (i := 41) rfl)) rfl
theorem tw_3_42 : Cond.code yX7_insertRowsOf cX7_insertRowsOf 7 (some .int) ∈ lwT := tw_in (tw_c3 (List.mem_of_getElem? (i := 42) rfl)) rfl
theorem tw_3_43 : Cond.methodLink RX7 227 yX3_cheapestB ∈ lwT := tw_in (tw_c3 (List.mem_of_getElem? (i := 43) rfl)) rfl
theorem tw_3_44 : Cond.methodLink RX7 230 yX2_holds ∈ lwT := tw_in (tw_c3 (List.mem_of_getElem? (i := 44) rfl)) rfl
theorem tw_3_45 : Cond.methodLink RX7 232 yX2_isFull ∈ lwT := tw_in (tw_c3 (List.mem_of_getElem? (i := 45) rfl)) rfl
theorem tw_3_46 : Cond.methodLink RL 102 yX7_loosen ∈ lwT := tw_in (tw_c3 (List.mem_of_getElem? (i := 46) rfl)) rfl
theorem tw_3_47 : Cond.instanceMethod yX7_loosen ∈ lwT := tw_in (tw_c3 (List.mem_of_getElem? (i := 47) rfl)) rfl
theorem tw_3_48 : Cond.selects RX7 yX7_loosen yX7_loosen ∈ lwT := tw_in (tw_c3 (List.mem_of_getElem? (i := 48) rfl)) rfl
theorem tw_3_49 : Cond.code yX7_loosen cX7_loosen 3 (some .int) ∈ lwT := tw_in (tw_c3 (List.mem_of_getElem? (i := 49) rfl)) rfl
theorem tw_3_50 : Cond.methodLink RX7 136 yX7_dropFiltersAgainst ∈ lwT := tw_in (tw_c3 (List.mem_of_getElem? (i := 50) rfl)) rfl
theorem tw_3_52 : Cond.instanceMethod yX7_dropFiltersAgainst ∈ lwT := tw_in (tw_c3 (List.mem_of_getElem? (i := 52) rfl)) rfl
theorem tw_3_53 : Cond.code yX7_dropFiltersAgainst cX7_dropFiltersAgainst 5 (some .int) ∈ lwT := tw_in (tw_c3 (List.mem_of_getElem? (i := 53) rfl)) rfl
theorem tw_3_54 : Cond.methodLink RX7 235 yJ6_bitCount_0f7a4 ∈ lwT := tw_in (tw_c3 (List.mem_of_getElem? (i := 54) rfl)) rfl
theorem tw_3_55 : Cond.methodLink RL 106 yX7_addWish ∈ lwT := tw_in (tw_c3 (List.mem_of_getElem? (i := 55) rfl)) rfl
theorem tw_3_56 : Cond.instanceMethod yX7_addWish ∈ lwT := tw_in (tw_c3 (List.mem_of_getElem? (i := 56) rfl)) rfl
theorem tw_3_57 : Cond.selects RX7 yX7_addWish yX7_addWish ∈ lwT := tw_in (tw_c3 (List.mem_of_getElem? (i := 57) rfl)) rfl
theorem tw_3_58 : Cond.code yX7_addWish cX7_addWish 3 (some .int) ∈ lwT := tw_in (tw_c3 (List.mem_of_getElem? (i := 58) rfl)) rfl
theorem tw_3_59 : Cond.methodLink RL 110 yX7_clearWishes ∈ lwT := tw_in (tw_c3 (List.mem_of_getElem? (i := 59) rfl)) rfl
theorem tw_3_60 : Cond.instanceMethod yX7_clearWishes ∈ lwT := tw_in (tw_c3 (List.mem_of_getElem? (i := 60) rfl)) rfl
theorem tw_3_61 : Cond.selects RX7 yX7_clearWishes yX7_clearWishes ∈ lwT := tw_in (tw_c3 (List.mem_of_getElem? (i := 61) rfl)) rfl
theorem tw_3_62 : Cond.code yX7_clearWishes cX7_clearWishes 1 (some .int) ∈ lwT := tw_in (tw_c3 (List.mem_of_getElem? (i := 62) rfl)) rfl
theorem tw_3_63 : Cond.methodLink RX7 142 yX2_dropAll ∈ lwT := tw_in (tw_c3 (List.mem_of_getElem? (i := 63) rfl)) rfl
theorem tw_3_64 : Cond.instanceMethod yX2_dropAll ∈ lwT := tw_in (tw_c3 (List.mem_of_getElem? (i := 64) rfl)) rfl
theorem tw_3_65 : Cond.selects RX2 yX2_dropAll yX2_dropAll ∈ lwT := tw_in (tw_c3 (List.mem_of_getElem? (i := 65) rfl)) rfl
theorem tw_3_66 : Cond.code yX2_dropAll cX2_dropAll 2 (some .int) ∈ lwT := tw_in (tw_c3 (List.mem_of_getElem? (i := 66) rfl)) rfl
theorem tw_3_67 : Cond.methodLink RL 114 yX7_satisfiedWishes ∈ lwT := tw_in (tw_c3 (List.mem_of_getElem? (i := 67) rfl)) rfl
theorem tw_3_68 : Cond.instanceMethod yX7_satisfiedWishes ∈ lwT := tw_in (tw_c3 (List.mem_of_getElem? (i := 68) rfl)) rfl
theorem tw_3_69 : Cond.selects RX7 yX7_satisfiedWishes yX7_satisfiedWishes ∈ lwT := tw_in (tw_c3 (List.mem_of_getElem? (i := 69) rfl)) rfl
theorem tw_3_70 : Cond.code yX7_satisfiedWishes cX7_satisfiedWishes 1 (some .int) ∈ lwT := tw_in (tw_c3 (List.mem_of_getElem? (i := 70) rfl)) rfl
theorem tw_3_71 : Cond.methodLink RX7 145 yX3_countSatisfiedWishes ∈ lwT := tw_in (tw_c3 (List.mem_of_getElem? (i := 71) rfl)) rfl
theorem tw_3_72 : Cond.instanceMethod yX3_countSatisfiedWishes ∈ lwT := tw_in (tw_c3 (List.mem_of_getElem? (i := 72) rfl)) rfl
theorem tw_3_73 : Cond.selects RX3 yX3_countSatisfiedWishes yX3_countSatisfiedWishes ∈ lwT := tw_in (tw_c3 (List.mem_of_getElem? (i := 73) rfl)) rfl
theorem tw_3_74 : Cond.code yX3_countSatisfiedWishes cX3_countSatisfiedWishes 3 (some .int) ∈ lwT := tw_in (tw_c3 (List.mem_of_getElem? (i := 74) rfl)) rfl
theorem tw_3_75 : Cond.methodLink RX3 144 yX3_countMatches ∈ lwT := tw_in (tw_c3 (List.mem_of_getElem? (i := 75) rfl)) rfl
theorem tw_3_76 : Cond.methodLink RL 118 yX7_filtersToRemoveForWishes ∈ lwT := tw_in (tw_c3 (List.mem_of_getElem? (i := 76) rfl)) rfl
theorem tw_3_77 : Cond.instanceMethod yX7_filtersToRemoveForWishes ∈ lwT := tw_in (tw_c3 (List.mem_of_getElem? (i := 77) rfl)) rfl
theorem tw_3_78 : Cond.selects RX7 yX7_filtersToRemoveForWishes yX7_filtersToRemoveForWishes ∈ lwT := tw_in (tw_c3 (List.mem_of_getElem? (i := 78) rfl)) rfl
theorem tw_3_79 : Cond.code yX7_filtersToRemoveForWishes cX7_filtersToRemoveForWishes 1 (some .int) ∈ lwT := tw_in (tw_c3 (List.mem_of_getElem? (i := 79) rfl)) rfl
theorem tw_3_80 : Cond.methodLink RX7 148 yX3_smallestRemovalForWishes ∈ lwT := tw_in (tw_c3 (List.mem_of_getElem? (i := 80) rfl)) rfl
theorem tw_3_81 : Cond.instanceMethod yX3_smallestRemovalForWishes ∈ lwT := tw_in (tw_c3 (List.mem_of_getElem? (i := 81) rfl)) rfl
theorem tw_3_82 : Cond.selects RX3 yX3_smallestRemovalForWishes yX3_smallestRemovalForWishes ∈ lwT := tw_in (tw_c3 (List.mem_of_getElem? (i := 82) rfl)) rfl
theorem tw_3_83 : Cond.code yX3_smallestRemovalForWishes cX3_smallestRemovalForWishes 4 (some .int) ∈ lwT := tw_in (tw_c3 (List.mem_of_getElem? (i := 83) rfl)) rfl
theorem tw_3_84 : Cond.methodLink RX3 147 yX3_listWishRejecters ∈ lwT := tw_in (tw_c3 (List.mem_of_getElem? (i := 84) rfl)) rfl
theorem tw_3_86 : Cond.instanceMethod yX3_listWishRejecters ∈ lwT := tw_in (tw_c3 (List.mem_of_getElem? (i := 86) rfl)) rfl
theorem tw_3_87 : Cond.code yX3_listWishRejecters cX3_listWishRejecters 6 (none : Option ClassFile.FieldType) ∈ lwT := tw_in (tw_c3 (List.mem_of_getElem? (i := 87) rfl)) rfl
theorem tw_3_88 : Cond.methodLink RX3 150 yJ9_min_7cf53 ∈ lwT := tw_in (tw_c3 (List.mem_of_getElem? (i := 88) rfl)) rfl
theorem tw_3_89 : Cond.methodLink RX3 155 yX3_grantsWishes ∈ lwT := tw_in (tw_c3 (List.mem_of_getElem? (i := 89) rfl)) rfl
theorem tw_3_91 : Cond.instanceMethod yX3_grantsWishes ∈ lwT := tw_in (tw_c3 (List.mem_of_getElem? (i := 91) rfl)) rfl
theorem tw_3_92 : Cond.code yX3_grantsWishes cX3_grantsWishes 3 (some .boolean) ∈ lwT := tw_in (tw_c3 (List.mem_of_getElem? (i := 92) rfl)) rfl
theorem tw_3_93 : Cond.methodLink RX3 159 yX3_grantsWish ∈ lwT := tw_in (tw_c3 (List.mem_of_getElem? (i := 93) rfl)) rfl
theorem tw_3_95 : Cond.instanceMethod yX3_grantsWish ∈ lwT := tw_in (tw_c3 (List.mem_of_getElem? (i := 95) rfl)) rfl
theorem tw_3_96 : Cond.code yX3_grantsWish cX3_grantsWish 5 (some .boolean) ∈ lwT := tw_in (tw_c3 (List.mem_of_getElem? (i := 96) rfl)) rfl
theorem tw_3_97 : Cond.methodLink RL 122 yX7_append ∈ lwT := tw_in (tw_c3 (List.mem_of_getElem? (i := 97) rfl)) rfl
theorem tw_3_98 : Cond.instanceMethod yX7_append ∈ lwT := tw_in (tw_c3 (List.mem_of_getElem? (i := 98) rfl)) rfl
theorem tw_3_99 : Cond.selects RX7 yX7_append yX7_append ∈ lwT := tw_in (tw_c3 (List.mem_of_getElem? (i := 99) rfl)) rfl
theorem tw_3_100 : Cond.code yX7_append cX7_append 2 (some .int) ∈ lwT := tw_in (tw_c3 (List.mem_of_getElem? (i := 100) rfl)) rfl
theorem tw_3_101 : Cond.methodLink RX7 151 yX6_put ∈ lwT := tw_in (tw_c3 (List.mem_of_getElem? (i := 101) rfl)) rfl
theorem tw_3_102 : Cond.instanceMethod yX6_put ∈ lwT := tw_in (tw_c3 (List.mem_of_getElem? (i := 102) rfl)) rfl
theorem tw_3_103 : Cond.selects RX6 yX6_put yX6_put ∈ lwT := tw_in (tw_c3 (List.mem_of_getElem? (i := 103) rfl)) rfl
theorem tw_3_104 : Cond.code yX6_put cX6_put 2 (some .int) ∈ lwT := tw_in (tw_c3 (List.mem_of_getElem? (i := 104) rfl)) rfl
theorem tw_3_105 : Cond.methodLink RL 126 yX7_clearText ∈ lwT := tw_in (tw_c3 (List.mem_of_getElem? (i := 105) rfl)) rfl
theorem tw_3_106 : Cond.instanceMethod yX7_clearText ∈ lwT := tw_in (tw_c3 (List.mem_of_getElem? (i := 106) rfl)) rfl
theorem tw_3_107 : Cond.selects RX7 yX7_clearText yX7_clearText ∈ lwT := tw_in (tw_c3 (List.mem_of_getElem? (i := 107) rfl)) rfl
theorem tw_3_108 : Cond.code yX7_clearText cX7_clearText 1 (some .int) ∈ lwT := tw_in (tw_c3 (List.mem_of_getElem? (i := 108) rfl)) rfl
theorem tw_3_109 : Cond.methodLink RX7 156 yX6_empty ∈ lwT := tw_in (tw_c3 (List.mem_of_getElem? (i := 109) rfl)) rfl
theorem tw_3_110 : Cond.instanceMethod yX6_empty ∈ lwT := tw_in (tw_c3 (List.mem_of_getElem? (i := 110) rfl)) rfl
theorem tw_3_111 : Cond.selects RX6 yX6_empty yX6_empty ∈ lwT := tw_in (tw_c3 (List.mem_of_getElem? (i := 111) rfl)) rfl
theorem tw_3_112 : Cond.code yX6_empty cX6_empty 2 (some .int) ∈ lwT := tw_in (tw_c3 (List.mem_of_getElem? (i := 112) rfl)) rfl
theorem tw_3_113 : Cond.methodLink RL 130 yX7_runScript ∈ lwT := tw_in (tw_c3 (List.mem_of_getElem? (i := 113) rfl)) rfl
theorem tw_3_114 : Cond.instanceMethod yX7_runScript ∈ lwT := tw_in (tw_c3 (List.mem_of_getElem? (i := 114) rfl)) rfl
theorem tw_3_115 : Cond.selects RX7 yX7_runScript yX7_runScript ∈ lwT := tw_in (tw_c3 (List.mem_of_getElem? (i := 115) rfl)) rfl
theorem tw_3_116 : Cond.code yX7_runScript cX7_runScript 2 (some .int) ∈ lwT := tw_in (tw_c3 (List.mem_of_getElem? (i := 116) rfl)) rfl
theorem tw_3_117 : Cond.methodLink RX7 159 yX4_parse ∈ lwT := tw_in (tw_c3 (List.mem_of_getElem? (i := 117) rfl)) rfl
theorem tw_3_118 : Cond.instanceMethod yX4_parse ∈ lwT := tw_in (tw_c3 (List.mem_of_getElem? (i := 118) rfl)) rfl
theorem tw_3_119 : Cond.selects RX4 yX4_parse yX4_parse ∈ lwT := tw_in (tw_c3 (List.mem_of_getElem? (i := 119) rfl)) rfl
theorem tw_3_120 : Cond.code yX4_parse cX4_parse 2 (some .boolean) ∈ lwT := tw_in (tw_c3 (List.mem_of_getElem? (i := 120) rfl)) rfl
theorem tw_3_121 : Cond.methodLink RX4 32 yX4_skipSpaces ∈ lwT := tw_in (tw_c3 (List.mem_of_getElem? (i := 121) rfl)) rfl
theorem tw_3_123 : Cond.instanceMethod yX4_skipSpaces ∈ lwT := tw_in (tw_c3 (List.mem_of_getElem? (i := 123) rfl)) rfl
theorem tw_3_124 : Cond.code yX4_skipSpaces cX4_skipSpaces 1 (none : Option ClassFile.FieldType) ∈ lwT := tw_in (tw_c3 (List.mem_of_getElem? (i := 124) rfl)) rfl
theorem tw_3_125 : Cond.methodLink RX4 42 yX6_byteAt ∈ lwT := tw_in (tw_c3 (List.mem_of_getElem? (i := 125) rfl)) rfl
theorem tw_3_126 : Cond.instanceMethod yX6_byteAt ∈ lwT := tw_in (tw_c3 (List.mem_of_getElem? (i := 126) rfl)) rfl
theorem tw_3_127 : Cond.selects RX6 yX6_byteAt yX6_byteAt ∈ lwT := tw_in (tw_c3 (List.mem_of_getElem? (i := 127) rfl)) rfl
theorem tw_3_128 : Cond.code yX6_byteAt cX6_byteAt 2 (some .int) ∈ lwT := tw_in (tw_c3 (List.mem_of_getElem? (i := 128) rfl)) rfl
theorem tw_3_129 : Cond.methodLink RX4 35 yX4_readCommand ∈ lwT := tw_in (tw_c3 (List.mem_of_getElem? (i := 129) rfl)) rfl
theorem tw_3_131 : Cond.instanceMethod yX4_readCommand ∈ lwT := tw_in (tw_c3 (List.mem_of_getElem? (i := 131) rfl)) rfl
theorem tw_3_132 : Cond.code yX4_readCommand cX4_readCommand 5 (some .boolean) ∈ lwT := tw_in (tw_c3 (List.mem_of_getElem? (i := 132) rfl)) rfl
theorem tw_3_133 : Cond.methodLink RX4 46 yX4_numbersBehind ∈ lwT := tw_in (tw_c3 (List.mem_of_getElem? (i := 133) rfl)) rfl
theorem tw_3_134 : Cond.static yX4_numbersBehind ∈ lwT := tw_in (tw_c3 (List.mem_of_getElem? (i := 134) rfl)) rfl
theorem tw_3_135 : Cond.code yX4_numbersBehind cX4_numbersBehind 1 (some .int) ∈ lwT := tw_in (tw_c3 (List.mem_of_getElem? (i := 135) rfl)) rfl
theorem tw_3_136 : Cond.methodLink RX4 49 yX4_readNumber ∈ lwT := tw_in (tw_c3 (List.mem_of_getElem? (i := 136) rfl)) rfl
theorem tw_3_138 : Cond.instanceMethod yX4_readNumber ∈ lwT := tw_in (tw_c3 (List.mem_of_getElem? (i := 138) rfl)) rfl
theorem tw_3_139 : Cond.code yX4_readNumber cX4_readNumber 5 (some .boolean) ∈ lwT := tw_in (tw_c3 (List.mem_of_getElem? (i := 139) rfl)) rfl
theorem tw_3_140 : Cond.methodLink RX4 53 yX4_isDigit ∈ lwT := tw_in (tw_c3 (List.mem_of_getElem? (i := 140) rfl)) rfl
theorem tw_3_141 : Cond.static yX4_isDigit ∈ lwT := tw_in (tw_c3 (List.mem_of_getElem? (i := 141) rfl)) rfl
theorem tw_3_142 : Cond.code yX4_isDigit cX4_isDigit 1 (some .boolean) ∈ lwT := tw_in (tw_c3 (List.mem_of_getElem? (i := 142) rfl)) rfl
theorem tw_3_143 : Cond.methodLink RX7 167 yX7_perform ∈ lwT := tw_in (tw_c3 (List.mem_of_getElem? (i := 143) rfl)) rfl
theorem tw_3_145 : Cond.instanceMethod yX7_perform ∈ lwT := tw_in (tw_c3 (List.mem_of_getElem? (i := 145) rfl)) rfl
theorem tw_3_146 : Cond.code yX7_perform cX7_perform 4 (some .int) ∈ lwT := tw_in (tw_c3 (List.mem_of_getElem? (i := 146) rfl)) rfl
theorem tw_3_147 : Cond.methodLink RX7 240 yX4_number ∈ lwT := tw_in (tw_c3 (List.mem_of_getElem? (i := 147) rfl)) rfl
theorem tw_3_148 : Cond.instanceMethod yX4_number ∈ lwT := tw_in (tw_c3 (List.mem_of_getElem? (i := 148) rfl)) rfl
theorem tw_3_149 : Cond.selects RX4 yX4_number yX4_number ∈ lwT := tw_in (tw_c3 (List.mem_of_getElem? (i := 149) rfl)) rfl
theorem tw_3_150 : Cond.code yX4_number cX4_number 3 (some .int) ∈ lwT := tw_in (tw_c3 (List.mem_of_getElem? (i := 150) rfl)) rfl
theorem tw_3_151 : Cond.methodLink RX7 243 yX4_letter ∈ lwT := tw_in (tw_c3 (List.mem_of_getElem? (i := 151) rfl)) rfl
theorem tw_3_152 : Cond.instanceMethod yX4_letter ∈ lwT := tw_in (tw_c3 (List.mem_of_getElem? (i := 152) rfl)) rfl
theorem tw_3_153 : Cond.selects RX4 yX4_letter yX4_letter ∈ lwT := tw_in (tw_c3 (List.mem_of_getElem? (i := 153) rfl)) rfl
theorem tw_3_154 : Cond.code yX4_letter cX4_letter 2 (some .int) ∈ lwT := tw_in (tw_c3 (List.mem_of_getElem? (i := 154) rfl)) rfl
theorem tw_3_155 : Cond.methodLink RX7 173 yX1_returnToDraft ∈ lwT := tw_in (tw_c3 (List.mem_of_getElem? (i := 155) rfl)) rfl
theorem tw_3_156 : Cond.instanceMethod yX1_returnToDraft ∈ lwT := tw_in (tw_c3 (List.mem_of_getElem? (i := 156) rfl)) rfl
theorem tw_3_157 : Cond.selects RX1 yX1_returnToDraft yX1_returnToDraft ∈ lwT := tw_in (tw_c3 (List.mem_of_getElem? (i := 157) rfl)) rfl
theorem tw_3_158 : Cond.code yX1_returnToDraft cX1_returnToDraft 2 (none : Option ClassFile.FieldType) ∈ lwT := tw_in (tw_c3 (List.mem_of_getElem? (i := 158) rfl)) rfl
theorem tw_3_159 : Cond.methodLink RL 134 yX7_undo ∈ lwT := tw_in (tw_c3 (List.mem_of_getElem? (i := 159) rfl)) rfl
theorem tw_3_160 : Cond.instanceMethod yX7_undo ∈ lwT := tw_in (tw_c3 (List.mem_of_getElem? (i := 160) rfl)) rfl
theorem tw_3_161 : Cond.selects RX7 yX7_undo yX7_undo ∈ lwT := tw_in (tw_c3 (List.mem_of_getElem? (i := 161) rfl)) rfl
theorem tw_3_162 : Cond.code yX7_undo cX7_undo 1 (some .int) ∈ lwT := tw_in (tw_c3 (List.mem_of_getElem? (i := 162) rfl)) rfl
theorem tw_3_163 : Cond.methodLink RX7 179 yX1_stepBack ∈ lwT := tw_in (tw_c3 (List.mem_of_getElem? (i := 163) rfl)) rfl
theorem tw_3_164 : Cond.instanceMethod yX1_stepBack ∈ lwT := tw_in (tw_c3 (List.mem_of_getElem? (i := 164) rfl)) rfl
theorem tw_3_165 : Cond.selects RX1 yX1_stepBack yX1_stepBack ∈ lwT := tw_in (tw_c3 (List.mem_of_getElem? (i := 165) rfl)) rfl
theorem tw_3_166 : Cond.code yX1_stepBack cX1_stepBack 2 (some .int) ∈ lwT := tw_in (tw_c3 (List.mem_of_getElem? (i := 166) rfl)) rfl
theorem tw_3_167 : Cond.methodLink RX1 35 yX1_returnToDraft ∈ lwT := tw_in (tw_c3 (List.mem_of_getElem? (i := 167) rfl)) rfl
theorem tw_3_168 : Cond.methodLink RL 138 yX7_errorCount ∈ lwT := tw_in (tw_c3 (List.mem_of_getElem? (i := 168) rfl)) rfl
theorem tw_3_169 : Cond.instanceMethod yX7_errorCount ∈ lwT := tw_in (tw_c3 (List.mem_of_getElem? (i := 169) rfl)) rfl
theorem tw_3_170 : Cond.selects RX7 yX7_errorCount yX7_errorCount ∈ lwT := tw_in (tw_c3 (List.mem_of_getElem? (i := 170) rfl)) rfl
theorem tw_3_171 : Cond.code yX7_errorCount cX7_errorCount 2 (some .int) ∈ lwT := tw_in (tw_c3 (List.mem_of_getElem? (i := 171) rfl)) rfl
theorem tw_3_172 : Cond.methodLink RL 142 yX7_digest ∈ lwT := tw_in (tw_c3 (List.mem_of_getElem? (i := 172) rfl)) rfl
theorem tw_3_173 : Cond.instanceMethod yX7_digest ∈ lwT := tw_in (tw_c3 (List.mem_of_getElem? (i := 173) rfl)) rfl
theorem tw_3_174 : Cond.selects RX7 yX7_digest yX7_digest ∈ lwT := tw_in (tw_c3 (List.mem_of_getElem? (i := 174) rfl)) rfl
theorem tw_3_175 : Cond.code yX7_digest cX7_digest 4 (some .long) ∈ lwT := tw_in (tw_c3 (List.mem_of_getElem? (i := 175) rfl)) rfl
theorem tw_3_176 : Cond.constantLong RX7 183 (18084 : Int64) ∈ lwT := tw_in (tw_c3 (List.mem_of_getElem? (i := 176) rfl)) rfl
theorem tw_3_177 : Cond.methodLink RX7 185 yX7_mix ∈ lwT := tw_in (tw_c3 (List.mem_of_getElem? (i := 177) rfl)) rfl
theorem tw_3_178 : Cond.static yX7_mix ∈ lwT := tw_in (tw_c3 (List.mem_of_getElem? (i := 178) rfl)) rfl
theorem tw_3_179 : Cond.code yX7_mix cX7_mix 4 (some .long) ∈ lwT := tw_in (tw_c3 (List.mem_of_getElem? (i := 179) rfl)) rfl
theorem tw_3_180 : Cond.constantLong RX7 209 (31 : Int64) ∈ lwT := tw_in (tw_c3 (List.mem_of_getElem? (i := 180) rfl)) rfl
theorem tw_3_181 : Cond.methodLink RX7 195 yX7_mixPairs ∈ lwT := tw_in (tw_c3 (List.mem_of_getElem? (i := 181) rfl)) rfl
theorem tw_3_182 : Cond.static yX7_mixPairs ∈ lwT := tw_in (tw_c3 (List.mem_of_getElem? (i := 182) rfl)) rfl
theorem tw_3_183 : Cond.code yX7_mixPairs cX7_mixPairs 6 (some .long) ∈ lwT := tw_in (tw_c3 (List.mem_of_getElem? (i := 183) rfl)) rfl
theorem tw_3_184 : Cond.methodLink RX7 199 yX7_mixFilters ∈ lwT := tw_in (tw_c3 (List.mem_of_getElem? (i := 184) rfl)) rfl
theorem tw_3_186 : Cond.instanceMethod yX7_mixFilters ∈ lwT := tw_in (tw_c3 (List.mem_of_getElem? (i := 186) rfl)) rfl
theorem tw_3_187 : Cond.code yX7_mixFilters cX7_mixFilters 7 (some .long) ∈ lwT := tw_in (tw_c3 (List.mem_of_getElem? (i := 187) rfl)) rfl
theorem tw_3_188 : Cond.methodLink RX7 203 yX7_mixAnswers ∈ lwT := tw_in (tw_c3 (List.mem_of_getElem? (i := 188) rfl)) rfl
theorem tw_3_190 : Cond.instanceMethod yX7_mixAnswers ∈ lwT := tw_in (tw_c3 (List.mem_of_getElem? (i := 190) rfl)) rfl
theorem tw_3_191 : Cond.code yX7_mixAnswers cX7_mixAnswers 6 (some .long) ∈ lwT := tw_in (tw_c3 (List.mem_of_getElem? (i := 191) rfl)) rfl
theorem tw_3_192 : Cond.methodLink RX7 206 yX7_mixWishes ∈ lwT := tw_in (tw_c3 (List.mem_of_getElem? (i := 192) rfl)) rfl
theorem tw_3_194 : Cond.instanceMethod yX7_mixWishes ∈ lwT := tw_in (tw_c3 (List.mem_of_getElem? (i := 194) rfl)) rfl
theorem tw_3_195 : Cond.code yX7_mixWishes cX7_mixWishes 10 (some .long) ∈ lwT := tw_in (tw_c3 (List.mem_of_getElem? (i := 195) rfl)) rfl
theorem tw_3_196 : Cond.classLink RL 10 "WhyNotJoinModel" ∈ lwT := tw_in (tw_c3 (List.mem_of_getElem? (i := 196) rfl)) rfl
theorem tw_3_197 : Cond.instantiable RX8 14 ∈ lwT := tw_in (tw_c3 (List.mem_of_getElem? (i := 197) rfl)) rfl
theorem tw_3_198 : Cond.methodLink RL 12 yX8_init ∈ lwT := tw_in (tw_c3 (List.mem_of_getElem? (i := 198) rfl)) rfl
theorem tw_3_199 : Cond.instanceMethod yX8_init ∈ lwT := tw_in (tw_c3 (List.mem_of_getElem? (i := 199) rfl)) rfl
theorem tw_3_200 : Cond.code yX8_init cX8_init 1 (none : Option ClassFile.FieldType) ∈ lwT := tw_in (tw_c3 (List.mem_of_getElem? (i := 200) rfl)) rfl
theorem tw_3_201 : Cond.methodLink RX8 1 ⟨"java/lang/Object", "<init>", "()V"⟩ ∈ lwT := tw_in (tw_c3 (List.mem_of_getElem? (i := 201) rfl)) rfl
theorem tw_3_202 : Cond.fieldLink RX8 7 "WhyNotJoinModel" "s" "[I" ∈ lwT := tw_in (tw_c3 (List.mem_of_getElem? (i := 202) rfl)) rfl
theorem tw_3_203 : Cond.fieldLink RX8 13 "WhyNotJoinModel" "ahead" "[I" ∈ lwT := tw_in (tw_c3 (List.mem_of_getElem? (i := 203) rfl)) rfl
theorem tw_3_204 : Cond.fieldLink RX8 16 "WhyNotJoinModel" "past" "[I" ∈ lwT := tw_in (tw_c3 (List.mem_of_getElem? (i := 204) rfl)) rfl
theorem tw_3_205 : Cond.fieldLink RX8 33 "WhyNotJoinModel" "pasts" "I" ∈ lwT := tw_in (tw_c3 (List.mem_of_getElem? (i := 205) rfl)) rfl
theorem tw_3_206 : Cond.fieldLink RX8 19 "WhyNotJoinModel" "errors" "[I" ∈ lwT := tw_in (tw_c3 (List.mem_of_getElem? (i := 206) rfl)) rfl
theorem tw_3_207 : Cond.fieldLink RX8 29 "WhyNotJoinModel" "isScript" "Z" ∈ lwT := tw_in (tw_c3 (List.mem_of_getElem? (i := 207) rfl)) rfl
theorem tw_3_208 : Cond.fieldLink RX8 22 "WhyNotJoinModel" "text" "[B" ∈ lwT := tw_in (tw_c3 (List.mem_of_getElem? (i := 208) rfl)) rfl
theorem tw_3_209 : Cond.fieldLink RX8 157 "WhyNotJoinModel" "typed" "I" ∈ lwT := tw_in (tw_c3 (List.mem_of_getElem? (i := 209) rfl)) rfl
theorem tw_3_210 : Cond.fieldLink RX8 124 "WhyNotJoinModel" "remaining" "I" ∈ lwT := tw_in (tw_c3 (List.mem_of_getElem? (i := 210) rfl)) rfl
theorem tw_3_211 : Cond.fieldLink RX8 26 "WhyNotJoinModel" "commands" "[I" ∈ lwT := tw_in (tw_c3 (List.mem_of_getElem? (i := 211) rfl)) rfl
theorem tw_3_212 : Cond.fieldLink RX8 175 "WhyNotJoinModel" "commandCount" "I" ∈ lwT := tw_in (tw_c3 (List.mem_of_getElem? (i := 212) rfl)) rfl
theorem tw_3_213 : Cond.fieldLink RX8 160 "WhyNotJoinModel" "at" "I" ∈ lwT := tw_in (tw_c3 (List.mem_of_getElem? (i := 213) rfl)) rfl
theorem tw_3_214 : Cond.fieldLink RX8 169 "WhyNotJoinModel" "isWrong" "Z" ∈ lwT := tw_in (tw_c3 (List.mem_of_getElem? (i := 214) rfl)) rfl
theorem tw_3_215 : Cond.fieldLink RX8 212 "WhyNotJoinModel" "hash" "J" ∈ lwT := tw_in (tw_c3 (List.mem_of_getElem? (i := 215) rfl)) rfl
theorem tw_3_216 : Cond.laysFinal RX8 "WhyNotJoinModel" "s" "[I" ∈ lwT := tw_in (tw_c3 (List.mem_of_getElem? (i := 216) rfl)) rfl
theorem tw_3_218 : Cond.laysFinal RX8 "WhyNotJoinModel" "ahead" "[I" ∈ lwT := tw_in (tw_c3 (List.mem_of_getElem? (i := 218) rfl)) rfl
theorem tw_3_220 : Cond.laysFinal RX8 "WhyNotJoinModel" "past" "[I" ∈ lwT := tw_in (tw_c3 (List.mem_of_getElem? (i := 220) rfl)) rfl
theorem tw_3_222 : Cond.lays RX8 "WhyNotJoinModel" "pasts" "I" ∈ lwT := tw_in (tw_c3 (List.mem_of_getElem? (i := 222) rfl)) rfl
theorem tw_3_224 : Cond.laysFinal RX8 "WhyNotJoinModel" "errors" "[I" ∈ lwT := tw_in (tw_c3 (List.mem_of_getElem? (i := 224) rfl)) rfl
theorem tw_3_226 : Cond.lays RX8 "WhyNotJoinModel" "isScript" "Z" ∈ lwT := tw_in (tw_c3 (List.mem_of_getElem? (i := 226) rfl)) rfl
theorem tw_3_228 : Cond.laysFinal RX8 "WhyNotJoinModel" "text" "[B" ∈ lwT := tw_in (tw_c3 (List.mem_of_getElem? (i := 228) rfl)) rfl
theorem tw_3_230 : Cond.lays RX8 "WhyNotJoinModel" "typed" "I" ∈ lwT := tw_in (tw_c3 (List.mem_of_getElem? (i := 230) rfl)) rfl
theorem tw_3_232 : Cond.lays RX8 "WhyNotJoinModel" "remaining" "I" ∈ lwT := tw_in (tw_c3 (List.mem_of_getElem? (i := 232) rfl)) rfl
theorem tw_3_234 : Cond.laysFinal RX8 "WhyNotJoinModel" "commands" "[I" ∈ lwT := tw_in (tw_c3 (List.mem_of_getElem? (i := 234) rfl)) rfl
theorem tw_3_236 : Cond.lays RX8 "WhyNotJoinModel" "commandCount" "I" ∈ lwT := tw_in (tw_c3 (List.mem_of_getElem? (i := 236) rfl)) rfl
theorem tw_3_238 : Cond.lays RX8 "WhyNotJoinModel" "at" "I" ∈ lwT := tw_in (tw_c3 (List.mem_of_getElem? (i := 238) rfl)) rfl
theorem tw_4_0 : Cond.lays RX8 "WhyNotJoinModel" "isWrong" "Z" ∈ lwT := tw_in (tw_c4 (List.mem_of_getElem? (i := 0) rfl)) rfl
theorem tw_4_2 : Cond.lays RX8 "WhyNotJoinModel" "hash" "J" ∈ lwT := tw_in (tw_c4 (List.mem_of_getElem? (i := 2) rfl)) rfl
theorem tw_4_5 : Cond.arrayClass .byte ∈ lwT := tw_in (tw_c4 (List.mem_of_getElem? (i := 5) rfl)) rfl
theorem tw_4_6 : Cond.methodLink RL 17 yX8_addLeft ∈ lwT := tw_in (tw_c4 (List.mem_of_getElem? (i := 6) rfl)) rfl
theorem tw_4_7 : Cond.instanceMethod yX8_addLeft ∈ lwT := tw_in (tw_c4 (List.mem_of_getElem? (i := 7) rfl)) rfl
theorem tw_4_8 : Cond.selects RX8 yX8_addLeft yX8_addLeft ∈ lwT := tw_in (tw_c4 (List.mem_of_getElem? (i := 8) rfl)) rfl
theorem tw_4_9 : Cond.code yX8_addLeft cX8_addLeft 3 (some .int) ∈ lwT := tw_in (tw_c4 (List.mem_of_getElem? (i := 9) rfl)) rfl
theorem tw_4_10 : Cond.methodLink RX8 60 yX8_adds ∈ lwT := tw_in (tw_c4 (List.mem_of_getElem? (i := 10) rfl)) rfl
theorem tw_4_12 : Cond.instanceMethod yX8_adds ∈ lwT := tw_in (tw_c4 (List.mem_of_getElem? (i := 12) rfl)) rfl
theorem tw_4_13 : Cond.code yX8_adds cX8_adds 4 (some .int) ∈ lwT := tw_in (tw_c4 (List.mem_of_getElem? (i := 13) rfl)) rfl
theorem tw_4_14 : Cond.methodLink RX8 41 yX8_isDigitPair ∈ lwT := tw_in (tw_c4 (List.mem_of_getElem? (i := 14) rfl)) rfl
theorem tw_4_15 : Cond.static yX8_isDigitPair ∈ lwT := tw_in (tw_c4 (List.mem_of_getElem? (i := 15) rfl)) rfl
theorem tw_4_16 : Cond.code yX8_isDigitPair cX8_isDigitPair 2 (some .boolean) ∈ lwT := tw_in (tw_c4 (List.mem_of_getElem? (i := 16) rfl)) rfl
theorem tw_4_17 : Cond.methodLink RX8 37 yX8_in ∈ lwT := tw_in (tw_c4 (List.mem_of_getElem? (i := 17) rfl)) rfl
theorem tw_4_18 : Cond.static yX8_in ∈ lwT := tw_in (tw_c4 (List.mem_of_getElem? (i := 18) rfl)) rfl
theorem tw_4_19 : Cond.code yX8_in cX8_in 3 (some .boolean) ∈ lwT := tw_in (tw_c4 (List.mem_of_getElem? (i := 19) rfl)) rfl
theorem tw_4_20 : Cond.methodLink RX8 45 yX8_fail ∈ lwT := tw_in (tw_c4 (List.mem_of_getElem? (i := 20) rfl)) rfl
theorem tw_4_22 : Cond.instanceMethod yX8_fail ∈ lwT := tw_in (tw_c4 (List.mem_of_getElem? (i := 22) rfl)) rfl
theorem tw_4_23 : Cond.code yX8_fail cX8_fail 2 (some .int) ∈ lwT := tw_in (tw_c4 (List.mem_of_getElem? (i := 23) rfl)) rfl
theorem tw_4_24 : Cond.methodLink RX8 49 yX8_placeOf ∈ lwT := tw_in (tw_c4 (List.mem_of_getElem? (i := 24) rfl)) rfl
theorem tw_4_26 : Cond.instanceMethod yX8_placeOf ∈ lwT := tw_in (tw_c4 (List.mem_of_getElem? (i := 26) rfl)) rfl
theorem tw_4_27 : Cond.code yX8_placeOf cX8_placeOf 4 (some .int) ∈ lwT := tw_in (tw_c4 (List.mem_of_getElem? (i := 27) rfl)) rfl
theorem tw_4_28 : Cond.methodLink RX8 53 yX8_note ∈ lwT := tw_in (tw_c4 (List.mem_of_getElem? (i := 28) rfl)) rfl
theorem tw_4_30 : Cond.instanceMethod yX8_note ∈ lwT := tw_in (tw_c4 (List.mem_of_getElem? (i := 30) rfl)) rfl
theorem tw_4_31 : Cond.code yX8_note cX8_note 2 (none : Option ClassFile.FieldType) ∈ lwT := tw_in (tw_c4 (List.mem_of_getElem? (i := 31) rfl)) rfl
theorem tw_4_32 : Cond.methodLink RX8 56 yX8_putBehind ∈ lwT := tw_in (tw_c4 (List.mem_of_getElem? (i := 32) rfl)) rfl
theorem tw_4_34 : Cond.instanceMethod yX8_putBehind ∈ lwT := tw_in (tw_c4 (List.mem_of_getElem? (i := 34) rfl)) rfl
theorem tw_4_35 : Cond.code yX8_putBehind cX8_putBehind 3 (none : Option ClassFile.FieldType) ∈ lwT := tw_in (tw_c4 (List.mem_of_getElem? (i := 35) rfl)) rfl
theorem tw_4_36 : Cond.methodLink RL 21 yX8_addRight ∈ lwT := tw_in (tw_c4 (List.mem_of_getElem? (i := 36) rfl)) rfl
theorem tw_4_37 : Cond.instanceMethod yX8_addRight ∈ lwT := tw_in (tw_c4 (List.mem_of_getElem? (i := 37) rfl)) rfl
theorem tw_4_38 : Cond.selects RX8 yX8_addRight yX8_addRight ∈ lwT := tw_in (tw_c4 (List.mem_of_getElem? (i := 38) rfl)) rfl
theorem tw_4_39 : Cond.code yX8_addRight cX8_addRight 3 (some .int) ∈ lwT := tw_in (tw_c4 (List.mem_of_getElem? (i := 39) rfl)) rfl
theorem tw_4_40 : Cond.methodLink RL 26 yX8_removeLeft ∈ lwT := tw_in (tw_c4 (List.mem_of_getElem? (i := 40) rfl)) rfl
theorem tw_4_41 : Cond.instanceMethod yX8_removeLeft ∈ lwT := tw_in (tw_c4 (List.mem_of_getElem? (i := 41) rfl)) rfl
theorem tw_4_42 : Cond.selects RX8 yX8_removeLeft yX8_removeLeft ∈ lwT := tw_in (tw_c4 (List.mem_of_getElem? (i := 42) rfl)) rfl
theorem tw_4_43 : Cond.code yX8_removeLeft cX8_removeLeft 2 (some .int) ∈ lwT := tw_in (tw_c4 (List.mem_of_getElem? (i := 43) rfl)) rfl
theorem tw_4_44 : Cond.methodLink RX8 64 yX8_removes ∈ lwT := tw_in (tw_c4 (List.mem_of_getElem? (i := 44) rfl)) rfl
theorem tw_4_46 : Cond.instanceMethod yX8_removes ∈ lwT := tw_in (tw_c4 (List.mem_of_getElem? (i := 46) rfl)) rfl
theorem tw_4_47 : Cond.code yX8_removes cX8_removes 4 (some .int) ∈ lwT := tw_in (tw_c4 (List.mem_of_getElem? (i := 47) rfl)) rfl
theorem tw_4_48 : Cond.methodLink RL 30 yX8_removeRight ∈ lwT := tw_in (tw_c4 (List.mem_of_getElem? (i := 48) rfl)) rfl
theorem tw_4_49 : Cond.instanceMethod yX8_removeRight ∈ lwT := tw_in (tw_c4 (List.mem_of_getElem? (i := 49) rfl)) rfl
theorem tw_4_50 : Cond.selects RX8 yX8_removeRight yX8_removeRight ∈ lwT := tw_in (tw_c4 (List.mem_of_getElem? (i := 50) rfl)) rfl
theorem tw_4_51 : Cond.code yX8_removeRight cX8_removeRight 2 (some .int) ∈ lwT := tw_in (tw_c4 (List.mem_of_getElem? (i := 51) rfl)) rfl
theorem tw_4_52 : Cond.methodLink RL 34 yX8_leftRow ∈ lwT := tw_in (tw_c4 (List.mem_of_getElem? (i := 52) rfl)) rfl
theorem tw_4_53 : Cond.instanceMethod yX8_leftRow ∈ lwT := tw_in (tw_c4 (List.mem_of_getElem? (i := 53) rfl)) rfl
theorem tw_4_54 : Cond.selects RX8 yX8_leftRow yX8_leftRow ∈ lwT := tw_in (tw_c4 (List.mem_of_getElem? (i := 54) rfl)) rfl
theorem tw_4_55 : Cond.code yX8_leftRow cX8_leftRow 2 (some .int) ∈ lwT := tw_in (tw_c4 (List.mem_of_getElem? (i := 55) rfl)) rfl
theorem tw_4_56 : Cond.methodLink RX8 67 yX8_rowAt ∈ lwT := tw_in (tw_c4 (List.mem_of_getElem? (i := 56) rfl)) rfl
theorem tw_4_58 : Cond.instanceMethod yX8_rowAt ∈ lwT := tw_in (tw_c4 (List.mem_of_getElem? (i := 58) rfl)) rfl
theorem tw_4_59 : Cond.code yX8_rowAt cX8_rowAt 3 (some .int) ∈ lwT := tw_in (tw_c4 (List.mem_of_getElem? (i := 59) rfl)) rfl
theorem tw_4_60 : Cond.methodLink RL 38 yX8_rightRow ∈ lwT := tw_in (tw_c4 (List.mem_of_getElem? (i := 60) rfl)) rfl
theorem tw_4_61 : Cond.instanceMethod yX8_rightRow ∈ lwT := tw_in (tw_c4 (List.mem_of_getElem? (i := 61) rfl)) rfl
theorem tw_4_62 : Cond.selects RX8 yX8_rightRow yX8_rightRow ∈ lwT := tw_in (tw_c4 (List.mem_of_getElem? (i := 62) rfl)) rfl
theorem tw_4_63 : Cond.code yX8_rightRow cX8_rightRow 2 (some .int) ∈ lwT := tw_in (tw_c4 (List.mem_of_getElem? (i := 63) rfl)) rfl
theorem tw_4_64 : Cond.methodLink RL 43 yX8_addFilter ∈ lwT := tw_in (tw_c4 (List.mem_of_getElem? (i := 64) rfl)) rfl
theorem tw_4_65 : Cond.instanceMethod yX8_addFilter ∈ lwT := tw_in (tw_c4 (List.mem_of_getElem? (i := 65) rfl)) rfl
theorem tw_4_66 : Cond.selects RX8 yX8_addFilter yX8_addFilter ∈ lwT := tw_in (tw_c4 (List.mem_of_getElem? (i := 66) rfl)) rfl
theorem tw_4_67 : Cond.code yX8_addFilter cX8_addFilter 6 (some .int) ∈ lwT := tw_in (tw_c4 (List.mem_of_getElem? (i := 67) rfl)) rfl
theorem tw_4_68 : Cond.methodLink RX8 70 yX8_isConstant ∈ lwT := tw_in (tw_c4 (List.mem_of_getElem? (i := 68) rfl)) rfl
theorem tw_4_69 : Cond.static yX8_isConstant ∈ lwT := tw_in (tw_c4 (List.mem_of_getElem? (i := 69) rfl)) rfl
theorem tw_4_70 : Cond.code yX8_isConstant cX8_isConstant 2 (some .boolean) ∈ lwT := tw_in (tw_c4 (List.mem_of_getElem? (i := 70) rfl)) rfl
theorem tw_4_71 : Cond.methodLink RL 47 yX8_removeFilter ∈ lwT := tw_in (tw_c4 (List.mem_of_getElem? (i := 71) rfl)) rfl
theorem tw_4_72 : Cond.instanceMethod yX8_removeFilter ∈ lwT := tw_in (tw_c4 (List.mem_of_getElem? (i := 72) rfl)) rfl
theorem tw_4_73 : Cond.selects RX8 yX8_removeFilter yX8_removeFilter ∈ lwT := tw_in (tw_c4 (List.mem_of_getElem? (i := 73) rfl)) rfl
theorem tw_4_74 : Cond.code yX8_removeFilter cX8_removeFilter 2 (some .int) ∈ lwT := tw_in (tw_c4 (List.mem_of_getElem? (i := 74) rfl)) rfl
theorem tw_4_75 : Cond.methodLink RX8 73 yX8_isFilter ∈ lwT := tw_in (tw_c4 (List.mem_of_getElem? (i := 75) rfl)) rfl
theorem tw_4_77 : Cond.instanceMethod yX8_isFilter ∈ lwT := tw_in (tw_c4 (List.mem_of_getElem? (i := 77) rfl)) rfl
theorem tw_4_78 : Cond.code yX8_isFilter cX8_isFilter 2 (some .boolean) ∈ lwT := tw_in (tw_c4 (List.mem_of_getElem? (i := 78) rfl)) rfl
theorem tw_4_79 : Cond.methodLink RX8 77 yX8_dropFilter ∈ lwT := tw_in (tw_c4 (List.mem_of_getElem? (i := 79) rfl)) rfl
theorem tw_4_81 : Cond.instanceMethod yX8_dropFilter ∈ lwT := tw_in (tw_c4 (List.mem_of_getElem? (i := 81) rfl)) rfl
theorem tw_4_82 : Cond.code yX8_dropFilter cX8_dropFilter 3 (none : Option ClassFile.FieldType) ∈ lwT := tw_in (tw_c4 (List.mem_of_getElem? (i := 82) rfl)) rfl
theorem tw_4_83 : Cond.methodLink RL 51 yX8_setConstant ∈ lwT := tw_in (tw_c4 (List.mem_of_getElem? (i := 83) rfl)) rfl
theorem tw_4_84 : Cond.instanceMethod yX8_setConstant ∈ lwT := tw_in (tw_c4 (List.mem_of_getElem? (i := 84) rfl)) rfl
theorem tw_4_85 : Cond.selects RX8 yX8_setConstant yX8_setConstant ∈ lwT := tw_in (tw_c4 (List.mem_of_getElem? (i := 85) rfl)) rfl
theorem tw_4_86 : Cond.code yX8_setConstant cX8_setConstant 4 (some .int) ∈ lwT := tw_in (tw_c4 (List.mem_of_getElem? (i := 86) rfl)) rfl
theorem tw_4_87 : Cond.methodLink RX8 81 yX8_of ∈ lwT := tw_in (tw_c4 (List.mem_of_getElem? (i := 87) rfl)) rfl
theorem tw_4_89 : Cond.instanceMethod yX8_of ∈ lwT := tw_in (tw_c4 (List.mem_of_getElem? (i := 89) rfl)) rfl
theorem tw_4_90 : Cond.code yX8_of cX8_of 3 (some .int) ∈ lwT := tw_in (tw_c4 (List.mem_of_getElem? (i := 90) rfl)) rfl
theorem tw_4_91 : Cond.methodLink RL 56 yX8_filterCount ∈ lwT := tw_in (tw_c4 (List.mem_of_getElem? (i := 91) rfl)) rfl
theorem tw_4_92 : Cond.instanceMethod yX8_filterCount ∈ lwT := tw_in (tw_c4 (List.mem_of_getElem? (i := 92) rfl)) rfl
theorem tw_4_93 : Cond.selects RX8 yX8_filterCount yX8_filterCount ∈ lwT := tw_in (tw_c4 (List.mem_of_getElem? (i := 93) rfl)) rfl
theorem tw_4_94 : Cond.code yX8_filterCount cX8_filterCount 1 (some .int) ∈ lwT := tw_in (tw_c4 (List.mem_of_getElem? (i := 94) rfl)) rfl
theorem tw_4_95 : Cond.methodLink RL 60 yX8_constant ∈ lwT := tw_in (tw_c4 (List.mem_of_getElem? (i := 95) rfl)) rfl
theorem tw_4_96 : Cond.instanceMethod yX8_constant ∈ lwT := tw_in (tw_c4 (List.mem_of_getElem? (i := 96) rfl)) rfl
theorem tw_4_97 : Cond.selects RX8 yX8_constant yX8_constant ∈ lwT := tw_in (tw_c4 (List.mem_of_getElem? (i := 97) rfl)) rfl
theorem tw_4_98 : Cond.code yX8_constant cX8_constant 2 (some .int) ∈ lwT := tw_in (tw_c4 (List.mem_of_getElem? (i := 98) rfl)) rfl
theorem tw_4_99 : Cond.methodLink RL 64 yX8_acceptedBy ∈ lwT := tw_in (tw_c4 (List.mem_of_getElem? (i := 99) rfl)) rfl
theorem tw_4_100 : Cond.instanceMethod yX8_acceptedBy ∈ lwT := tw_in (tw_c4 (List.mem_of_getElem? (i := 100) rfl)) rfl
theorem tw_4_101 : Cond.selects RX8 yX8_acceptedBy yX8_acceptedBy ∈ lwT := tw_in (tw_c4 (List.mem_of_getElem? (i := 101) rfl)) rfl
theorem tw_4_102 : Cond.code yX8_acceptedBy cX8_acceptedBy 2 (some .int) ∈ lwT := tw_in (tw_c4 (List.mem_of_getElem? (i := 102) rfl)) rfl
theorem tw_4_103 : Cond.methodLink RX8 99 yX8_accepted ∈ lwT := tw_in (tw_c4 (List.mem_of_getElem? (i := 103) rfl)) rfl
theorem tw_4_105 : Cond.instanceMethod yX8_accepted ∈ lwT := tw_in (tw_c4 (List.mem_of_getElem? (i := 105) rfl)) rfl
theorem tw_4_106 : Cond.code yX8_accepted cX8_accepted 9 (some .int) ∈ lwT := tw_in (tw_c4 (List.mem_of_getElem? (i := 106) rfl)) rfl
theorem tw_4_107 : Cond.methodLink RX8 91 yX8_accepts ∈ lwT := tw_in (tw_c4 (List.mem_of_getElem? (i := 107) rfl)) rfl
theorem tw_4_109 : Cond.instanceMethod yX8_accepts ∈ lwT := tw_in (tw_c4 (List.mem_of_getElem? (i := 109) rfl)) rfl
theorem tw_4_110 : Cond.code yX8_accepts cX8_accepts 5 (some .boolean) ∈ lwT := tw_in (tw_c4 (List.mem_of_getElem? (i := 110) rfl)) rfl
theorem tw_4_111 : Cond.methodLink RX8 84 yX8_columnOf ∈ lwT := tw_in (tw_c4 (List.mem_of_getElem? (i := 111) rfl)) rfl
theorem tw_4_112 : Cond.static yX8_columnOf ∈ lwT := tw_in (tw_c4 (List.mem_of_getElem? (i := 112) rfl)) rfl
theorem tw_4_113 : Cond.code yX8_columnOf cX8_columnOf 5 (some .int) ∈ lwT := tw_in (tw_c4 (List.mem_of_getElem? (i := 113) rfl)) rfl
theorem tw_4_114 : Cond.methodLink RX8 88 yX8_holds ∈ lwT := tw_in (tw_c4 (List.mem_of_getElem? (i := 114) rfl)) rfl
theorem tw_4_115 : Cond.static yX8_holds ∈ lwT := tw_in (tw_c4 (List.mem_of_getElem? (i := 115) rfl)) rfl
theorem tw_4_116 : Cond.code yX8_holds cX8_holds 3 (some .boolean) ∈ lwT := tw_in (tw_c4 (List.mem_of_getElem? (i := 116) rfl)) rfl
theorem tw_4_117 : Cond.methodLink RL 68 yX8_answerCount ∈ lwT := tw_in (tw_c4 (List.mem_of_getElem? (i := 117) rfl)) rfl
theorem tw_4_118 : Cond.instanceMethod yX8_answerCount ∈ lwT := tw_in (tw_c4 (List.mem_of_getElem? (i := 118) rfl)) rfl
theorem tw_4_119 : Cond.selects RX8 yX8_answerCount yX8_answerCount ∈ lwT := tw_in (tw_c4 (List.mem_of_getElem? (i := 119) rfl)) rfl
theorem tw_4_120 : Cond.code yX8_answerCount cX8_answerCount 1 (some .int) ∈ lwT := tw_in (tw_c4 (List.mem_of_getElem? (i := 120) rfl)) rfl
theorem tw_4_121 : Cond.methodLink RX8 117 yX8_answers ∈ lwT := tw_in (tw_c4 (List.mem_of_getElem? (i := 121) rfl)) rfl
theorem tw_4_123 : Cond.instanceMethod yX8_answers ∈ lwT := tw_in (tw_c4 (List.mem_of_getElem? (i := 123) rfl)) rfl
theorem tw_4_124 : Cond.code yX8_answers cX8_answers 3 (some .int) ∈ lwT := tw_in (tw_c4 (List.mem_of_getElem? (i := 124) rfl)) rfl
theorem tw_4_125 : Cond.methodLink RX8 114 yX8_isAnswer ∈ lwT := tw_in (tw_c4 (List.mem_of_getElem? (i := 125) rfl)) rfl
theorem tw_4_127 : Cond.instanceMethod yX8_isAnswer ∈ lwT := tw_in (tw_c4 (List.mem_of_getElem? (i := 127) rfl)) rfl
theorem tw_4_128 : Cond.code yX8_isAnswer cX8_isAnswer 3 (some .boolean) ∈ lwT := tw_in (tw_c4 (List.mem_of_getElem? (i := 128) rfl)) rfl
theorem tw_4_129 : Cond.methodLink RX8 111 yX8_matches ∈ lwT := tw_in (tw_c4 (List.mem_of_getElem? (i := 129) rfl)) rfl
theorem tw_4_131 : Cond.instanceMethod yX8_matches ∈ lwT := tw_in (tw_c4 (List.mem_of_getElem? (i := 131) rfl)) rfl
theorem tw_4_132 : Cond.code yX8_matches cX8_matches 6 (some .int) ∈ lwT := tw_in (tw_c4 (List.mem_of_getElem? (i := 132) rfl)) rfl
theorem tw_4_133 : Cond.methodLink RX8 102 yX8_hasLeft ∈ lwT := tw_in (tw_c4 (List.mem_of_getElem? (i := 133) rfl)) rfl
theorem tw_4_135 : Cond.instanceMethod yX8_hasLeft ∈ lwT := tw_in (tw_c4 (List.mem_of_getElem? (i := 135) rfl)) rfl
theorem tw_4_136 : Cond.code yX8_hasLeft cX8_hasLeft 3 (some .boolean) ∈ lwT := tw_in (tw_c4 (List.mem_of_getElem? (i := 136) rfl)) rfl
theorem tw_4_137 : Cond.methodLink RX8 105 yX8_hasRight ∈ lwT := tw_in (tw_c4 (List.mem_of_getElem? (i := 137) rfl)) rfl
theorem tw_4_139 : Cond.instanceMethod yX8_hasRight ∈ lwT := tw_in (tw_c4 (List.mem_of_getElem? (i := 139) rfl)) rfl
theorem tw_4_140 : Cond.code yX8_hasRight cX8_hasRight 3 (some .boolean) ∈ lwT := tw_in (tw_c4 (List.mem_of_getElem? (i := 140) rfl)) rfl
theorem tw_4_141 : Cond.methodLink RX8 108 yX8_passesAll ∈ lwT := tw_in (tw_c4 (List.mem_of_getElem? (i := 141) rfl)) rfl
theorem tw_4_143 : Cond.instanceMethod yX8_passesAll ∈ lwT := tw_in (tw_c4 (List.mem_of_getElem? (i := 143) rfl)) rfl
theorem tw_4_144 : Cond.code yX8_passesAll cX8_passesAll 5 (some .boolean) ∈ lwT := tw_in (tw_c4 (List.mem_of_getElem? (i := 144) rfl)) rfl
theorem tw_4_145 : Cond.methodLink RX8 95 yX8_passes ∈ lwT := tw_in (tw_c4 (List.mem_of_getElem? (i := 145) rfl)) rfl
theorem tw_4_147 : Cond.instanceMethod yX8_passes ∈ lwT := tw_in (tw_c4 (List.mem_of_getElem? (i := 147) rfl)) rfl
theorem tw_4_148 : Cond.code yX8_passes cX8_passes 8 (some .boolean) ∈ lwT := tw_in (tw_c4 (List.mem_of_getElem? (i := 148) rfl)) rfl
theorem tw_4_149 : Cond.methodLink RL 72 yX8_answer ∈ lwT := tw_in (tw_c4 (List.mem_of_getElem? (i := 149) rfl)) rfl
theorem tw_4_150 : Cond.instanceMethod yX8_answer ∈ lwT := tw_in (tw_c4 (List.mem_of_getElem? (i := 150) rfl)) rfl
theorem tw_4_151 : Cond.selects RX8 yX8_answer yX8_answer ∈ lwT := tw_in (tw_c4 (List.mem_of_getElem? (i := 151) rfl)) rfl
theorem tw_4_152 : Cond.code yX8_answer cX8_answer 2 (some .int) ∈ lwT := tw_in (tw_c4 (List.mem_of_getElem? (i := 152) rfl)) rfl
theorem tw_4_153 : Cond.methodLink RX8 121 yX8_answerAt ∈ lwT := tw_in (tw_c4 (List.mem_of_getElem? (i := 153) rfl)) rfl
theorem tw_4_155 : Cond.instanceMethod yX8_answerAt ∈ lwT := tw_in (tw_c4 (List.mem_of_getElem? (i := 155) rfl)) rfl
theorem tw_4_156 : Cond.code yX8_answerAt cX8_answerAt 4 (some .int) ∈ lwT := tw_in (tw_c4 (List.mem_of_getElem? (i := 156) rfl)) rfl
theorem tw_4_157 : Cond.methodLink RL 76 yX8_matchCount ∈ lwT := tw_in (tw_c4 (List.mem_of_getElem? (i := 157) rfl)) rfl
theorem tw_4_158 : Cond.instanceMethod yX8_matchCount ∈ lwT := tw_in (tw_c4 (List.mem_of_getElem? (i := 158) rfl)) rfl
theorem tw_4_159 : Cond.selects RX8 yX8_matchCount yX8_matchCount ∈ lwT := tw_in (tw_c4 (List.mem_of_getElem? (i := 159) rfl)) rfl
theorem tw_4_160 : Cond.code yX8_matchCount cX8_matchCount 3 (some .int) ∈ lwT := tw_in (tw_c4 (List.mem_of_getElem? (i := 160) rfl)) rfl
theorem tw_4_161 : Cond.methodLink RL 80 yX8_blame ∈ lwT := tw_in (tw_c4 (List.mem_of_getElem? (i := 161) rfl)) rfl
theorem tw_4_162 : Cond.instanceMethod yX8_blame ∈ lwT := tw_in (tw_c4 (List.mem_of_getElem? (i := 162) rfl)) rfl
theorem tw_4_163 : Cond.selects RX8 yX8_blame yX8_blame ∈ lwT := tw_in (tw_c4 (List.mem_of_getElem? (i := 163) rfl)) rfl
theorem tw_4_164 : Cond.code yX8_blame cX8_blame 3 (some .int) ∈ lwT := tw_in (tw_c4 (List.mem_of_getElem? (i := 164) rfl)) rfl
theorem tw_4_165 : Cond.methodLink RX8 130 yX8_cause ∈ lwT := tw_in (tw_c4 (List.mem_of_getElem? (i := 165) rfl)) rfl
theorem tw_4_167 : Cond.instanceMethod yX8_cause ∈ lwT := tw_in (tw_c4 (List.mem_of_getElem? (i := 167) rfl)) rfl
theorem tw_4_168 : Cond.code yX8_cause cX8_cause 6 (some .int) ∈ lwT := tw_in (tw_c4 (List.mem_of_getElem? (i := 168) rfl)) rfl
theorem tw_4_169 : Cond.methodLink RX8 127 yX8_dropper ∈ lwT := tw_in (tw_c4 (List.mem_of_getElem? (i := 169) rfl)) rfl
theorem tw_4_171 : Cond.instanceMethod yX8_dropper ∈ lwT := tw_in (tw_c4 (List.mem_of_getElem? (i := 171) rfl)) rfl
theorem tw_4_172 : Cond.code yX8_dropper cX8_dropper 6 (some .int) ∈ lwT := tw_in (tw_c4 (List.mem_of_getElem? (i := 172) rfl)) rfl
theorem tw_4_173 : Cond.methodLink RL 84 yX8_filtersToRemove ∈ lwT := tw_in (tw_c4 (List.mem_of_getElem? (i := 173) rfl)) rfl
theorem tw_4_174 : Cond.instanceMethod yX8_filtersToRemove ∈ lwT := tw_in (tw_c4 (List.mem_of_getElem? (i := 174) rfl)) rfl
theorem tw_4_175 : Cond.selects RX8 yX8_filtersToRemove yX8_filtersToRemove ∈ lwT := tw_in (tw_c4 (List.mem_of_getElem? (i := 175) rfl)) rfl
theorem tw_4_176 : Cond.code yX8_filtersToRemove cX8_filtersToRemove 3 (some .int) ∈ lwT := tw_in (tw_c4 (List.mem_of_getElem? (i := 176) rfl)) rfl
theorem tw_4_177 : Cond.methodLink RX8 136 yX8_removal ∈ lwT := tw_in (tw_c4 (List.mem_of_getElem? (i := 177) rfl)) rfl
theorem tw_4_179 : Cond.instanceMethod yX8_removal ∈ lwT := tw_in (tw_c4 (List.mem_of_getElem? (i := 179) rfl)) rfl
theorem tw_4_180 : Cond.code yX8_removal cX8_removal 6 (some .int) ∈ lwT := tw_in (tw_c4 (List.mem_of_getElem? (i := 180) rfl)) rfl
theorem tw_4_181 : Cond.methodLink RX8 133 yX8_ones ∈ lwT := tw_in (tw_c4 (List.mem_of_getElem? (i := 181) rfl)) rfl
theorem tw_4_182 : Cond.static yX8_ones ∈ lwT := tw_in (tw_c4 (List.mem_of_getElem? (i := 182) rfl)) rfl
theorem tw_4_183 : Cond.code yX8_ones cX8_ones 3 (some .int) ∈ lwT := tw_in (tw_c4 (List.mem_of_getElem? (i := 183) rfl)) rfl
theorem tw_4_184 : Cond.methodLink RL 89 yX8_repairedConstant ∈ lwT := tw_in (tw_c4 (List.mem_of_getElem? (i := 184) rfl)) rfl
theorem tw_4_185 : Cond.instanceMethod yX8_repairedConstant ∈ lwT := tw_in (tw_c4 (List.mem_of_getElem? (i := 185) rfl)) rfl
theorem tw_4_186 : Cond.selects RX8 yX8_repairedConstant yX8_repairedConstant ∈ lwT := tw_in (tw_c4 (List.mem_of_getElem? (i := 186) rfl)) rfl
theorem tw_4_187 : Cond.code yX8_repairedConstant cX8_repairedConstant 11 (some .int) ∈ lwT := tw_in (tw_c4 (List.mem_of_getElem? (i := 187) rfl)) rfl
theorem tw_4_188 : Cond.methodLink RL 93 yX8_missingRows ∈ lwT := tw_in (tw_c4 (List.mem_of_getElem? (i := 188) rfl)) rfl
theorem tw_4_189 : Cond.instanceMethod yX8_missingRows ∈ lwT := tw_in (tw_c4 (List.mem_of_getElem? (i := 189) rfl)) rfl
theorem tw_4_190 : Cond.selects RX8 yX8_missingRows yX8_missingRows ∈ lwT := tw_in (tw_c4 (List.mem_of_getElem? (i := 190) rfl)) rfl
theorem tw_4_191 : Cond.code yX8_missingRows cX8_missingRows 3 (some .int) ∈ lwT := tw_in (tw_c4 (List.mem_of_getElem? (i := 191) rfl)) rfl
theorem tw_4_192 : Cond.methodLink RX8 145 yX8_missing ∈ lwT := tw_in (tw_c4 (List.mem_of_getElem? (i := 192) rfl)) rfl
theorem tw_4_194 : Cond.instanceMethod yX8_missing ∈ lwT := tw_in (tw_c4 (List.mem_of_getElem? (i := 194) rfl)) rfl
theorem tw_4_195 : Cond.code yX8_missing cX8_missing 4 (some .int) ∈ lwT := tw_in (tw_c4 (List.mem_of_getElem? (i := 195) rfl)) rfl
theorem tw_4_196 : Cond.methodLink RX8 142 yX8_bestB ∈ lwT := tw_in (tw_c4 (List.mem_of_getElem? (i := 196) rfl)) rfl
theorem tw_4_198 : Cond.instanceMethod yX8_bestB ∈ lwT := tw_in (tw_c4 (List.mem_of_getElem? (i := 198) rfl)) rfl
theorem tw_4_199 : Cond.code yX8_bestB cX8_bestB 7 (some .int) ∈ lwT := tw_in (tw_c4 (List.mem_of_getElem? (i := 199) rfl)) rfl
theorem tw_4_200 : Cond.methodLink RX8 139 yX8_costOf ∈ lwT := tw_in (tw_c4 (List.mem_of_getElem? (i := 200) rfl)) rfl
theorem tw_4_202 : Cond.instanceMethod yX8_costOf ∈ lwT := tw_in (tw_c4 (List.mem_of_getElem? (i := 202) rfl)) rfl
theorem tw_4_203 : Cond.code yX8_costOf cX8_costOf 4 (some .int) ∈ lwT := tw_in (tw_c4 (List.mem_of_getElem? (i := 203) rfl)) rfl
theorem tw_4_204 : Cond.methodLink RL 97 yX8_missingB ∈ lwT := tw_in (tw_c4 (List.mem_of_getElem? (i := 204) rfl)) rfl
theorem tw_4_205 : Cond.instanceMethod yX8_missingB ∈ lwT := tw_in (tw_c4 (List.mem_of_getElem? (i := 205) rfl)) rfl
theorem tw_4_206 : Cond.selects RX8 yX8_missingB yX8_missingB ∈ lwT := tw_in (tw_c4 (List.mem_of_getElem? (i := 206) rfl)) rfl
theorem tw_4_207 : Cond.code yX8_missingB cX8_missingB 3 (some .int) ∈ lwT := tw_in (tw_c4 (List.mem_of_getElem? (i := 207) rfl)) rfl
theorem tw_4_208 : Cond.methodLink RX8 148 yX8_missingAt ∈ lwT := tw_in (tw_c4 (List.mem_of_getElem? (i := 208) rfl)) rfl
theorem tw_4_210 : Cond.instanceMethod yX8_missingAt ∈ lwT := tw_in (tw_c4 (List.mem_of_getElem? (i := 210) rfl)) rfl
theorem tw_4_211 : Cond.code yX8_missingAt cX8_missingAt 3 (some .int) ∈ lwT := tw_in (tw_c4 (List.mem_of_getElem? (i := 211) rfl)) rfl
theorem tw_4_212 : Cond.methodLink RL 101 yX8_insertMissing ∈ lwT := tw_in (tw_c4 (List.mem_of_getElem? (i := 212) rfl)) rfl
theorem tw_4_213 : Cond.instanceMethod yX8_insertMissing ∈ lwT := tw_in (tw_c4 (List.mem_of_getElem? (i := 213) rfl)) rfl
theorem tw_4_214 : Cond.selects RX8 yX8_insertMissing yX8_insertMissing ∈ lwT := tw_in (tw_c4 (List.mem_of_getElem? (i := 214) rfl)) rfl
theorem tw_4_215 : Cond.code yX8_insertMissing cX8_insertMissing 6 (some .int) ∈ lwT := tw_in (tw_c4 (List.mem_of_getElem? (i := 215) rfl)) rfl
theorem tw_4_216 : Cond.methodLink RL 105 yX8_loosen ∈ lwT := tw_in (tw_c4 (List.mem_of_getElem? (i := 216) rfl)) rfl
theorem tw_4_217 : Cond.instanceMethod yX8_loosen ∈ lwT := tw_in (tw_c4 (List.mem_of_getElem? (i := 217) rfl)) rfl
theorem tw_4_218 : Cond.selects RX8 yX8_loosen yX8_loosen ∈ lwT := tw_in (tw_c4 (List.mem_of_getElem? (i := 218) rfl)) rfl
theorem tw_4_219 : Cond.code yX8_loosen cX8_loosen 5 (some .int) ∈ lwT := tw_in (tw_c4 (List.mem_of_getElem? (i := 219) rfl)) rfl
theorem tw_4_220 : Cond.methodLink RL 109 yX8_addWish ∈ lwT := tw_in (tw_c4 (List.mem_of_getElem? (i := 220) rfl)) rfl
theorem tw_4_221 : Cond.instanceMethod yX8_addWish ∈ lwT := tw_in (tw_c4 (List.mem_of_getElem? (i := 221) rfl)) rfl
theorem tw_4_222 : Cond.selects RX8 yX8_addWish yX8_addWish ∈ lwT := tw_in (tw_c4 (List.mem_of_getElem? (i := 222) rfl)) rfl
theorem tw_4_223 : Cond.code yX8_addWish cX8_addWish 3 (some .int) ∈ lwT := tw_in (tw_c4 (List.mem_of_getElem? (i := 223) rfl)) rfl
theorem tw_4_224 : Cond.methodLink RL 113 yX8_clearWishes ∈ lwT := tw_in (tw_c4 (List.mem_of_getElem? (i := 224) rfl)) rfl
theorem tw_4_225 : Cond.instanceMethod yX8_clearWishes ∈ lwT := tw_in (tw_c4 (List.mem_of_getElem? (i := 225) rfl)) rfl
theorem tw_4_226 : Cond.selects RX8 yX8_clearWishes yX8_clearWishes ∈ lwT := tw_in (tw_c4 (List.mem_of_getElem? (i := 226) rfl)) rfl
theorem tw_4_227 : Cond.code yX8_clearWishes cX8_clearWishes 2 (some .int) ∈ lwT := tw_in (tw_c4 (List.mem_of_getElem? (i := 227) rfl)) rfl
theorem tw_4_228 : Cond.methodLink RL 117 yX8_satisfiedWishes ∈ lwT := tw_in (tw_c4 (List.mem_of_getElem? (i := 228) rfl)) rfl
theorem tw_4_229 : Cond.instanceMethod yX8_satisfiedWishes ∈ lwT := tw_in (tw_c4 (List.mem_of_getElem? (i := 229) rfl)) rfl
theorem tw_4_230 : Cond.selects RX8 yX8_satisfiedWishes yX8_satisfiedWishes ∈ lwT := tw_in (tw_c4 (List.mem_of_getElem? (i := 230) rfl)) rfl
theorem tw_4_231 : Cond.code yX8_satisfiedWishes cX8_satisfiedWishes 1 (some .int) ∈ lwT := tw_in (tw_c4 (List.mem_of_getElem? (i := 231) rfl)) rfl
theorem tw_4_232 : Cond.methodLink RX8 151 yX8_satisfied ∈ lwT := tw_in (tw_c4 (List.mem_of_getElem? (i := 232) rfl)) rfl
theorem tw_4_234 : Cond.instanceMethod yX8_satisfied ∈ lwT := tw_in (tw_c4 (List.mem_of_getElem? (i := 234) rfl)) rfl
theorem tw_4_235 : Cond.code yX8_satisfied cX8_satisfied 4 (some .int) ∈ lwT := tw_in (tw_c4 (List.mem_of_getElem? (i := 235) rfl)) rfl
theorem tw_4_236 : Cond.methodLink RL 121 yX8_filtersToRemoveForWishes ∈ lwT := tw_in (tw_c4 (List.mem_of_getElem? (i := 236) rfl)) rfl
theorem tw_4_237 : Cond.instanceMethod yX8_filtersToRemoveForWishes ∈ lwT := tw_in (tw_c4 (List.mem_of_getElem? (i := 237) rfl)) rfl
theorem tw_4_238 : Cond.selects RX8 yX8_filtersToRemoveForWishes yX8_filtersToRemoveForWishes ∈ lwT := tw_in (tw_c4 (List.mem_of_getElem? (i := 238) rfl)) rfl
theorem tw_4_239 : Cond.code yX8_filtersToRemoveForWishes cX8_filtersToRemoveForWishes 1 (some .int) ∈ lwT := tw_in (tw_c4 (List.mem_of_getElem? (i := 239) rfl)) rfl
theorem tw_5_0 : Cond.methodLink RX8 154 yX8_removalForWishes ∈ lwT := tw_in (tw_c5 (List.mem_of_getElem? (i := 0) rfl)) rfl
theorem tw_5_2 : Cond.instanceMethod yX8_removalForWishes ∈ lwT := tw_in (tw_c5 (List.mem_of_getElem? (i := 2) rfl)) rfl
theorem tw_5_3 : Cond.code yX8_removalForWishes cX8_removalForWishes 4 (some .int) ∈ lwT := tw_in (tw_c5 (List.mem_of_getElem? (i := 3) rfl)) rfl
theorem tw_5_4 : Cond.methodLink RL 125 yX8_append ∈ lwT := tw_in (tw_c5 (List.mem_of_getElem? (i := 4) rfl)) rfl
theorem tw_5_5 : Cond.instanceMethod yX8_append ∈ lwT := tw_in (tw_c5 (List.mem_of_getElem? (i := 5) rfl)) rfl
theorem tw_5_6 : Cond.selects RX8 yX8_append yX8_append ∈ lwT := tw_in (tw_c5 (List.mem_of_getElem? (i := 6) rfl)) rfl
theorem tw_5_7 : Cond.code yX8_append cX8_append 2 (some .int) ∈ lwT := tw_in (tw_c5 (List.mem_of_getElem? (i := 7) rfl)) rfl
theorem tw_5_8 : Cond.methodLink RL 129 yX8_clearText ∈ lwT := tw_in (tw_c5 (List.mem_of_getElem? (i := 8) rfl)) rfl
theorem tw_5_9 : Cond.instanceMethod yX8_clearText ∈ lwT := tw_in (tw_c5 (List.mem_of_getElem? (i := 9) rfl)) rfl
theorem tw_5_10 : Cond.selects RX8 yX8_clearText yX8_clearText ∈ lwT := tw_in (tw_c5 (List.mem_of_getElem? (i := 10) rfl)) rfl
theorem tw_5_11 : Cond.code yX8_clearText cX8_clearText 2 (some .int) ∈ lwT := tw_in (tw_c5 (List.mem_of_getElem? (i := 11) rfl)) rfl
theorem tw_5_12 : Cond.methodLink RL 133 yX8_runScript ∈ lwT := tw_in (tw_c5 (List.mem_of_getElem? (i := 12) rfl)) rfl
theorem tw_5_13 : Cond.instanceMethod yX8_runScript ∈ lwT := tw_in (tw_c5 (List.mem_of_getElem? (i := 13) rfl)) rfl
theorem tw_5_14 : Cond.selects RX8 yX8_runScript yX8_runScript ∈ lwT := tw_in (tw_c5 (List.mem_of_getElem? (i := 14) rfl)) rfl
theorem tw_5_15 : Cond.code yX8_runScript cX8_runScript 2 (some .int) ∈ lwT := tw_in (tw_c5 (List.mem_of_getElem? (i := 15) rfl)) rfl
theorem tw_5_16 : Cond.methodLink RX8 201 yX8_readCommand ∈ lwT := tw_in (tw_c5 (List.mem_of_getElem? (i := 16) rfl)) rfl
theorem tw_5_18 : Cond.instanceMethod yX8_readCommand ∈ lwT := tw_in (tw_c5 (List.mem_of_getElem? (i := 18) rfl)) rfl
theorem tw_5_19 : Cond.code yX8_readCommand cX8_readCommand 5 (none : Option ClassFile.FieldType) ∈ lwT := tw_in (tw_c5 (List.mem_of_getElem? (i := 19) rfl)) rfl
theorem tw_5_20 : Cond.methodLink RX8 166 yX8_skip ∈ lwT := tw_in (tw_c5 (List.mem_of_getElem? (i := 20) rfl)) rfl
theorem tw_5_22 : Cond.instanceMethod yX8_skip ∈ lwT := tw_in (tw_c5 (List.mem_of_getElem? (i := 22) rfl)) rfl
theorem tw_5_23 : Cond.code yX8_skip cX8_skip 1 (none : Option ClassFile.FieldType) ∈ lwT := tw_in (tw_c5 (List.mem_of_getElem? (i := 23) rfl)) rfl
theorem tw_5_24 : Cond.methodLink RX8 163 yX8_here ∈ lwT := tw_in (tw_c5 (List.mem_of_getElem? (i := 24) rfl)) rfl
theorem tw_5_26 : Cond.instanceMethod yX8_here ∈ lwT := tw_in (tw_c5 (List.mem_of_getElem? (i := 26) rfl)) rfl
theorem tw_5_27 : Cond.code yX8_here cX8_here 1 (some .int) ∈ lwT := tw_in (tw_c5 (List.mem_of_getElem? (i := 27) rfl)) rfl
theorem tw_5_28 : Cond.methodLink RX8 172 yX8_numbersOf ∈ lwT := tw_in (tw_c5 (List.mem_of_getElem? (i := 28) rfl)) rfl
theorem tw_5_29 : Cond.static yX8_numbersOf ∈ lwT := tw_in (tw_c5 (List.mem_of_getElem? (i := 29) rfl)) rfl
theorem tw_5_30 : Cond.code yX8_numbersOf cX8_numbersOf 1 (some .int) ∈ lwT := tw_in (tw_c5 (List.mem_of_getElem? (i := 30) rfl)) rfl
theorem tw_5_31 : Cond.methodLink RX8 178 yX8_readNumber ∈ lwT := tw_in (tw_c5 (List.mem_of_getElem? (i := 31) rfl)) rfl
theorem tw_5_33 : Cond.instanceMethod yX8_readNumber ∈ lwT := tw_in (tw_c5 (List.mem_of_getElem? (i := 33) rfl)) rfl
theorem tw_5_34 : Cond.code yX8_readNumber cX8_readNumber 5 (some .int) ∈ lwT := tw_in (tw_c5 (List.mem_of_getElem? (i := 34) rfl)) rfl
theorem tw_5_35 : Cond.methodLink RX8 204 yX8_execute ∈ lwT := tw_in (tw_c5 (List.mem_of_getElem? (i := 35) rfl)) rfl
theorem tw_5_37 : Cond.instanceMethod yX8_execute ∈ lwT := tw_in (tw_c5 (List.mem_of_getElem? (i := 37) rfl)) rfl
theorem tw_5_38 : Cond.code yX8_execute cX8_execute 4 (some .int) ∈ lwT := tw_in (tw_c5 (List.mem_of_getElem? (i := 38) rfl)) rfl
theorem tw_5_39 : Cond.methodLink RX8 182 yX8_addLeft ∈ lwT := tw_in (tw_c5 (List.mem_of_getElem? (i := 39) rfl)) rfl
theorem tw_5_40 : Cond.methodLink RX8 185 yX8_addRight ∈ lwT := tw_in (tw_c5 (List.mem_of_getElem? (i := 40) rfl)) rfl
theorem tw_5_41 : Cond.methodLink RX8 188 yX8_addFilter ∈ lwT := tw_in (tw_c5 (List.mem_of_getElem? (i := 41) rfl)) rfl
theorem tw_5_42 : Cond.methodLink RX8 192 yX8_removeFilter ∈ lwT := tw_in (tw_c5 (List.mem_of_getElem? (i := 42) rfl)) rfl
theorem tw_5_43 : Cond.methodLink RX8 195 yX8_addWish ∈ lwT := tw_in (tw_c5 (List.mem_of_getElem? (i := 43) rfl)) rfl
theorem tw_5_44 : Cond.methodLink RX8 198 yX8_clearWishes ∈ lwT := tw_in (tw_c5 (List.mem_of_getElem? (i := 44) rfl)) rfl
theorem tw_5_45 : Cond.methodLink RX8 207 yX8_ends ∈ lwT := tw_in (tw_c5 (List.mem_of_getElem? (i := 45) rfl)) rfl
theorem tw_5_47 : Cond.instanceMethod yX8_ends ∈ lwT := tw_in (tw_c5 (List.mem_of_getElem? (i := 47) rfl)) rfl
theorem tw_5_48 : Cond.code yX8_ends cX8_ends 5 (some .int) ∈ lwT := tw_in (tw_c5 (List.mem_of_getElem? (i := 48) rfl)) rfl
theorem tw_5_49 : Cond.methodLink RL 137 yX8_undo ∈ lwT := tw_in (tw_c5 (List.mem_of_getElem? (i := 49) rfl)) rfl
theorem tw_5_50 : Cond.instanceMethod yX8_undo ∈ lwT := tw_in (tw_c5 (List.mem_of_getElem? (i := 50) rfl)) rfl
theorem tw_5_51 : Cond.selects RX8 yX8_undo yX8_undo ∈ lwT := tw_in (tw_c5 (List.mem_of_getElem? (i := 51) rfl)) rfl
theorem tw_5_52 : Cond.code yX8_undo cX8_undo 2 (some .int) ∈ lwT := tw_in (tw_c5 (List.mem_of_getElem? (i := 52) rfl)) rfl
theorem tw_5_53 : Cond.methodLink RL 141 yX8_errorCount ∈ lwT := tw_in (tw_c5 (List.mem_of_getElem? (i := 53) rfl)) rfl
theorem tw_5_54 : Cond.instanceMethod yX8_errorCount ∈ lwT := tw_in (tw_c5 (List.mem_of_getElem? (i := 54) rfl)) rfl
theorem tw_5_55 : Cond.selects RX8 yX8_errorCount yX8_errorCount ∈ lwT := tw_in (tw_c5 (List.mem_of_getElem? (i := 55) rfl)) rfl
theorem tw_5_56 : Cond.code yX8_errorCount cX8_errorCount 2 (some .int) ∈ lwT := tw_in (tw_c5 (List.mem_of_getElem? (i := 56) rfl)) rfl
theorem tw_5_57 : Cond.methodLink RL 146 yX8_digest ∈ lwT := tw_in (tw_c5 (List.mem_of_getElem? (i := 57) rfl)) rfl
theorem tw_5_58 : Cond.instanceMethod yX8_digest ∈ lwT := tw_in (tw_c5 (List.mem_of_getElem? (i := 58) rfl)) rfl
theorem tw_5_59 : Cond.selects RX8 yX8_digest yX8_digest ∈ lwT := tw_in (tw_c5 (List.mem_of_getElem? (i := 59) rfl)) rfl
theorem tw_5_60 : Cond.code yX8_digest cX8_digest 3 (some .long) ∈ lwT := tw_in (tw_c5 (List.mem_of_getElem? (i := 60) rfl)) rfl
theorem tw_5_61 : Cond.constantLong RX8 219 (18084 : Int64) ∈ lwT := tw_in (tw_c5 (List.mem_of_getElem? (i := 61) rfl)) rfl
theorem tw_5_62 : Cond.methodLink RX8 216 yX8_add ∈ lwT := tw_in (tw_c5 (List.mem_of_getElem? (i := 62) rfl)) rfl
theorem tw_5_64 : Cond.instanceMethod yX8_add ∈ lwT := tw_in (tw_c5 (List.mem_of_getElem? (i := 64) rfl)) rfl
theorem tw_5_65 : Cond.code yX8_add cX8_add 2 (none : Option ClassFile.FieldType) ∈ lwT := tw_in (tw_c5 (List.mem_of_getElem? (i := 65) rfl)) rfl
theorem tw_5_66 : Cond.constantLong RX8 210 (31 : Int64) ∈ lwT := tw_in (tw_c5 (List.mem_of_getElem? (i := 66) rfl)) rfl
theorem tw_5_67 : Cond.methodLink RX8 221 yX8_addRows ∈ lwT := tw_in (tw_c5 (List.mem_of_getElem? (i := 67) rfl)) rfl
theorem tw_5_69 : Cond.instanceMethod yX8_addRows ∈ lwT := tw_in (tw_c5 (List.mem_of_getElem? (i := 69) rfl)) rfl
theorem tw_5_70 : Cond.code yX8_addRows cX8_addRows 3 (none : Option ClassFile.FieldType) ∈ lwT := tw_in (tw_c5 (List.mem_of_getElem? (i := 70) rfl)) rfl
theorem tw_5_71 : Cond.methodLink RX8 224 yX8_addFilters ∈ lwT := tw_in (tw_c5 (List.mem_of_getElem? (i := 71) rfl)) rfl
theorem tw_5_73 : Cond.instanceMethod yX8_addFilters ∈ lwT := tw_in (tw_c5 (List.mem_of_getElem? (i := 73) rfl)) rfl
theorem tw_5_74 : Cond.code yX8_addFilters cX8_addFilters 3 (none : Option ClassFile.FieldType) ∈ lwT := tw_in (tw_c5 (List.mem_of_getElem? (i := 74) rfl)) rfl
theorem tw_5_75 : Cond.methodLink RX8 227 yX8_addWishes ∈ lwT := tw_in (tw_c5 (List.mem_of_getElem? (i := 75) rfl)) rfl
theorem tw_5_77 : Cond.instanceMethod yX8_addWishes ∈ lwT := tw_in (tw_c5 (List.mem_of_getElem? (i := 77) rfl)) rfl
theorem tw_5_78 : Cond.code yX8_addWishes cX8_addWishes 4 (none : Option ClassFile.FieldType) ∈ lwT := tw_in (tw_c5 (List.mem_of_getElem? (i := 78) rfl)) rfl
def nwC : List Cond := [Cond.methodLinkNest RX7 11 yX3_init "WhyNotJoin", Cond.methodLinkNest RX3 11 yX5_init "WhyNotJoin", Cond.fieldLinkNest RX3 49 "WhyNotJoin$PairList" "size" "I" "WhyNotJoin", Cond.fieldLinkNest RX7 211 "WhyNotJoin$PairList" "size" "I" "WhyNotJoin", Cond.methodLinkNest RX5 25 yX0_init "WhyNotJoin", Cond.fieldLinkNest RX7 212 "WhyNotJoin$FilterList" "stages" "[I" "WhyNotJoin", Cond.fieldLinkNest RX7 215 "WhyNotJoin$FilterList" "columns" "[I" "WhyNotJoin", Cond.fieldLinkNest RX7 218 "WhyNotJoin$FilterList" "operators" "[I" "WhyNotJoin", Cond.fieldLinkNest RX7 221 "WhyNotJoin$FilterList" "constants" "[I" "WhyNotJoin", Cond.fieldLinkNest RX7 89 "WhyNotJoin$FilterList" "size" "I" "WhyNotJoin", Cond.fieldLinkNest RX3 104 "WhyNotJoin$FilterList" "size" "I" "WhyNotJoin", Cond.fieldLinkNest RX7 48 "WhyNotJoin$State" "left" "LWhyNotJoin$PairList;" "WhyNotJoin", Cond.fieldLinkNest RX3 45 "WhyNotJoin$State" "left" "LWhyNotJoin$PairList;" "WhyNotJoin", Cond.fieldLinkNest RX7 64 "WhyNotJoin$State" "right" "LWhyNotJoin$PairList;" "WhyNotJoin", Cond.fieldLinkNest RX3 65 "WhyNotJoin$State" "right" "LWhyNotJoin$PairList;" "WhyNotJoin", Cond.fieldLinkNest RX3 25 "WhyNotJoin$State" "filters" "LWhyNotJoin$FilterList;" "WhyNotJoin", Cond.fieldLinkNest RX7 76 "WhyNotJoin$State" "filters" "LWhyNotJoin$FilterList;" "WhyNotJoin", Cond.fieldLinkNest RX3 141 "WhyNotJoin$State" "wishes" "LWhyNotJoin$PairList;" "WhyNotJoin", Cond.fieldLinkNest RX7 139 "WhyNotJoin$State" "wishes" "LWhyNotJoin$PairList;" "WhyNotJoin", Cond.fieldLinkNest RX7 16 "WhyNotJoin$Query" "state" "LWhyNotJoin$State;" "WhyNotJoin", Cond.fieldLinkNest RX7 224 "WhyNotJoin$Query" "matches" "[I" "WhyNotJoin", Cond.methodLinkNest RX1 17 yX5_init "WhyNotJoin", Cond.fieldLinkNest RX7 192 "WhyNotJoin$History" "depth" "I" "WhyNotJoin", Cond.methodLinkNest RX7 30 yX4_init "WhyNotJoin", Cond.methodLinkNest RX4 11 yX6_init "WhyNotJoin", Cond.fieldLinkNest RX4 39 "WhyNotJoin$Text" "length" "I" "WhyNotJoin", Cond.fieldLinkNest RX7 189 "WhyNotJoin$Text" "length" "I" "WhyNotJoin", Cond.fieldLinkNest RX7 35 "WhyNotJoin$Script" "text" "LWhyNotJoin$Text;" "WhyNotJoin", Cond.fieldLinkNest RX7 166 "WhyNotJoin$Script" "size" "I" "WhyNotJoin", Cond.fieldLinkNest RX7 163 "WhyNotJoin$Script" "position" "I" "WhyNotJoin", Cond.methodLinkNest RX2 34 yX7_isPair "WhyNotJoin", Cond.methodLinkNest RX0 57 yX7_isValue "WhyNotJoin", Cond.methodLinkNest RX3 74 yX7_isPair "WhyNotJoin", Cond.methodLinkNest RX3 94 yX7_isIn "WhyNotJoin"]
theorem nwC_in : ∀ w ∈ nwC, w ∈ lw_tbl := List.forall_mem_cons.mpr ⟨tw_c1 (List.mem_of_getElem? (i := 24) rfl), List.forall_mem_cons.mpr ⟨tw_c1 (List.mem_of_getElem? (i := 30) rfl), List.forall_mem_cons.mpr ⟨tw_c1 (List.mem_of_getElem? (i := 46) rfl), List.forall_mem_cons.mpr ⟨tw_c1 (List.mem_of_getElem? (i := 47) rfl), List.forall_mem_cons.mpr ⟨tw_c1 (List.mem_of_getElem? (i := 58) rfl), List.forall_mem_cons.mpr ⟨tw_c1 (List.mem_of_getElem? (i := 63) rfl), List.forall_mem_cons.mpr ⟨tw_c1 (List.mem_of_getElem? (i := 65) rfl), List.forall_mem_cons.mpr ⟨tw_c1 (List.mem_of_getElem? (i := 67) rfl), List.forall_mem_cons.mpr ⟨tw_c1 (List.mem_of_getElem? (i := 69) rfl), List.forall_mem_cons.mpr ⟨tw_c1 (List.mem_of_getElem? (i := 71) rfl), List.forall_mem_cons.mpr ⟨tw_c1 (List.mem_of_getElem? (i := 72) rfl), List.forall_mem_cons.mpr ⟨tw_c1 (List.mem_of_getElem? (i := 85) rfl), List.forall_mem_cons.mpr ⟨tw_c1 (List.mem_of_getElem? (i := 86) rfl), List.forall_mem_cons.mpr ⟨tw_c1 (List.mem_of_getElem? (i := 88) rfl), List.forall_mem_cons.mpr ⟨tw_c1 (List.mem_of_getElem? (i := 89) rfl), List.forall_mem_cons.mpr ⟨tw_c1 (List.mem_of_getElem? (i := 91) rfl), List.forall_mem_cons.mpr ⟨tw_c1 (List.mem_of_getElem? (i := 92) rfl), List.forall_mem_cons.mpr ⟨tw_c1 (List.mem_of_getElem? (i := 94) rfl), List.forall_mem_cons.mpr ⟨tw_c1 (List.mem_of_getElem? (i := 95) rfl), List.forall_mem_cons.mpr ⟨tw_c1 (List.mem_of_getElem? (i := 106) rfl), List.forall_mem_cons.mpr ⟨tw_c1 (List.mem_of_getElem? (i := 108) rfl), List.forall_mem_cons.mpr ⟨tw_c1 (List.mem_of_getElem? (i := 125) rfl), List.forall_mem_cons.mpr ⟨tw_c1 (List.mem_of_getElem? (i := 129) rfl), List.forall_mem_cons.mpr ⟨tw_c1 (List.mem_of_getElem? (i := 139) rfl), List.forall_mem_cons.mpr ⟨tw_c1 (List.mem_of_getElem? (i := 145) rfl), List.forall_mem_cons.mpr ⟨tw_c1 (List.mem_of_getElem? (i := 151) rfl), List.forall_mem_cons.mpr ⟨tw_c1 (List.mem_of_getElem? (i := 152) rfl), List.forall_mem_cons.mpr ⟨tw_c1 (List.mem_of_getElem? (i := 159) rfl), List.forall_mem_cons.mpr ⟨tw_c1 (List.mem_of_getElem? (i := 163) rfl), List.forall_mem_cons.mpr ⟨tw_c1 (List.mem_of_getElem? (i := 165) rfl), List.forall_mem_cons.mpr ⟨tw_c1 (List.mem_of_getElem? (i := 224) rfl), List.forall_mem_cons.mpr ⟨tw_c2 (List.mem_of_getElem? (i := 56) rfl), List.forall_mem_cons.mpr ⟨tw_c2 (List.mem_of_getElem? (i := 148) rfl), List.forall_mem_cons.mpr ⟨tw_c2 (List.mem_of_getElem? (i := 185) rfl), fun _ h => absurd h List.not_mem_nil⟩⟩⟩⟩⟩⟩⟩⟩⟩⟩⟩⟩⟩⟩⟩⟩⟩⟩⟩⟩⟩⟩⟩⟩⟩⟩⟩⟩⟩⟩⟩⟩⟩⟩
theorem nw_1_24 : Cond.methodLinkNest RX7 11 yX3_init "WhyNotJoin" ∈ nwC := List.mem_of_getElem? (i := 0) rfl
theorem nw_1_30 : Cond.methodLinkNest RX3 11 yX5_init "WhyNotJoin" ∈ nwC := List.mem_of_getElem? (i := 1) rfl
theorem nw_1_46 : Cond.fieldLinkNest RX3 49 "WhyNotJoin$PairList" "size" "I" "WhyNotJoin" ∈ nwC := List.mem_of_getElem? (i := 2) rfl
theorem nw_1_47 : Cond.fieldLinkNest RX7 211 "WhyNotJoin$PairList" "size" "I" "WhyNotJoin" ∈ nwC := List.mem_of_getElem? (i := 3) rfl
theorem nw_1_58 : Cond.methodLinkNest RX5 25 yX0_init "WhyNotJoin" ∈ nwC := List.mem_of_getElem? (i := 4) rfl
theorem nw_1_63 : Cond.fieldLinkNest RX7 212 "WhyNotJoin$FilterList" "stages" "[I" "WhyNotJoin" ∈ nwC := List.mem_of_getElem? (i := 5) rfl
theorem nw_1_65 : Cond.fieldLinkNest RX7 215 "WhyNotJoin$FilterList" "columns" "[I" "WhyNotJoin" ∈ nwC := List.mem_of_getElem? (i := 6) rfl
theorem nw_1_67 : Cond.fieldLinkNest RX7 218 "WhyNotJoin$FilterList" "operators" "[I" "WhyNotJoin" ∈ nwC := List.mem_of_getElem? (i := 7) rfl
theorem nw_1_69 : Cond.fieldLinkNest RX7 221 "WhyNotJoin$FilterList" "constants" "[I" "WhyNotJoin" ∈ nwC := List.mem_of_getElem? (i := 8) rfl
theorem nw_1_71 : Cond.fieldLinkNest RX7 89 "WhyNotJoin$FilterList" "size" "I" "WhyNotJoin" ∈ nwC := List.mem_of_getElem? (i := 9) rfl
theorem nw_1_72 : Cond.fieldLinkNest RX3 104 "WhyNotJoin$FilterList" "size" "I" "WhyNotJoin" ∈ nwC := List.mem_of_getElem? (i := 10) rfl
theorem nw_1_85 : Cond.fieldLinkNest RX7 48 "WhyNotJoin$State" "left" "LWhyNotJoin$PairList;" "WhyNotJoin" ∈ nwC := List.mem_of_getElem? (i := 11) rfl
theorem nw_1_86 : Cond.fieldLinkNest RX3 45 "WhyNotJoin$State" "left" "LWhyNotJoin$PairList;" "WhyNotJoin" ∈ nwC := List.mem_of_getElem? (i := 12) rfl
theorem nw_1_88 : Cond.fieldLinkNest RX7 64 "WhyNotJoin$State" "right" "LWhyNotJoin$PairList;" "WhyNotJoin" ∈ nwC := List.mem_of_getElem? (i := 13) rfl
theorem nw_1_89 : Cond.fieldLinkNest RX3 65 "WhyNotJoin$State" "right" "LWhyNotJoin$PairList;" "WhyNotJoin" ∈ nwC := List.mem_of_getElem? (i := 14) rfl
theorem nw_1_91 : Cond.fieldLinkNest RX3 25 "WhyNotJoin$State" "filters" "LWhyNotJoin$FilterList;" "WhyNotJoin" ∈ nwC := List.mem_of_getElem? (i := 15) rfl
theorem nw_1_92 : Cond.fieldLinkNest RX7 76 "WhyNotJoin$State" "filters" "LWhyNotJoin$FilterList;" "WhyNotJoin" ∈ nwC := List.mem_of_getElem? (i := 16) rfl
theorem nw_1_94 : Cond.fieldLinkNest RX3 141 "WhyNotJoin$State" "wishes" "LWhyNotJoin$PairList;" "WhyNotJoin" ∈ nwC := List.mem_of_getElem? (i := 17) rfl
theorem nw_1_95 : Cond.fieldLinkNest RX7 139 "WhyNotJoin$State" "wishes" "LWhyNotJoin$PairList;" "WhyNotJoin" ∈ nwC := List.mem_of_getElem? (i := 18) rfl
theorem nw_1_106 : Cond.fieldLinkNest RX7 16 "WhyNotJoin$Query" "state" "LWhyNotJoin$State;" "WhyNotJoin" ∈ nwC := List.mem_of_getElem? (i := 19) rfl
theorem nw_1_108 : Cond.fieldLinkNest RX7 224 "WhyNotJoin$Query" "matches" "[I" "WhyNotJoin" ∈ nwC := List.mem_of_getElem? (i := 20) rfl
theorem nw_1_125 : Cond.methodLinkNest RX1 17 yX5_init "WhyNotJoin" ∈ nwC := List.mem_of_getElem? (i := 21) rfl
theorem nw_1_129 : Cond.fieldLinkNest RX7 192 "WhyNotJoin$History" "depth" "I" "WhyNotJoin" ∈ nwC := List.mem_of_getElem? (i := 22) rfl
theorem nw_1_139 : Cond.methodLinkNest RX7 30 yX4_init "WhyNotJoin" ∈ nwC := List.mem_of_getElem? (i := 23) rfl
theorem nw_1_145 : Cond.methodLinkNest RX4 11 yX6_init "WhyNotJoin" ∈ nwC := List.mem_of_getElem? (i := 24) rfl
theorem nw_1_151 : Cond.fieldLinkNest RX4 39 "WhyNotJoin$Text" "length" "I" "WhyNotJoin" ∈ nwC := List.mem_of_getElem? (i := 25) rfl
theorem nw_1_152 : Cond.fieldLinkNest RX7 189 "WhyNotJoin$Text" "length" "I" "WhyNotJoin" ∈ nwC := List.mem_of_getElem? (i := 26) rfl
theorem nw_1_159 : Cond.fieldLinkNest RX7 35 "WhyNotJoin$Script" "text" "LWhyNotJoin$Text;" "WhyNotJoin" ∈ nwC := List.mem_of_getElem? (i := 27) rfl
theorem nw_1_163 : Cond.fieldLinkNest RX7 166 "WhyNotJoin$Script" "size" "I" "WhyNotJoin" ∈ nwC := List.mem_of_getElem? (i := 28) rfl
theorem nw_1_165 : Cond.fieldLinkNest RX7 163 "WhyNotJoin$Script" "position" "I" "WhyNotJoin" ∈ nwC := List.mem_of_getElem? (i := 29) rfl
theorem nw_1_224 : Cond.methodLinkNest RX2 34 yX7_isPair "WhyNotJoin" ∈ nwC := List.mem_of_getElem? (i := 30) rfl
theorem nw_2_56 : Cond.methodLinkNest RX0 57 yX7_isValue "WhyNotJoin" ∈ nwC := List.mem_of_getElem? (i := 31) rfl
theorem nw_2_148 : Cond.methodLinkNest RX3 74 yX7_isPair "WhyNotJoin" ∈ nwC := List.mem_of_getElem? (i := 32) rfl
theorem nw_2_185 : Cond.methodLinkNest RX3 94 yX7_isIn "WhyNotJoin" ∈ nwC := List.mem_of_getElem? (i := 33) rfl
theorem inX0 : ∀ w ∈ u_ws RX0 TX0 5, w ∈ lwT := (List.forall_mem_cons.mpr ⟨tw_1_73, List.forall_mem_cons.mpr ⟨tw_1_75, List.forall_mem_cons.mpr ⟨tw_1_77, List.forall_mem_cons.mpr ⟨tw_1_79, List.forall_mem_cons.mpr ⟨tw_1_81, fun _ h => absurd h List.not_mem_nil⟩⟩⟩⟩⟩ : ∀ w ∈ [Cond.laysFinal RX0 "WhyNotJoin$FilterList" "stages" "[I", Cond.laysFinal RX0 "WhyNotJoin$FilterList" "columns" "[I", Cond.laysFinal RX0 "WhyNotJoin$FilterList" "operators" "[I", Cond.laysFinal RX0 "WhyNotJoin$FilterList" "constants" "[I", Cond.lays RX0 "WhyNotJoin$FilterList" "size" "I"], w ∈ lwT)
theorem inX1 : ∀ w ∈ u_ws RX1 TX1 3, w ∈ lwT := (List.forall_mem_cons.mpr ⟨tw_1_130, List.forall_mem_cons.mpr ⟨tw_1_132, List.forall_mem_cons.mpr ⟨tw_1_134, fun _ h => absurd h List.not_mem_nil⟩⟩⟩ : ∀ w ∈ [Cond.laysFinal RX1 "WhyNotJoin$History" "slots" "[LWhyNotJoin$State;", Cond.lays RX1 "WhyNotJoin$History" "draftSlot" "I", Cond.lays RX1 "WhyNotJoin$History" "depth" "I"], w ∈ lwT)
theorem inX2 : ∀ w ∈ u_ws RX2 TX2 3, w ∈ lwT := (List.forall_mem_cons.mpr ⟨tw_1_48, List.forall_mem_cons.mpr ⟨tw_1_50, List.forall_mem_cons.mpr ⟨tw_1_52, fun _ h => absurd h List.not_mem_nil⟩⟩⟩ : ∀ w ∈ [Cond.laysFinal RX2 "WhyNotJoin$PairList" "pairs" "[I", Cond.laysFinal RX2 "WhyNotJoin$PairList" "limit" "I", Cond.lays RX2 "WhyNotJoin$PairList" "size" "I"], w ∈ lwT)
theorem inX3 : ∀ w ∈ u_ws RX3 TX3 3, w ∈ lwT := (List.forall_mem_cons.mpr ⟨tw_1_110, List.forall_mem_cons.mpr ⟨tw_1_112, List.forall_mem_cons.mpr ⟨tw_1_114, fun _ h => absurd h List.not_mem_nil⟩⟩⟩ : ∀ w ∈ [Cond.laysFinal RX3 "WhyNotJoin$Query" "state" "LWhyNotJoin$State;", Cond.laysFinal RX3 "WhyNotJoin$Query" "matches" "[I", Cond.laysFinal RX3 "WhyNotJoin$Query" "wishRejecters" "[I"], w ∈ lwT)
theorem inX4 : ∀ w ∈ u_ws RX4 TX4 5, w ∈ lwT := (List.forall_mem_cons.mpr ⟨tw_1_166, List.forall_mem_cons.mpr ⟨tw_1_168, List.forall_mem_cons.mpr ⟨tw_1_170, List.forall_mem_cons.mpr ⟨tw_1_172, List.forall_mem_cons.mpr ⟨tw_1_174, fun _ h => absurd h List.not_mem_nil⟩⟩⟩⟩⟩ : ∀ w ∈ [Cond.laysFinal RX4 "WhyNotJoin$Script" "text" "LWhyNotJoin$Text;", Cond.laysFinal RX4 "WhyNotJoin$Script" "letters" "[I", Cond.laysFinal RX4 "WhyNotJoin$Script" "numbers" "[I", Cond.lays RX4 "WhyNotJoin$Script" "size" "I", Cond.lays RX4 "WhyNotJoin$Script" "position" "I"], w ∈ lwT)
theorem inX5 : ∀ w ∈ u_ws RX5 TX5 4, w ∈ lwT := (List.forall_mem_cons.mpr ⟨tw_1_96, List.forall_mem_cons.mpr ⟨tw_1_98, List.forall_mem_cons.mpr ⟨tw_1_100, List.forall_mem_cons.mpr ⟨tw_1_102, fun _ h => absurd h List.not_mem_nil⟩⟩⟩⟩ : ∀ w ∈ [Cond.laysFinal RX5 "WhyNotJoin$State" "left" "LWhyNotJoin$PairList;", Cond.laysFinal RX5 "WhyNotJoin$State" "right" "LWhyNotJoin$PairList;", Cond.laysFinal RX5 "WhyNotJoin$State" "filters" "LWhyNotJoin$FilterList;", Cond.laysFinal RX5 "WhyNotJoin$State" "wishes" "LWhyNotJoin$PairList;"], w ∈ lwT)
theorem inX6 : ∀ w ∈ u_ws RX6 TX6 2, w ∈ lwT := (List.forall_mem_cons.mpr ⟨tw_1_153, List.forall_mem_cons.mpr ⟨tw_1_155, fun _ h => absurd h List.not_mem_nil⟩⟩ : ∀ w ∈ [Cond.laysFinal RX6 "WhyNotJoin$Text" "bytes" "[I", Cond.lays RX6 "WhyNotJoin$Text" "length" "I"], w ∈ lwT)
theorem inX7 : ∀ w ∈ u_ws RX7 TX7 6, w ∈ lwT := (List.forall_mem_cons.mpr ⟨tw_1_183, List.forall_mem_cons.mpr ⟨tw_1_185, List.forall_mem_cons.mpr ⟨tw_1_187, List.forall_mem_cons.mpr ⟨tw_1_189, List.forall_mem_cons.mpr ⟨tw_1_191, List.forall_mem_cons.mpr ⟨tw_1_193, fun _ h => absurd h List.not_mem_nil⟩⟩⟩⟩⟩⟩ : ∀ w ∈ [Cond.laysFinal RX7 "WhyNotJoin" "query" "LWhyNotJoin$Query;", Cond.laysFinal RX7 "WhyNotJoin" "state" "LWhyNotJoin$State;", Cond.laysFinal RX7 "WhyNotJoin" "history" "LWhyNotJoin$History;", Cond.laysFinal RX7 "WhyNotJoin" "script" "LWhyNotJoin$Script;", Cond.laysFinal RX7 "WhyNotJoin" "text" "LWhyNotJoin$Text;", Cond.laysFinal RX7 "WhyNotJoin" "errors" "[I"], w ∈ lwT)
theorem inX8 : ∀ w ∈ u_ws RX8 TX8 14, w ∈ lwT := (List.forall_mem_cons.mpr ⟨tw_3_216, List.forall_mem_cons.mpr ⟨tw_3_218, List.forall_mem_cons.mpr ⟨tw_3_220, List.forall_mem_cons.mpr ⟨tw_3_222, List.forall_mem_cons.mpr ⟨tw_3_224, List.forall_mem_cons.mpr ⟨tw_3_226, List.forall_mem_cons.mpr ⟨tw_3_228, List.forall_mem_cons.mpr ⟨tw_3_230, List.forall_mem_cons.mpr ⟨tw_3_232, List.forall_mem_cons.mpr ⟨tw_3_234, List.forall_mem_cons.mpr ⟨tw_3_236, List.forall_mem_cons.mpr ⟨tw_3_238, List.forall_mem_cons.mpr ⟨tw_4_0, List.forall_mem_cons.mpr ⟨tw_4_2, fun _ h => absurd h List.not_mem_nil⟩⟩⟩⟩⟩⟩⟩⟩⟩⟩⟩⟩⟩⟩ : ∀ w ∈ [Cond.laysFinal RX8 "WhyNotJoinModel" "s" "[I", Cond.laysFinal RX8 "WhyNotJoinModel" "ahead" "[I", Cond.laysFinal RX8 "WhyNotJoinModel" "past" "[I", Cond.lays RX8 "WhyNotJoinModel" "pasts" "I", Cond.laysFinal RX8 "WhyNotJoinModel" "errors" "[I", Cond.lays RX8 "WhyNotJoinModel" "isScript" "Z", Cond.laysFinal RX8 "WhyNotJoinModel" "text" "[B", Cond.lays RX8 "WhyNotJoinModel" "typed" "I", Cond.lays RX8 "WhyNotJoinModel" "remaining" "I", Cond.laysFinal RX8 "WhyNotJoinModel" "commands" "[I", Cond.lays RX8 "WhyNotJoinModel" "commandCount" "I", Cond.lays RX8 "WhyNotJoinModel" "at" "I", Cond.lays RX8 "WhyNotJoinModel" "isWrong" "Z", Cond.lays RX8 "WhyNotJoinModel" "hash" "J"], w ∈ lwT)
