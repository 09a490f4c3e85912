set_option maxRecDepth 20000 in
theorem mc_ACo_init : Cond.code m_ACo_init.1 m_ACo_init.2.1 m_ACo_init.2.2.1 m_ACo_init.2.2.2 ∈ gw := gw_t 52 rfl rfl
theorem pf_ACo_init : plainFor m_ACo_init.1 = true := by decide +kernel
set_option maxRecDepth 20000 in
theorem mc_AL_add1 : Cond.code m_AL_add1.1 m_AL_add1.2.1 m_AL_add1.2.2.1 m_AL_add1.2.2.2 ∈ gw := gw_t 189 rfl rfl
theorem pf_AL_add1 : plainFor m_AL_add1.1 = true := by decide +kernel
set_option maxRecDepth 20000 in
theorem mc_AL_add2 : Cond.code m_AL_add2.1 m_AL_add2.2.1 m_AL_add2.2.2.1 m_AL_add2.2.2.2 ∈ gw := gw_t 193 rfl rfl
theorem pf_AL_add2 : plainFor m_AL_add2.1 = true := by decide +kernel
set_option maxRecDepth 20000 in
theorem mc_AL_clear : Cond.code m_AL_clear.1 m_AL_clear.2.1 m_AL_clear.2.2.1 m_AL_clear.2.2.2 ∈ gw := gw_t 561 rfl rfl
theorem pf_AL_clear : plainFor m_AL_clear.1 = true := by decide +kernel
set_option maxRecDepth 20000 in
theorem mc_AL_elementData : Cond.code m_AL_elementData.1 m_AL_elementData.2.1 m_AL_elementData.2.2.1 m_AL_elementData.2.2.2 ∈ gw := gw_t 378 rfl rfl
theorem pf_AL_elementData : plainFor m_AL_elementData.1 = true := by decide +kernel
set_option maxRecDepth 20000 in
theorem mc_AL_get : Cond.code m_AL_get.1 m_AL_get.2.1 m_AL_get.2.2.1 m_AL_get.2.2.2 ∈ gw := gw_t 368 rfl rfl
theorem pf_AL_get : plainFor m_AL_get.1 = true := by decide +kernel
set_option maxRecDepth 20000 in
theorem mc_AL_grow1 : Cond.code m_AL_grow1.1 m_AL_grow1.2.1 m_AL_grow1.2.2.1 m_AL_grow1.2.2.2 ∈ gw := gw_t 197 rfl rfl
theorem pf_AL_grow1 : plainFor m_AL_grow1.1 = true := by decide +kernel
set_option maxRecDepth 20000 in
theorem mc_AL_grow2 : Cond.code m_AL_grow2.1 m_AL_grow2.2.1 m_AL_grow2.2.2.1 m_AL_grow2.2.2.2 ∈ gw := gw_t 201 rfl rfl
theorem pf_AL_grow2 : plainFor m_AL_grow2.1 = true := by decide +kernel
set_option maxRecDepth 20000 in
theorem mc_AL_init : Cond.code m_AL_init.1 m_AL_init.2.1 m_AL_init.2.2.1 m_AL_init.2.2.2 ∈ gw := gw_t 46 rfl rfl
theorem pf_AL_init : plainFor m_AL_init.1 = true := by decide +kernel
set_option maxRecDepth 20000 in
theorem mc_AL_size : Cond.code m_AL_size.1 m_AL_size.2.1 m_AL_size.2.2.1 m_AL_size.2.2.2 ∈ gw := gw_t 364 rfl rfl
theorem pf_AL_size : plainFor m_AL_size.1 = true := by decide +kernel
set_option maxRecDepth 20000 in
theorem mc_ALs_init : Cond.code m_ALs_init.1 m_ALs_init.2.1 m_ALs_init.2.2.1 m_ALs_init.2.2.2 ∈ gw := gw_t 49 rfl rfl
theorem pf_ALs_init : plainFor m_ALs_init.1 = true := by decide +kernel
set_option maxRecDepth 20000 in
theorem mc_ArS_hugeLength : Cond.code m_ArS_hugeLength.1 m_ArS_hugeLength.2.1 m_ArS_hugeLength.2.2.1 m_ArS_hugeLength.2.2.2 ∈ gw := gw_t 211 rfl rfl
theorem pf_ArS_hugeLength : plainFor m_ArS_hugeLength.1 = true := by decide +kernel
set_option maxRecDepth 20000 in
theorem mc_ArS_newLength : Cond.code m_ArS_newLength.1 m_ArS_newLength.2.1 m_ArS_newLength.2.2.1 m_ArS_newLength.2.2.2 ∈ gw := gw_t 204 rfl rfl
theorem pf_ArS_newLength : plainFor m_ArS_newLength.1 = true := by decide +kernel
set_option maxRecDepth 20000 in
theorem mc_Arr_copyOf1 : Cond.code m_Arr_copyOf1.1 m_Arr_copyOf1.2.1 m_Arr_copyOf1.2.2.1 m_Arr_copyOf1.2.2.2 ∈ gw := gw_t 214 rfl rfl
theorem pf_Arr_copyOf1 : plainFor m_Arr_copyOf1.1 = true := by decide +kernel
set_option maxRecDepth 20000 in
theorem mc_Arr_copyOf2 : Cond.code m_Arr_copyOf2.1 m_Arr_copyOf2.2.1 m_Arr_copyOf2.2.2.1 m_Arr_copyOf2.2.2.2 ∈ gw := gw_t 236 rfl rfl
theorem pf_Arr_copyOf2 : plainFor m_Arr_copyOf2.1 = true := by decide +kernel
set_option maxRecDepth 20000 in
theorem mc_Arr_fill1 : Cond.code m_Arr_fill1.1 m_Arr_fill1.2.1 m_Arr_fill1.2.2.1 m_Arr_fill1.2.2.2 ∈ gw := gw_t 605 rfl rfl
theorem pf_Arr_fill1 : plainFor m_Arr_fill1.1 = true := by decide +kernel
set_option maxRecDepth 20000 in
theorem mc_Arr_fill2 : Cond.code m_Arr_fill2.1 m_Arr_fill2.2.1 m_Arr_fill2.2.2.1 m_Arr_fill2.2.2.2 ∈ gw := gw_t 729 rfl rfl
theorem pf_Arr_fill2 : plainFor m_Arr_fill2.1 = true := by decide +kernel
set_option maxRecDepth 20000 in
theorem mc_Diary_begin : Cond.code m_Diary_begin.1 m_Diary_begin.2.1 m_Diary_begin.2.2.1 m_Diary_begin.2.2.2 ∈ gw := gw_t 574 rfl rfl
theorem pf_Diary_begin : plainFor m_Diary_begin.1 = true := by decide +kernel
set_option maxRecDepth 20000 in
theorem mc_Diary_init : Cond.code m_Diary_init.1 m_Diary_init.2.1 m_Diary_init.2.2.1 m_Diary_init.2.2.2 ∈ gw := gw_t 131 rfl rfl
theorem pf_Diary_init : plainFor m_Diary_init.1 = true := by decide +kernel
set_option maxRecDepth 20000 in
theorem mc_Diary_read : Cond.code m_Diary_read.1 m_Diary_read.2.1 m_Diary_read.2.2.1 m_Diary_read.2.2.2 ∈ gw := gw_t 975 rfl rfl
theorem pf_Diary_read : plainFor m_Diary_read.1 = true := by decide +kernel
set_option maxRecDepth 20000 in
theorem mc_Diary_write : Cond.code m_Diary_write.1 m_Diary_write.2.1 m_Diary_write.2.2.1 m_Diary_write.2.2.2 ∈ gw := gw_t 954 rfl rfl
theorem pf_Diary_write : plainFor m_Diary_write.1 = true := by decide +kernel
set_option maxRecDepth 20000 in
theorem mc_Group_begin : Cond.code m_Group_begin.1 m_Group_begin.2.1 m_Group_begin.2.2.1 m_Group_begin.2.2.2 ∈ gw := gw_t 934 rfl rfl
theorem pf_Group_begin : plainFor m_Group_begin.1 = true := by decide +kernel
set_option maxRecDepth 20000 in
theorem mc_Group_init : Cond.code m_Group_init.1 m_Group_init.2.1 m_Group_init.2.2.1 m_Group_init.2.2.2 ∈ gw := gw_t 159 rfl rfl
theorem pf_Group_init : plainFor m_Group_init.1 = true := by decide +kernel
set_option maxRecDepth 20000 in
theorem mc_Group_move : Cond.code m_Group_move.1 m_Group_move.2.1 m_Group_move.2.2.1 m_Group_move.2.2.2 ∈ gw := gw_t 950 rfl rfl
theorem pf_Group_move : plainFor m_Group_move.1 = true := by decide +kernel
set_option maxRecDepth 20000 in
theorem mc_Heap_begin : Cond.code m_Heap_begin.1 m_Heap_begin.2.1 m_Heap_begin.2.2.1 m_Heap_begin.2.2.2 ∈ gw := gw_t 726 rfl rfl
theorem pf_Heap_begin : plainFor m_Heap_begin.1 = true := by decide +kernel
set_option maxRecDepth 20000 in
theorem mc_Heap_codeAt : Cond.code m_Heap_codeAt.1 m_Heap_codeAt.2.1 m_Heap_codeAt.2.2.1 m_Heap_codeAt.2.2.2 ∈ gw := gw_t 743 rfl rfl
theorem pf_Heap_codeAt : plainFor m_Heap_codeAt.1 = true := by decide +kernel
set_option maxRecDepth 20000 in
theorem mc_Heap_init : Cond.code m_Heap_init.1 m_Heap_init.2.1 m_Heap_init.2.2.1 m_Heap_init.2.2.2 ∈ gw := gw_t 279 rfl rfl
theorem pf_Heap_init : plainFor m_Heap_init.1 = true := by decide +kernel
set_option maxRecDepth 20000 in
theorem mc_Heap_isEmpty : Cond.code m_Heap_isEmpty.1 m_Heap_isEmpty.2.1 m_Heap_isEmpty.2.2.1 m_Heap_isEmpty.2.2.2 ∈ gw := gw_t 755 rfl rfl
theorem pf_Heap_isEmpty : plainFor m_Heap_isEmpty.1 = true := by decide +kernel
set_option maxRecDepth 20000 in
theorem mc_Heap_lift : Cond.code m_Heap_lift.1 m_Heap_lift.2.1 m_Heap_lift.2.2.1 m_Heap_lift.2.2.2 ∈ gw := gw_t 739 rfl rfl
theorem pf_Heap_lift : plainFor m_Heap_lift.1 = true := by decide +kernel
set_option maxRecDepth 20000 in
theorem mc_Heap_offer : Cond.code m_Heap_offer.1 m_Heap_offer.2.1 m_Heap_offer.2.2.1 m_Heap_offer.2.2.2 ∈ gw := gw_t 735 rfl rfl
theorem pf_Heap_offer : plainFor m_Heap_offer.1 = true := by decide +kernel
set_option maxRecDepth 20000 in
theorem mc_Heap_place : Cond.code m_Heap_place.1 m_Heap_place.2.1 m_Heap_place.2.2.1 m_Heap_place.2.2.2 ∈ gw := gw_t 751 rfl rfl
theorem pf_Heap_place : plainFor m_Heap_place.1 = true := by decide +kernel
set_option maxRecDepth 20000 in
theorem mc_Heap_sink : Cond.code m_Heap_sink.1 m_Heap_sink.2.1 m_Heap_sink.2.2.1 m_Heap_sink.2.2.2 ∈ gw := gw_t 763 rfl rfl
theorem pf_Heap_sink : plainFor m_Heap_sink.1 = true := by decide +kernel
set_option maxRecDepth 20000 in
theorem mc_Heap_sumOf : Cond.code m_Heap_sumOf.1 m_Heap_sumOf.2.1 m_Heap_sumOf.2.2.1 m_Heap_sumOf.2.2.2 ∈ gw := gw_t 747 rfl rfl
theorem pf_Heap_sumOf : plainFor m_Heap_sumOf.1 = true := by decide +kernel
set_option maxRecDepth 20000 in
theorem mc_Heap_take : Cond.code m_Heap_take.1 m_Heap_take.2.1 m_Heap_take.2.2.1 m_Heap_take.2.2.2 ∈ gw := gw_t 759 rfl rfl
theorem pf_Heap_take : plainFor m_Heap_take.1 = true := by decide +kernel
set_option maxRecDepth 20000 in
theorem mc_House_addProp : Cond.code m_House_addProp.1 m_House_addProp.2.1 m_House_addProp.2.2.1 m_House_addProp.2.2.2 ∈ gw := gw_t 386 rfl rfl
theorem pf_House_addProp : plainFor m_House_addProp.1 = true := by decide +kernel
set_option maxRecDepth 20000 in
theorem mc_House_addStep : Cond.code m_House_addStep.1 m_House_addStep.2.1 m_House_addStep.2.2.1 m_House_addStep.2.2.2 ∈ gw := gw_t 485 rfl rfl
theorem pf_House_addStep : plainFor m_House_addStep.1 = true := by decide +kernel
set_option maxRecDepth 20000 in
theorem mc_House_canDo : Cond.code m_House_canDo.1 m_House_canDo.2.1 m_House_canDo.2.2.1 m_House_canDo.2.2.2 ∈ gw := gw_t 637 rfl rfl
theorem pf_House_canDo : plainFor m_House_canDo.1 = true := by decide +kernel
set_option maxRecDepth 20000 in
theorem mc_House_canMove : Cond.code m_House_canMove.1 m_House_canMove.2.1 m_House_canMove.2.2.1 m_House_canMove.2.2.2 ∈ gw := gw_t 704 rfl rfl
theorem pf_House_canMove : plainFor m_House_canMove.1 = true := by decide +kernel
set_option maxRecDepth 20000 in
theorem mc_House_codeAfter : Cond.code m_House_codeAfter.1 m_House_codeAfter.2.1 m_House_codeAfter.2.2.1 m_House_codeAfter.2.2.2 ∈ gw := gw_t 709 rfl rfl
theorem pf_House_codeAfter : plainFor m_House_codeAfter.1 = true := by decide +kernel
set_option maxRecDepth 20000 in
theorem mc_House_hasCode : Cond.code m_House_hasCode.1 m_House_hasCode.2.1 m_House_hasCode.2.2.1 m_House_hasCode.2.2.2 ∈ gw := gw_t 687 rfl rfl
theorem pf_House_hasCode : plainFor m_House_hasCode.1 = true := by decide +kernel
set_option maxRecDepth 20000 in
theorem mc_House_hasProp : Cond.code m_House_hasProp.1 m_House_hasProp.2.1 m_House_hasProp.2.2.1 m_House_hasProp.2.2.2 ∈ gw := gw_t 501 rfl rfl
theorem pf_House_hasProp : plainFor m_House_hasProp.1 = true := by decide +kernel
set_option maxRecDepth 20000 in
theorem mc_House_hasState : Cond.code m_House_hasState.1 m_House_hasState.2.1 m_House_hasState.2.2.1 m_House_hasState.2.2.2 ∈ gw := gw_t 497 rfl rfl
theorem pf_House_hasState : plainFor m_House_hasState.1 = true := by decide +kernel
set_option maxRecDepth 20000 in
theorem mc_House_hasStep : Cond.code m_House_hasStep.1 m_House_hasStep.2.1 m_House_hasStep.2.2.1 m_House_hasStep.2.2.2 ∈ gw := gw_t 493 rfl rfl
theorem pf_House_hasStep : plainFor m_House_hasStep.1 = true := by decide +kernel
set_option maxRecDepth 20000 in
theorem mc_House_init : Cond.code m_House_init.1 m_House_init.2.1 m_House_init.2.2.1 m_House_init.2.2.2 ∈ gw := gw_t 40 rfl rfl
theorem pf_House_init : plainFor m_House_init.1 = true := by decide +kernel
set_option maxRecDepth 20000 in
theorem mc_House_isAllOnceDone : Cond.code m_House_isAllOnceDone.1 m_House_isAllOnceDone.2.1 m_House_isAllOnceDone.2.2.1 m_House_isAllOnceDone.2.2.2 ∈ gw := gw_t 650 rfl rfl
theorem pf_House_isAllOnceDone : plainFor m_House_isAllOnceDone.1 = true := by decide +kernel
set_option maxRecDepth 20000 in
theorem mc_House_isEnd : Cond.code m_House_isEnd.1 m_House_isEnd.2.1 m_House_isEnd.2.2.1 m_House_isEnd.2.2.2 ∈ gw := gw_t 625 rfl rfl
theorem pf_House_isEnd : plainFor m_House_isEnd.1 = true := by decide +kernel
set_option maxRecDepth 20000 in
theorem mc_House_isLeanedOn : Cond.code m_House_isLeanedOn.1 m_House_isLeanedOn.2.1 m_House_isLeanedOn.2.2.1 m_House_isLeanedOn.2.2.2 ∈ gw := gw_t 925 rfl rfl
theorem pf_House_isLeanedOn : plainFor m_House_isLeanedOn.1 = true := by decide +kernel
set_option maxRecDepth 20000 in
theorem mc_House_isRuleSo : Cond.code m_House_isRuleSo.1 m_House_isRuleSo.2.1 m_House_isRuleSo.2.2.1 m_House_isRuleSo.2.2.2 ∈ gw := gw_t 920 rfl rfl
theorem pf_House_isRuleSo : plainFor m_House_isRuleSo.1 = true := by decide +kernel
set_option maxRecDepth 20000 in
theorem mc_House_isSo : Cond.code m_House_isSo.1 m_House_isSo.2.1 m_House_isSo.2.2.1 m_House_isSo.2.2.2 ∈ gw := gw_t 678 rfl rfl
theorem pf_House_isSo : plainFor m_House_isSo.1 = true := by decide +kernel
set_option maxRecDepth 20000 in
theorem mc_House_lies : Cond.code m_House_lies.1 m_House_lies.2.1 m_House_lies.2.2.1 m_House_lies.2.2.2 ∈ gw := gw_t 881 rfl rfl
theorem pf_House_lies : plainFor m_House_lies.1 = true := by decide +kernel
set_option maxRecDepth 20000 in
theorem mc_House_nextBack : Cond.code m_House_nextBack.1 m_House_nextBack.2.1 m_House_nextBack.2.2.1 m_House_nextBack.2.2.2 ∈ gw := gw_t 912 rfl rfl
theorem pf_House_nextBack : plainFor m_House_nextBack.1 = true := by decide +kernel
set_option maxRecDepth 20000 in
theorem mc_House_openSteps : Cond.code m_House_openSteps.1 m_House_openSteps.2.1 m_House_openSteps.2.2.1 m_House_openSteps.2.2.2 ∈ gw := gw_t 621 rfl rfl
theorem pf_House_openSteps : plainFor m_House_openSteps.1 = true := by decide +kernel
set_option maxRecDepth 20000 in
theorem mc_House_orderBack : Cond.code m_House_orderBack.1 m_House_orderBack.2.1 m_House_orderBack.2.2.1 m_House_orderBack.2.2.2 ∈ gw := gw_t 908 rfl rfl
theorem pf_House_orderBack : plainFor m_House_orderBack.1 = true := by decide +kernel
set_option maxRecDepth 20000 in
theorem mc_House_tearDown : Cond.code m_House_tearDown.1 m_House_tearDown.2.1 m_House_tearDown.2.2.1 m_House_tearDown.2.2.2 ∈ gw := gw_t 557 rfl rfl
theorem pf_House_tearDown : plainFor m_House_tearDown.1 = true := by decide +kernel
set_option maxRecDepth 20000 in
theorem mc_House_withExits : Cond.code m_House_withExits.1 m_House_withExits.2.1 m_House_withExits.2.2.1 m_House_withExits.2.2.2 ∈ gw := gw_t 967 rfl rfl
theorem pf_House_withExits : plainFor m_House_withExits.1 = true := by decide +kernel
set_option maxRecDepth 20000 in
theorem mc_Int_bitCount : Cond.code m_Int_bitCount.1 m_Int_bitCount.2.1 m_Int_bitCount.2.2.1 m_Int_bitCount.2.2.2 ∈ gw := gw_t 892 rfl rfl
theorem pf_Int_bitCount : plainFor m_Int_bitCount.1 = true := by decide +kernel
set_option maxRecDepth 20000 in
theorem mc_LH_act : Cond.code m_LH_act.1 m_LH_act.2.1 m_LH_act.2.2.1 m_LH_act.2.2.2 ∈ gw := gw_t 938 rfl rfl
theorem pf_LH_act : plainFor m_LH_act.1 = true := by decide +kernel
set_option maxRecDepth 20000 in
theorem mc_LH_alarm : Cond.code m_LH_alarm.1 m_LH_alarm.2.1 m_LH_alarm.2.2.1 m_LH_alarm.2.2.2 ∈ gw := gw_t 963 rfl rfl
theorem pf_LH_alarm : plainFor m_LH_alarm.1 = true := by decide +kernel
set_option maxRecDepth 20000 in
theorem mc_LH_areHands : Cond.code m_LH_areHands.1 m_LH_areHands.2.1 m_LH_areHands.2.2.1 m_LH_areHands.2.2.2 ∈ gw := gw_t 441 rfl rfl
theorem pf_LH_areHands : plainFor m_LH_areHands.1 = true := by decide +kernel
set_option maxRecDepth 20000 in
theorem mc_LH_back : Cond.code m_LH_back.1 m_LH_back.2.1 m_LH_back.2.2.1 m_LH_back.2.2.2 ∈ gw := gw_t 904 rfl rfl
theorem pf_LH_back : plainFor m_LH_back.1 = true := by decide +kernel
set_option maxRecDepth 20000 in
theorem mc_LH_behind : Cond.code m_LH_behind.1 m_LH_behind.2.1 m_LH_behind.2.2.1 m_LH_behind.2.2.2 ∈ gw := gw_t 700 rfl rfl
theorem pf_LH_behind : plainFor m_LH_behind.1 = true := by decide +kernel
set_option maxRecDepth 20000 in
theorem mc_LH_clear : Cond.code m_LH_clear.1 m_LH_clear.2.1 m_LH_clear.2.2.1 m_LH_clear.2.2.2 ∈ gw := gw_t 553 rfl rfl
theorem pf_LH_clear : plainFor m_LH_clear.1 = true := by decide +kernel
set_option maxRecDepth 20000 in
theorem mc_LH_comes : Cond.code m_LH_comes.1 m_LH_comes.2.1 m_LH_comes.2.2.1 m_LH_comes.2.2.2 ∈ gw := gw_t 683 rfl rfl
theorem pf_LH_comes : plainFor m_LH_comes.1 = true := by decide +kernel
set_option maxRecDepth 20000 in
theorem mc_LH_count : Cond.code m_LH_count.1 m_LH_count.2.1 m_LH_count.2.2.1 m_LH_count.2.2.2 ∈ gw := gw_t 578 rfl rfl
theorem pf_LH_count : plainFor m_LH_count.1 = true := by decide +kernel
set_option maxRecDepth 20000 in
theorem mc_LH_enter : Cond.code m_LH_enter.1 m_LH_enter.2.1 m_LH_enter.2.2.1 m_LH_enter.2.2.2 ∈ gw := gw_t 930 rfl rfl
theorem pf_LH_enter : plainFor m_LH_enter.1 = true := by decide +kernel
set_option maxRecDepth 20000 in
theorem mc_LH_exit : Cond.code m_LH_exit.1 m_LH_exit.2.1 m_LH_exit.2.2.1 m_LH_exit.2.2.2 ∈ gw := gw_t 549 rfl rfl
theorem pf_LH_exit : plainFor m_LH_exit.1 = true := by decide +kernel
set_option maxRecDepth 20000 in
theorem mc_LH_give : Cond.code m_LH_give.1 m_LH_give.2.1 m_LH_give.2.2.1 m_LH_give.2.2.2 ∈ gw := gw_t 527 rfl rfl
theorem pf_LH_give : plainFor m_LH_give.1 = true := by decide +kernel
set_option maxRecDepth 20000 in
theorem mc_LH_goal : Cond.code m_LH_goal.1 m_LH_goal.2.1 m_LH_goal.2.2.1 m_LH_goal.2.2.2 ∈ gw := gw_t 536 rfl rfl
theorem pf_LH_goal : plainFor m_LH_goal.1 = true := by decide +kernel
set_option maxRecDepth 20000 in
theorem mc_LH_group : Cond.code m_LH_group.1 m_LH_group.2.1 m_LH_group.2.2.1 m_LH_group.2.2.2 ∈ gw := gw_t 1060 rfl rfl
theorem pf_LH_group : plainFor m_LH_group.1 = true := by decide +kernel
set_option maxRecDepth 20000 in
theorem mc_LH_hands : Cond.code m_LH_hands.1 m_LH_hands.2.1 m_LH_hands.2.2.1 m_LH_hands.2.2.2 ∈ gw := gw_t 540 rfl rfl
theorem pf_LH_hands : plainFor m_LH_hands.1 = true := by decide +kernel
set_option maxRecDepth 20000 in
theorem mc_LH_hint : Cond.code m_LH_hint.1 m_LH_hint.2.1 m_LH_hint.2.2.1 m_LH_hint.2.2.2 ∈ gw := gw_t 793 rfl rfl
theorem pf_LH_hint : plainFor m_LH_hint.1 = true := by decide +kernel
set_option maxRecDepth 20000 in
theorem mc_LH_idle : Cond.code m_LH_idle.1 m_LH_idle.2.1 m_LH_idle.2.2.1 m_LH_idle.2.2.2 ∈ gw := gw_t 861 rfl rfl
theorem pf_LH_idle : plainFor m_LH_idle.1 = true := by decide +kernel
set_option maxRecDepth 20000 in
theorem mc_LH_init : Cond.code m_LH_init.1 m_LH_init.2.1 m_LH_init.2.2.1 m_LH_init.2.2.2 ∈ gw := gw_t 32 rfl rfl
theorem pf_LH_init : plainFor m_LH_init.1 = true := by decide +kernel
set_option maxRecDepth 20000 in
theorem mc_LH_isTaken : Cond.code m_LH_isTaken.1 m_LH_isTaken.2.1 m_LH_isTaken.2.2.1 m_LH_isTaken.2.2.2 ∈ gw := gw_t 946 rfl rfl
theorem pf_LH_isTaken : plainFor m_LH_isTaken.1 = true := by decide +kernel
set_option maxRecDepth 20000 in
theorem mc_LH_least : Cond.code m_LH_least.1 m_LH_least.2.1 m_LH_least.2.2.1 m_LH_least.2.2.2 ∈ gw := gw_t 714 rfl rfl
theorem pf_LH_least : plainFor m_LH_least.1 = true := by decide +kernel
set_option maxRecDepth 20000 in
theorem mc_LH_leave : Cond.code m_LH_leave.1 m_LH_leave.2.1 m_LH_leave.2.2.1 m_LH_leave.2.2.2 ∈ gw := gw_t 959 rfl rfl
theorem pf_LH_leave : plainFor m_LH_leave.1 = true := by decide +kernel
set_option maxRecDepth 20000 in
theorem mc_LH_liars : Cond.code m_LH_liars.1 m_LH_liars.2.1 m_LH_liars.2.2.1 m_LH_liars.2.2.2 ∈ gw := gw_t 873 rfl rfl
theorem pf_LH_liars : plainFor m_LH_liars.1 = true := by decide +kernel
set_option maxRecDepth 20000 in
theorem mc_LH_log : Cond.code m_LH_log.1 m_LH_log.2.1 m_LH_log.2.2.1 m_LH_log.2.2.2 ∈ gw := gw_t 971 rfl rfl
theorem pf_LH_log : plainFor m_LH_log.1 = true := by decide +kernel
set_option maxRecDepth 20000 in
theorem mc_LH_longest : Cond.code m_LH_longest.1 m_LH_longest.2.1 m_LH_longest.2.2.1 m_LH_longest.2.2.2 ∈ gw := gw_t 811 rfl rfl
theorem pf_LH_longest : plainFor m_LH_longest.1 = true := by decide +kernel
set_option maxRecDepth 20000 in
theorem mc_LH_lost : Cond.code m_LH_lost.1 m_LH_lost.2.1 m_LH_lost.2.2.1 m_LH_lost.2.2.2 ∈ gw := gw_t 849 rfl rfl
theorem pf_LH_lost : plainFor m_LH_lost.1 = true := by decide +kernel
set_option maxRecDepth 20000 in
theorem mc_LH_measured : Cond.code m_LH_measured.1 m_LH_measured.2.1 m_LH_measured.2.2.1 m_LH_measured.2.2.2 ∈ gw := gw_t 718 rfl rfl
theorem pf_LH_measured : plainFor m_LH_measured.1 = true := by decide +kernel
set_option maxRecDepth 20000 in
theorem mc_LH_must : Cond.code m_LH_must.1 m_LH_must.2.1 m_LH_must.2.2.1 m_LH_must.2.2.2 ∈ gw := gw_t 853 rfl rfl
theorem pf_LH_must : plainFor m_LH_must.1 = true := by decide +kernel
set_option maxRecDepth 20000 in
theorem mc_LH_need : Cond.code m_LH_need.1 m_LH_need.2.1 m_LH_need.2.2.1 m_LH_need.2.2.2 ∈ gw := gw_t 489 rfl rfl
theorem pf_LH_need : plainFor m_LH_need.1 = true := by decide +kernel
set_option maxRecDepth 20000 in
theorem mc_LH_open : Cond.code m_LH_open.1 m_LH_open.2.1 m_LH_open.2.2.1 m_LH_open.2.2.2 ∈ gw := gw_t 695 rfl rfl
theorem pf_LH_open : plainFor m_LH_open.1 = true := by decide +kernel
set_option maxRecDepth 20000 in
theorem mc_LH_part : Cond.code m_LH_part.1 m_LH_part.2.1 m_LH_part.2.2.1 m_LH_part.2.2.2 ∈ gw := gw_t 986 rfl rfl
theorem pf_LH_part : plainFor m_LH_part.1 = true := by decide +kernel
set_option maxRecDepth 20000 in
theorem mc_LH_playing : Cond.code m_LH_playing.1 m_LH_playing.2.1 m_LH_playing.2.2.1 m_LH_playing.2.2.2 ∈ gw := gw_t 360 rfl rfl
theorem pf_LH_playing : plainFor m_LH_playing.1 = true := by decide +kernel
set_option maxRecDepth 20000 in
theorem mc_LH_plays : Cond.code m_LH_plays.1 m_LH_plays.2.1 m_LH_plays.2.2.1 m_LH_plays.2.2.2 ∈ gw := gw_t 942 rfl rfl
theorem pf_LH_plays : plainFor m_LH_plays.1 = true := by decide +kernel
set_option maxRecDepth 20000 in
theorem mc_LH_prop : Cond.code m_LH_prop.1 m_LH_prop.2.1 m_LH_prop.2.2.1 m_LH_prop.2.2.2 ∈ gw := gw_t 356 rfl rfl
theorem pf_LH_prop : plainFor m_LH_prop.1 = true := by decide +kernel
set_option maxRecDepth 20000 in
theorem mc_LH_reached : Cond.code m_LH_reached.1 m_LH_reached.2.1 m_LH_reached.2.2.1 m_LH_reached.2.2.2 ∈ gw := gw_t 586 rfl rfl
theorem pf_LH_reached : plainFor m_LH_reached.1 = true := by decide +kernel
set_option maxRecDepth 20000 in
theorem mc_LH_reading : Cond.code m_LH_reading.1 m_LH_reading.2.1 m_LH_reading.2.2.1 m_LH_reading.2.2.2 ∈ gw := gw_t 869 rfl rfl
theorem pf_LH_reading : plainFor m_LH_reading.1 = true := by decide +kernel
set_option maxRecDepth 20000 in
theorem mc_LH_row : Cond.code m_LH_row.1 m_LH_row.2.1 m_LH_row.2.2.1 m_LH_row.2.2.2 ∈ gw := gw_t 1070 rfl rfl
theorem pf_LH_row : plainFor m_LH_row.1 = true := by decide +kernel
set_option maxRecDepth 20000 in
theorem mc_LH_rule : Cond.code m_LH_rule.1 m_LH_rule.2.1 m_LH_rule.2.2.1 m_LH_rule.2.2.2 ∈ gw := gw_t 544 rfl rfl
theorem pf_LH_rule : plainFor m_LH_rule.1 = true := by decide +kernel
set_option maxRecDepth 20000 in
theorem mc_LH_step : Cond.code m_LH_step.1 m_LH_step.2.1 m_LH_step.2.2.1 m_LH_step.2.2.2 ∈ gw := gw_t 438 rfl rfl
theorem pf_LH_step : plainFor m_LH_step.1 = true := by decide +kernel
set_option maxRecDepth 20000 in
theorem mc_LH_trap : Cond.code m_LH_trap.1 m_LH_trap.2.1 m_LH_trap.2.2.1 m_LH_trap.2.2.2 ∈ gw := gw_t 832 rfl rfl
theorem pf_LH_trap : plainFor m_LH_trap.1 = true := by decide +kernel
set_option maxRecDepth 20000 in
theorem mc_LH_walked : Cond.code m_LH_walked.1 m_LH_walked.2.1 m_LH_walked.2.2.1 m_LH_walked.2.2.2 ∈ gw := gw_t 590 rfl rfl
theorem pf_LH_walked : plainFor m_LH_walked.1 = true := by decide +kernel
set_option maxRecDepth 20000 in
theorem mc_LH_way : Cond.code m_LH_way.1 m_LH_way.2.1 m_LH_way.2.2.1 m_LH_way.2.2.2 ∈ gw := gw_t 803 rfl rfl
theorem pf_LH_way : plainFor m_LH_way.1 = true := by decide +kernel
set_option maxRecDepth 20000 in
theorem mc_LH_widen : Cond.code m_LH_widen.1 m_LH_widen.2.1 m_LH_widen.2.2.1 m_LH_widen.2.2.2 ∈ gw := gw_t 594 rfl rfl
theorem pf_LH_widen : plainFor m_LH_widen.1 = true := by decide +kernel
theorem pf_Law_group : plainFor m_Law_group.1 = true := by decide +kernel
theorem pf_Law_law : plainFor m_Law_law.1 = true := by decide +kernel
theorem pf_Law_part : plainFor m_Law_part.1 = true := by decide +kernel
theorem pf_Law_row : plainFor m_Law_row.1 = true := by decide +kernel
set_option maxRecDepth 20000 in
theorem mc_Line_begin : Cond.code m_Line_begin.1 m_Line_begin.2.1 m_Line_begin.2.2.1 m_Line_begin.2.2.2 ∈ gw := gw_t 602 rfl rfl
theorem pf_Line_begin : plainFor m_Line_begin.1 = true := by decide +kernel
set_option maxRecDepth 20000 in
theorem mc_Line_codeAt : Cond.code m_Line_codeAt.1 m_Line_codeAt.2.1 m_Line_codeAt.2.2.1 m_Line_codeAt.2.2.2 ∈ gw := gw_t 613 rfl rfl
theorem pf_Line_codeAt : plainFor m_Line_codeAt.1 = true := by decide +kernel
set_option maxRecDepth 20000 in
theorem mc_Line_has : Cond.code m_Line_has.1 m_Line_has.2.1 m_Line_has.2.2.1 m_Line_has.2.2.2 ∈ gw := gw_t 691 rfl rfl
theorem pf_Line_has : plainFor m_Line_has.1 = true := by decide +kernel
set_option maxRecDepth 20000 in
theorem mc_Line_init : Cond.code m_Line_init.1 m_Line_init.2.1 m_Line_init.2.2.1 m_Line_init.2.2.2 ∈ gw := gw_t 259 rfl rfl
theorem pf_Line_init : plainFor m_Line_init.1 = true := by decide +kernel
set_option maxRecDepth 20000 in
theorem mc_Line_join : Cond.code m_Line_join.1 m_Line_join.2.1 m_Line_join.2.2.1 m_Line_join.2.2.2 ∈ gw := gw_t 609 rfl rfl
theorem pf_Line_join : plainFor m_Line_join.1 = true := by decide +kernel
set_option maxRecDepth 20000 in
theorem mc_Math_floorMod : Cond.code m_Math_floorMod.1 m_Math_floorMod.2.1 m_Math_floorMod.2.2.1 m_Math_floorMod.2.2.2 ∈ gw := gw_t 978 rfl rfl
theorem pf_Math_floorMod : plainFor m_Math_floorMod.1 = true := by decide +kernel
set_option maxRecDepth 20000 in
theorem mc_Math_max : Cond.code m_Math_max.1 m_Math_max.2.1 m_Math_max.2.2.1 m_Math_max.2.2.2 ∈ gw := gw_t 207 rfl rfl
theorem pf_Math_max : plainFor m_Math_max.1 = true := by decide +kernel
set_option maxRecDepth 20000 in
theorem mc_Math_min : Cond.code m_Math_min.1 m_Math_min.2.1 m_Math_min.2.2.1 m_Math_min.2.2.2 ∈ gw := gw_t 242 rfl rfl
theorem pf_Math_min : plainFor m_Math_min.1 = true := by decide +kernel
set_option maxRecDepth 20000 in
theorem mc_Mod_act : Cond.code m_Mod_act.1 m_Mod_act.2.1 m_Mod_act.2.2.1 m_Mod_act.2.2.2 ∈ gw := gw_t 1485 rfl rfl
theorem pf_Mod_act : plainFor m_Mod_act.1 = true := by decide +kernel
set_option maxRecDepth 20000 in
theorem mc_Mod_alarm : Cond.code m_Mod_alarm.1 m_Mod_alarm.2.1 m_Mod_alarm.2.2.1 m_Mod_alarm.2.2.2 ∈ gw := gw_t 1502 rfl rfl
theorem pf_Mod_alarm : plainFor m_Mod_alarm.1 = true := by decide +kernel
set_option maxRecDepth 20000 in
theorem mc_Mod_allCodes : Cond.code m_Mod_allCodes.1 m_Mod_allCodes.2.1 m_Mod_allCodes.2.2.1 m_Mod_allCodes.2.2.2 ∈ gw := gw_t 1263 rfl rfl
theorem pf_Mod_allCodes : plainFor m_Mod_allCodes.1 = true := by decide +kernel
set_option maxRecDepth 20000 in
theorem mc_Mod_allOnce : Cond.code m_Mod_allOnce.1 m_Mod_allOnce.2.1 m_Mod_allOnce.2.2.1 m_Mod_allOnce.2.2.2 ∈ gw := gw_t 1362 rfl rfl
theorem pf_Mod_allOnce : plainFor m_Mod_allOnce.1 = true := by decide +kernel
set_option maxRecDepth 20000 in
theorem mc_Mod_asTold : Cond.code m_Mod_asTold.1 m_Mod_asTold.2.1 m_Mod_asTold.2.2.1 m_Mod_asTold.2.2.2 ∈ gw := gw_t 1469 rfl rfl
theorem pf_Mod_asTold : plainFor m_Mod_asTold.1 = true := by decide +kernel
set_option maxRecDepth 20000 in
theorem mc_Mod_back : Cond.code m_Mod_back.1 m_Mod_back.2.1 m_Mod_back.2.2.1 m_Mod_back.2.2.2 ∈ gw := gw_t 1473 rfl rfl
theorem pf_Mod_back : plainFor m_Mod_back.1 = true := by decide +kernel
set_option maxRecDepth 20000 in
theorem mc_Mod_behind : Cond.code m_Mod_behind.1 m_Mod_behind.2.1 m_Mod_behind.2.2.1 m_Mod_behind.2.2.2 ∈ gw := gw_t 1407 rfl rfl
theorem pf_Mod_behind : plainFor m_Mod_behind.1 = true := by decide +kernel
set_option maxRecDepth 20000 in
theorem mc_Mod_clear : Cond.code m_Mod_clear.1 m_Mod_clear.2.1 m_Mod_clear.2.2.1 m_Mod_clear.2.2.2 ∈ gw := gw_t 1314 rfl rfl
theorem pf_Mod_clear : plainFor m_Mod_clear.1 = true := by decide +kernel
set_option maxRecDepth 20000 in
theorem mc_Mod_comes : Cond.code m_Mod_comes.1 m_Mod_comes.2.1 m_Mod_comes.2.2.1 m_Mod_comes.2.2.2 ∈ gw := gw_t 1391 rfl rfl
theorem pf_Mod_comes : plainFor m_Mod_comes.1 = true := by decide +kernel
set_option maxRecDepth 20000 in
theorem mc_Mod_count : Cond.code m_Mod_count.1 m_Mod_count.2.1 m_Mod_count.2.2.1 m_Mod_count.2.2.2 ∈ gw := gw_t 1326 rfl rfl
theorem pf_Mod_count : plainFor m_Mod_count.1 = true := by decide +kernel
set_option maxRecDepth 20000 in
theorem mc_Mod_done : Cond.code m_Mod_done.1 m_Mod_done.2.1 m_Mod_done.2.2.1 m_Mod_done.2.2.2 ∈ gw := gw_t 1342 rfl rfl
theorem pf_Mod_done : plainFor m_Mod_done.1 = true := by decide +kernel
set_option maxRecDepth 20000 in
theorem mc_Mod_enter : Cond.code m_Mod_enter.1 m_Mod_enter.2.1 m_Mod_enter.2.2.1 m_Mod_enter.2.2.2 ∈ gw := gw_t 1481 rfl rfl
theorem pf_Mod_enter : plainFor m_Mod_enter.1 = true := by decide +kernel
set_option maxRecDepth 20000 in
theorem mc_Mod_exit : Cond.code m_Mod_exit.1 m_Mod_exit.2.1 m_Mod_exit.2.2.1 m_Mod_exit.2.2.2 ∈ gw := gw_t 1310 rfl rfl
theorem pf_Mod_exit : plainFor m_Mod_exit.1 = true := by decide +kernel
set_option maxRecDepth 20000 in
theorem mc_Mod_fresh : Cond.code m_Mod_fresh.1 m_Mod_fresh.2.1 m_Mod_fresh.2.2.1 m_Mod_fresh.2.2.2 ∈ gw := gw_t 1338 rfl rfl
theorem pf_Mod_fresh : plainFor m_Mod_fresh.1 = true := by decide +kernel
set_option maxRecDepth 20000 in
theorem mc_Mod_give : Cond.code m_Mod_give.1 m_Mod_give.2.1 m_Mod_give.2.2.1 m_Mod_give.2.2.2 ∈ gw := gw_t 1294 rfl rfl
theorem pf_Mod_give : plainFor m_Mod_give.1 = true := by decide +kernel
set_option maxRecDepth 20000 in
theorem mc_Mod_goal : Cond.code m_Mod_goal.1 m_Mod_goal.2.1 m_Mod_goal.2.2.1 m_Mod_goal.2.2.2 ∈ gw := gw_t 1298 rfl rfl
theorem pf_Mod_goal : plainFor m_Mod_goal.1 = true := by decide +kernel
set_option maxRecDepth 20000 in
theorem mc_Mod_group : Cond.code m_Mod_group.1 m_Mod_group.2.1 m_Mod_group.2.2.1 m_Mod_group.2.2.2 ∈ gw := gw_t 1493 rfl rfl
theorem pf_Mod_group : plainFor m_Mod_group.1 = true := by decide +kernel
set_option maxRecDepth 20000 in
theorem mc_Mod_hands : Cond.code m_Mod_hands.1 m_Mod_hands.2.1 m_Mod_hands.2.2.1 m_Mod_hands.2.2.2 ∈ gw := gw_t 1302 rfl rfl
theorem pf_Mod_hands : plainFor m_Mod_hands.1 = true := by decide +kernel
set_option maxRecDepth 20000 in
theorem mc_Mod_hasNeeds : Cond.code m_Mod_hasNeeds.1 m_Mod_hasNeeds.2.1 m_Mod_hasNeeds.2.2.1 m_Mod_hasNeeds.2.2.2 ∈ gw := gw_t 1354 rfl rfl
theorem pf_Mod_hasNeeds : plainFor m_Mod_hasNeeds.1 = true := by decide +kernel
set_option maxRecDepth 20000 in
theorem mc_Mod_hint : Cond.code m_Mod_hint.1 m_Mod_hint.2.1 m_Mod_hint.2.2.1 m_Mod_hint.2.2.2 ∈ gw := gw_t 1419 rfl rfl
theorem pf_Mod_hint : plainFor m_Mod_hint.1 = true := by decide +kernel
set_option maxRecDepth 20000 in
theorem mc_Mod_hinted : Cond.code m_Mod_hinted.1 m_Mod_hinted.2.1 m_Mod_hinted.2.2.1 m_Mod_hinted.2.2.2 ∈ gw := gw_t 1423 rfl rfl
theorem pf_Mod_hinted : plainFor m_Mod_hinted.1 = true := by decide +kernel
set_option maxRecDepth 20000 in
theorem mc_Mod_idle : Cond.code m_Mod_idle.1 m_Mod_idle.2.1 m_Mod_idle.2.2.1 m_Mod_idle.2.2.2 ∈ gw := gw_t 1453 rfl rfl
theorem pf_Mod_idle : plainFor m_Mod_idle.1 = true := by decide +kernel
set_option maxRecDepth 20000 in
theorem mc_Mod_in : Cond.code m_Mod_in.1 m_Mod_in.2.1 m_Mod_in.2.2.1 m_Mod_in.2.2.2 ∈ gw := gw_t 1259 rfl rfl
theorem pf_Mod_in : plainFor m_Mod_in.1 = true := by decide +kernel
set_option maxRecDepth 20000 in
theorem mc_Mod_init : Cond.code m_Mod_init.1 m_Mod_init.2.1 m_Mod_init.2.2.1 m_Mod_init.2.2.2 ∈ gw := gw_t 1076 rfl rfl
theorem pf_Mod_init : plainFor m_Mod_init.1 = true := by decide +kernel
set_option maxRecDepth 20000 in
theorem mc_Mod_isCode : Cond.code m_Mod_isCode.1 m_Mod_isCode.2.1 m_Mod_isCode.2.2.1 m_Mod_isCode.2.2.2 ∈ gw := gw_t 1395 rfl rfl
theorem pf_Mod_isCode : plainFor m_Mod_isCode.1 = true := by decide +kernel
set_option maxRecDepth 20000 in
theorem mc_Mod_isEnd : Cond.code m_Mod_isEnd.1 m_Mod_isEnd.2.1 m_Mod_isEnd.2.2.1 m_Mod_isEnd.2.2.2 ∈ gw := gw_t 1346 rfl rfl
theorem pf_Mod_isEnd : plainFor m_Mod_isEnd.1 = true := by decide +kernel
set_option maxRecDepth 20000 in
theorem mc_Mod_isGroup : Cond.code m_Mod_isGroup.1 m_Mod_isGroup.2.1 m_Mod_isGroup.2.2.1 m_Mod_isGroup.2.2.2 ∈ gw := gw_t 1489 rfl rfl
theorem pf_Mod_isGroup : plainFor m_Mod_isGroup.1 = true := by decide +kernel
set_option maxRecDepth 20000 in
theorem mc_Mod_isOnce : Cond.code m_Mod_isOnce.1 m_Mod_isOnce.2.1 m_Mod_isOnce.2.2.1 m_Mod_isOnce.2.2.2 ∈ gw := gw_t 1266 rfl rfl
theorem pf_Mod_isOnce : plainFor m_Mod_isOnce.1 = true := by decide +kernel
set_option maxRecDepth 20000 in
theorem mc_Mod_isOpen : Cond.code m_Mod_isOpen.1 m_Mod_isOpen.2.1 m_Mod_isOpen.2.2.1 m_Mod_isOpen.2.2.2 ∈ gw := gw_t 1415 rfl rfl
theorem pf_Mod_isOpen : plainFor m_Mod_isOpen.1 = true := by decide +kernel
set_option maxRecDepth 20000 in
theorem mc_Mod_isPair : Cond.code m_Mod_isPair.1 m_Mod_isPair.2.1 m_Mod_isPair.2.2.1 m_Mod_isPair.2.2.2 ∈ gw := gw_t 1286 rfl rfl
theorem pf_Mod_isPair : plainFor m_Mod_isPair.1 = true := by decide +kernel
set_option maxRecDepth 20000 in
theorem mc_Mod_isProp : Cond.code m_Mod_isProp.1 m_Mod_isProp.2.1 m_Mod_isProp.2.2.1 m_Mod_isProp.2.2.2 ∈ gw := gw_t 1290 rfl rfl
theorem pf_Mod_isProp : plainFor m_Mod_isProp.1 = true := by decide +kernel
set_option maxRecDepth 20000 in
theorem mc_Mod_isPutBack : Cond.code m_Mod_isPutBack.1 m_Mod_isPutBack.2.1 m_Mod_isPutBack.2.2.1 m_Mod_isPutBack.2.2.2 ∈ gw := gw_t 1477 rfl rfl
theorem pf_Mod_isPutBack : plainFor m_Mod_isPutBack.1 = true := by decide +kernel
set_option maxRecDepth 20000 in
theorem mc_Mod_isStep : Cond.code m_Mod_isStep.1 m_Mod_isStep.2.1 m_Mod_isStep.2.2.1 m_Mod_isStep.2.2.2 ∈ gw := gw_t 1282 rfl rfl
theorem pf_Mod_isStep : plainFor m_Mod_isStep.1 = true := by decide +kernel
set_option maxRecDepth 20000 in
theorem mc_Mod_least : Cond.code m_Mod_least.1 m_Mod_least.2.1 m_Mod_least.2.2.1 m_Mod_least.2.2.2 ∈ gw := gw_t 1411 rfl rfl
theorem pf_Mod_least : plainFor m_Mod_least.1 = true := by decide +kernel
set_option maxRecDepth 20000 in
theorem mc_Mod_leave : Cond.code m_Mod_leave.1 m_Mod_leave.2.1 m_Mod_leave.2.2.1 m_Mod_leave.2.2.2 ∈ gw := gw_t 1498 rfl rfl
theorem pf_Mod_leave : plainFor m_Mod_leave.1 = true := by decide +kernel
set_option maxRecDepth 20000 in
theorem mc_Mod_liars : Cond.code m_Mod_liars.1 m_Mod_liars.2.1 m_Mod_liars.2.2.1 m_Mod_liars.2.2.2 ∈ gw := gw_t 1461 rfl rfl
theorem pf_Mod_liars : plainFor m_Mod_liars.1 = true := by decide +kernel
set_option maxRecDepth 20000 in
theorem mc_Mod_log : Cond.code m_Mod_log.1 m_Mod_log.2.1 m_Mod_log.2.2.1 m_Mod_log.2.2.2 ∈ gw := gw_t 1506 rfl rfl
theorem pf_Mod_log : plainFor m_Mod_log.1 = true := by decide +kernel
set_option maxRecDepth 20000 in
theorem mc_Mod_longest : Cond.code m_Mod_longest.1 m_Mod_longest.2.1 m_Mod_longest.2.2.1 m_Mod_longest.2.2.2 ∈ gw := gw_t 1435 rfl rfl
theorem pf_Mod_longest : plainFor m_Mod_longest.1 = true := by decide +kernel
set_option maxRecDepth 20000 in
theorem mc_Mod_lost : Cond.code m_Mod_lost.1 m_Mod_lost.2.1 m_Mod_lost.2.2.1 m_Mod_lost.2.2.2 ∈ gw := gw_t 1440 rfl rfl
theorem pf_Mod_lost : plainFor m_Mod_lost.1 = true := by decide +kernel
set_option maxRecDepth 20000 in
theorem mc_Mod_lying : Cond.code m_Mod_lying.1 m_Mod_lying.2.1 m_Mod_lying.2.2.1 m_Mod_lying.2.2.2 ∈ gw := gw_t 1465 rfl rfl
theorem pf_Mod_lying : plainFor m_Mod_lying.1 = true := by decide +kernel
set_option maxRecDepth 20000 in
theorem mc_Mod_measures : Cond.code m_Mod_measures.1 m_Mod_measures.2.1 m_Mod_measures.2.2.1 m_Mod_measures.2.2.2 ∈ gw := gw_t 1370 rfl rfl
theorem pf_Mod_measures : plainFor m_Mod_measures.1 = true := by decide +kernel
set_option maxRecDepth 20000 in
theorem mc_Mod_must : Cond.code m_Mod_must.1 m_Mod_must.2.1 m_Mod_must.2.2.1 m_Mod_must.2.2.2 ∈ gw := gw_t 1449 rfl rfl
theorem pf_Mod_must : plainFor m_Mod_must.1 = true := by decide +kernel
set_option maxRecDepth 20000 in
theorem mc_Mod_need : Cond.code m_Mod_need.1 m_Mod_need.2.1 m_Mod_need.2.2.1 m_Mod_need.2.2.2 ∈ gw := gw_t 1278 rfl rfl
theorem pf_Mod_need : plainFor m_Mod_need.1 = true := by decide +kernel
set_option maxRecDepth 20000 in
theorem mc_Mod_open : Cond.code m_Mod_open.1 m_Mod_open.2.1 m_Mod_open.2.2.1 m_Mod_open.2.2.2 ∈ gw := gw_t 1403 rfl rfl
theorem pf_Mod_open : plainFor m_Mod_open.1 = true := by decide +kernel
set_option maxRecDepth 20000 in
theorem mc_Mod_part : Cond.code m_Mod_part.1 m_Mod_part.2.1 m_Mod_part.2.2.1 m_Mod_part.2.2.2 ∈ gw := gw_t 1399 rfl rfl
theorem pf_Mod_part : plainFor m_Mod_part.1 = true := by decide +kernel
set_option maxRecDepth 20000 in
theorem mc_Mod_plays : Cond.code m_Mod_plays.1 m_Mod_plays.2.1 m_Mod_plays.2.2.1 m_Mod_plays.2.2.2 ∈ gw := gw_t 1254 rfl rfl
theorem pf_Mod_plays : plainFor m_Mod_plays.1 = true := by decide +kernel
set_option maxRecDepth 20000 in
theorem mc_Mod_prop : Cond.code m_Mod_prop.1 m_Mod_prop.2.1 m_Mod_prop.2.2.1 m_Mod_prop.2.2.2 ∈ gw := gw_t 1250 rfl rfl
theorem pf_Mod_prop : plainFor m_Mod_prop.1 = true := by decide +kernel
set_option maxRecDepth 20000 in
theorem mc_Mod_puts : Cond.code m_Mod_puts.1 m_Mod_puts.2.1 m_Mod_puts.2.2.1 m_Mod_puts.2.2.2 ∈ gw := gw_t 1379 rfl rfl
theorem pf_Mod_puts : plainFor m_Mod_puts.1 = true := by decide +kernel
set_option maxRecDepth 20000 in
theorem mc_Mod_reached : Cond.code m_Mod_reached.1 m_Mod_reached.2.1 m_Mod_reached.2.2.1 m_Mod_reached.2.2.2 ∈ gw := gw_t 1334 rfl rfl
theorem pf_Mod_reached : plainFor m_Mod_reached.1 = true := by decide +kernel
set_option maxRecDepth 20000 in
theorem mc_Mod_reading : Cond.code m_Mod_reading.1 m_Mod_reading.2.1 m_Mod_reading.2.2.1 m_Mod_reading.2.2.2 ∈ gw := gw_t 1457 rfl rfl
theorem pf_Mod_reading : plainFor m_Mod_reading.1 = true := by decide +kernel
set_option maxRecDepth 20000 in
theorem mc_Mod_refuse : Cond.code m_Mod_refuse.1 m_Mod_refuse.2.1 m_Mod_refuse.2.2.1 m_Mod_refuse.2.2.2 ∈ gw := gw_t 1322 rfl rfl
theorem pf_Mod_refuse : plainFor m_Mod_refuse.1 = true := by decide +kernel
set_option maxRecDepth 20000 in
theorem mc_Mod_rises : Cond.code m_Mod_rises.1 m_Mod_rises.2.1 m_Mod_rises.2.2.1 m_Mod_rises.2.2.2 ∈ gw := gw_t 1387 rfl rfl
theorem pf_Mod_rises : plainFor m_Mod_rises.1 = true := by decide +kernel
set_option maxRecDepth 20000 in
theorem mc_Mod_row : Cond.code m_Mod_row.1 m_Mod_row.2.1 m_Mod_row.2.2.1 m_Mod_row.2.2.2 ∈ gw := gw_t 1318 rfl rfl
theorem pf_Mod_row : plainFor m_Mod_row.1 = true := by decide +kernel
set_option maxRecDepth 20000 in
theorem mc_Mod_rule : Cond.code m_Mod_rule.1 m_Mod_rule.2.1 m_Mod_rule.2.2.1 m_Mod_rule.2.2.2 ∈ gw := gw_t 1306 rfl rfl
theorem pf_Mod_rule : plainFor m_Mod_rule.1 = true := by decide +kernel
set_option maxRecDepth 20000 in
theorem mc_Mod_stateOf : Cond.code m_Mod_stateOf.1 m_Mod_stateOf.2.1 m_Mod_stateOf.2.2.1 m_Mod_stateOf.2.2.2 ∈ gw := gw_t 1350 rfl rfl
theorem pf_Mod_stateOf : plainFor m_Mod_stateOf.1 = true := by decide +kernel
set_option maxRecDepth 20000 in
theorem mc_Mod_step : Cond.code m_Mod_step.1 m_Mod_step.2.1 m_Mod_step.2.2.1 m_Mod_step.2.2.2 ∈ gw := gw_t 1270 rfl rfl
theorem pf_Mod_step : plainFor m_Mod_step.1 = true := by decide +kernel
set_option maxRecDepth 20000 in
theorem mc_Mod_takes : Cond.code m_Mod_takes.1 m_Mod_takes.2.1 m_Mod_takes.2.2.1 m_Mod_takes.2.2.2 ∈ gw := gw_t 1383 rfl rfl
theorem pf_Mod_takes : plainFor m_Mod_takes.1 = true := by decide +kernel
set_option maxRecDepth 20000 in
theorem mc_Mod_tells : Cond.code m_Mod_tells.1 m_Mod_tells.2.1 m_Mod_tells.2.2.1 m_Mod_tells.2.2.2 ∈ gw := gw_t 1431 rfl rfl
theorem pf_Mod_tells : plainFor m_Mod_tells.1 = true := by decide +kernel
set_option maxRecDepth 20000 in
theorem mc_Mod_thrown : Cond.code m_Mod_thrown.1 m_Mod_thrown.2.1 m_Mod_thrown.2.2.1 m_Mod_thrown.2.2.2 ∈ gw := gw_t 1246 rfl rfl
theorem pf_Mod_thrown : plainFor m_Mod_thrown.1 = true := by decide +kernel
set_option maxRecDepth 20000 in
theorem mc_Mod_trap : Cond.code m_Mod_trap.1 m_Mod_trap.2.1 m_Mod_trap.2.2.1 m_Mod_trap.2.2.2 ∈ gw := gw_t 1444 rfl rfl
theorem pf_Mod_trap : plainFor m_Mod_trap.1 = true := by decide +kernel
set_option maxRecDepth 20000 in
theorem mc_Mod_turnsRound : Cond.code m_Mod_turnsRound.1 m_Mod_turnsRound.2.1 m_Mod_turnsRound.2.2.1 m_Mod_turnsRound.2.2.2 ∈ gw := gw_t 1374 rfl rfl
theorem pf_Mod_turnsRound : plainFor m_Mod_turnsRound.1 = true := by decide +kernel
set_option maxRecDepth 20000 in
theorem mc_Mod_walks : Cond.code m_Mod_walks.1 m_Mod_walks.2.1 m_Mod_walks.2.2.1 m_Mod_walks.2.2.2 ∈ gw := gw_t 1366 rfl rfl
theorem pf_Mod_walks : plainFor m_Mod_walks.1 = true := by decide +kernel
set_option maxRecDepth 20000 in
theorem mc_Mod_wasDone : Cond.code m_Mod_wasDone.1 m_Mod_wasDone.2.1 m_Mod_wasDone.2.2.1 m_Mod_wasDone.2.2.2 ∈ gw := gw_t 1358 rfl rfl
theorem pf_Mod_wasDone : plainFor m_Mod_wasDone.1 = true := by decide +kernel
set_option maxRecDepth 20000 in
theorem mc_Mod_way : Cond.code m_Mod_way.1 m_Mod_way.2.1 m_Mod_way.2.2.1 m_Mod_way.2.2.2 ∈ gw := gw_t 1427 rfl rfl
theorem pf_Mod_way : plainFor m_Mod_way.1 = true := by decide +kernel
set_option maxRecDepth 20000 in
theorem mc_Mod_weigh : Cond.code m_Mod_weigh.1 m_Mod_weigh.2.1 m_Mod_weigh.2.2.1 m_Mod_weigh.2.2.2 ∈ gw := gw_t 1330 rfl rfl
theorem pf_Mod_weigh : plainFor m_Mod_weigh.1 = true := by decide +kernel
set_option maxRecDepth 20000 in
theorem mc_Objs_checkIndex : Cond.code m_Objs_checkIndex.1 m_Objs_checkIndex.2.1 m_Objs_checkIndex.2.2.1 m_Objs_checkIndex.2.2.2 ∈ gw := gw_t 371 rfl rfl
theorem pf_Objs_checkIndex : plainFor m_Objs_checkIndex.1 = true := by decide +kernel
set_option maxRecDepth 20000 in
theorem mc_Pair_init : Cond.code m_Pair_init.1 m_Pair_init.2.1 m_Pair_init.2.2.1 m_Pair_init.2.2.2 ∈ gw := gw_t 512 rfl rfl
theorem pf_Pair_init : plainFor m_Pair_init.1 = true := by decide +kernel
set_option maxRecDepth 20000 in
theorem mc_Pairs_add : Cond.code m_Pairs_add.1 m_Pairs_add.2.1 m_Pairs_add.2.2.1 m_Pairs_add.2.2.2 ∈ gw := gw_t 506 rfl rfl
theorem pf_Pairs_add : plainFor m_Pairs_add.1 = true := by decide +kernel
set_option maxRecDepth 20000 in
theorem mc_Pairs_areAll : Cond.code m_Pairs_areAll.1 m_Pairs_areAll.2.1 m_Pairs_areAll.2.2.1 m_Pairs_areAll.2.2.2 ∈ gw := gw_t 629 rfl rfl
theorem pf_Pairs_areAll : plainFor m_Pairs_areAll.1 = true := by decide +kernel
set_option maxRecDepth 20000 in
theorem mc_Pairs_codeOfVariant : Cond.code m_Pairs_codeOfVariant.1 m_Pairs_codeOfVariant.2.1 m_Pairs_codeOfVariant.2.2.1 m_Pairs_codeOfVariant.2.2.2 ∈ gw := gw_t 785 rfl rfl
theorem pf_Pairs_codeOfVariant : plainFor m_Pairs_codeOfVariant.1 = true := by decide +kernel
set_option maxRecDepth 20000 in
theorem mc_Pairs_codeWith : Cond.code m_Pairs_codeWith.1 m_Pairs_codeWith.2.1 m_Pairs_codeWith.2.2.1 m_Pairs_codeWith.2.2.2 ∈ gw := gw_t 669 rfl rfl
theorem pf_Pairs_codeWith : plainFor m_Pairs_codeWith.1 = true := by decide +kernel
set_option maxRecDepth 20000 in
theorem mc_Pairs_empty : Cond.code m_Pairs_empty.1 m_Pairs_empty.2.1 m_Pairs_empty.2.2.1 m_Pairs_empty.2.2.2 ∈ gw := gw_t 565 rfl rfl
theorem pf_Pairs_empty : plainFor m_Pairs_empty.1 = true := by decide +kernel
set_option maxRecDepth 20000 in
theorem mc_Pairs_init : Cond.code m_Pairs_init.1 m_Pairs_init.2.1 m_Pairs_init.2.2.1 m_Pairs_init.2.2.2 ∈ gw := gw_t 72 rfl rfl
theorem pf_Pairs_init : plainFor m_Pairs_init.1 = true := by decide +kernel
set_option maxRecDepth 20000 in
theorem mc_Pairs_isAny : Cond.code m_Pairs_isAny.1 m_Pairs_isAny.2.1 m_Pairs_isAny.2.2.1 m_Pairs_isAny.2.2.2 ∈ gw := gw_t 646 rfl rfl
theorem pf_Pairs_isAny : plainFor m_Pairs_isAny.1 = true := by decide +kernel
set_option maxRecDepth 20000 in
theorem mc_Pairs_names : Cond.code m_Pairs_names.1 m_Pairs_names.2.1 m_Pairs_names.2.2.1 m_Pairs_names.2.2.2 ∈ gw := gw_t 531 rfl rfl
theorem pf_Pairs_names : plainFor m_Pairs_names.1 = true := by decide +kernel
set_option maxRecDepth 20000 in
theorem mc_Pairs_size : Cond.code m_Pairs_size.1 m_Pairs_size.2.1 m_Pairs_size.2.2.1 m_Pairs_size.2.2.2 ∈ gw := gw_t 582 rfl rfl
theorem pf_Pairs_size : plainFor m_Pairs_size.1 = true := by decide +kernel
set_option maxRecDepth 20000 in
theorem mc_Pairs_variants : Cond.code m_Pairs_variants.1 m_Pairs_variants.2.1 m_Pairs_variants.2.2.1 m_Pairs_variants.2.2.2 ∈ gw := gw_t 777 rfl rfl
theorem pf_Pairs_variants : plainFor m_Pairs_variants.1 = true := by decide +kernel
set_option maxRecDepth 20000 in
theorem mc_Pre_checkIndex : Cond.code m_Pre_checkIndex.1 m_Pre_checkIndex.2.1 m_Pre_checkIndex.2.2.1 m_Pre_checkIndex.2.2.2 ∈ gw := gw_t 374 rfl rfl
theorem pf_Pre_checkIndex : plainFor m_Pre_checkIndex.1 = true := by decide +kernel
set_option maxRecDepth 20000 in
theorem mc_Prop_codeWith : Cond.code m_Prop_codeWith.1 m_Prop_codeWith.2.1 m_Prop_codeWith.2.2.1 m_Prop_codeWith.2.2.2 ∈ gw := gw_t 673 rfl rfl
theorem pf_Prop_codeWith : plainFor m_Prop_codeWith.1 = true := by decide +kernel
set_option maxRecDepth 20000 in
theorem mc_Prop_init : Cond.code m_Prop_init.1 m_Prop_init.2.1 m_Prop_init.2.2.1 m_Prop_init.2.2.2 ∈ gw := gw_t 394 rfl rfl
theorem pf_Prop_init : plainFor m_Prop_init.1 = true := by decide +kernel
set_option maxRecDepth 20000 in
theorem mc_Prop_isLie : Cond.code m_Prop_isLie.1 m_Prop_isLie.2.1 m_Prop_isLie.2.2.1 m_Prop_isLie.2.2.2 ∈ gw := gw_t 885 rfl rfl
theorem pf_Prop_isLie : plainFor m_Prop_isLie.1 = true := by decide +kernel
set_option maxRecDepth 20000 in
theorem mc_Prop_isMoved : Cond.code m_Prop_isMoved.1 m_Prop_isMoved.2.1 m_Prop_isMoved.2.2.1 m_Prop_isMoved.2.2.2 ∈ gw := gw_t 916 rfl rfl
theorem pf_Prop_isMoved : plainFor m_Prop_isMoved.1 = true := by decide +kernel
set_option maxRecDepth 20000 in
theorem mc_Prop_stateIn : Cond.code m_Prop_stateIn.1 m_Prop_stateIn.2.1 m_Prop_stateIn.2.2.1 m_Prop_stateIn.2.2.2 ∈ gw := gw_t 633 rfl rfl
theorem pf_Prop_stateIn : plainFor m_Prop_stateIn.1 = true := by decide +kernel
set_option maxRecDepth 20000 in
theorem mc_Row_begin : Cond.code m_Row_begin.1 m_Row_begin.2.1 m_Row_begin.2.2.1 m_Row_begin.2.2.2 ∈ gw := gw_t 570 rfl rfl
theorem pf_Row_begin : plainFor m_Row_begin.1 = true := by decide +kernel
set_option maxRecDepth 20000 in
theorem mc_Row_init : Cond.code m_Row_init.1 m_Row_init.2.1 m_Row_init.2.2.1 m_Row_init.2.2.2 ∈ gw := gw_t 115 rfl rfl
theorem pf_Row_init : plainFor m_Row_init.1 = true := by decide +kernel
set_option maxRecDepth 20000 in
theorem mc_Row_put : Cond.code m_Row_put.1 m_Row_put.2.1 m_Row_put.2.2.1 m_Row_put.2.2.2 ∈ gw := gw_t 807 rfl rfl
theorem pf_Row_put : plainFor m_Row_put.1 = true := by decide +kernel
set_option maxRecDepth 20000 in
theorem mc_Step_codeAfter : Cond.code m_Step_codeAfter.1 m_Step_codeAfter.2.1 m_Step_codeAfter.2.2.1 m_Step_codeAfter.2.2.2 ∈ gw := gw_t 665 rfl rfl
theorem pf_Step_codeAfter : plainFor m_Step_codeAfter.1 = true := by decide +kernel
set_option maxRecDepth 20000 in
theorem mc_Step_codeAhead : Cond.code m_Step_codeAhead.1 m_Step_codeAhead.2.1 m_Step_codeAhead.2.2.1 m_Step_codeAhead.2.2.2 ∈ gw := gw_t 781 rfl rfl
theorem pf_Step_codeAhead : plainFor m_Step_codeAhead.1 = true := by decide +kernel
set_option maxRecDepth 20000 in
theorem mc_Step_init : Cond.code m_Step_init.1 m_Step_init.2.1 m_Step_init.2.2.1 m_Step_init.2.2.2 ∈ gw := gw_t 446 rfl rfl
theorem pf_Step_init : plainFor m_Step_init.1 = true := by decide +kernel
set_option maxRecDepth 20000 in
theorem mc_Step_leadsTo : Cond.code m_Step_leadsTo.1 m_Step_leadsTo.2.1 m_Step_leadsTo.2.2.1 m_Step_leadsTo.2.2.2 ∈ gw := gw_t 771 rfl rfl
theorem pf_Step_leadsTo : plainFor m_Step_leadsTo.1 = true := by decide +kernel
set_option maxRecDepth 20000 in
theorem mc_Step_wasDone : Cond.code m_Step_wasDone.1 m_Step_wasDone.2.1 m_Step_wasDone.2.2.1 m_Step_wasDone.2.2.2 ∈ gw := gw_t 641 rfl rfl
theorem pf_Step_wasDone : plainFor m_Step_wasDone.1 = true := by decide +kernel
set_option maxRecDepth 20000 in
theorem mc_Walk_arriveFrom : Cond.code m_Walk_arriveFrom.1 m_Walk_arriveFrom.2.1 m_Walk_arriveFrom.2.2.1 m_Walk_arriveFrom.2.2.2 ∈ gw := gw_t 828 rfl rfl
theorem pf_Walk_arriveFrom : plainFor m_Walk_arriveFrom.1 = true := by decide +kernel
set_option maxRecDepth 20000 in
theorem mc_Walk_chart : Cond.code m_Walk_chart.1 m_Walk_chart.2.1 m_Walk_chart.2.2.1 m_Walk_chart.2.2.2 ∈ gw := gw_t 598 rfl rfl
theorem pf_Walk_chart : plainFor m_Walk_chart.1 = true := by decide +kernel
set_option maxRecDepth 20000 in
theorem mc_Walk_comesPast : Cond.code m_Walk_comesPast.1 m_Walk_comesPast.2.1 m_Walk_comesPast.2.2.1 m_Walk_comesPast.2.2.2 ∈ gw := gw_t 857 rfl rfl
theorem pf_Walk_comesPast : plainFor m_Walk_comesPast.1 = true := by decide +kernel
set_option maxRecDepth 20000 in
theorem mc_Walk_countArrivals : Cond.code m_Walk_countArrivals.1 m_Walk_countArrivals.2.1 m_Walk_countArrivals.2.2.1 m_Walk_countArrivals.2.2.2 ∈ gw := gw_t 823 rfl rfl
theorem pf_Walk_countArrivals : plainFor m_Walk_countArrivals.1 = true := by decide +kernel
set_option maxRecDepth 20000 in
theorem mc_Walk_countLost : Cond.code m_Walk_countLost.1 m_Walk_countLost.2.1 m_Walk_countLost.2.2.1 m_Walk_countLost.2.2.2 ∈ gw := gw_t 836 rfl rfl
theorem pf_Walk_countLost : plainFor m_Walk_countLost.1 = true := by decide +kernel
set_option maxRecDepth 20000 in
theorem mc_Walk_countTold : Cond.code m_Walk_countTold.1 m_Walk_countTold.2.1 m_Walk_countTold.2.2.1 m_Walk_countTold.2.2.2 ∈ gw := gw_t 900 rfl rfl
theorem pf_Walk_countTold : plainFor m_Walk_countTold.1 = true := by decide +kernel
set_option maxRecDepth 20000 in
theorem mc_Walk_findLongest : Cond.code m_Walk_findLongest.1 m_Walk_findLongest.2.1 m_Walk_findLongest.2.2.1 m_Walk_findLongest.2.2.2 ∈ gw := gw_t 819 rfl rfl
theorem pf_Walk_findLongest : plainFor m_Walk_findLongest.1 = true := by decide +kernel
set_option maxRecDepth 20000 in
theorem mc_Walk_firstLiars : Cond.code m_Walk_firstLiars.1 m_Walk_firstLiars.2.1 m_Walk_firstLiars.2.2.1 m_Walk_firstLiars.2.2.2 ∈ gw := gw_t 877 rfl rfl
theorem pf_Walk_firstLiars : plainFor m_Walk_firstLiars.1 = true := by decide +kernel
set_option maxRecDepth 20000 in
theorem mc_Walk_firstStep : Cond.code m_Walk_firstStep.1 m_Walk_firstStep.2.1 m_Walk_firstStep.2.2.1 m_Walk_firstStep.2.2.2 ∈ gw := gw_t 797 rfl rfl
theorem pf_Walk_firstStep : plainFor m_Walk_firstStep.1 = true := by decide +kernel
set_option maxRecDepth 20000 in
theorem mc_Walk_fits : Cond.code m_Walk_fits.1 m_Walk_fits.2.1 m_Walk_fits.2.2.1 m_Walk_fits.2.2.2 ∈ gw := gw_t 617 rfl rfl
theorem pf_Walk_fits : plainFor m_Walk_fits.1 = true := by decide +kernel
set_option maxRecDepth 20000 in
theorem mc_Walk_forget : Cond.code m_Walk_forget.1 m_Walk_forget.2.1 m_Walk_forget.2.2.1 m_Walk_forget.2.2.2 ∈ gw := gw_t 382 rfl rfl
theorem pf_Walk_forget : plainFor m_Walk_forget.1 = true := by decide +kernel
set_option maxRecDepth 20000 in
theorem mc_Walk_init : Cond.code m_Walk_init.1 m_Walk_init.2.1 m_Walk_init.2.2.1 m_Walk_init.2.2.2 ∈ gw := gw_t 252 rfl rfl
theorem pf_Walk_init : plainFor m_Walk_init.1 = true := by decide +kernel
set_option maxRecDepth 20000 in
theorem mc_Walk_isAhead : Cond.code m_Walk_isAhead.1 m_Walk_isAhead.2.1 m_Walk_isAhead.2.2.1 m_Walk_isAhead.2.2.2 ∈ gw := gw_t 889 rfl rfl
theorem pf_Walk_isAhead : plainFor m_Walk_isAhead.1 = true := by decide +kernel
set_option maxRecDepth 20000 in
theorem mc_Walk_isOpen : Cond.code m_Walk_isOpen.1 m_Walk_isOpen.2.1 m_Walk_isOpen.2.2.1 m_Walk_isOpen.2.2.2 ∈ gw := gw_t 659 rfl rfl
theorem pf_Walk_isOpen : plainFor m_Walk_isOpen.1 = true := by decide +kernel
set_option maxRecDepth 20000 in
theorem mc_Walk_joinBehind : Cond.code m_Walk_joinBehind.1 m_Walk_joinBehind.2.1 m_Walk_joinBehind.2.2.1 m_Walk_joinBehind.2.2.2 ∈ gw := gw_t 654 rfl rfl
theorem pf_Walk_joinBehind : plainFor m_Walk_joinBehind.1 = true := by decide +kernel
set_option maxRecDepth 20000 in
theorem mc_Walk_leastSum : Cond.code m_Walk_leastSum.1 m_Walk_leastSum.2.1 m_Walk_leastSum.2.2.1 m_Walk_leastSum.2.2.2 ∈ gw := gw_t 789 rfl rfl
theorem pf_Walk_leastSum : plainFor m_Walk_leastSum.1 = true := by decide +kernel
set_option maxRecDepth 20000 in
theorem mc_Walk_leastTrap : Cond.code m_Walk_leastTrap.1 m_Walk_leastTrap.2.1 m_Walk_leastTrap.2.2.1 m_Walk_leastTrap.2.2.2 ∈ gw := gw_t 840 rfl rfl
theorem pf_Walk_leastTrap : plainFor m_Walk_leastTrap.1 = true := by decide +kernel
set_option maxRecDepth 20000 in
theorem mc_Walk_longestSum : Cond.code m_Walk_longestSum.1 m_Walk_longestSum.2.1 m_Walk_longestSum.2.2.1 m_Walk_longestSum.2.2.2 ∈ gw := gw_t 815 rfl rfl
theorem pf_Walk_longestSum : plainFor m_Walk_longestSum.1 = true := by decide +kernel
set_option maxRecDepth 20000 in
theorem mc_Walk_measure : Cond.code m_Walk_measure.1 m_Walk_measure.2.1 m_Walk_measure.2.2.1 m_Walk_measure.2.2.2 ∈ gw := gw_t 722 rfl rfl
theorem pf_Walk_measure : plainFor m_Walk_measure.1 = true := by decide +kernel
set_option maxRecDepth 20000 in
theorem mc_Walk_offerAhead : Cond.code m_Walk_offerAhead.1 m_Walk_offerAhead.2.1 m_Walk_offerAhead.2.2.1 m_Walk_offerAhead.2.2.2 ∈ gw := gw_t 767 rfl rfl
theorem pf_Walk_offerAhead : plainFor m_Walk_offerAhead.1 = true := by decide +kernel
set_option maxRecDepth 20000 in
theorem mc_Walk_stepToLost : Cond.code m_Walk_stepToLost.1 m_Walk_stepToLost.2.1 m_Walk_stepToLost.2.2.1 m_Walk_stepToLost.2.2.2 ∈ gw := gw_t 844 rfl rfl
theorem pf_Walk_stepToLost : plainFor m_Walk_stepToLost.1 = true := by decide +kernel
set_option maxRecDepth 20000 in
theorem mc_Walk_usedSteps : Cond.code m_Walk_usedSteps.1 m_Walk_usedSteps.2.1 m_Walk_usedSteps.2.2.1 m_Walk_usedSteps.2.2.2 ∈ gw := gw_t 865 rfl rfl
theorem pf_Walk_usedSteps : plainFor m_Walk_usedSteps.1 = true := by decide +kernel
