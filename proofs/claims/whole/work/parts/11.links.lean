set_option maxRecDepth 20000 in
theorem lkX0_forget_f21 : Cond.fieldLink RX0 21 "NicheSaints$Acts" "oldest" "I" ∈ wsX0_forget := by decide +kernel
set_option maxRecDepth 20000 in
theorem lkX0_forget_f25 : Cond.fieldLink RX0 25 "NicheSaints$Acts" "size" "I" ∈ wsX0_forget := by decide +kernel
set_option maxRecDepth 20000 in
theorem inX0_forget_0 : ∀ w ∈ u_ws RX0 TX0 5, w ∈ wsX0_forget := by decide +kernel
set_option maxRecDepth 20000 in
theorem lkX0_keep_f25 : Cond.fieldLink RX0 25 "NicheSaints$Acts" "size" "I" ∈ wsX0_keep := by decide +kernel
set_option maxRecDepth 20000 in
theorem lkX0_keep_f21 : Cond.fieldLink RX0 21 "NicheSaints$Acts" "oldest" "I" ∈ wsX0_keep := by decide +kernel
set_option maxRecDepth 20000 in
theorem lkX0_keep_f9 : Cond.fieldLink RX0 9 "NicheSaints$Acts" "figures" "[I" ∈ wsX0_keep := by decide +kernel
set_option maxRecDepth 20000 in
theorem lkX0_keep_f15 : Cond.fieldLink RX0 15 "NicheSaints$Acts" "stepNumbers" "[I" ∈ wsX0_keep := by decide +kernel
set_option maxRecDepth 20000 in
theorem lkX0_keep_f33 : Cond.fieldLink RX0 33 "NicheSaints$Ring" "step" "I" ∈ wsX0_keep := by decide +kernel
set_option maxRecDepth 20000 in
theorem lkX0_keep_f18 : Cond.fieldLink RX0 18 "NicheSaints$Acts" "nights" "[I" ∈ wsX0_keep := by decide +kernel
set_option maxRecDepth 20000 in
theorem lkX0_keep_f36 : Cond.fieldLink RX0 36 "NicheSaints$Ring" "night" "I" ∈ wsX0_keep := by decide +kernel
set_option maxRecDepth 20000 in
theorem inX0_keep_0 : ∀ w ∈ u_ws RX0 TX0 5, w ∈ wsX0_keep := by decide +kernel
set_option maxRecDepth 20000 in
theorem inX0_keep_4 : ∀ w ∈ u_ws RX4 TX4 5, w ∈ wsX0_keep := by decide +kernel
set_option maxRecDepth 20000 in
theorem lkX0_takeBack_f25 : Cond.fieldLink RX0 25 "NicheSaints$Acts" "size" "I" ∈ wsX0_takeBack := by decide +kernel
set_option maxRecDepth 20000 in
theorem lkX0_takeBack_f21 : Cond.fieldLink RX0 21 "NicheSaints$Acts" "oldest" "I" ∈ wsX0_takeBack := by decide +kernel
set_option maxRecDepth 20000 in
theorem lkX0_takeBack_f9 : Cond.fieldLink RX0 9 "NicheSaints$Acts" "figures" "[I" ∈ wsX0_takeBack := by decide +kernel
set_option maxRecDepth 20000 in
theorem lkX0_takeBack_f15 : Cond.fieldLink RX0 15 "NicheSaints$Acts" "stepNumbers" "[I" ∈ wsX0_takeBack := by decide +kernel
set_option maxRecDepth 20000 in
theorem lkX0_takeBack_f33 : Cond.fieldLink RX0 33 "NicheSaints$Ring" "step" "I" ∈ wsX0_takeBack := by decide +kernel
set_option maxRecDepth 20000 in
theorem lkX0_takeBack_f18 : Cond.fieldLink RX0 18 "NicheSaints$Acts" "nights" "[I" ∈ wsX0_takeBack := by decide +kernel
set_option maxRecDepth 20000 in
theorem lkX0_takeBack_f36 : Cond.fieldLink RX0 36 "NicheSaints$Ring" "night" "I" ∈ wsX0_takeBack := by decide +kernel
set_option maxRecDepth 20000 in
theorem inX0_takeBack_0 : ∀ w ∈ u_ws RX0 TX0 5, w ∈ wsX0_takeBack := by decide +kernel
set_option maxRecDepth 20000 in
theorem inX0_takeBack_4 : ∀ w ∈ u_ws RX4 TX4 5, w ∈ wsX0_takeBack := by decide +kernel
set_option maxRecDepth 20000 in
theorem lkX1_answer_f15 : Cond.fieldLink RX1 15 "NicheSaints$Asking" "traced" "I" ∈ wsX1_answer := by decide +kernel
set_option maxRecDepth 20000 in
theorem lkX1_answer_f19 : Cond.fieldLink RX1 19 "NicheSaints$Ring" "kinds" "[I" ∈ wsX1_answer := by decide +kernel
set_option maxRecDepth 20000 in
theorem inX1_answer_1 : ∀ w ∈ u_ws RX1 TX1 2, w ∈ wsX1_answer := by decide +kernel
set_option maxRecDepth 20000 in
theorem inX1_answer_4 : ∀ w ∈ u_ws RX4 TX4 5, w ∈ wsX1_answer := by decide +kernel
set_option maxRecDepth 20000 in
theorem lkX1_run_f19 : Cond.fieldLink RX1 19 "NicheSaints$Ring" "kinds" "[I" ∈ wsX1_run := by decide +kernel
set_option maxRecDepth 20000 in
theorem lkX1_run_f38 : Cond.fieldLink RX1 38 "NicheSaints$Ring" "things" "[I" ∈ wsX1_run := by decide +kernel
set_option maxRecDepth 20000 in
theorem inX1_run_4 : ∀ w ∈ u_ws RX4 TX4 5, w ∈ wsX1_run := by decide +kernel
set_option maxRecDepth 20000 in
theorem lkX1_leave_f15 : Cond.fieldLink RX1 15 "NicheSaints$Asking" "traced" "I" ∈ wsX1_leave := by decide +kernel
set_option maxRecDepth 20000 in
theorem lkX1_leave_f9 : Cond.fieldLink RX1 9 "NicheSaints$Asking" "trail" "[I" ∈ wsX1_leave := by decide +kernel
set_option maxRecDepth 20000 in
theorem inX1_leave_1 : ∀ w ∈ u_ws RX1 TX1 2, w ∈ wsX1_leave := by decide +kernel
set_option maxRecDepth 20000 in
theorem lkX2_take_f18 : Cond.fieldLink RX2 18 "NicheSaints$Ring" "size" "I" ∈ wsX2_take := by decide +kernel
set_option maxRecDepth 20000 in
theorem lkX2_take_f9 : Cond.fieldLink RX2 9 "NicheSaints$Goal" "things" "[I" ∈ wsX2_take := by decide +kernel
set_option maxRecDepth 20000 in
theorem lkX2_take_f24 : Cond.fieldLink RX2 24 "NicheSaints$Shelf" "items" "[I" ∈ wsX2_take := by decide +kernel
set_option maxRecDepth 20000 in
theorem lkX2_take_f29 : Cond.fieldLink RX2 29 "NicheSaints$Ring" "things" "[I" ∈ wsX2_take := by decide +kernel
set_option maxRecDepth 20000 in
theorem lkX2_take_f15 : Cond.fieldLink RX2 15 "NicheSaints$Goal" "aims" "[I" ∈ wsX2_take := by decide +kernel
set_option maxRecDepth 20000 in
theorem inX2_take_2 : ∀ w ∈ u_ws RX2 TX2 2, w ∈ wsX2_take := by decide +kernel
set_option maxRecDepth 20000 in
theorem inX2_take_4 : ∀ w ∈ u_ws RX4 TX4 5, w ∈ wsX2_take := by decide +kernel
set_option maxRecDepth 20000 in
theorem inX2_take_5 : ∀ w ∈ u_ws RX5 TX5 3, w ∈ wsX2_take := by decide +kernel
set_option maxRecDepth 20000 in
theorem lkX2_freePlaceOf_f9 : Cond.fieldLink RX2 9 "NicheSaints$Goal" "things" "[I" ∈ wsX2_freePlaceOf := by decide +kernel
set_option maxRecDepth 20000 in
theorem inX2_freePlaceOf_2 : ∀ w ∈ u_ws RX2 TX2 2, w ∈ wsX2_freePlaceOf := by decide +kernel
set_option maxRecDepth 20000 in
theorem lkX2_fewestChanges_f18 : Cond.fieldLink RX2 18 "NicheSaints$Ring" "size" "I" ∈ wsX2_fewestChanges := by decide +kernel
set_option maxRecDepth 20000 in
theorem inX2_fewestChanges_4 : ∀ w ∈ u_ws RX4 TX4 5, w ∈ wsX2_fewestChanges := by decide +kernel
set_option maxRecDepth 20000 in
theorem lkX2_cyclesWithoutNone_f18 : Cond.fieldLink RX2 18 "NicheSaints$Ring" "size" "I" ∈ wsX2_cyclesWithoutNone := by decide +kernel
set_option maxRecDepth 20000 in
theorem lkX2_cyclesWithoutNone_f29 : Cond.fieldLink RX2 29 "NicheSaints$Ring" "things" "[I" ∈ wsX2_cyclesWithoutNone := by decide +kernel
set_option maxRecDepth 20000 in
theorem lkX2_cyclesWithoutNone_f15 : Cond.fieldLink RX2 15 "NicheSaints$Goal" "aims" "[I" ∈ wsX2_cyclesWithoutNone := by decide +kernel
set_option maxRecDepth 20000 in
theorem inX2_cyclesWithoutNone_2 : ∀ w ∈ u_ws RX2 TX2 2, w ∈ wsX2_cyclesWithoutNone := by decide +kernel
set_option maxRecDepth 20000 in
theorem inX2_cyclesWithoutNone_4 : ∀ w ∈ u_ws RX4 TX4 5, w ∈ wsX2_cyclesWithoutNone := by decide +kernel
set_option maxRecDepth 20000 in
theorem lkX2_neighbourChanges_f18 : Cond.fieldLink RX2 18 "NicheSaints$Ring" "size" "I" ∈ wsX2_neighbourChanges := by decide +kernel
set_option maxRecDepth 20000 in
theorem lkX2_neighbourChanges_f15 : Cond.fieldLink RX2 15 "NicheSaints$Goal" "aims" "[I" ∈ wsX2_neighbourChanges := by decide +kernel
set_option maxRecDepth 20000 in
theorem inX2_neighbourChanges_2 : ∀ w ∈ u_ws RX2 TX2 2, w ∈ wsX2_neighbourChanges := by decide +kernel
set_option maxRecDepth 20000 in
theorem inX2_neighbourChanges_4 : ∀ w ∈ u_ws RX4 TX4 5, w ∈ wsX2_neighbourChanges := by decide +kernel
set_option maxRecDepth 20000 in
theorem lkX2_neighbourChange_c45 : Cond.constant RX2 45 (-1000000) ∈ wsX2_neighbourChange := by decide +kernel
set_option maxRecDepth 20000 in
theorem lkX2_neighbourChange_f18 : Cond.fieldLink RX2 18 "NicheSaints$Ring" "size" "I" ∈ wsX2_neighbourChange := by decide +kernel
set_option maxRecDepth 20000 in
theorem lkX2_neighbourChange_f15 : Cond.fieldLink RX2 15 "NicheSaints$Goal" "aims" "[I" ∈ wsX2_neighbourChange := by decide +kernel
set_option maxRecDepth 20000 in
theorem inX2_neighbourChange_2 : ∀ w ∈ u_ws RX2 TX2 2, w ∈ wsX2_neighbourChange := by decide +kernel
set_option maxRecDepth 20000 in
theorem inX2_neighbourChange_4 : ∀ w ∈ u_ws RX4 TX4 5, w ∈ wsX2_neighbourChange := by decide +kernel
set_option maxRecDepth 20000 in
theorem lkX2_firstFall_c45 : Cond.constant RX2 45 (-1000000) ∈ wsX2_firstFall := by decide +kernel
set_option maxRecDepth 20000 in
theorem lkX2_firstFall_f15 : Cond.fieldLink RX2 15 "NicheSaints$Goal" "aims" "[I" ∈ wsX2_firstFall := by decide +kernel
set_option maxRecDepth 20000 in
theorem inX2_firstFall_2 : ∀ w ∈ u_ws RX2 TX2 2, w ∈ wsX2_firstFall := by decide +kernel
set_option maxRecDepth 20000 in
theorem lkX3_howMany_f22 : Cond.fieldLink RX3 22 "NicheSaints$Ring" "size" "I" ∈ wsX3_howMany := by decide +kernel
set_option maxRecDepth 20000 in
theorem inX3_howMany_4 : ∀ w ∈ u_ws RX4 TX4 5, w ∈ wsX3_howMany := by decide +kernel
set_option maxRecDepth 20000 in
theorem lkX3_placeOf_f22 : Cond.fieldLink RX3 22 "NicheSaints$Ring" "size" "I" ∈ wsX3_placeOf := by decide +kernel
set_option maxRecDepth 20000 in
theorem lkX3_placeOf_f32 : Cond.fieldLink RX3 32 "NicheSaints$Ring" "things" "[I" ∈ wsX3_placeOf := by decide +kernel
set_option maxRecDepth 20000 in
theorem lkX3_placeOf_f15 : Cond.fieldLink RX3 15 "NicheSaints$Orders" "counts" "[I" ∈ wsX3_placeOf := by decide +kernel
set_option maxRecDepth 20000 in
theorem inX3_placeOf_3 : ∀ w ∈ u_ws RX3 TX3 3, w ∈ wsX3_placeOf := by decide +kernel
set_option maxRecDepth 20000 in
theorem inX3_placeOf_4 : ∀ w ∈ u_ws RX4 TX4 5, w ∈ wsX3_placeOf := by decide +kernel
set_option maxRecDepth 20000 in
theorem lkX3_begin_f37 : Cond.fieldLink RX3 37 "NicheSaints$Orders" "size" "I" ∈ wsX3_begin := by decide +kernel
set_option maxRecDepth 20000 in
theorem lkX3_begin_f15 : Cond.fieldLink RX3 15 "NicheSaints$Orders" "counts" "[I" ∈ wsX3_begin := by decide +kernel
set_option maxRecDepth 20000 in
theorem lkX3_begin_f9 : Cond.fieldLink RX3 9 "NicheSaints$Orders" "things" "[I" ∈ wsX3_begin := by decide +kernel
set_option maxRecDepth 20000 in
theorem inX3_begin_3 : ∀ w ∈ u_ws RX3 TX3 3, w ∈ wsX3_begin := by decide +kernel
set_option maxRecDepth 20000 in
theorem lkX3_next_f37 : Cond.fieldLink RX3 37 "NicheSaints$Orders" "size" "I" ∈ wsX3_next := by decide +kernel
set_option maxRecDepth 20000 in
theorem lkX3_next_f9 : Cond.fieldLink RX3 9 "NicheSaints$Orders" "things" "[I" ∈ wsX3_next := by decide +kernel
set_option maxRecDepth 20000 in
theorem inX3_next_3 : ∀ w ∈ u_ws RX3 TX3 3, w ∈ wsX3_next := by decide +kernel
set_option maxRecDepth 20000 in
theorem lkX3_exchange_f9 : Cond.fieldLink RX3 9 "NicheSaints$Orders" "things" "[I" ∈ wsX3_exchange := by decide +kernel
set_option maxRecDepth 20000 in
theorem inX3_exchange_3 : ∀ w ∈ u_ws RX3 TX3 3, w ∈ wsX3_exchange := by decide +kernel
set_option maxRecDepth 20000 in
theorem lkX3_tally_f15 : Cond.fieldLink RX3 15 "NicheSaints$Orders" "counts" "[I" ∈ wsX3_tally := by decide +kernel
set_option maxRecDepth 20000 in
theorem lkX3_tally_f22 : Cond.fieldLink RX3 22 "NicheSaints$Ring" "size" "I" ∈ wsX3_tally := by decide +kernel
set_option maxRecDepth 20000 in
theorem lkX3_tally_f32 : Cond.fieldLink RX3 32 "NicheSaints$Ring" "things" "[I" ∈ wsX3_tally := by decide +kernel
set_option maxRecDepth 20000 in
theorem inX3_tally_3 : ∀ w ∈ u_ws RX3 TX3 3, w ∈ wsX3_tally := by decide +kernel
set_option maxRecDepth 20000 in
theorem inX3_tally_4 : ∀ w ∈ u_ws RX4 TX4 5, w ∈ wsX3_tally := by decide +kernel
set_option maxRecDepth 20000 in
theorem lkX3_ways_f15 : Cond.fieldLink RX3 15 "NicheSaints$Orders" "counts" "[I" ∈ wsX3_ways := by decide +kernel
set_option maxRecDepth 20000 in
theorem inX3_ways_3 : ∀ w ∈ u_ws RX3 TX3 3, w ∈ wsX3_ways := by decide +kernel
set_option maxRecDepth 20000 in
theorem lkX4_become_f9 : Cond.fieldLink RX4 9 "NicheSaints$Ring" "kinds" "[I" ∈ wsX4_become := by decide +kernel
set_option maxRecDepth 20000 in
theorem lkX4_become_m18 : Cond.methodLink RX4 18 arraycopyName ∈ wsX4_become := by decide +kernel
set_option maxRecDepth 20000 in
theorem lkX4_become_n0 : Cond.native arraycopyName ∈ wsX4_become := by decide +kernel
set_option maxRecDepth 20000 in
theorem lkX4_become_s0 : Cond.static arraycopyName ∈ wsX4_become := by decide +kernel
set_option maxRecDepth 20000 in
theorem lkX4_become_i0 : Cond.initialized "java/lang/System" ∈ wsX4_become := by decide +kernel
set_option maxRecDepth 20000 in
theorem lkX4_become_f15 : Cond.fieldLink RX4 15 "NicheSaints$Ring" "things" "[I" ∈ wsX4_become := by decide +kernel
set_option maxRecDepth 20000 in
theorem lkX4_become_f24 : Cond.fieldLink RX4 24 "NicheSaints$Ring" "size" "I" ∈ wsX4_become := by decide +kernel
set_option maxRecDepth 20000 in
theorem lkX4_become_f28 : Cond.fieldLink RX4 28 "NicheSaints$Ring" "step" "I" ∈ wsX4_become := by decide +kernel
set_option maxRecDepth 20000 in
theorem lkX4_become_f31 : Cond.fieldLink RX4 31 "NicheSaints$Ring" "night" "I" ∈ wsX4_become := by decide +kernel
set_option maxRecDepth 20000 in
theorem inX4_become_4 : ∀ w ∈ u_ws RX4 TX4 5, w ∈ wsX4_become := by decide +kernel
set_option maxRecDepth 20000 in
theorem lkX4_isSaint_f24 : Cond.fieldLink RX4 24 "NicheSaints$Ring" "size" "I" ∈ wsX4_isSaint := by decide +kernel
set_option maxRecDepth 20000 in
theorem inX4_isSaint_4 : ∀ w ∈ u_ws RX4 TX4 5, w ∈ wsX4_isSaint := by decide +kernel
set_option maxRecDepth 20000 in
theorem lkX4_after_f24 : Cond.fieldLink RX4 24 "NicheSaints$Ring" "size" "I" ∈ wsX4_after := by decide +kernel
set_option maxRecDepth 20000 in
theorem inX4_after_4 : ∀ w ∈ u_ws RX4 TX4 5, w ∈ wsX4_after := by decide +kernel
set_option maxRecDepth 20000 in
theorem lkX4_before_f24 : Cond.fieldLink RX4 24 "NicheSaints$Ring" "size" "I" ∈ wsX4_before := by decide +kernel
set_option maxRecDepth 20000 in
theorem inX4_before_4 : ∀ w ∈ u_ws RX4 TX4 5, w ∈ wsX4_before := by decide +kernel
set_option maxRecDepth 20000 in
theorem lkX4_lets_f15 : Cond.fieldLink RX4 15 "NicheSaints$Ring" "things" "[I" ∈ wsX4_lets := by decide +kernel
set_option maxRecDepth 20000 in
theorem lkX4_lets_f9 : Cond.fieldLink RX4 9 "NicheSaints$Ring" "kinds" "[I" ∈ wsX4_lets := by decide +kernel
set_option maxRecDepth 20000 in
theorem inX4_lets_4 : ∀ w ∈ u_ws RX4 TX4 5, w ∈ wsX4_lets := by decide +kernel
set_option maxRecDepth 20000 in
theorem lkX4_exchange_f15 : Cond.fieldLink RX4 15 "NicheSaints$Ring" "things" "[I" ∈ wsX4_exchange := by decide +kernel
set_option maxRecDepth 20000 in
theorem inX4_exchange_4 : ∀ w ∈ u_ws RX4 TX4 5, w ∈ wsX4_exchange := by decide +kernel
set_option maxRecDepth 20000 in
theorem lkX4_advance_f24 : Cond.fieldLink RX4 24 "NicheSaints$Ring" "size" "I" ∈ wsX4_advance := by decide +kernel
set_option maxRecDepth 20000 in
theorem lkX4_advance_f28 : Cond.fieldLink RX4 28 "NicheSaints$Ring" "step" "I" ∈ wsX4_advance := by decide +kernel
set_option maxRecDepth 20000 in
theorem inX4_advance_4 : ∀ w ∈ u_ws RX4 TX4 5, w ∈ wsX4_advance := by decide +kernel
set_option maxRecDepth 20000 in
theorem lkX4_isMatins_f31 : Cond.fieldLink RX4 31 "NicheSaints$Ring" "night" "I" ∈ wsX4_isMatins := by decide +kernel
set_option maxRecDepth 20000 in
theorem lkX4_isMatins_f28 : Cond.fieldLink RX4 28 "NicheSaints$Ring" "step" "I" ∈ wsX4_isMatins := by decide +kernel
set_option maxRecDepth 20000 in
theorem inX4_isMatins_4 : ∀ w ∈ u_ws RX4 TX4 5, w ∈ wsX4_isMatins := by decide +kernel
set_option maxRecDepth 20000 in
theorem lkX4_turn_f9 : Cond.fieldLink RX4 9 "NicheSaints$Ring" "kinds" "[I" ∈ wsX4_turn := by decide +kernel
set_option maxRecDepth 20000 in
theorem lkX4_turn_f15 : Cond.fieldLink RX4 15 "NicheSaints$Ring" "things" "[I" ∈ wsX4_turn := by decide +kernel
set_option maxRecDepth 20000 in
theorem lkX4_turn_f28 : Cond.fieldLink RX4 28 "NicheSaints$Ring" "step" "I" ∈ wsX4_turn := by decide +kernel
set_option maxRecDepth 20000 in
theorem inX4_turn_4 : ∀ w ∈ u_ws RX4 TX4 5, w ∈ wsX4_turn := by decide +kernel
set_option maxRecDepth 20000 in
theorem lkX4_singMatins_f24 : Cond.fieldLink RX4 24 "NicheSaints$Ring" "size" "I" ∈ wsX4_singMatins := by decide +kernel
set_option maxRecDepth 20000 in
theorem lkX4_singMatins_f15 : Cond.fieldLink RX4 15 "NicheSaints$Ring" "things" "[I" ∈ wsX4_singMatins := by decide +kernel
set_option maxRecDepth 20000 in
theorem lkX4_singMatins_f9 : Cond.fieldLink RX4 9 "NicheSaints$Ring" "kinds" "[I" ∈ wsX4_singMatins := by decide +kernel
set_option maxRecDepth 20000 in
theorem inX4_singMatins_4 : ∀ w ∈ u_ws RX4 TX4 5, w ∈ wsX4_singMatins := by decide +kernel
set_option maxRecDepth 20000 in
theorem lkX4_whoHas_f24 : Cond.fieldLink RX4 24 "NicheSaints$Ring" "size" "I" ∈ wsX4_whoHas := by decide +kernel
set_option maxRecDepth 20000 in
theorem lkX4_whoHas_c69 : Cond.constant RX4 69 (-1000000) ∈ wsX4_whoHas := by decide +kernel
set_option maxRecDepth 20000 in
theorem lkX4_whoHas_f15 : Cond.fieldLink RX4 15 "NicheSaints$Ring" "things" "[I" ∈ wsX4_whoHas := by decide +kernel
set_option maxRecDepth 20000 in
theorem inX4_whoHas_4 : ∀ w ∈ u_ws RX4 TX4 5, w ∈ wsX4_whoHas := by decide +kernel
set_option maxRecDepth 20000 in
theorem lkX4_withNone_f24 : Cond.fieldLink RX4 24 "NicheSaints$Ring" "size" "I" ∈ wsX4_withNone := by decide +kernel
set_option maxRecDepth 20000 in
theorem lkX4_withNone_f15 : Cond.fieldLink RX4 15 "NicheSaints$Ring" "things" "[I" ∈ wsX4_withNone := by decide +kernel
set_option maxRecDepth 20000 in
theorem inX4_withNone_4 : ∀ w ∈ u_ws RX4 TX4 5, w ∈ wsX4_withNone := by decide +kernel
set_option maxRecDepth 20000 in
theorem lkX4_atHome_f24 : Cond.fieldLink RX4 24 "NicheSaints$Ring" "size" "I" ∈ wsX4_atHome := by decide +kernel
set_option maxRecDepth 20000 in
theorem lkX4_atHome_f15 : Cond.fieldLink RX4 15 "NicheSaints$Ring" "things" "[I" ∈ wsX4_atHome := by decide +kernel
set_option maxRecDepth 20000 in
theorem inX4_atHome_4 : ∀ w ∈ u_ws RX4 TX4 5, w ∈ wsX4_atHome := by decide +kernel
set_option maxRecDepth 20000 in
theorem lkX4_hasHoodWithThing_f24 : Cond.fieldLink RX4 24 "NicheSaints$Ring" "size" "I" ∈ wsX4_hasHoodWithThing := by decide +kernel
set_option maxRecDepth 20000 in
theorem lkX4_hasHoodWithThing_f9 : Cond.fieldLink RX4 9 "NicheSaints$Ring" "kinds" "[I" ∈ wsX4_hasHoodWithThing := by decide +kernel
set_option maxRecDepth 20000 in
theorem lkX4_hasHoodWithThing_f15 : Cond.fieldLink RX4 15 "NicheSaints$Ring" "things" "[I" ∈ wsX4_hasHoodWithThing := by decide +kernel
set_option maxRecDepth 20000 in
theorem inX4_hasHoodWithThing_4 : ∀ w ∈ u_ws RX4 TX4 5, w ∈ wsX4_hasHoodWithThing := by decide +kernel
set_option maxRecDepth 20000 in
theorem lkX4_figures_f24 : Cond.fieldLink RX4 24 "NicheSaints$Ring" "size" "I" ∈ wsX4_figures := by decide +kernel
set_option maxRecDepth 20000 in
theorem lkX4_figures_f15 : Cond.fieldLink RX4 15 "NicheSaints$Ring" "things" "[I" ∈ wsX4_figures := by decide +kernel
set_option maxRecDepth 20000 in
theorem inX4_figures_4 : ∀ w ∈ u_ws RX4 TX4 5, w ∈ wsX4_figures := by decide +kernel
set_option maxRecDepth 20000 in
theorem lkX4_takeFigures_f24 : Cond.fieldLink RX4 24 "NicheSaints$Ring" "size" "I" ∈ wsX4_takeFigures := by decide +kernel
set_option maxRecDepth 20000 in
theorem lkX4_takeFigures_f15 : Cond.fieldLink RX4 15 "NicheSaints$Ring" "things" "[I" ∈ wsX4_takeFigures := by decide +kernel
set_option maxRecDepth 20000 in
theorem inX4_takeFigures_4 : ∀ w ∈ u_ws RX4 TX4 5, w ∈ wsX4_takeFigures := by decide +kernel
set_option maxRecDepth 20000 in
theorem lkX5_isMissing_f15 : Cond.fieldLink RX5 15 "NicheSaints$Shelf" "lane" "I" ∈ wsX5_isMissing := by decide +kernel
set_option maxRecDepth 20000 in
theorem inX5_isMissing_5 : ∀ w ∈ u_ws RX5 TX5 3, w ∈ wsX5_isMissing := by decide +kernel
set_option maxRecDepth 20000 in
theorem lkX5_lay_f9 : Cond.fieldLink RX5 9 "NicheSaints$Shelf" "items" "[I" ∈ wsX5_lay := by decide +kernel
set_option maxRecDepth 20000 in
theorem lkX5_lay_f15 : Cond.fieldLink RX5 15 "NicheSaints$Shelf" "lane" "I" ∈ wsX5_lay := by decide +kernel
set_option maxRecDepth 20000 in
theorem lkX5_lay_f25 : Cond.fieldLink RX5 25 "NicheSaints$Shelf" "size" "I" ∈ wsX5_lay := by decide +kernel
set_option maxRecDepth 20000 in
theorem inX5_lay_5 : ∀ w ∈ u_ws RX5 TX5 3, w ∈ wsX5_lay := by decide +kernel
set_option maxRecDepth 20000 in
theorem lkX5_clear_f25 : Cond.fieldLink RX5 25 "NicheSaints$Shelf" "size" "I" ∈ wsX5_clear := by decide +kernel
set_option maxRecDepth 20000 in
theorem lkX5_clear_f15 : Cond.fieldLink RX5 15 "NicheSaints$Shelf" "lane" "I" ∈ wsX5_clear := by decide +kernel
set_option maxRecDepth 20000 in
theorem inX5_clear_5 : ∀ w ∈ u_ws RX5 TX5 3, w ∈ wsX5_clear := by decide +kernel
set_option maxRecDepth 20000 in
theorem lkX5_has_f25 : Cond.fieldLink RX5 25 "NicheSaints$Shelf" "size" "I" ∈ wsX5_has := by decide +kernel
set_option maxRecDepth 20000 in
theorem inX5_has_5 : ∀ w ∈ u_ws RX5 TX5 3, w ∈ wsX5_has := by decide +kernel
set_option maxRecDepth 20000 in
theorem lkX5_put_f9 : Cond.fieldLink RX5 9 "NicheSaints$Shelf" "items" "[I" ∈ wsX5_put := by decide +kernel
set_option maxRecDepth 20000 in
theorem inX5_put_5 : ∀ w ∈ u_ws RX5 TX5 3, w ∈ wsX5_put := by decide +kernel
set_option maxRecDepth 20000 in
theorem lkX5_cut_f15 : Cond.fieldLink RX5 15 "NicheSaints$Shelf" "lane" "I" ∈ wsX5_cut := by decide +kernel
set_option maxRecDepth 20000 in
theorem inX5_cut_5 : ∀ w ∈ u_ws RX5 TX5 3, w ∈ wsX5_cut := by decide +kernel
set_option maxRecDepth 20000 in
theorem lkX6_add_f22 : Cond.fieldLink RX6 22 "NicheSaints$Tape" "size" "I" ∈ wsX6_add := by decide +kernel
set_option maxRecDepth 20000 in
theorem lkX6_add_f9 : Cond.fieldLink RX6 9 "NicheSaints$Tape" "letters" "[I" ∈ wsX6_add := by decide +kernel
set_option maxRecDepth 20000 in
theorem inX6_add_6 : ∀ w ∈ u_ws RX6 TX6 5, w ∈ wsX6_add := by decide +kernel
set_option maxRecDepth 20000 in
theorem lkX6_read_f22 : Cond.fieldLink RX6 22 "NicheSaints$Tape" "size" "I" ∈ wsX6_read := by decide +kernel
set_option maxRecDepth 20000 in
theorem lkX6_read_f18 : Cond.fieldLink RX6 18 "NicheSaints$Tape" "draft" "LNicheSaints$Ring;" ∈ wsX6_read := by decide +kernel
set_option maxRecDepth 20000 in
theorem lkX6_read_f26 : Cond.fieldLink RX6 26 "NicheSaints$Ring" "size" "I" ∈ wsX6_read := by decide +kernel
set_option maxRecDepth 20000 in
theorem lkX6_read_f27 : Cond.fieldLink RX6 27 "NicheSaints$Tape" "stage" "I" ∈ wsX6_read := by decide +kernel
set_option maxRecDepth 20000 in
theorem inX6_read_4 : ∀ w ∈ u_ws RX4 TX4 5, w ∈ wsX6_read := by decide +kernel
set_option maxRecDepth 20000 in
theorem inX6_read_6 : ∀ w ∈ u_ws RX6 TX6 5, w ∈ wsX6_read := by decide +kernel
set_option maxRecDepth 20000 in
theorem lkX6_fail_f22 : Cond.fieldLink RX6 22 "NicheSaints$Tape" "size" "I" ∈ wsX6_fail := by decide +kernel
set_option maxRecDepth 20000 in
theorem lkX6_fail_f41 : Cond.fieldLink RX6 41 "NicheSaints$Tape" "fault" "I" ∈ wsX6_fail := by decide +kernel
set_option maxRecDepth 20000 in
theorem inX6_fail_6 : ∀ w ∈ u_ws RX6 TX6 5, w ∈ wsX6_fail := by decide +kernel
set_option maxRecDepth 20000 in
theorem lkX6_isFigure_f9 : Cond.fieldLink RX6 9 "NicheSaints$Tape" "letters" "[I" ∈ wsX6_isFigure := by decide +kernel
set_option maxRecDepth 20000 in
theorem inX6_isFigure_6 : ∀ w ∈ u_ws RX6 TX6 5, w ∈ wsX6_isFigure := by decide +kernel
set_option maxRecDepth 20000 in
theorem lkX6_tokenLength_f22 : Cond.fieldLink RX6 22 "NicheSaints$Tape" "size" "I" ∈ wsX6_tokenLength := by decide +kernel
set_option maxRecDepth 20000 in
theorem lkX6_tokenLength_m48 : Cond.methodLink RX6 48 Lib.Math.max.name ∈ wsX6_tokenLength := by decide +kernel
set_option maxRecDepth 20000 in
theorem lkX6_tokenLength_smax0 : Cond.static Lib.Math.max.name ∈ wsX6_tokenLength := by decide +kernel
set_option maxRecDepth 20000 in
theorem lkX6_tokenLength_imax0 : Cond.initialized "java/lang/Math" ∈ wsX6_tokenLength := by decide +kernel
set_option maxRecDepth 20000 in
theorem lkX6_tokenLength_kmax0 : Cond.code Lib.Math.max.name Lib.Math.max.code 2 (some .int) ∈ wsX6_tokenLength := by decide +kernel
set_option maxRecDepth 20000 in
theorem inX6_tokenLength_6 : ∀ w ∈ u_ws RX6 TX6 5, w ∈ wsX6_tokenLength := by decide +kernel
set_option maxRecDepth 20000 in
theorem lkX6_take_f27 : Cond.fieldLink RX6 27 "NicheSaints$Tape" "stage" "I" ∈ wsX6_take := by decide +kernel
set_option maxRecDepth 20000 in
theorem inX6_take_6 : ∀ w ∈ u_ws RX6 TX6 5, w ∈ wsX6_take := by decide +kernel
set_option maxRecDepth 20000 in
theorem lkX6_takeSign_f9 : Cond.fieldLink RX6 9 "NicheSaints$Tape" "letters" "[I" ∈ wsX6_takeSign := by decide +kernel
set_option maxRecDepth 20000 in
theorem lkX6_takeSign_f27 : Cond.fieldLink RX6 27 "NicheSaints$Tape" "stage" "I" ∈ wsX6_takeSign := by decide +kernel
set_option maxRecDepth 20000 in
theorem inX6_takeSign_6 : ∀ w ∈ u_ws RX6 TX6 5, w ∈ wsX6_takeSign := by decide +kernel
set_option maxRecDepth 20000 in
theorem lkX6_takeNight_f18 : Cond.fieldLink RX6 18 "NicheSaints$Tape" "draft" "LNicheSaints$Ring;" ∈ wsX6_takeNight := by decide +kernel
set_option maxRecDepth 20000 in
theorem lkX6_takeNight_f73 : Cond.fieldLink RX6 73 "NicheSaints$Ring" "night" "I" ∈ wsX6_takeNight := by decide +kernel
set_option maxRecDepth 20000 in
theorem lkX6_takeNight_f27 : Cond.fieldLink RX6 27 "NicheSaints$Tape" "stage" "I" ∈ wsX6_takeNight := by decide +kernel
set_option maxRecDepth 20000 in
theorem inX6_takeNight_4 : ∀ w ∈ u_ws RX4 TX4 5, w ∈ wsX6_takeNight := by decide +kernel
set_option maxRecDepth 20000 in
theorem inX6_takeNight_6 : ∀ w ∈ u_ws RX6 TX6 5, w ∈ wsX6_takeNight := by decide +kernel
set_option maxRecDepth 20000 in
theorem lkX6_takeSort_f9 : Cond.fieldLink RX6 9 "NicheSaints$Tape" "letters" "[I" ∈ wsX6_takeSort := by decide +kernel
set_option maxRecDepth 20000 in
theorem lkX6_takeSort_f18 : Cond.fieldLink RX6 18 "NicheSaints$Tape" "draft" "LNicheSaints$Ring;" ∈ wsX6_takeSort := by decide +kernel
set_option maxRecDepth 20000 in
theorem lkX6_takeSort_f26 : Cond.fieldLink RX6 26 "NicheSaints$Ring" "size" "I" ∈ wsX6_takeSort := by decide +kernel
set_option maxRecDepth 20000 in
theorem lkX6_takeSort_f83 : Cond.fieldLink RX6 83 "NicheSaints$Ring" "kinds" "[I" ∈ wsX6_takeSort := by decide +kernel
set_option maxRecDepth 20000 in
theorem lkX6_takeSort_f27 : Cond.fieldLink RX6 27 "NicheSaints$Tape" "stage" "I" ∈ wsX6_takeSort := by decide +kernel
set_option maxRecDepth 20000 in
theorem inX6_takeSort_4 : ∀ w ∈ u_ws RX4 TX4 5, w ∈ wsX6_takeSort := by decide +kernel
set_option maxRecDepth 20000 in
theorem inX6_takeSort_6 : ∀ w ∈ u_ws RX6 TX6 5, w ∈ wsX6_takeSort := by decide +kernel
set_option maxRecDepth 20000 in
theorem lkX6_takeThing_f18 : Cond.fieldLink RX6 18 "NicheSaints$Tape" "draft" "LNicheSaints$Ring;" ∈ wsX6_takeThing := by decide +kernel
set_option maxRecDepth 20000 in
theorem lkX6_takeThing_c89 : Cond.constant RX6 89 (-1000000) ∈ wsX6_takeThing := by decide +kernel
set_option maxRecDepth 20000 in
theorem lkX6_takeThing_f90 : Cond.fieldLink RX6 90 "NicheSaints$Ring" "things" "[I" ∈ wsX6_takeThing := by decide +kernel
set_option maxRecDepth 20000 in
theorem lkX6_takeThing_f26 : Cond.fieldLink RX6 26 "NicheSaints$Ring" "size" "I" ∈ wsX6_takeThing := by decide +kernel
set_option maxRecDepth 20000 in
theorem lkX6_takeThing_f27 : Cond.fieldLink RX6 27 "NicheSaints$Tape" "stage" "I" ∈ wsX6_takeThing := by decide +kernel
set_option maxRecDepth 20000 in
theorem inX6_takeThing_4 : ∀ w ∈ u_ws RX4 TX4 5, w ∈ wsX6_takeThing := by decide +kernel
set_option maxRecDepth 20000 in
theorem inX6_takeThing_6 : ∀ w ∈ u_ws RX6 TX6 5, w ∈ wsX6_takeThing := by decide +kernel
set_option maxRecDepth 20000 in
theorem lkX6_numberAt_f9 : Cond.fieldLink RX6 9 "NicheSaints$Tape" "letters" "[I" ∈ wsX6_numberAt := by decide +kernel
set_option maxRecDepth 20000 in
theorem inX6_numberAt_6 : ∀ w ∈ u_ws RX6 TX6 5, w ∈ wsX6_numberAt := by decide +kernel
set_option maxRecDepth 20000 in
theorem lkX7_row_c73 : Cond.constant RX7 73 (-1000001) ∈ wsX7_row := by decide +kernel
set_option maxRecDepth 20000 in
theorem lkX7_row_f78 : Cond.fieldLink RX7 78 "NicheSaints" "finding" "I" ∈ wsX7_row := by decide +kernel
set_option maxRecDepth 20000 in
theorem lkX7_row_f11 : Cond.fieldLink RX7 11 "NicheSaints" "shelves" "[LNicheSaints$Shelf;" ∈ wsX7_row := by decide +kernel
set_option maxRecDepth 20000 in
theorem inX7_row_7 : ∀ w ∈ u_ws RX7 TX7 11, w ∈ wsX7_row := by decide +kernel
set_option maxRecDepth 20000 in
theorem lkX7_set_f78 : Cond.fieldLink RX7 78 "NicheSaints" "finding" "I" ∈ wsX7_set := by decide +kernel
set_option maxRecDepth 20000 in
theorem lkX7_set_f11 : Cond.fieldLink RX7 11 "NicheSaints" "shelves" "[LNicheSaints$Shelf;" ∈ wsX7_set := by decide +kernel
set_option maxRecDepth 20000 in
theorem lkX7_set_c73 : Cond.constant RX7 73 (-1000001) ∈ wsX7_set := by decide +kernel
set_option maxRecDepth 20000 in
theorem inX7_set_7 : ∀ w ∈ u_ws RX7 TX7 11, w ∈ wsX7_set := by decide +kernel
set_option maxRecDepth 20000 in
theorem lkX7_copy_c73 : Cond.constant RX7 73 (-1000001) ∈ wsX7_copy := by decide +kernel
set_option maxRecDepth 20000 in
theorem lkX7_copy_f11 : Cond.fieldLink RX7 11 "NicheSaints" "shelves" "[LNicheSaints$Shelf;" ∈ wsX7_copy := by decide +kernel
set_option maxRecDepth 20000 in
theorem lkX7_copy_f98 : Cond.fieldLink RX7 98 "NicheSaints$Shelf" "lane" "I" ∈ wsX7_copy := by decide +kernel
set_option maxRecDepth 20000 in
theorem lkX7_copy_f78 : Cond.fieldLink RX7 78 "NicheSaints" "finding" "I" ∈ wsX7_copy := by decide +kernel
set_option maxRecDepth 20000 in
theorem lkX7_copy_f105 : Cond.fieldLink RX7 105 "NicheSaints$Shelf" "items" "[I" ∈ wsX7_copy := by decide +kernel
set_option maxRecDepth 20000 in
theorem lkX7_copy_m108 : Cond.methodLink RX7 108 arraycopyName ∈ wsX7_copy := by decide +kernel
set_option maxRecDepth 20000 in
theorem lkX7_copy_n0 : Cond.native arraycopyName ∈ wsX7_copy := by decide +kernel
set_option maxRecDepth 20000 in
theorem lkX7_copy_s0 : Cond.static arraycopyName ∈ wsX7_copy := by decide +kernel
set_option maxRecDepth 20000 in
theorem lkX7_copy_i0 : Cond.initialized "java/lang/System" ∈ wsX7_copy := by decide +kernel
set_option maxRecDepth 20000 in
theorem inX7_copy_5 : ∀ w ∈ u_ws RX5 TX5 3, w ∈ wsX7_copy := by decide +kernel
set_option maxRecDepth 20000 in
theorem inX7_copy_7 : ∀ w ∈ u_ws RX7 TX7 11, w ∈ wsX7_copy := by decide +kernel
set_option maxRecDepth 20000 in
theorem lkX7_drop_f11 : Cond.fieldLink RX7 11 "NicheSaints" "shelves" "[LNicheSaints$Shelf;" ∈ wsX7_drop := by decide +kernel
set_option maxRecDepth 20000 in
theorem lkX7_drop_f78 : Cond.fieldLink RX7 78 "NicheSaints" "finding" "I" ∈ wsX7_drop := by decide +kernel
set_option maxRecDepth 20000 in
theorem lkX7_drop_c73 : Cond.constant RX7 73 (-1000001) ∈ wsX7_drop := by decide +kernel
set_option maxRecDepth 20000 in
theorem inX7_drop_7 : ∀ w ∈ u_ws RX7 TX7 11, w ∈ wsX7_drop := by decide +kernel
set_option maxRecDepth 20000 in
theorem lkX7_feed_c73 : Cond.constant RX7 73 (-1000001) ∈ wsX7_feed := by decide +kernel
set_option maxRecDepth 20000 in
theorem lkX7_feed_f18 : Cond.fieldLink RX7 18 "NicheSaints" "tape" "LNicheSaints$Tape;" ∈ wsX7_feed := by decide +kernel
set_option maxRecDepth 20000 in
theorem lkX7_feed_c124 : Cond.constant RX7 124 (-1000003) ∈ wsX7_feed := by decide +kernel
set_option maxRecDepth 20000 in
theorem lkX7_feed_f121 : Cond.fieldLink RX7 121 "NicheSaints$Tape" "size" "I" ∈ wsX7_feed := by decide +kernel
set_option maxRecDepth 20000 in
theorem inX7_feed_6 : ∀ w ∈ u_ws RX6 TX6 5, w ∈ wsX7_feed := by decide +kernel
set_option maxRecDepth 20000 in
theorem inX7_feed_7 : ∀ w ∈ u_ws RX7 TX7 11, w ∈ wsX7_feed := by decide +kernel
set_option maxRecDepth 20000 in
theorem lkX7_saints_f18 : Cond.fieldLink RX7 18 "NicheSaints" "tape" "LNicheSaints$Tape;" ∈ wsX7_saints := by decide +kernel
set_option maxRecDepth 20000 in
theorem lkX7_saints_f25 : Cond.fieldLink RX7 25 "NicheSaints" "now" "LNicheSaints$Ring;" ∈ wsX7_saints := by decide +kernel
set_option maxRecDepth 20000 in
theorem lkX7_saints_f129 : Cond.fieldLink RX7 129 "NicheSaints$Tape" "draft" "LNicheSaints$Ring;" ∈ wsX7_saints := by decide +kernel
set_option maxRecDepth 20000 in
theorem lkX7_saints_f39 : Cond.fieldLink RX7 39 "NicheSaints" "acts" "LNicheSaints$Acts;" ∈ wsX7_saints := by decide +kernel
set_option maxRecDepth 20000 in
theorem lkX7_saints_f139 : Cond.fieldLink RX7 139 "NicheSaints$Ring" "size" "I" ∈ wsX7_saints := by decide +kernel
set_option maxRecDepth 20000 in
theorem lkX7_saints_c128 : Cond.constant RX7 128 (-1000100) ∈ wsX7_saints := by decide +kernel
set_option maxRecDepth 20000 in
theorem inX7_saints_4 : ∀ w ∈ u_ws RX4 TX4 5, w ∈ wsX7_saints := by decide +kernel
set_option maxRecDepth 20000 in
theorem inX7_saints_6 : ∀ w ∈ u_ws RX6 TX6 5, w ∈ wsX7_saints := by decide +kernel
set_option maxRecDepth 20000 in
theorem inX7_saints_7 : ∀ w ∈ u_ws RX7 TX7 11, w ∈ wsX7_saints := by decide +kernel
set_option maxRecDepth 20000 in
theorem lkX7_fault_f18 : Cond.fieldLink RX7 18 "NicheSaints" "tape" "LNicheSaints$Tape;" ∈ wsX7_fault := by decide +kernel
set_option maxRecDepth 20000 in
theorem lkX7_fault_f140 : Cond.fieldLink RX7 140 "NicheSaints$Tape" "fault" "I" ∈ wsX7_fault := by decide +kernel
set_option maxRecDepth 20000 in
theorem inX7_fault_6 : ∀ w ∈ u_ws RX6 TX6 5, w ∈ wsX7_fault := by decide +kernel
set_option maxRecDepth 20000 in
theorem inX7_fault_7 : ∀ w ∈ u_ws RX7 TX7 11, w ∈ wsX7_fault := by decide +kernel
set_option maxRecDepth 20000 in
theorem lkX7_steps_f25 : Cond.fieldLink RX7 25 "NicheSaints" "now" "LNicheSaints$Ring;" ∈ wsX7_steps := by decide +kernel
set_option maxRecDepth 20000 in
theorem lkX7_steps_f139 : Cond.fieldLink RX7 139 "NicheSaints$Ring" "size" "I" ∈ wsX7_steps := by decide +kernel
set_option maxRecDepth 20000 in
theorem lkX7_steps_c73 : Cond.constant RX7 73 (-1000001) ∈ wsX7_steps := by decide +kernel
set_option maxRecDepth 20000 in
theorem lkX7_steps_f144 : Cond.fieldLink RX7 144 "NicheSaints$Ring" "step" "I" ∈ wsX7_steps := by decide +kernel
set_option maxRecDepth 20000 in
theorem lkX7_steps_c124 : Cond.constant RX7 124 (-1000003) ∈ wsX7_steps := by decide +kernel
set_option maxRecDepth 20000 in
theorem lkX7_steps_c143 : Cond.constant RX7 143 (-1000002) ∈ wsX7_steps := by decide +kernel
set_option maxRecDepth 20000 in
theorem lkX7_steps_f39 : Cond.fieldLink RX7 39 "NicheSaints" "acts" "LNicheSaints$Acts;" ∈ wsX7_steps := by decide +kernel
set_option maxRecDepth 20000 in
theorem inX7_steps_4 : ∀ w ∈ u_ws RX4 TX4 5, w ∈ wsX7_steps := by decide +kernel
set_option maxRecDepth 20000 in
theorem inX7_steps_7 : ∀ w ∈ u_ws RX7 TX7 11, w ∈ wsX7_steps := by decide +kernel
set_option maxRecDepth 20000 in
theorem lkX7_swap_f25 : Cond.fieldLink RX7 25 "NicheSaints" "now" "LNicheSaints$Ring;" ∈ wsX7_swap := by decide +kernel
set_option maxRecDepth 20000 in
theorem lkX7_swap_c73 : Cond.constant RX7 73 (-1000001) ∈ wsX7_swap := by decide +kernel
set_option maxRecDepth 20000 in
theorem lkX7_swap_f39 : Cond.fieldLink RX7 39 "NicheSaints" "acts" "LNicheSaints$Acts;" ∈ wsX7_swap := by decide +kernel
set_option maxRecDepth 20000 in
theorem lkX7_swap_f160 : Cond.fieldLink RX7 160 "NicheSaints$Ring" "things" "[I" ∈ wsX7_swap := by decide +kernel
set_option maxRecDepth 20000 in
theorem inX7_swap_4 : ∀ w ∈ u_ws RX4 TX4 5, w ∈ wsX7_swap := by decide +kernel
set_option maxRecDepth 20000 in
theorem inX7_swap_7 : ∀ w ∈ u_ws RX7 TX7 11, w ∈ wsX7_swap := by decide +kernel
set_option maxRecDepth 20000 in
theorem lkX7_night_f25 : Cond.fieldLink RX7 25 "NicheSaints" "now" "LNicheSaints$Ring;" ∈ wsX7_night := by decide +kernel
set_option maxRecDepth 20000 in
theorem lkX7_night_f139 : Cond.fieldLink RX7 139 "NicheSaints$Ring" "size" "I" ∈ wsX7_night := by decide +kernel
set_option maxRecDepth 20000 in
theorem lkX7_night_c73 : Cond.constant RX7 73 (-1000001) ∈ wsX7_night := by decide +kernel
set_option maxRecDepth 20000 in
theorem lkX7_night_f163 : Cond.fieldLink RX7 163 "NicheSaints$Ring" "night" "I" ∈ wsX7_night := by decide +kernel
set_option maxRecDepth 20000 in
theorem lkX7_night_f39 : Cond.fieldLink RX7 39 "NicheSaints" "acts" "LNicheSaints$Acts;" ∈ wsX7_night := by decide +kernel
set_option maxRecDepth 20000 in
theorem lkX7_night_c143 : Cond.constant RX7 143 (-1000002) ∈ wsX7_night := by decide +kernel
set_option maxRecDepth 20000 in
theorem inX7_night_4 : ∀ w ∈ u_ws RX4 TX4 5, w ∈ wsX7_night := by decide +kernel
set_option maxRecDepth 20000 in
theorem inX7_night_7 : ∀ w ∈ u_ws RX7 TX7 11, w ∈ wsX7_night := by decide +kernel
set_option maxRecDepth 20000 in
theorem lkX7_undo_f39 : Cond.fieldLink RX7 39 "NicheSaints" "acts" "LNicheSaints$Acts;" ∈ wsX7_undo := by decide +kernel
set_option maxRecDepth 20000 in
theorem lkX7_undo_f166 : Cond.fieldLink RX7 166 "NicheSaints$Acts" "size" "I" ∈ wsX7_undo := by decide +kernel
set_option maxRecDepth 20000 in
theorem lkX7_undo_f25 : Cond.fieldLink RX7 25 "NicheSaints" "now" "LNicheSaints$Ring;" ∈ wsX7_undo := by decide +kernel
set_option maxRecDepth 20000 in
theorem lkX7_undo_c143 : Cond.constant RX7 143 (-1000002) ∈ wsX7_undo := by decide +kernel
set_option maxRecDepth 20000 in
theorem inX7_undo_0 : ∀ w ∈ u_ws RX0 TX0 5, w ∈ wsX7_undo := by decide +kernel
set_option maxRecDepth 20000 in
theorem inX7_undo_7 : ∀ w ∈ u_ws RX7 TX7 11, w ∈ wsX7_undo := by decide +kernel
set_option maxRecDepth 20000 in
theorem lkX7_saint_f25 : Cond.fieldLink RX7 25 "NicheSaints" "now" "LNicheSaints$Ring;" ∈ wsX7_saint := by decide +kernel
set_option maxRecDepth 20000 in
theorem lkX7_saint_c73 : Cond.constant RX7 73 (-1000001) ∈ wsX7_saint := by decide +kernel
set_option maxRecDepth 20000 in
theorem lkX7_saint_f160 : Cond.fieldLink RX7 160 "NicheSaints$Ring" "things" "[I" ∈ wsX7_saint := by decide +kernel
set_option maxRecDepth 20000 in
theorem inX7_saint_4 : ∀ w ∈ u_ws RX4 TX4 5, w ∈ wsX7_saint := by decide +kernel
set_option maxRecDepth 20000 in
theorem inX7_saint_7 : ∀ w ∈ u_ws RX7 TX7 11, w ∈ wsX7_saint := by decide +kernel
set_option maxRecDepth 20000 in
theorem lkX7_holder_c73 : Cond.constant RX7 73 (-1000001) ∈ wsX7_holder := by decide +kernel
set_option maxRecDepth 20000 in
theorem lkX7_holder_f25 : Cond.fieldLink RX7 25 "NicheSaints" "now" "LNicheSaints$Ring;" ∈ wsX7_holder := by decide +kernel
set_option maxRecDepth 20000 in
theorem inX7_holder_7 : ∀ w ∈ u_ws RX7 TX7 11, w ∈ wsX7_holder := by decide +kernel
set_option maxRecDepth 20000 in
theorem lkX7_ahead_f25 : Cond.fieldLink RX7 25 "NicheSaints" "now" "LNicheSaints$Ring;" ∈ wsX7_ahead := by decide +kernel
set_option maxRecDepth 20000 in
theorem lkX7_ahead_c73 : Cond.constant RX7 73 (-1000001) ∈ wsX7_ahead := by decide +kernel
set_option maxRecDepth 20000 in
theorem lkX7_ahead_f29 : Cond.fieldLink RX7 29 "NicheSaints" "trial" "LNicheSaints$Ring;" ∈ wsX7_ahead := by decide +kernel
set_option maxRecDepth 20000 in
theorem lkX7_ahead_f160 : Cond.fieldLink RX7 160 "NicheSaints$Ring" "things" "[I" ∈ wsX7_ahead := by decide +kernel
set_option maxRecDepth 20000 in
theorem inX7_ahead_4 : ∀ w ∈ u_ws RX4 TX4 5, w ∈ wsX7_ahead := by decide +kernel
set_option maxRecDepth 20000 in
theorem inX7_ahead_7 : ∀ w ∈ u_ws RX7 TX7 11, w ∈ wsX7_ahead := by decide +kernel
set_option maxRecDepth 20000 in
theorem lkX7_when_f25 : Cond.fieldLink RX7 25 "NicheSaints" "now" "LNicheSaints$Ring;" ∈ wsX7_when := by decide +kernel
set_option maxRecDepth 20000 in
theorem lkX7_when_c73 : Cond.constant RX7 73 (-1000001) ∈ wsX7_when := by decide +kernel
set_option maxRecDepth 20000 in
theorem lkX7_when_f29 : Cond.fieldLink RX7 29 "NicheSaints" "trial" "LNicheSaints$Ring;" ∈ wsX7_when := by decide +kernel
set_option maxRecDepth 20000 in
theorem lkX7_when_c182 : Cond.constant RX7 182 (-1000000) ∈ wsX7_when := by decide +kernel
set_option maxRecDepth 20000 in
theorem lkX7_when_f160 : Cond.fieldLink RX7 160 "NicheSaints$Ring" "things" "[I" ∈ wsX7_when := by decide +kernel
set_option maxRecDepth 20000 in
theorem inX7_when_4 : ∀ w ∈ u_ws RX4 TX4 5, w ∈ wsX7_when := by decide +kernel
set_option maxRecDepth 20000 in
theorem inX7_when_7 : ∀ w ∈ u_ws RX7 TX7 11, w ∈ wsX7_when := by decide +kernel
set_option maxRecDepth 20000 in
theorem lkX7_pray_f25 : Cond.fieldLink RX7 25 "NicheSaints" "now" "LNicheSaints$Ring;" ∈ wsX7_pray := by decide +kernel
set_option maxRecDepth 20000 in
theorem lkX7_pray_f139 : Cond.fieldLink RX7 139 "NicheSaints$Ring" "size" "I" ∈ wsX7_pray := by decide +kernel
set_option maxRecDepth 20000 in
theorem lkX7_pray_f29 : Cond.fieldLink RX7 29 "NicheSaints" "trial" "LNicheSaints$Ring;" ∈ wsX7_pray := by decide +kernel
set_option maxRecDepth 20000 in
theorem lkX7_pray_c73 : Cond.constant RX7 73 (-1000001) ∈ wsX7_pray := by decide +kernel
set_option maxRecDepth 20000 in
theorem lkX7_pray_c143 : Cond.constant RX7 143 (-1000002) ∈ wsX7_pray := by decide +kernel
set_option maxRecDepth 20000 in
theorem inX7_pray_4 : ∀ w ∈ u_ws RX4 TX4 5, w ∈ wsX7_pray := by decide +kernel
set_option maxRecDepth 20000 in
theorem inX7_pray_7 : ∀ w ∈ u_ws RX7 TX7 11, w ∈ wsX7_pray := by decide +kernel
set_option maxRecDepth 20000 in
theorem lkX7_round_f25 : Cond.fieldLink RX7 25 "NicheSaints" "now" "LNicheSaints$Ring;" ∈ wsX7_round := by decide +kernel
set_option maxRecDepth 20000 in
theorem lkX7_round_f139 : Cond.fieldLink RX7 139 "NicheSaints$Ring" "size" "I" ∈ wsX7_round := by decide +kernel
set_option maxRecDepth 20000 in
theorem lkX7_round_f29 : Cond.fieldLink RX7 29 "NicheSaints" "trial" "LNicheSaints$Ring;" ∈ wsX7_round := by decide +kernel
set_option maxRecDepth 20000 in
theorem lkX7_round_c143 : Cond.constant RX7 143 (-1000002) ∈ wsX7_round := by decide +kernel
set_option maxRecDepth 20000 in
theorem lkX7_round_c182 : Cond.constant RX7 182 (-1000000) ∈ wsX7_round := by decide +kernel
set_option maxRecDepth 20000 in
theorem inX7_round_4 : ∀ w ∈ u_ws RX4 TX4 5, w ∈ wsX7_round := by decide +kernel
set_option maxRecDepth 20000 in
theorem inX7_round_7 : ∀ w ∈ u_ws RX7 TX7 11, w ∈ wsX7_round := by decide +kernel
set_option maxRecDepth 20000 in
theorem lkX7_home_f25 : Cond.fieldLink RX7 25 "NicheSaints" "now" "LNicheSaints$Ring;" ∈ wsX7_home := by decide +kernel
set_option maxRecDepth 20000 in
theorem lkX7_home_f139 : Cond.fieldLink RX7 139 "NicheSaints$Ring" "size" "I" ∈ wsX7_home := by decide +kernel
set_option maxRecDepth 20000 in
theorem lkX7_home_f53 : Cond.fieldLink RX7 53 "NicheSaints" "orders" "LNicheSaints$Orders;" ∈ wsX7_home := by decide +kernel
set_option maxRecDepth 20000 in
theorem lkX7_home_c73 : Cond.constant RX7 73 (-1000001) ∈ wsX7_home := by decide +kernel
set_option maxRecDepth 20000 in
theorem lkX7_home_c143 : Cond.constant RX7 143 (-1000002) ∈ wsX7_home := by decide +kernel
set_option maxRecDepth 20000 in
theorem inX7_home_4 : ∀ w ∈ u_ws RX4 TX4 5, w ∈ wsX7_home := by decide +kernel
set_option maxRecDepth 20000 in
theorem inX7_home_7 : ∀ w ∈ u_ws RX7 TX7 11, w ∈ wsX7_home := by decide +kernel
set_option maxRecDepth 20000 in
theorem lkX7_swaps_f25 : Cond.fieldLink RX7 25 "NicheSaints" "now" "LNicheSaints$Ring;" ∈ wsX7_swaps := by decide +kernel
set_option maxRecDepth 20000 in
theorem lkX7_swaps_f139 : Cond.fieldLink RX7 139 "NicheSaints$Ring" "size" "I" ∈ wsX7_swaps := by decide +kernel
set_option maxRecDepth 20000 in
theorem lkX7_swaps_c73 : Cond.constant RX7 73 (-1000001) ∈ wsX7_swaps := by decide +kernel
set_option maxRecDepth 20000 in
theorem lkX7_swaps_f78 : Cond.fieldLink RX7 78 "NicheSaints" "finding" "I" ∈ wsX7_swaps := by decide +kernel
set_option maxRecDepth 20000 in
theorem lkX7_swaps_f46 : Cond.fieldLink RX7 46 "NicheSaints" "goal" "LNicheSaints$Goal;" ∈ wsX7_swaps := by decide +kernel
set_option maxRecDepth 20000 in
theorem lkX7_swaps_f11 : Cond.fieldLink RX7 11 "NicheSaints" "shelves" "[LNicheSaints$Shelf;" ∈ wsX7_swaps := by decide +kernel
set_option maxRecDepth 20000 in
theorem lkX7_swaps_c182 : Cond.constant RX7 182 (-1000000) ∈ wsX7_swaps := by decide +kernel
set_option maxRecDepth 20000 in
theorem lkX7_swaps_c143 : Cond.constant RX7 143 (-1000002) ∈ wsX7_swaps := by decide +kernel
set_option maxRecDepth 20000 in
theorem inX7_swaps_4 : ∀ w ∈ u_ws RX4 TX4 5, w ∈ wsX7_swaps := by decide +kernel
set_option maxRecDepth 20000 in
theorem inX7_swaps_7 : ∀ w ∈ u_ws RX7 TX7 11, w ∈ wsX7_swaps := by decide +kernel
set_option maxRecDepth 20000 in
theorem lkX7_sort_f25 : Cond.fieldLink RX7 25 "NicheSaints" "now" "LNicheSaints$Ring;" ∈ wsX7_sort := by decide +kernel
set_option maxRecDepth 20000 in
theorem lkX7_sort_f139 : Cond.fieldLink RX7 139 "NicheSaints$Ring" "size" "I" ∈ wsX7_sort := by decide +kernel
set_option maxRecDepth 20000 in
theorem lkX7_sort_c73 : Cond.constant RX7 73 (-1000001) ∈ wsX7_sort := by decide +kernel
set_option maxRecDepth 20000 in
theorem lkX7_sort_f78 : Cond.fieldLink RX7 78 "NicheSaints" "finding" "I" ∈ wsX7_sort := by decide +kernel
set_option maxRecDepth 20000 in
theorem lkX7_sort_f46 : Cond.fieldLink RX7 46 "NicheSaints" "goal" "LNicheSaints$Goal;" ∈ wsX7_sort := by decide +kernel
set_option maxRecDepth 20000 in
theorem lkX7_sort_f11 : Cond.fieldLink RX7 11 "NicheSaints" "shelves" "[LNicheSaints$Shelf;" ∈ wsX7_sort := by decide +kernel
set_option maxRecDepth 20000 in
theorem lkX7_sort_c182 : Cond.constant RX7 182 (-1000000) ∈ wsX7_sort := by decide +kernel
set_option maxRecDepth 20000 in
theorem lkX7_sort_c143 : Cond.constant RX7 143 (-1000002) ∈ wsX7_sort := by decide +kernel
set_option maxRecDepth 20000 in
theorem inX7_sort_4 : ∀ w ∈ u_ws RX4 TX4 5, w ∈ wsX7_sort := by decide +kernel
set_option maxRecDepth 20000 in
theorem inX7_sort_7 : ∀ w ∈ u_ws RX7 TX7 11, w ∈ wsX7_sort := by decide +kernel
set_option maxRecDepth 20000 in
theorem lkX7_plan_f25 : Cond.fieldLink RX7 25 "NicheSaints" "now" "LNicheSaints$Ring;" ∈ wsX7_plan := by decide +kernel
set_option maxRecDepth 20000 in
theorem lkX7_plan_c73 : Cond.constant RX7 73 (-1000001) ∈ wsX7_plan := by decide +kernel
set_option maxRecDepth 20000 in
theorem lkX7_plan_c182 : Cond.constant RX7 182 (-1000000) ∈ wsX7_plan := by decide +kernel
set_option maxRecDepth 20000 in
theorem lkX7_plan_f64 : Cond.fieldLink RX7 64 "NicheSaints" "planned" "[I" ∈ wsX7_plan := by decide +kernel
set_option maxRecDepth 20000 in
theorem inX7_plan_7 : ∀ w ∈ u_ws RX7 TX7 11, w ∈ wsX7_plan := by decide +kernel
set_option maxRecDepth 20000 in
theorem lkX7_fits_f78 : Cond.fieldLink RX7 78 "NicheSaints" "finding" "I" ∈ wsX7_fits := by decide +kernel
set_option maxRecDepth 20000 in
theorem lkX7_fits_c73 : Cond.constant RX7 73 (-1000001) ∈ wsX7_fits := by decide +kernel
set_option maxRecDepth 20000 in
theorem inX7_fits_7 : ∀ w ∈ u_ws RX7 TX7 11, w ∈ wsX7_fits := by decide +kernel
set_option maxRecDepth 20000 in
theorem lkX7_began_f78 : Cond.fieldLink RX7 78 "NicheSaints" "finding" "I" ∈ wsX7_began := by decide +kernel
set_option maxRecDepth 20000 in
theorem lkX7_began_c73 : Cond.constant RX7 73 (-1000001) ∈ wsX7_began := by decide +kernel
set_option maxRecDepth 20000 in
theorem inX7_began_7 : ∀ w ∈ u_ws RX7 TX7 11, w ∈ wsX7_began := by decide +kernel
set_option maxRecDepth 20000 in
theorem lkX7_sleep_f25 : Cond.fieldLink RX7 25 "NicheSaints" "now" "LNicheSaints$Ring;" ∈ wsX7_sleep := by decide +kernel
set_option maxRecDepth 20000 in
theorem lkX7_sleep_c73 : Cond.constant RX7 73 (-1000001) ∈ wsX7_sleep := by decide +kernel
set_option maxRecDepth 20000 in
theorem lkX7_sleep_f139 : Cond.fieldLink RX7 139 "NicheSaints$Ring" "size" "I" ∈ wsX7_sleep := by decide +kernel
set_option maxRecDepth 20000 in
theorem lkX7_sleep_f29 : Cond.fieldLink RX7 29 "NicheSaints" "trial" "LNicheSaints$Ring;" ∈ wsX7_sleep := by decide +kernel
set_option maxRecDepth 20000 in
theorem lkX7_sleep_f160 : Cond.fieldLink RX7 160 "NicheSaints$Ring" "things" "[I" ∈ wsX7_sleep := by decide +kernel
set_option maxRecDepth 20000 in
theorem inX7_sleep_4 : ∀ w ∈ u_ws RX4 TX4 5, w ∈ wsX7_sleep := by decide +kernel
set_option maxRecDepth 20000 in
theorem inX7_sleep_7 : ∀ w ∈ u_ws RX7 TX7 11, w ∈ wsX7_sleep := by decide +kernel
set_option maxRecDepth 20000 in
theorem lkX7_drawn_f25 : Cond.fieldLink RX7 25 "NicheSaints" "now" "LNicheSaints$Ring;" ∈ wsX7_drawn := by decide +kernel
set_option maxRecDepth 20000 in
theorem lkX7_drawn_f139 : Cond.fieldLink RX7 139 "NicheSaints$Ring" "size" "I" ∈ wsX7_drawn := by decide +kernel
set_option maxRecDepth 20000 in
theorem lkX7_drawn_c73 : Cond.constant RX7 73 (-1000001) ∈ wsX7_drawn := by decide +kernel
set_option maxRecDepth 20000 in
theorem lkX7_drawn_c245 : Cond.constant RX7 245 (999999) ∈ wsX7_drawn := by decide +kernel
set_option maxRecDepth 20000 in
theorem lkX7_drawn_f29 : Cond.fieldLink RX7 29 "NicheSaints" "trial" "LNicheSaints$Ring;" ∈ wsX7_drawn := by decide +kernel
set_option maxRecDepth 20000 in
theorem lkX7_drawn_c143 : Cond.constant RX7 143 (-1000002) ∈ wsX7_drawn := by decide +kernel
set_option maxRecDepth 20000 in
theorem lkX7_drawn_l246 : Cond.constantLong RX7 246 (16807) ∈ wsX7_drawn := by decide +kernel
set_option maxRecDepth 20000 in
theorem lkX7_drawn_l248 : Cond.constantLong RX7 248 (2147483647) ∈ wsX7_drawn := by decide +kernel
set_option maxRecDepth 20000 in
theorem inX7_drawn_4 : ∀ w ∈ u_ws RX4 TX4 5, w ∈ wsX7_drawn := by decide +kernel
set_option maxRecDepth 20000 in
theorem inX7_drawn_7 : ∀ w ∈ u_ws RX7 TX7 11, w ∈ wsX7_drawn := by decide +kernel
set_option maxRecDepth 20000 in
theorem lkX7_image_c73 : Cond.constant RX7 73 (-1000001) ∈ wsX7_image := by decide +kernel
set_option maxRecDepth 20000 in
theorem lkX7_image_f25 : Cond.fieldLink RX7 25 "NicheSaints" "now" "LNicheSaints$Ring;" ∈ wsX7_image := by decide +kernel
set_option maxRecDepth 20000 in
theorem lkX7_image_f139 : Cond.fieldLink RX7 139 "NicheSaints$Ring" "size" "I" ∈ wsX7_image := by decide +kernel
set_option maxRecDepth 20000 in
theorem lkX7_image_f32 : Cond.fieldLink RX7 32 "NicheSaints" "images" "[LNicheSaints$Ring;" ∈ wsX7_image := by decide +kernel
set_option maxRecDepth 20000 in
theorem lkX7_image_c143 : Cond.constant RX7 143 (-1000002) ∈ wsX7_image := by decide +kernel
set_option maxRecDepth 20000 in
theorem inX7_image_4 : ∀ w ∈ u_ws RX4 TX4 5, w ∈ wsX7_image := by decide +kernel
set_option maxRecDepth 20000 in
theorem inX7_image_7 : ∀ w ∈ u_ws RX7 TX7 11, w ∈ wsX7_image := by decide +kernel
set_option maxRecDepth 20000 in
theorem lkX7_restore_c73 : Cond.constant RX7 73 (-1000001) ∈ wsX7_restore := by decide +kernel
set_option maxRecDepth 20000 in
theorem lkX7_restore_f32 : Cond.fieldLink RX7 32 "NicheSaints" "images" "[LNicheSaints$Ring;" ∈ wsX7_restore := by decide +kernel
set_option maxRecDepth 20000 in
theorem lkX7_restore_f139 : Cond.fieldLink RX7 139 "NicheSaints$Ring" "size" "I" ∈ wsX7_restore := by decide +kernel
set_option maxRecDepth 20000 in
theorem lkX7_restore_f25 : Cond.fieldLink RX7 25 "NicheSaints" "now" "LNicheSaints$Ring;" ∈ wsX7_restore := by decide +kernel
set_option maxRecDepth 20000 in
theorem lkX7_restore_f39 : Cond.fieldLink RX7 39 "NicheSaints" "acts" "LNicheSaints$Acts;" ∈ wsX7_restore := by decide +kernel
set_option maxRecDepth 20000 in
theorem lkX7_restore_c143 : Cond.constant RX7 143 (-1000002) ∈ wsX7_restore := by decide +kernel
set_option maxRecDepth 20000 in
theorem inX7_restore_4 : ∀ w ∈ u_ws RX4 TX4 5, w ∈ wsX7_restore := by decide +kernel
set_option maxRecDepth 20000 in
theorem inX7_restore_7 : ∀ w ∈ u_ws RX7 TX7 11, w ∈ wsX7_restore := by decide +kernel
set_option maxRecDepth 20000 in
theorem lkX7_kind_f25 : Cond.fieldLink RX7 25 "NicheSaints" "now" "LNicheSaints$Ring;" ∈ wsX7_kind := by decide +kernel
set_option maxRecDepth 20000 in
theorem lkX7_kind_c73 : Cond.constant RX7 73 (-1000001) ∈ wsX7_kind := by decide +kernel
set_option maxRecDepth 20000 in
theorem lkX7_kind_f256 : Cond.fieldLink RX7 256 "NicheSaints$Ring" "kinds" "[I" ∈ wsX7_kind := by decide +kernel
set_option maxRecDepth 20000 in
theorem inX7_kind_4 : ∀ w ∈ u_ws RX4 TX4 5, w ∈ wsX7_kind := by decide +kernel
set_option maxRecDepth 20000 in
theorem inX7_kind_7 : ∀ w ∈ u_ws RX7 TX7 11, w ∈ wsX7_kind := by decide +kernel
set_option maxRecDepth 20000 in
theorem lkX7_as_f25 : Cond.fieldLink RX7 25 "NicheSaints" "now" "LNicheSaints$Ring;" ∈ wsX7_as := by decide +kernel
set_option maxRecDepth 20000 in
theorem lkX7_as_c73 : Cond.constant RX7 73 (-1000001) ∈ wsX7_as := by decide +kernel
set_option maxRecDepth 20000 in
theorem lkX7_as_f256 : Cond.fieldLink RX7 256 "NicheSaints$Ring" "kinds" "[I" ∈ wsX7_as := by decide +kernel
set_option maxRecDepth 20000 in
theorem lkX7_as_f78 : Cond.fieldLink RX7 78 "NicheSaints" "finding" "I" ∈ wsX7_as := by decide +kernel
set_option maxRecDepth 20000 in
theorem inX7_as_4 : ∀ w ∈ u_ws RX4 TX4 5, w ∈ wsX7_as := by decide +kernel
set_option maxRecDepth 20000 in
theorem inX7_as_7 : ∀ w ∈ u_ws RX7 TX7 11, w ∈ wsX7_as := by decide +kernel
set_option maxRecDepth 20000 in
theorem lkX7_ask_f25 : Cond.fieldLink RX7 25 "NicheSaints" "now" "LNicheSaints$Ring;" ∈ wsX7_ask := by decide +kernel
set_option maxRecDepth 20000 in
theorem lkX7_ask_c73 : Cond.constant RX7 73 (-1000001) ∈ wsX7_ask := by decide +kernel
set_option maxRecDepth 20000 in
theorem lkX7_ask_f60 : Cond.fieldLink RX7 60 "NicheSaints" "asking" "LNicheSaints$Asking;" ∈ wsX7_ask := by decide +kernel
set_option maxRecDepth 20000 in
theorem inX7_ask_7 : ∀ w ∈ u_ws RX7 TX7 11, w ∈ wsX7_ask := by decide +kernel
set_option maxRecDepth 20000 in
theorem lkX7_trace_c182 : Cond.constant RX7 182 (-1000000) ∈ wsX7_trace := by decide +kernel
set_option maxRecDepth 20000 in
theorem lkX7_trace_f60 : Cond.fieldLink RX7 60 "NicheSaints" "asking" "LNicheSaints$Asking;" ∈ wsX7_trace := by decide +kernel
set_option maxRecDepth 20000 in
theorem lkX7_trace_f266 : Cond.fieldLink RX7 266 "NicheSaints$Asking" "traced" "I" ∈ wsX7_trace := by decide +kernel
set_option maxRecDepth 20000 in
theorem lkX7_trace_f269 : Cond.fieldLink RX7 269 "NicheSaints$Asking" "trail" "[I" ∈ wsX7_trace := by decide +kernel
set_option maxRecDepth 20000 in
theorem inX7_trace_1 : ∀ w ∈ u_ws RX1 TX1 2, w ∈ wsX7_trace := by decide +kernel
set_option maxRecDepth 20000 in
theorem inX7_trace_7 : ∀ w ∈ u_ws RX7 TX7 11, w ∈ wsX7_trace := by decide +kernel
set_option maxRecDepth 20000 in
theorem lkX7_count_f25 : Cond.fieldLink RX7 25 "NicheSaints" "now" "LNicheSaints$Ring;" ∈ wsX7_count := by decide +kernel
set_option maxRecDepth 20000 in
theorem lkX7_count_f139 : Cond.fieldLink RX7 139 "NicheSaints$Ring" "size" "I" ∈ wsX7_count := by decide +kernel
set_option maxRecDepth 20000 in
theorem lkX7_count_f144 : Cond.fieldLink RX7 144 "NicheSaints$Ring" "step" "I" ∈ wsX7_count := by decide +kernel
set_option maxRecDepth 20000 in
theorem lkX7_count_f163 : Cond.fieldLink RX7 163 "NicheSaints$Ring" "night" "I" ∈ wsX7_count := by decide +kernel
set_option maxRecDepth 20000 in
theorem lkX7_count_f39 : Cond.fieldLink RX7 39 "NicheSaints" "acts" "LNicheSaints$Acts;" ∈ wsX7_count := by decide +kernel
set_option maxRecDepth 20000 in
theorem lkX7_count_f166 : Cond.fieldLink RX7 166 "NicheSaints$Acts" "size" "I" ∈ wsX7_count := by decide +kernel
set_option maxRecDepth 20000 in
theorem lkX7_count_f18 : Cond.fieldLink RX7 18 "NicheSaints" "tape" "LNicheSaints$Tape;" ∈ wsX7_count := by decide +kernel
set_option maxRecDepth 20000 in
theorem lkX7_count_f121 : Cond.fieldLink RX7 121 "NicheSaints$Tape" "size" "I" ∈ wsX7_count := by decide +kernel
set_option maxRecDepth 20000 in
theorem lkX7_count_c73 : Cond.constant RX7 73 (-1000001) ∈ wsX7_count := by decide +kernel
set_option maxRecDepth 20000 in
theorem inX7_count_0 : ∀ w ∈ u_ws RX0 TX0 5, w ∈ wsX7_count := by decide +kernel
set_option maxRecDepth 20000 in
theorem inX7_count_4 : ∀ w ∈ u_ws RX4 TX4 5, w ∈ wsX7_count := by decide +kernel
set_option maxRecDepth 20000 in
theorem inX7_count_6 : ∀ w ∈ u_ws RX6 TX6 5, w ∈ wsX7_count := by decide +kernel
set_option maxRecDepth 20000 in
theorem inX7_count_7 : ∀ w ∈ u_ws RX7 TX7 11, w ∈ wsX7_count := by decide +kernel
set_option maxRecDepth 20000 in
theorem lkX7_status_f78 : Cond.fieldLink RX7 78 "NicheSaints" "finding" "I" ∈ wsX7_status := by decide +kernel
set_option maxRecDepth 20000 in
theorem inX7_status_7 : ∀ w ∈ u_ws RX7 TX7 11, w ∈ wsX7_status := by decide +kernel
set_option maxRecDepth 20000 in
theorem lkX7_isOfKind_f278 : Cond.fieldLink RX7 278 "NicheSaints" "WIDER" "[I" ∈ wsX7_isOfKind := by decide +kernel
set_option maxRecDepth 20000 in
theorem lkX7_found_f78 : Cond.fieldLink RX7 78 "NicheSaints" "finding" "I" ∈ wsX7_found := by decide +kernel
set_option maxRecDepth 20000 in
theorem lkX7_found_c281 : Cond.constant RX7 281 (-1000010) ∈ wsX7_found := by decide +kernel
set_option maxRecDepth 20000 in
theorem inX7_found_7 : ∀ w ∈ u_ws RX7 TX7 11, w ∈ wsX7_found := by decide +kernel
set_option maxRecDepth 20000 in
theorem lkX7_findingOf_f11 : Cond.fieldLink RX7 11 "NicheSaints" "shelves" "[LNicheSaints$Shelf;" ∈ wsX7_findingOf := by decide +kernel
set_option maxRecDepth 20000 in
theorem inX7_findingOf_7 : ∀ w ∈ u_ws RX7 TX7 11, w ∈ wsX7_findingOf := by decide +kernel
set_option maxRecDepth 20000 in
theorem lkX7_rowsThere_f11 : Cond.fieldLink RX7 11 "NicheSaints" "shelves" "[LNicheSaints$Shelf;" ∈ wsX7_rowsThere := by decide +kernel
set_option maxRecDepth 20000 in
theorem inX7_rowsThere_7 : ∀ w ∈ u_ws RX7 TX7 11, w ∈ wsX7_rowsThere := by decide +kernel
set_option maxRecDepth 20000 in
theorem lkX7_fewestByHand_f64 : Cond.fieldLink RX7 64 "NicheSaints" "planned" "[I" ∈ wsX7_fewestByHand := by decide +kernel
set_option maxRecDepth 20000 in
theorem inX7_fewestByHand_7 : ∀ w ∈ u_ws RX7 TX7 11, w ∈ wsX7_fewestByHand := by decide +kernel
set_option maxRecDepth 20000 in
theorem lkX7_isPair_f25 : Cond.fieldLink RX7 25 "NicheSaints" "now" "LNicheSaints$Ring;" ∈ wsX7_isPair := by decide +kernel
set_option maxRecDepth 20000 in
theorem lkX7_isPair_f139 : Cond.fieldLink RX7 139 "NicheSaints$Ring" "size" "I" ∈ wsX7_isPair := by decide +kernel
set_option maxRecDepth 20000 in
theorem inX7_isPair_4 : ∀ w ∈ u_ws RX4 TX4 5, w ∈ wsX7_isPair := by decide +kernel
set_option maxRecDepth 20000 in
theorem inX7_isPair_7 : ∀ w ∈ u_ws RX7 TX7 11, w ∈ wsX7_isPair := by decide +kernel
set_option maxRecDepth 20000 in
theorem lkX7_comesByHand_f29 : Cond.fieldLink RX7 29 "NicheSaints" "trial" "LNicheSaints$Ring;" ∈ wsX7_comesByHand := by decide +kernel
set_option maxRecDepth 20000 in
theorem lkX7_comesByHand_f25 : Cond.fieldLink RX7 25 "NicheSaints" "now" "LNicheSaints$Ring;" ∈ wsX7_comesByHand := by decide +kernel
set_option maxRecDepth 20000 in
theorem lkX7_comesByHand_f64 : Cond.fieldLink RX7 64 "NicheSaints" "planned" "[I" ∈ wsX7_comesByHand := by decide +kernel
set_option maxRecDepth 20000 in
theorem lkX7_comesByHand_f160 : Cond.fieldLink RX7 160 "NicheSaints$Ring" "things" "[I" ∈ wsX7_comesByHand := by decide +kernel
set_option maxRecDepth 20000 in
theorem inX7_comesByHand_4 : ∀ w ∈ u_ws RX4 TX4 5, w ∈ wsX7_comesByHand := by decide +kernel
set_option maxRecDepth 20000 in
theorem inX7_comesByHand_7 : ∀ w ∈ u_ws RX7 TX7 11, w ∈ wsX7_comesByHand := by decide +kernel
set_option maxRecDepth 20000 in
theorem lkX7_areCluesAsTold_f25 : Cond.fieldLink RX7 25 "NicheSaints" "now" "LNicheSaints$Ring;" ∈ wsX7_areCluesAsTold := by decide +kernel
set_option maxRecDepth 20000 in
theorem inX7_areCluesAsTold_7 : ∀ w ∈ u_ws RX7 TX7 11, w ∈ wsX7_areCluesAsTold := by decide +kernel
set_option maxRecDepth 20000 in
theorem lkX7_kindsThatFit_f29 : Cond.fieldLink RX7 29 "NicheSaints" "trial" "LNicheSaints$Ring;" ∈ wsX7_kindsThatFit := by decide +kernel
set_option maxRecDepth 20000 in
theorem lkX7_kindsThatFit_f25 : Cond.fieldLink RX7 25 "NicheSaints" "now" "LNicheSaints$Ring;" ∈ wsX7_kindsThatFit := by decide +kernel
set_option maxRecDepth 20000 in
theorem lkX7_kindsThatFit_f256 : Cond.fieldLink RX7 256 "NicheSaints$Ring" "kinds" "[I" ∈ wsX7_kindsThatFit := by decide +kernel
set_option maxRecDepth 20000 in
theorem inX7_kindsThatFit_4 : ∀ w ∈ u_ws RX4 TX4 5, w ∈ wsX7_kindsThatFit := by decide +kernel
set_option maxRecDepth 20000 in
theorem inX7_kindsThatFit_7 : ∀ w ∈ u_ws RX7 TX7 11, w ∈ wsX7_kindsThatFit := by decide +kernel
set_option maxRecDepth 20000 in
theorem lkX7_nightsThatFit_f29 : Cond.fieldLink RX7 29 "NicheSaints" "trial" "LNicheSaints$Ring;" ∈ wsX7_nightsThatFit := by decide +kernel
set_option maxRecDepth 20000 in
theorem lkX7_nightsThatFit_f25 : Cond.fieldLink RX7 25 "NicheSaints" "now" "LNicheSaints$Ring;" ∈ wsX7_nightsThatFit := by decide +kernel
set_option maxRecDepth 20000 in
theorem lkX7_nightsThatFit_f163 : Cond.fieldLink RX7 163 "NicheSaints$Ring" "night" "I" ∈ wsX7_nightsThatFit := by decide +kernel
set_option maxRecDepth 20000 in
theorem inX7_nightsThatFit_4 : ∀ w ∈ u_ws RX4 TX4 5, w ∈ wsX7_nightsThatFit := by decide +kernel
set_option maxRecDepth 20000 in
theorem inX7_nightsThatFit_7 : ∀ w ∈ u_ws RX7 TX7 11, w ∈ wsX7_nightsThatFit := by decide +kernel
set_option maxRecDepth 20000 in
theorem lkX7_ordersThatFit_f53 : Cond.fieldLink RX7 53 "NicheSaints" "orders" "LNicheSaints$Orders;" ∈ wsX7_ordersThatFit := by decide +kernel
set_option maxRecDepth 20000 in
theorem lkX7_ordersThatFit_f25 : Cond.fieldLink RX7 25 "NicheSaints" "now" "LNicheSaints$Ring;" ∈ wsX7_ordersThatFit := by decide +kernel
set_option maxRecDepth 20000 in
theorem lkX7_ordersThatFit_c182 : Cond.constant RX7 182 (-1000000) ∈ wsX7_ordersThatFit := by decide +kernel
set_option maxRecDepth 20000 in
theorem lkX7_ordersThatFit_f29 : Cond.fieldLink RX7 29 "NicheSaints" "trial" "LNicheSaints$Ring;" ∈ wsX7_ordersThatFit := by decide +kernel
set_option maxRecDepth 20000 in
theorem lkX7_ordersThatFit_f294 : Cond.fieldLink RX7 294 "NicheSaints$Orders" "things" "[I" ∈ wsX7_ordersThatFit := by decide +kernel
set_option maxRecDepth 20000 in
theorem lkX7_ordersThatFit_f160 : Cond.fieldLink RX7 160 "NicheSaints$Ring" "things" "[I" ∈ wsX7_ordersThatFit := by decide +kernel
set_option maxRecDepth 20000 in
theorem lkX7_ordersThatFit_f139 : Cond.fieldLink RX7 139 "NicheSaints$Ring" "size" "I" ∈ wsX7_ordersThatFit := by decide +kernel
set_option maxRecDepth 20000 in
theorem lkX7_ordersThatFit_m108 : Cond.methodLink RX7 108 arraycopyName ∈ wsX7_ordersThatFit := by decide +kernel
set_option maxRecDepth 20000 in
theorem lkX7_ordersThatFit_n0 : Cond.native arraycopyName ∈ wsX7_ordersThatFit := by decide +kernel
set_option maxRecDepth 20000 in
theorem lkX7_ordersThatFit_s0 : Cond.static arraycopyName ∈ wsX7_ordersThatFit := by decide +kernel
set_option maxRecDepth 20000 in
theorem lkX7_ordersThatFit_i0 : Cond.initialized "java/lang/System" ∈ wsX7_ordersThatFit := by decide +kernel
set_option maxRecDepth 20000 in
theorem inX7_ordersThatFit_3 : ∀ w ∈ u_ws RX3 TX3 3, w ∈ wsX7_ordersThatFit := by decide +kernel
set_option maxRecDepth 20000 in
theorem inX7_ordersThatFit_4 : ∀ w ∈ u_ws RX4 TX4 5, w ∈ wsX7_ordersThatFit := by decide +kernel
set_option maxRecDepth 20000 in
theorem inX7_ordersThatFit_7 : ∀ w ∈ u_ws RX7 TX7 11, w ∈ wsX7_ordersThatFit := by decide +kernel
set_option maxRecDepth 20000 in
theorem lkX7_trialShows_f11 : Cond.fieldLink RX7 11 "NicheSaints" "shelves" "[LNicheSaints$Shelf;" ∈ wsX7_trialShows := by decide +kernel
set_option maxRecDepth 20000 in
theorem lkX7_trialShows_f29 : Cond.fieldLink RX7 29 "NicheSaints" "trial" "LNicheSaints$Ring;" ∈ wsX7_trialShows := by decide +kernel
set_option maxRecDepth 20000 in
theorem lkX7_trialShows_f160 : Cond.fieldLink RX7 160 "NicheSaints$Ring" "things" "[I" ∈ wsX7_trialShows := by decide +kernel
set_option maxRecDepth 20000 in
theorem lkX7_trialShows_f105 : Cond.fieldLink RX7 105 "NicheSaints$Shelf" "items" "[I" ∈ wsX7_trialShows := by decide +kernel
set_option maxRecDepth 20000 in
theorem inX7_trialShows_4 : ∀ w ∈ u_ws RX4 TX4 5, w ∈ wsX7_trialShows := by decide +kernel
set_option maxRecDepth 20000 in
theorem inX7_trialShows_5 : ∀ w ∈ u_ws RX5 TX5 3, w ∈ wsX7_trialShows := by decide +kernel
set_option maxRecDepth 20000 in
theorem inX7_trialShows_7 : ∀ w ∈ u_ws RX7 TX7 11, w ∈ wsX7_trialShows := by decide +kernel
set_option maxRecDepth 20000 in
theorem lkX8_copyOf_f7 : Cond.fieldLink RX8 7 "NicheSaintsModel" "w" "[I" ∈ wsX8_copyOf := by decide +kernel
set_option maxRecDepth 20000 in
theorem inX8_copyOf_8 : ∀ w ∈ u_ws RX8 TX8 23, w ∈ wsX8_copyOf := by decide +kernel
set_option maxRecDepth 20000 in
theorem lkX8_isSaint_f7 : Cond.fieldLink RX8 7 "NicheSaintsModel" "w" "[I" ∈ wsX8_isSaint := by decide +kernel
set_option maxRecDepth 20000 in
theorem inX8_isSaint_8 : ∀ w ∈ u_ws RX8 TX8 23, w ∈ wsX8_isSaint := by decide +kernel
set_option maxRecDepth 20000 in
theorem lkX8_isRow_l59 : Cond.constantLong RX8 59 (7) ∈ wsX8_isRow := by decide +kernel
set_option maxRecDepth 20000 in
theorem lkX8_finds_f61 : Cond.fieldLink RX8 61 "NicheSaintsModel" "status" "I" ∈ wsX8_finds := by decide +kernel
set_option maxRecDepth 20000 in
theorem lkX8_finds_c65 : Cond.constant RX8 65 (-1000010) ∈ wsX8_finds := by decide +kernel
set_option maxRecDepth 20000 in
theorem inX8_finds_8 : ∀ w ∈ u_ws RX8 TX8 23, w ∈ wsX8_finds := by decide +kernel
set_option maxRecDepth 20000 in
theorem lkX8_against_f16 : Cond.fieldLink RX8 16 "NicheSaintsModel" "many" "[I" ∈ wsX8_against := by decide +kernel
set_option maxRecDepth 20000 in
theorem inX8_against_8 : ∀ w ∈ u_ws RX8 TX8 23, w ∈ wsX8_against := by decide +kernel
set_option maxRecDepth 20000 in
theorem lkX8_row_c72 : Cond.constant RX8 72 (-1000001) ∈ wsX8_row := by decide +kernel
set_option maxRecDepth 20000 in
theorem lkX8_row_l70 : Cond.constantLong RX8 70 (2) ∈ wsX8_row := by decide +kernel
set_option maxRecDepth 20000 in
theorem lkX8_row_f61 : Cond.fieldLink RX8 61 "NicheSaintsModel" "status" "I" ∈ wsX8_row := by decide +kernel
set_option maxRecDepth 20000 in
theorem lkX8_row_f16 : Cond.fieldLink RX8 16 "NicheSaintsModel" "many" "[I" ∈ wsX8_row := by decide +kernel
set_option maxRecDepth 20000 in
theorem lkX8_row_f19 : Cond.fieldLink RX8 19 "NicheSaintsModel" "lane" "[I" ∈ wsX8_row := by decide +kernel
set_option maxRecDepth 20000 in
theorem lkX8_row_f22 : Cond.fieldLink RX8 22 "NicheSaintsModel" "items" "[I" ∈ wsX8_row := by decide +kernel
set_option maxRecDepth 20000 in
theorem inX8_row_8 : ∀ w ∈ u_ws RX8 TX8 23, w ∈ wsX8_row := by decide +kernel
set_option maxRecDepth 20000 in
theorem lkX8_set_f61 : Cond.fieldLink RX8 61 "NicheSaintsModel" "status" "I" ∈ wsX8_set := by decide +kernel
set_option maxRecDepth 20000 in
theorem lkX8_set_f22 : Cond.fieldLink RX8 22 "NicheSaintsModel" "items" "[I" ∈ wsX8_set := by decide +kernel
set_option maxRecDepth 20000 in
theorem lkX8_set_f19 : Cond.fieldLink RX8 19 "NicheSaintsModel" "lane" "[I" ∈ wsX8_set := by decide +kernel
set_option maxRecDepth 20000 in
theorem lkX8_set_c72 : Cond.constant RX8 72 (-1000001) ∈ wsX8_set := by decide +kernel
set_option maxRecDepth 20000 in
theorem inX8_set_8 : ∀ w ∈ u_ws RX8 TX8 23, w ∈ wsX8_set := by decide +kernel
set_option maxRecDepth 20000 in
theorem lkX8_copy_c72 : Cond.constant RX8 72 (-1000001) ∈ wsX8_copy := by decide +kernel
set_option maxRecDepth 20000 in
theorem lkX8_copy_f16 : Cond.fieldLink RX8 16 "NicheSaintsModel" "many" "[I" ∈ wsX8_copy := by decide +kernel
set_option maxRecDepth 20000 in
theorem lkX8_copy_f19 : Cond.fieldLink RX8 19 "NicheSaintsModel" "lane" "[I" ∈ wsX8_copy := by decide +kernel
set_option maxRecDepth 20000 in
theorem lkX8_copy_f61 : Cond.fieldLink RX8 61 "NicheSaintsModel" "status" "I" ∈ wsX8_copy := by decide +kernel
set_option maxRecDepth 20000 in
theorem lkX8_copy_f25 : Cond.fieldLink RX8 25 "NicheSaintsModel" "held" "[I" ∈ wsX8_copy := by decide +kernel
set_option maxRecDepth 20000 in
theorem lkX8_copy_f22 : Cond.fieldLink RX8 22 "NicheSaintsModel" "items" "[I" ∈ wsX8_copy := by decide +kernel
set_option maxRecDepth 20000 in
theorem inX8_copy_8 : ∀ w ∈ u_ws RX8 TX8 23, w ∈ wsX8_copy := by decide +kernel
set_option maxRecDepth 20000 in
theorem lkX8_drop_f16 : Cond.fieldLink RX8 16 "NicheSaintsModel" "many" "[I" ∈ wsX8_drop := by decide +kernel
set_option maxRecDepth 20000 in
theorem lkX8_drop_f61 : Cond.fieldLink RX8 61 "NicheSaintsModel" "status" "I" ∈ wsX8_drop := by decide +kernel
set_option maxRecDepth 20000 in
theorem lkX8_drop_c72 : Cond.constant RX8 72 (-1000001) ∈ wsX8_drop := by decide +kernel
set_option maxRecDepth 20000 in
theorem inX8_drop_8 : ∀ w ∈ u_ws RX8 TX8 23, w ∈ wsX8_drop := by decide +kernel
set_option maxRecDepth 20000 in
theorem lkX8_feed_l81 : Cond.constantLong RX8 81 (255) ∈ wsX8_feed := by decide +kernel
set_option maxRecDepth 20000 in
theorem lkX8_feed_f83 : Cond.fieldLink RX8 83 "NicheSaintsModel" "taped" "I" ∈ wsX8_feed := by decide +kernel
set_option maxRecDepth 20000 in
theorem lkX8_feed_f13 : Cond.fieldLink RX8 13 "NicheSaintsModel" "tape" "[I" ∈ wsX8_feed := by decide +kernel
set_option maxRecDepth 20000 in
theorem lkX8_feed_c86 : Cond.constant RX8 86 (-1000003) ∈ wsX8_feed := by decide +kernel
set_option maxRecDepth 20000 in
theorem lkX8_feed_c72 : Cond.constant RX8 72 (-1000001) ∈ wsX8_feed := by decide +kernel
set_option maxRecDepth 20000 in
theorem inX8_feed_8 : ∀ w ∈ u_ws RX8 TX8 23, w ∈ wsX8_feed := by decide +kernel
set_option maxRecDepth 20000 in
theorem lkX8_here_f87 : Cond.fieldLink RX8 87 "NicheSaintsModel" "at" "I" ∈ wsX8_here := by decide +kernel
set_option maxRecDepth 20000 in
theorem lkX8_here_f83 : Cond.fieldLink RX8 83 "NicheSaintsModel" "taped" "I" ∈ wsX8_here := by decide +kernel
set_option maxRecDepth 20000 in
theorem lkX8_here_f13 : Cond.fieldLink RX8 13 "NicheSaintsModel" "tape" "[I" ∈ wsX8_here := by decide +kernel
set_option maxRecDepth 20000 in
theorem inX8_here_8 : ∀ w ∈ u_ws RX8 TX8 23, w ∈ wsX8_here := by decide +kernel
set_option maxRecDepth 20000 in
theorem lkX8_fails_f90 : Cond.fieldLink RX8 90 "NicheSaintsModel" "faulty" "I" ∈ wsX8_fails := by decide +kernel
set_option maxRecDepth 20000 in
theorem lkX8_fails_f93 : Cond.fieldLink RX8 93 "NicheSaintsModel" "start" "I" ∈ wsX8_fails := by decide +kernel
set_option maxRecDepth 20000 in
theorem inX8_fails_8 : ∀ w ∈ u_ws RX8 TX8 23, w ∈ wsX8_fails := by decide +kernel
set_option maxRecDepth 20000 in
theorem lkX8_takes_f87 : Cond.fieldLink RX8 87 "NicheSaintsModel" "at" "I" ∈ wsX8_takes := by decide +kernel
set_option maxRecDepth 20000 in
theorem inX8_takes_8 : ∀ w ∈ u_ws RX8 TX8 23, w ∈ wsX8_takes := by decide +kernel
set_option maxRecDepth 20000 in
theorem lkX8_takesNumber_f87 : Cond.fieldLink RX8 87 "NicheSaintsModel" "at" "I" ∈ wsX8_takesNumber := by decide +kernel
set_option maxRecDepth 20000 in
theorem lkX8_takesNumber_f104 : Cond.fieldLink RX8 104 "NicheSaintsModel" "number" "I" ∈ wsX8_takesNumber := by decide +kernel
set_option maxRecDepth 20000 in
theorem lkX8_takesNumber_l107 : Cond.constantLong RX8 107 (48) ∈ wsX8_takesNumber := by decide +kernel
set_option maxRecDepth 20000 in
theorem lkX8_takesNumber_l109 : Cond.constantLong RX8 109 (57) ∈ wsX8_takesNumber := by decide +kernel
set_option maxRecDepth 20000 in
theorem lkX8_takesNumber_l70 : Cond.constantLong RX8 70 (2) ∈ wsX8_takesNumber := by decide +kernel
set_option maxRecDepth 20000 in
theorem inX8_takesNumber_8 : ∀ w ∈ u_ws RX8 TX8 23, w ∈ wsX8_takesNumber := by decide +kernel
set_option maxRecDepth 20000 in
theorem lkX8_takesSaint_f7 : Cond.fieldLink RX8 7 "NicheSaintsModel" "w" "[I" ∈ wsX8_takesSaint := by decide +kernel
set_option maxRecDepth 20000 in
theorem lkX8_takesSaint_f87 : Cond.fieldLink RX8 87 "NicheSaintsModel" "at" "I" ∈ wsX8_takesSaint := by decide +kernel
set_option maxRecDepth 20000 in
theorem lkX8_takesSaint_f104 : Cond.fieldLink RX8 104 "NicheSaintsModel" "number" "I" ∈ wsX8_takesSaint := by decide +kernel
set_option maxRecDepth 20000 in
theorem inX8_takesSaint_8 : ∀ w ∈ u_ws RX8 TX8 23, w ∈ wsX8_takesSaint := by decide +kernel
set_option maxRecDepth 20000 in
theorem lkX8_takesAll_f7 : Cond.fieldLink RX8 7 "NicheSaintsModel" "w" "[I" ∈ wsX8_takesAll := by decide +kernel
set_option maxRecDepth 20000 in
theorem lkX8_takesAll_f104 : Cond.fieldLink RX8 104 "NicheSaintsModel" "number" "I" ∈ wsX8_takesAll := by decide +kernel
set_option maxRecDepth 20000 in
theorem lkX8_takesAll_f87 : Cond.fieldLink RX8 87 "NicheSaintsModel" "at" "I" ∈ wsX8_takesAll := by decide +kernel
set_option maxRecDepth 20000 in
theorem lkX8_takesAll_f83 : Cond.fieldLink RX8 83 "NicheSaintsModel" "taped" "I" ∈ wsX8_takesAll := by decide +kernel
set_option maxRecDepth 20000 in
theorem inX8_takesAll_8 : ∀ w ∈ u_ws RX8 TX8 23, w ∈ wsX8_takesAll := by decide +kernel
set_option maxRecDepth 20000 in
theorem lkX8_saints_f87 : Cond.fieldLink RX8 87 "NicheSaintsModel" "at" "I" ∈ wsX8_saints := by decide +kernel
set_option maxRecDepth 20000 in
theorem lkX8_saints_f83 : Cond.fieldLink RX8 83 "NicheSaintsModel" "taped" "I" ∈ wsX8_saints := by decide +kernel
set_option maxRecDepth 20000 in
theorem lkX8_saints_f136 : Cond.fieldLink RX8 136 "NicheSaintsModel" "undoes" "I" ∈ wsX8_saints := by decide +kernel
set_option maxRecDepth 20000 in
theorem lkX8_saints_f7 : Cond.fieldLink RX8 7 "NicheSaintsModel" "w" "[I" ∈ wsX8_saints := by decide +kernel
set_option maxRecDepth 20000 in
theorem lkX8_saints_c131 : Cond.constant RX8 131 (-1000100) ∈ wsX8_saints := by decide +kernel
set_option maxRecDepth 20000 in
theorem lkX8_saints_f93 : Cond.fieldLink RX8 93 "NicheSaintsModel" "start" "I" ∈ wsX8_saints := by decide +kernel
set_option maxRecDepth 20000 in
theorem inX8_saints_8 : ∀ w ∈ u_ws RX8 TX8 23, w ∈ wsX8_saints := by decide +kernel
set_option maxRecDepth 20000 in
theorem lkX8_fault_f90 : Cond.fieldLink RX8 90 "NicheSaintsModel" "faulty" "I" ∈ wsX8_fault := by decide +kernel
set_option maxRecDepth 20000 in
theorem inX8_fault_8 : ∀ w ∈ u_ws RX8 TX8 23, w ∈ wsX8_fault := by decide +kernel
set_option maxRecDepth 20000 in
theorem lkX8_lets_f7 : Cond.fieldLink RX8 7 "NicheSaintsModel" "w" "[I" ∈ wsX8_lets := by decide +kernel
set_option maxRecDepth 20000 in
theorem inX8_lets_8 : ∀ w ∈ u_ws RX8 TX8 23, w ∈ wsX8_lets := by decide +kernel
set_option maxRecDepth 20000 in
theorem lkX8_changes_f7 : Cond.fieldLink RX8 7 "NicheSaintsModel" "w" "[I" ∈ wsX8_changes := by decide +kernel
set_option maxRecDepth 20000 in
theorem inX8_changes_8 : ∀ w ∈ u_ws RX8 TX8 23, w ∈ wsX8_changes := by decide +kernel
set_option maxRecDepth 20000 in
theorem lkX8_turns_f7 : Cond.fieldLink RX8 7 "NicheSaintsModel" "w" "[I" ∈ wsX8_turns := by decide +kernel
set_option maxRecDepth 20000 in
theorem inX8_turns_8 : ∀ w ∈ u_ws RX8 TX8 23, w ∈ wsX8_turns := by decide +kernel
set_option maxRecDepth 20000 in
theorem lkX8_stepsBy_f7 : Cond.fieldLink RX8 7 "NicheSaintsModel" "w" "[I" ∈ wsX8_stepsBy := by decide +kernel
set_option maxRecDepth 20000 in
theorem inX8_stepsBy_8 : ∀ w ∈ u_ws RX8 TX8 23, w ∈ wsX8_stepsBy := by decide +kernel
set_option maxRecDepth 20000 in
theorem lkX8_minds_f136 : Cond.fieldLink RX8 136 "NicheSaintsModel" "undoes" "I" ∈ wsX8_minds := by decide +kernel
set_option maxRecDepth 20000 in
theorem lkX8_minds_f7 : Cond.fieldLink RX8 7 "NicheSaintsModel" "w" "[I" ∈ wsX8_minds := by decide +kernel
set_option maxRecDepth 20000 in
theorem inX8_minds_8 : ∀ w ∈ u_ws RX8 TX8 23, w ∈ wsX8_minds := by decide +kernel
set_option maxRecDepth 20000 in
theorem lkX8_steps_f7 : Cond.fieldLink RX8 7 "NicheSaintsModel" "w" "[I" ∈ wsX8_steps := by decide +kernel
set_option maxRecDepth 20000 in
theorem lkX8_steps_l150 : Cond.constantLong RX8 150 (24) ∈ wsX8_steps := by decide +kernel
set_option maxRecDepth 20000 in
theorem lkX8_steps_c86 : Cond.constant RX8 86 (-1000003) ∈ wsX8_steps := by decide +kernel
set_option maxRecDepth 20000 in
theorem lkX8_steps_c72 : Cond.constant RX8 72 (-1000001) ∈ wsX8_steps := by decide +kernel
set_option maxRecDepth 20000 in
theorem lkX8_steps_c149 : Cond.constant RX8 149 (-1000002) ∈ wsX8_steps := by decide +kernel
set_option maxRecDepth 20000 in
theorem inX8_steps_8 : ∀ w ∈ u_ws RX8 TX8 23, w ∈ wsX8_steps := by decide +kernel
set_option maxRecDepth 20000 in
theorem lkX8_swap_c72 : Cond.constant RX8 72 (-1000001) ∈ wsX8_swap := by decide +kernel
set_option maxRecDepth 20000 in
theorem lkX8_swap_f7 : Cond.fieldLink RX8 7 "NicheSaintsModel" "w" "[I" ∈ wsX8_swap := by decide +kernel
set_option maxRecDepth 20000 in
theorem inX8_swap_8 : ∀ w ∈ u_ws RX8 TX8 23, w ∈ wsX8_swap := by decide +kernel
set_option maxRecDepth 20000 in
theorem lkX8_night_f7 : Cond.fieldLink RX8 7 "NicheSaintsModel" "w" "[I" ∈ wsX8_night := by decide +kernel
set_option maxRecDepth 20000 in
theorem lkX8_night_l161 : Cond.constantLong RX8 161 (9) ∈ wsX8_night := by decide +kernel
set_option maxRecDepth 20000 in
theorem lkX8_night_c72 : Cond.constant RX8 72 (-1000001) ∈ wsX8_night := by decide +kernel
set_option maxRecDepth 20000 in
theorem lkX8_night_c149 : Cond.constant RX8 149 (-1000002) ∈ wsX8_night := by decide +kernel
set_option maxRecDepth 20000 in
theorem inX8_night_8 : ∀ w ∈ u_ws RX8 TX8 23, w ∈ wsX8_night := by decide +kernel
set_option maxRecDepth 20000 in
theorem lkX8_undo_f136 : Cond.fieldLink RX8 136 "NicheSaintsModel" "undoes" "I" ∈ wsX8_undo := by decide +kernel
set_option maxRecDepth 20000 in
theorem lkX8_undo_c149 : Cond.constant RX8 149 (-1000002) ∈ wsX8_undo := by decide +kernel
set_option maxRecDepth 20000 in
theorem inX8_undo_8 : ∀ w ∈ u_ws RX8 TX8 23, w ∈ wsX8_undo := by decide +kernel
set_option maxRecDepth 20000 in
theorem lkX8_saint_c72 : Cond.constant RX8 72 (-1000001) ∈ wsX8_saint := by decide +kernel
set_option maxRecDepth 20000 in
theorem lkX8_saint_f7 : Cond.fieldLink RX8 7 "NicheSaintsModel" "w" "[I" ∈ wsX8_saint := by decide +kernel
set_option maxRecDepth 20000 in
theorem inX8_saint_8 : ∀ w ∈ u_ws RX8 TX8 23, w ∈ wsX8_saint := by decide +kernel
set_option maxRecDepth 20000 in
theorem lkX8_holderIn_f7 : Cond.fieldLink RX8 7 "NicheSaintsModel" "w" "[I" ∈ wsX8_holderIn := by decide +kernel
set_option maxRecDepth 20000 in
theorem lkX8_holderIn_c163 : Cond.constant RX8 163 (-1000000) ∈ wsX8_holderIn := by decide +kernel
set_option maxRecDepth 20000 in
theorem inX8_holderIn_8 : ∀ w ∈ u_ws RX8 TX8 23, w ∈ wsX8_holderIn := by decide +kernel
set_option maxRecDepth 20000 in
theorem lkX8_holder_l161 : Cond.constantLong RX8 161 (9) ∈ wsX8_holder := by decide +kernel
set_option maxRecDepth 20000 in
theorem lkX8_holder_c72 : Cond.constant RX8 72 (-1000001) ∈ wsX8_holder := by decide +kernel
set_option maxRecDepth 20000 in
theorem lkX8_ahead_c72 : Cond.constant RX8 72 (-1000001) ∈ wsX8_ahead := by decide +kernel
set_option maxRecDepth 20000 in
theorem lkX8_ahead_l168 : Cond.constantLong RX8 168 (60) ∈ wsX8_ahead := by decide +kernel
set_option maxRecDepth 20000 in
theorem lkX8_ahead_f7 : Cond.fieldLink RX8 7 "NicheSaintsModel" "w" "[I" ∈ wsX8_ahead := by decide +kernel
set_option maxRecDepth 20000 in
theorem inX8_ahead_8 : ∀ w ∈ u_ws RX8 TX8 23, w ∈ wsX8_ahead := by decide +kernel
set_option maxRecDepth 20000 in
theorem lkX8_when_c72 : Cond.constant RX8 72 (-1000001) ∈ wsX8_when := by decide +kernel
set_option maxRecDepth 20000 in
theorem lkX8_when_l161 : Cond.constantLong RX8 161 (9) ∈ wsX8_when := by decide +kernel
set_option maxRecDepth 20000 in
theorem lkX8_when_c163 : Cond.constant RX8 163 (-1000000) ∈ wsX8_when := by decide +kernel
set_option maxRecDepth 20000 in
theorem lkX8_when_f7 : Cond.fieldLink RX8 7 "NicheSaintsModel" "w" "[I" ∈ wsX8_when := by decide +kernel
set_option maxRecDepth 20000 in
theorem inX8_when_8 : ∀ w ∈ u_ws RX8 TX8 23, w ∈ wsX8_when := by decide +kernel
set_option maxRecDepth 20000 in
theorem lkX8_toMatins_f7 : Cond.fieldLink RX8 7 "NicheSaintsModel" "w" "[I" ∈ wsX8_toMatins := by decide +kernel
set_option maxRecDepth 20000 in
theorem inX8_toMatins_8 : ∀ w ∈ u_ws RX8 TX8 23, w ∈ wsX8_toMatins := by decide +kernel
set_option maxRecDepth 20000 in
theorem lkX8_pray_f7 : Cond.fieldLink RX8 7 "NicheSaintsModel" "w" "[I" ∈ wsX8_pray := by decide +kernel
set_option maxRecDepth 20000 in
theorem lkX8_pray_l161 : Cond.constantLong RX8 161 (9) ∈ wsX8_pray := by decide +kernel
set_option maxRecDepth 20000 in
theorem lkX8_pray_c72 : Cond.constant RX8 72 (-1000001) ∈ wsX8_pray := by decide +kernel
set_option maxRecDepth 20000 in
theorem lkX8_pray_c149 : Cond.constant RX8 149 (-1000002) ∈ wsX8_pray := by decide +kernel
set_option maxRecDepth 20000 in
theorem inX8_pray_8 : ∀ w ∈ u_ws RX8 TX8 23, w ∈ wsX8_pray := by decide +kernel
set_option maxRecDepth 20000 in
theorem lkX8_round_f7 : Cond.fieldLink RX8 7 "NicheSaintsModel" "w" "[I" ∈ wsX8_round := by decide +kernel
set_option maxRecDepth 20000 in
theorem lkX8_round_c149 : Cond.constant RX8 149 (-1000002) ∈ wsX8_round := by decide +kernel
set_option maxRecDepth 20000 in
theorem lkX8_round_c163 : Cond.constant RX8 163 (-1000000) ∈ wsX8_round := by decide +kernel
set_option maxRecDepth 20000 in
theorem inX8_round_8 : ∀ w ∈ u_ws RX8 TX8 23, w ∈ wsX8_round := by decide +kernel
set_option maxRecDepth 20000 in
theorem lkX8_countsThere_f28 : Cond.fieldLink RX8 28 "NicheSaintsModel" "there" "[I" ∈ wsX8_countsThere := by decide +kernel
set_option maxRecDepth 20000 in
theorem lkX8_countsThere_f7 : Cond.fieldLink RX8 7 "NicheSaintsModel" "w" "[I" ∈ wsX8_countsThere := by decide +kernel
set_option maxRecDepth 20000 in
theorem inX8_countsThere_8 : ∀ w ∈ u_ws RX8 TX8 23, w ∈ wsX8_countsThere := by decide +kernel
set_option maxRecDepth 20000 in
theorem lkX8_rowsOf_f28 : Cond.fieldLink RX8 28 "NicheSaintsModel" "there" "[I" ∈ wsX8_rowsOf := by decide +kernel
set_option maxRecDepth 20000 in
theorem inX8_rowsOf_8 : ∀ w ∈ u_ws RX8 TX8 23, w ∈ wsX8_rowsOf := by decide +kernel
set_option maxRecDepth 20000 in
theorem lkX8_placeOf_f7 : Cond.fieldLink RX8 7 "NicheSaintsModel" "w" "[I" ∈ wsX8_placeOf := by decide +kernel
set_option maxRecDepth 20000 in
theorem lkX8_placeOf_f28 : Cond.fieldLink RX8 28 "NicheSaintsModel" "there" "[I" ∈ wsX8_placeOf := by decide +kernel
set_option maxRecDepth 20000 in
theorem inX8_placeOf_8 : ∀ w ∈ u_ws RX8 TX8 23, w ∈ wsX8_placeOf := by decide +kernel
set_option maxRecDepth 20000 in
theorem lkX8_atHome_f7 : Cond.fieldLink RX8 7 "NicheSaintsModel" "w" "[I" ∈ wsX8_atHome := by decide +kernel
set_option maxRecDepth 20000 in
theorem inX8_atHome_8 : ∀ w ∈ u_ws RX8 TX8 23, w ∈ wsX8_atHome := by decide +kernel
set_option maxRecDepth 20000 in
theorem lkX8_home_f7 : Cond.fieldLink RX8 7 "NicheSaintsModel" "w" "[I" ∈ wsX8_home := by decide +kernel
set_option maxRecDepth 20000 in
theorem lkX8_home_c72 : Cond.constant RX8 72 (-1000001) ∈ wsX8_home := by decide +kernel
set_option maxRecDepth 20000 in
theorem lkX8_home_c149 : Cond.constant RX8 149 (-1000002) ∈ wsX8_home := by decide +kernel
set_option maxRecDepth 20000 in
theorem inX8_home_8 : ∀ w ∈ u_ws RX8 TX8 23, w ∈ wsX8_home := by decide +kernel
set_option maxRecDepth 20000 in
theorem lkX8_laysTo_f7 : Cond.fieldLink RX8 7 "NicheSaintsModel" "w" "[I" ∈ wsX8_laysTo := by decide +kernel
set_option maxRecDepth 20000 in
theorem lkX8_laysTo_f34 : Cond.fieldLink RX8 34 "NicheSaintsModel" "wanted" "[I" ∈ wsX8_laysTo := by decide +kernel
set_option maxRecDepth 20000 in
theorem lkX8_laysTo_f22 : Cond.fieldLink RX8 22 "NicheSaintsModel" "items" "[I" ∈ wsX8_laysTo := by decide +kernel
set_option maxRecDepth 20000 in
theorem lkX8_laysTo_f31 : Cond.fieldLink RX8 31 "NicheSaintsModel" "to" "[I" ∈ wsX8_laysTo := by decide +kernel
set_option maxRecDepth 20000 in
theorem inX8_laysTo_8 : ∀ w ∈ u_ws RX8 TX8 23, w ∈ wsX8_laysTo := by decide +kernel
set_option maxRecDepth 20000 in
theorem lkX8_rings_f7 : Cond.fieldLink RX8 7 "NicheSaintsModel" "w" "[I" ∈ wsX8_rings := by decide +kernel
set_option maxRecDepth 20000 in
theorem lkX8_rings_f31 : Cond.fieldLink RX8 31 "NicheSaintsModel" "to" "[I" ∈ wsX8_rings := by decide +kernel
set_option maxRecDepth 20000 in
theorem inX8_rings_8 : ∀ w ∈ u_ws RX8 TX8 23, w ∈ wsX8_rings := by decide +kernel
set_option maxRecDepth 20000 in
theorem lkX8_mostRings_f7 : Cond.fieldLink RX8 7 "NicheSaintsModel" "w" "[I" ∈ wsX8_mostRings := by decide +kernel
set_option maxRecDepth 20000 in
theorem lkX8_mostRings_f43 : Cond.fieldLink RX8 43 "NicheSaintsModel" "tried" "[I" ∈ wsX8_mostRings := by decide +kernel
set_option maxRecDepth 20000 in
theorem lkX8_mostRings_f37 : Cond.fieldLink RX8 37 "NicheSaintsModel" "without" "[I" ∈ wsX8_mostRings := by decide +kernel
set_option maxRecDepth 20000 in
theorem lkX8_mostRings_f40 : Cond.fieldLink RX8 40 "NicheSaintsModel" "goals" "[I" ∈ wsX8_mostRings := by decide +kernel
set_option maxRecDepth 20000 in
theorem lkX8_mostRings_f31 : Cond.fieldLink RX8 31 "NicheSaintsModel" "to" "[I" ∈ wsX8_mostRings := by decide +kernel
set_option maxRecDepth 20000 in
theorem inX8_mostRings_8 : ∀ w ∈ u_ws RX8 TX8 23, w ∈ wsX8_mostRings := by decide +kernel
set_option maxRecDepth 20000 in
theorem lkX8_noneOf_f7 : Cond.fieldLink RX8 7 "NicheSaintsModel" "w" "[I" ∈ wsX8_noneOf := by decide +kernel
set_option maxRecDepth 20000 in
theorem inX8_noneOf_8 : ∀ w ∈ u_ws RX8 TX8 23, w ∈ wsX8_noneOf := by decide +kernel
set_option maxRecDepth 20000 in
theorem lkX8_swaps_f7 : Cond.fieldLink RX8 7 "NicheSaintsModel" "w" "[I" ∈ wsX8_swaps := by decide +kernel
set_option maxRecDepth 20000 in
theorem lkX8_swaps_c72 : Cond.constant RX8 72 (-1000001) ∈ wsX8_swaps := by decide +kernel
set_option maxRecDepth 20000 in
theorem lkX8_swaps_f61 : Cond.fieldLink RX8 61 "NicheSaintsModel" "status" "I" ∈ wsX8_swaps := by decide +kernel
set_option maxRecDepth 20000 in
theorem lkX8_swaps_c163 : Cond.constant RX8 163 (-1000000) ∈ wsX8_swaps := by decide +kernel
set_option maxRecDepth 20000 in
theorem lkX8_swaps_c149 : Cond.constant RX8 149 (-1000002) ∈ wsX8_swaps := by decide +kernel
set_option maxRecDepth 20000 in
theorem inX8_swaps_8 : ∀ w ∈ u_ws RX8 TX8 23, w ∈ wsX8_swaps := by decide +kernel
set_option maxRecDepth 20000 in
theorem lkX8_sort_f7 : Cond.fieldLink RX8 7 "NicheSaintsModel" "w" "[I" ∈ wsX8_sort := by decide +kernel
set_option maxRecDepth 20000 in
theorem lkX8_sort_c72 : Cond.constant RX8 72 (-1000001) ∈ wsX8_sort := by decide +kernel
set_option maxRecDepth 20000 in
theorem lkX8_sort_f61 : Cond.fieldLink RX8 61 "NicheSaintsModel" "status" "I" ∈ wsX8_sort := by decide +kernel
set_option maxRecDepth 20000 in
theorem lkX8_sort_c163 : Cond.constant RX8 163 (-1000000) ∈ wsX8_sort := by decide +kernel
set_option maxRecDepth 20000 in
theorem lkX8_sort_c149 : Cond.constant RX8 149 (-1000002) ∈ wsX8_sort := by decide +kernel
set_option maxRecDepth 20000 in
theorem lkX8_sort_f31 : Cond.fieldLink RX8 31 "NicheSaintsModel" "to" "[I" ∈ wsX8_sort := by decide +kernel
set_option maxRecDepth 20000 in
theorem inX8_sort_8 : ∀ w ∈ u_ws RX8 TX8 23, w ∈ wsX8_sort := by decide +kernel
set_option maxRecDepth 20000 in
theorem lkX8_laysPairs_f7 : Cond.fieldLink RX8 7 "NicheSaintsModel" "w" "[I" ∈ wsX8_laysPairs := by decide +kernel
set_option maxRecDepth 20000 in
theorem lkX8_laysPairs_f46 : Cond.fieldLink RX8 46 "NicheSaintsModel" "pairs" "[I" ∈ wsX8_laysPairs := by decide +kernel
set_option maxRecDepth 20000 in
theorem inX8_laysPairs_8 : ∀ w ∈ u_ws RX8 TX8 23, w ∈ wsX8_laysPairs := by decide +kernel
set_option maxRecDepth 20000 in
theorem lkX8_hasBy_f46 : Cond.fieldLink RX8 46 "NicheSaintsModel" "pairs" "[I" ∈ wsX8_hasBy := by decide +kernel
set_option maxRecDepth 20000 in
theorem lkX8_hasBy_f7 : Cond.fieldLink RX8 7 "NicheSaintsModel" "w" "[I" ∈ wsX8_hasBy := by decide +kernel
set_option maxRecDepth 20000 in
theorem inX8_hasBy_8 : ∀ w ∈ u_ws RX8 TX8 23, w ∈ wsX8_hasBy := by decide +kernel
set_option maxRecDepth 20000 in
theorem lkX8_plan_c72 : Cond.constant RX8 72 (-1000001) ∈ wsX8_plan := by decide +kernel
set_option maxRecDepth 20000 in
theorem lkX8_plan_l161 : Cond.constantLong RX8 161 (9) ∈ wsX8_plan := by decide +kernel
set_option maxRecDepth 20000 in
theorem lkX8_plan_l207 : Cond.constantLong RX8 207 (-1) ∈ wsX8_plan := by decide +kernel
set_option maxRecDepth 20000 in
theorem lkX8_plan_c163 : Cond.constant RX8 163 (-1000000) ∈ wsX8_plan := by decide +kernel
set_option maxRecDepth 20000 in
theorem lkX8_plan_f46 : Cond.fieldLink RX8 46 "NicheSaintsModel" "pairs" "[I" ∈ wsX8_plan := by decide +kernel
set_option maxRecDepth 20000 in
theorem inX8_plan_8 : ∀ w ∈ u_ws RX8 TX8 23, w ∈ wsX8_plan := by decide +kernel
set_option maxRecDepth 20000 in
theorem lkX8_isSo_f7 : Cond.fieldLink RX8 7 "NicheSaintsModel" "w" "[I" ∈ wsX8_isSo := by decide +kernel
set_option maxRecDepth 20000 in
theorem lkX8_isSo_f22 : Cond.fieldLink RX8 22 "NicheSaintsModel" "items" "[I" ∈ wsX8_isSo := by decide +kernel
set_option maxRecDepth 20000 in
theorem inX8_isSo_8 : ∀ w ∈ u_ws RX8 TX8 23, w ∈ wsX8_isSo := by decide +kernel
set_option maxRecDepth 20000 in
theorem lkX8_bars_c72 : Cond.constant RX8 72 (-1000001) ∈ wsX8_bars := by decide +kernel
set_option maxRecDepth 20000 in
theorem lkX8_bars_l216 : Cond.constantLong RX8 216 (12) ∈ wsX8_bars := by decide +kernel
set_option maxRecDepth 20000 in
theorem lkX8_bars_f61 : Cond.fieldLink RX8 61 "NicheSaintsModel" "status" "I" ∈ wsX8_bars := by decide +kernel
set_option maxRecDepth 20000 in
theorem inX8_bars_8 : ∀ w ∈ u_ws RX8 TX8 23, w ∈ wsX8_bars := by decide +kernel
set_option maxRecDepth 20000 in
theorem lkX8_fits_f7 : Cond.fieldLink RX8 7 "NicheSaintsModel" "w" "[I" ∈ wsX8_fits := by decide +kernel
set_option maxRecDepth 20000 in
theorem inX8_fits_8 : ∀ w ∈ u_ws RX8 TX8 23, w ∈ wsX8_fits := by decide +kernel
set_option maxRecDepth 20000 in
theorem lkX8_nextRow_f7 : Cond.fieldLink RX8 7 "NicheSaintsModel" "w" "[I" ∈ wsX8_nextRow := by decide +kernel
set_option maxRecDepth 20000 in
theorem lkX8_nextRow_f49 : Cond.fieldLink RX8 49 "NicheSaintsModel" "rowNow" "[I" ∈ wsX8_nextRow := by decide +kernel
set_option maxRecDepth 20000 in
theorem inX8_nextRow_8 : ∀ w ∈ u_ws RX8 TX8 23, w ∈ wsX8_nextRow := by decide +kernel
set_option maxRecDepth 20000 in
theorem lkX8_began_c163 : Cond.constant RX8 163 (-1000000) ∈ wsX8_began := by decide +kernel
set_option maxRecDepth 20000 in
theorem lkX8_began_f28 : Cond.fieldLink RX8 28 "NicheSaintsModel" "there" "[I" ∈ wsX8_began := by decide +kernel
set_option maxRecDepth 20000 in
theorem lkX8_began_f49 : Cond.fieldLink RX8 49 "NicheSaintsModel" "rowNow" "[I" ∈ wsX8_began := by decide +kernel
set_option maxRecDepth 20000 in
theorem lkX8_began_f7 : Cond.fieldLink RX8 7 "NicheSaintsModel" "w" "[I" ∈ wsX8_began := by decide +kernel
set_option maxRecDepth 20000 in
theorem inX8_began_8 : ∀ w ∈ u_ws RX8 TX8 23, w ∈ wsX8_began := by decide +kernel
set_option maxRecDepth 20000 in
theorem lkX8_sleep_c72 : Cond.constant RX8 72 (-1000001) ∈ wsX8_sleep := by decide +kernel
set_option maxRecDepth 20000 in
theorem lkX8_sleep_l161 : Cond.constantLong RX8 161 (9) ∈ wsX8_sleep := by decide +kernel
set_option maxRecDepth 20000 in
theorem lkX8_sleep_l228 : Cond.constantLong RX8 228 (10) ∈ wsX8_sleep := by decide +kernel
set_option maxRecDepth 20000 in
theorem lkX8_sleep_f7 : Cond.fieldLink RX8 7 "NicheSaintsModel" "w" "[I" ∈ wsX8_sleep := by decide +kernel
set_option maxRecDepth 20000 in
theorem inX8_sleep_8 : ∀ w ∈ u_ws RX8 TX8 23, w ∈ wsX8_sleep := by decide +kernel
set_option maxRecDepth 20000 in
theorem lkX8_figures_f7 : Cond.fieldLink RX8 7 "NicheSaintsModel" "w" "[I" ∈ wsX8_figures := by decide +kernel
set_option maxRecDepth 20000 in
theorem inX8_figures_8 : ∀ w ∈ u_ws RX8 TX8 23, w ∈ wsX8_figures := by decide +kernel
set_option maxRecDepth 20000 in
theorem lkX8_drawn_f7 : Cond.fieldLink RX8 7 "NicheSaintsModel" "w" "[I" ∈ wsX8_drawn := by decide +kernel
set_option maxRecDepth 20000 in
theorem lkX8_drawn_l168 : Cond.constantLong RX8 168 (60) ∈ wsX8_drawn := by decide +kernel
set_option maxRecDepth 20000 in
theorem lkX8_drawn_c72 : Cond.constant RX8 72 (-1000001) ∈ wsX8_drawn := by decide +kernel
set_option maxRecDepth 20000 in
theorem lkX8_drawn_l230 : Cond.constantLong RX8 230 (999999) ∈ wsX8_drawn := by decide +kernel
set_option maxRecDepth 20000 in
theorem lkX8_drawn_c149 : Cond.constant RX8 149 (-1000002) ∈ wsX8_drawn := by decide +kernel
set_option maxRecDepth 20000 in
theorem lkX8_drawn_l232 : Cond.constantLong RX8 232 (16807) ∈ wsX8_drawn := by decide +kernel
set_option maxRecDepth 20000 in
theorem lkX8_drawn_l234 : Cond.constantLong RX8 234 (2147483647) ∈ wsX8_drawn := by decide +kernel
set_option maxRecDepth 20000 in
theorem inX8_drawn_8 : ∀ w ∈ u_ws RX8 TX8 23, w ∈ wsX8_drawn := by decide +kernel
set_option maxRecDepth 20000 in
theorem lkX8_image_f7 : Cond.fieldLink RX8 7 "NicheSaintsModel" "w" "[I" ∈ wsX8_image := by decide +kernel
set_option maxRecDepth 20000 in
theorem lkX8_image_c149 : Cond.constant RX8 149 (-1000002) ∈ wsX8_image := by decide +kernel
set_option maxRecDepth 20000 in
theorem lkX8_image_c72 : Cond.constant RX8 72 (-1000001) ∈ wsX8_image := by decide +kernel
set_option maxRecDepth 20000 in
theorem inX8_image_8 : ∀ w ∈ u_ws RX8 TX8 23, w ∈ wsX8_image := by decide +kernel
set_option maxRecDepth 20000 in
theorem lkX8_restore_f7 : Cond.fieldLink RX8 7 "NicheSaintsModel" "w" "[I" ∈ wsX8_restore := by decide +kernel
set_option maxRecDepth 20000 in
theorem lkX8_restore_f136 : Cond.fieldLink RX8 136 "NicheSaintsModel" "undoes" "I" ∈ wsX8_restore := by decide +kernel
set_option maxRecDepth 20000 in
theorem lkX8_restore_c149 : Cond.constant RX8 149 (-1000002) ∈ wsX8_restore := by decide +kernel
set_option maxRecDepth 20000 in
theorem lkX8_restore_c72 : Cond.constant RX8 72 (-1000001) ∈ wsX8_restore := by decide +kernel
set_option maxRecDepth 20000 in
theorem inX8_restore_8 : ∀ w ∈ u_ws RX8 TX8 23, w ∈ wsX8_restore := by decide +kernel
set_option maxRecDepth 20000 in
theorem lkX8_kind_c72 : Cond.constant RX8 72 (-1000001) ∈ wsX8_kind := by decide +kernel
set_option maxRecDepth 20000 in
theorem lkX8_kind_f7 : Cond.fieldLink RX8 7 "NicheSaintsModel" "w" "[I" ∈ wsX8_kind := by decide +kernel
set_option maxRecDepth 20000 in
theorem inX8_kind_8 : ∀ w ∈ u_ws RX8 TX8 23, w ∈ wsX8_kind := by decide +kernel
set_option maxRecDepth 20000 in
theorem lkX8_as_c72 : Cond.constant RX8 72 (-1000001) ∈ wsX8_as := by decide +kernel
set_option maxRecDepth 20000 in
theorem lkX8_as_l239 : Cond.constantLong RX8 239 (5) ∈ wsX8_as := by decide +kernel
set_option maxRecDepth 20000 in
theorem lkX8_as_f7 : Cond.fieldLink RX8 7 "NicheSaintsModel" "w" "[I" ∈ wsX8_as := by decide +kernel
set_option maxRecDepth 20000 in
theorem lkX8_as_f61 : Cond.fieldLink RX8 61 "NicheSaintsModel" "status" "I" ∈ wsX8_as := by decide +kernel
set_option maxRecDepth 20000 in
theorem inX8_as_8 : ∀ w ∈ u_ws RX8 TX8 23, w ∈ wsX8_as := by decide +kernel
set_option maxRecDepth 20000 in
theorem lkX8_traces_f244 : Cond.fieldLink RX8 244 "NicheSaintsModel" "traced" "I" ∈ wsX8_traces := by decide +kernel
set_option maxRecDepth 20000 in
theorem lkX8_traces_f52 : Cond.fieldLink RX8 52 "NicheSaintsModel" "trace" "[I" ∈ wsX8_traces := by decide +kernel
set_option maxRecDepth 20000 in
theorem inX8_traces_8 : ∀ w ∈ u_ws RX8 TX8 23, w ∈ wsX8_traces := by decide +kernel
set_option maxRecDepth 20000 in
theorem lkX8_size10_f7 : Cond.fieldLink RX8 7 "NicheSaintsModel" "w" "[I" ∈ wsX8_size10 := by decide +kernel
set_option maxRecDepth 20000 in
theorem inX8_size10_8 : ∀ w ∈ u_ws RX8 TX8 23, w ∈ wsX8_size10 := by decide +kernel
set_option maxRecDepth 20000 in
theorem lkX8_sizeOf_f7 : Cond.fieldLink RX8 7 "NicheSaintsModel" "w" "[I" ∈ wsX8_sizeOf := by decide +kernel
set_option maxRecDepth 20000 in
theorem inX8_sizeOf_8 : ∀ w ∈ u_ws RX8 TX8 23, w ∈ wsX8_sizeOf := by decide +kernel
set_option maxRecDepth 20000 in
theorem lkX8_markOf_f7 : Cond.fieldLink RX8 7 "NicheSaintsModel" "w" "[I" ∈ wsX8_markOf := by decide +kernel
set_option maxRecDepth 20000 in
theorem inX8_markOf_8 : ∀ w ∈ u_ws RX8 TX8 23, w ∈ wsX8_markOf := by decide +kernel
set_option maxRecDepth 20000 in
theorem lkX8_ask_c72 : Cond.constant RX8 72 (-1000001) ∈ wsX8_ask := by decide +kernel
set_option maxRecDepth 20000 in
theorem lkX8_ask_f244 : Cond.fieldLink RX8 244 "NicheSaintsModel" "traced" "I" ∈ wsX8_ask := by decide +kernel
set_option maxRecDepth 20000 in
theorem lkX8_ask_f7 : Cond.fieldLink RX8 7 "NicheSaintsModel" "w" "[I" ∈ wsX8_ask := by decide +kernel
set_option maxRecDepth 20000 in
theorem inX8_ask_8 : ∀ w ∈ u_ws RX8 TX8 23, w ∈ wsX8_ask := by decide +kernel
set_option maxRecDepth 20000 in
theorem lkX8_trace_f244 : Cond.fieldLink RX8 244 "NicheSaintsModel" "traced" "I" ∈ wsX8_trace := by decide +kernel
set_option maxRecDepth 20000 in
theorem lkX8_trace_c163 : Cond.constant RX8 163 (-1000000) ∈ wsX8_trace := by decide +kernel
set_option maxRecDepth 20000 in
theorem lkX8_trace_f52 : Cond.fieldLink RX8 52 "NicheSaintsModel" "trace" "[I" ∈ wsX8_trace := by decide +kernel
set_option maxRecDepth 20000 in
theorem inX8_trace_8 : ∀ w ∈ u_ws RX8 TX8 23, w ∈ wsX8_trace := by decide +kernel
set_option maxRecDepth 20000 in
theorem lkX8_rowsThere_f16 : Cond.fieldLink RX8 16 "NicheSaintsModel" "many" "[I" ∈ wsX8_rowsThere := by decide +kernel
set_option maxRecDepth 20000 in
theorem inX8_rowsThere_8 : ∀ w ∈ u_ws RX8 TX8 23, w ∈ wsX8_rowsThere := by decide +kernel
set_option maxRecDepth 20000 in
theorem lkX8_count_f7 : Cond.fieldLink RX8 7 "NicheSaintsModel" "w" "[I" ∈ wsX8_count := by decide +kernel
set_option maxRecDepth 20000 in
theorem lkX8_count_f136 : Cond.fieldLink RX8 136 "NicheSaintsModel" "undoes" "I" ∈ wsX8_count := by decide +kernel
set_option maxRecDepth 20000 in
theorem lkX8_count_f83 : Cond.fieldLink RX8 83 "NicheSaintsModel" "taped" "I" ∈ wsX8_count := by decide +kernel
set_option maxRecDepth 20000 in
theorem lkX8_count_c72 : Cond.constant RX8 72 (-1000001) ∈ wsX8_count := by decide +kernel
set_option maxRecDepth 20000 in
theorem inX8_count_8 : ∀ w ∈ u_ws RX8 TX8 23, w ∈ wsX8_count := by decide +kernel
set_option maxRecDepth 20000 in
theorem lkX8_status_f61 : Cond.fieldLink RX8 61 "NicheSaintsModel" "status" "I" ∈ wsX8_status := by decide +kernel
set_option maxRecDepth 20000 in
theorem inX8_status_8 : ∀ w ∈ u_ws RX8 TX8 23, w ∈ wsX8_status := by decide +kernel
set_option maxRecDepth 20000 in
theorem lkJ6_bitCount_0f7a4_c265 : Cond.constant RJ6 265 (1431655765) ∈ wsJ6_bitCount_0f7a4 := by decide +kernel
set_option maxRecDepth 20000 in
theorem lkJ6_bitCount_0f7a4_c266 : Cond.constant RJ6 266 (858993459) ∈ wsJ6_bitCount_0f7a4 := by decide +kernel
set_option maxRecDepth 20000 in
theorem lkJ6_bitCount_0f7a4_c267 : Cond.constant RJ6 267 (252645135) ∈ wsJ6_bitCount_0f7a4 := by decide +kernel
set_option maxRecDepth 20000 in
theorem lkJ0_length_8abf5_f9 : Cond.fieldLink RJ0 9 "java/lang/String" "value" "[B" ∈ wsJ0_length_8abf5 := by decide +kernel
set_option maxRecDepth 20000 in
theorem lkJ0_indexOf_7cf53_f9 : Cond.fieldLink RJ0 9 "java/lang/String" "value" "[B" ∈ wsJ0_indexOf_7cf53 := by decide +kernel
set_option maxRecDepth 20000 in
theorem lkJ0_coder_7d493_f38 : Cond.fieldLink RJ0 38 "java/lang/String" "COMPACT_STRINGS" "Z" ∈ wsJ0_coder_7d493 := by decide +kernel
set_option maxRecDepth 20000 in
theorem lkJ0_coder_7d493_f15 : Cond.fieldLink RJ0 15 "java/lang/String" "coder" "B" ∈ wsJ0_coder_7d493 := by decide +kernel
set_option maxRecDepth 20000 in
theorem lkJ0_isLatin1_aae02_f38 : Cond.fieldLink RJ0 38 "java/lang/String" "COMPACT_STRINGS" "Z" ∈ wsJ0_isLatin1_aae02 := by decide +kernel
set_option maxRecDepth 20000 in
theorem lkJ0_isLatin1_aae02_f15 : Cond.fieldLink RJ0 15 "java/lang/String" "coder" "B" ∈ wsJ0_isLatin1_aae02 := by decide +kernel
set_option maxRecDepth 20000 in
theorem lkJ1_indexOf_4cfef_m92 : Cond.methodLink RJ1 92 Lib.Math.max.name ∈ wsJ1_indexOf_4cfef := by decide +kernel
set_option maxRecDepth 20000 in
theorem lkJ1_indexOf_4cfef_smax0 : Cond.static Lib.Math.max.name ∈ wsJ1_indexOf_4cfef := by decide +kernel
set_option maxRecDepth 20000 in
theorem lkJ1_indexOf_4cfef_imax0 : Cond.initialized "java/lang/Math" ∈ wsJ1_indexOf_4cfef := by decide +kernel
set_option maxRecDepth 20000 in
theorem lkJ1_indexOf_4cfef_kmax0 : Cond.code Lib.Math.max.name Lib.Math.max.code 2 (some .int) ∈ wsJ1_indexOf_4cfef := by decide +kernel
set_option maxRecDepth 20000 in
theorem lkJ1_indexOf_4cfef_m38 : Cond.methodLink RJ1 38 Lib.Math.min.name ∈ wsJ1_indexOf_4cfef := by decide +kernel
set_option maxRecDepth 20000 in
theorem lkJ1_indexOf_4cfef_smin0 : Cond.static Lib.Math.min.name ∈ wsJ1_indexOf_4cfef := by decide +kernel
set_option maxRecDepth 20000 in
theorem lkJ1_indexOf_4cfef_imin0 : Cond.initialized "java/lang/Math" ∈ wsJ1_indexOf_4cfef := by decide +kernel
set_option maxRecDepth 20000 in
theorem lkJ1_indexOf_4cfef_kmin0 : Cond.code Lib.Math.min.name Lib.Math.min.code 2 (some .int) ∈ wsJ1_indexOf_4cfef := by decide +kernel
theorem hyJ0_coder_7d493 : yJ0_coder_7d493.cls = RJ0 ∧ yJ0_coder_7d493.cls ≠ "java/lang/invoke/MethodHandle" ∧ yJ0_coder_7d493.cls ≠ "java/lang/invoke/VarHandle" ∧ (parseMethodDescriptor yJ0_coder_7d493.desc).map (fun d => d.parameters.length) = some 0 := by decide +kernel
theorem hyJ0_indexOf_0f7a4 : yJ0_indexOf_0f7a4.cls = RJ0 ∧ yJ0_indexOf_0f7a4.cls ≠ "java/lang/invoke/MethodHandle" ∧ yJ0_indexOf_0f7a4.cls ≠ "java/lang/invoke/VarHandle" ∧ (parseMethodDescriptor yJ0_indexOf_0f7a4.desc).map (fun d => d.parameters.length) = some 1 := by decide +kernel
theorem hyJ0_indexOf_7cf53 : yJ0_indexOf_7cf53.cls = RJ0 ∧ yJ0_indexOf_7cf53.cls ≠ "java/lang/invoke/MethodHandle" ∧ yJ0_indexOf_7cf53.cls ≠ "java/lang/invoke/VarHandle" ∧ (parseMethodDescriptor yJ0_indexOf_7cf53.desc).map (fun d => d.parameters.length) = some 2 := by decide +kernel
theorem hyJ0_isLatin1_aae02 : yJ0_isLatin1_aae02.cls = RJ0 ∧ yJ0_isLatin1_aae02.cls ≠ "java/lang/invoke/MethodHandle" ∧ yJ0_isLatin1_aae02.cls ≠ "java/lang/invoke/VarHandle" ∧ (parseMethodDescriptor yJ0_isLatin1_aae02.desc).map (fun d => d.parameters.length) = some 0 := by decide +kernel
theorem hyJ0_length_8abf5 : yJ0_length_8abf5.cls = RJ0 ∧ yJ0_length_8abf5.cls ≠ "java/lang/invoke/MethodHandle" ∧ yJ0_length_8abf5.cls ≠ "java/lang/invoke/VarHandle" ∧ (parseMethodDescriptor yJ0_length_8abf5.desc).map (fun d => d.parameters.length) = some 0 := by decide +kernel
theorem hyJ1_canEncode_9a6ad : yJ1_canEncode_9a6ad.cls ≠ "java/lang/invoke/MethodHandle" ∧ yJ1_canEncode_9a6ad.cls ≠ "java/lang/invoke/VarHandle" ∧ (parseMethodDescriptor yJ1_canEncode_9a6ad.desc).map (fun d => d.parameters.length) = some 1 := by decide +kernel
theorem hyJ1_indexOfChar_4cfef : yJ1_indexOfChar_4cfef.cls ≠ "java/lang/invoke/MethodHandle" ∧ yJ1_indexOfChar_4cfef.cls ≠ "java/lang/invoke/VarHandle" ∧ (parseMethodDescriptor yJ1_indexOfChar_4cfef.desc).map (fun d => d.parameters.length) = some 4 := by decide +kernel
theorem hyJ1_indexOf_4cfef : yJ1_indexOf_4cfef.cls ≠ "java/lang/invoke/MethodHandle" ∧ yJ1_indexOf_4cfef.cls ≠ "java/lang/invoke/VarHandle" ∧ (parseMethodDescriptor yJ1_indexOf_4cfef.desc).map (fun d => d.parameters.length) = some 4 := by decide +kernel
theorem hyJ2_indexOf_4cfef : yJ2_indexOf_4cfef.cls ≠ "java/lang/invoke/MethodHandle" ∧ yJ2_indexOf_4cfef.cls ≠ "java/lang/invoke/VarHandle" ∧ (parseMethodDescriptor yJ2_indexOf_4cfef.desc).map (fun d => d.parameters.length) = some 4 := by decide +kernel
theorem hyJ6_bitCount_0f7a4 : yJ6_bitCount_0f7a4.cls ≠ "java/lang/invoke/MethodHandle" ∧ yJ6_bitCount_0f7a4.cls ≠ "java/lang/invoke/VarHandle" ∧ (parseMethodDescriptor yJ6_bitCount_0f7a4.desc).map (fun d => d.parameters.length) = some 1 := by decide +kernel
theorem hyJ7_fill_53178 : yJ7_fill_53178.cls ≠ "java/lang/invoke/MethodHandle" ∧ yJ7_fill_53178.cls ≠ "java/lang/invoke/VarHandle" ∧ (parseMethodDescriptor yJ7_fill_53178.desc).map (fun d => d.parameters.length) = some 2 := by decide +kernel
theorem hyX0_forget : yX0_forget.cls = RX0 ∧ yX0_forget.cls ≠ "java/lang/invoke/MethodHandle" ∧ yX0_forget.cls ≠ "java/lang/invoke/VarHandle" ∧ (parseMethodDescriptor yX0_forget.desc).map (fun d => d.parameters.length) = some 0 := by decide +kernel
theorem hyX0_keep : yX0_keep.cls = RX0 ∧ yX0_keep.cls ≠ "java/lang/invoke/MethodHandle" ∧ yX0_keep.cls ≠ "java/lang/invoke/VarHandle" ∧ (parseMethodDescriptor yX0_keep.desc).map (fun d => d.parameters.length) = some 1 := by decide +kernel
theorem hyX0_takeBack : yX0_takeBack.cls = RX0 ∧ yX0_takeBack.cls ≠ "java/lang/invoke/MethodHandle" ∧ yX0_takeBack.cls ≠ "java/lang/invoke/VarHandle" ∧ (parseMethodDescriptor yX0_takeBack.desc).map (fun d => d.parameters.length) = some 1 := by decide +kernel
theorem hyX1_answer : yX1_answer.cls = RX1 ∧ yX1_answer.cls ≠ "java/lang/invoke/MethodHandle" ∧ yX1_answer.cls ≠ "java/lang/invoke/VarHandle" ∧ (parseMethodDescriptor yX1_answer.desc).map (fun d => d.parameters.length) = some 3 := by decide +kernel
theorem hyX1_leave : yX1_leave.cls = RX1 ∧ yX1_leave.cls ≠ "java/lang/invoke/MethodHandle" ∧ yX1_leave.cls ≠ "java/lang/invoke/VarHandle" ∧ (parseMethodDescriptor yX1_leave.desc).map (fun d => d.parameters.length) = some 1 := by decide +kernel
theorem hyX1_run : yX1_run.cls = RX1 ∧ yX1_run.cls ≠ "java/lang/invoke/MethodHandle" ∧ yX1_run.cls ≠ "java/lang/invoke/VarHandle" ∧ (parseMethodDescriptor yX1_run.desc).map (fun d => d.parameters.length) = some 4 := by decide +kernel
theorem hyX2_cyclesWithoutNone : yX2_cyclesWithoutNone.cls = RX2 ∧ yX2_cyclesWithoutNone.cls ≠ "java/lang/invoke/MethodHandle" ∧ yX2_cyclesWithoutNone.cls ≠ "java/lang/invoke/VarHandle" ∧ (parseMethodDescriptor yX2_cyclesWithoutNone.desc).map (fun d => d.parameters.length) = some 1 := by decide +kernel
theorem hyX2_evenOrOdd : yX2_evenOrOdd.cls = RX2 ∧ yX2_evenOrOdd.cls ≠ "java/lang/invoke/MethodHandle" ∧ yX2_evenOrOdd.cls ≠ "java/lang/invoke/VarHandle" ∧ (parseMethodDescriptor yX2_evenOrOdd.desc).map (fun d => d.parameters.length) = some 1 := by decide +kernel
theorem hyX2_fewestChanges : yX2_fewestChanges.cls = RX2 ∧ yX2_fewestChanges.cls ≠ "java/lang/invoke/MethodHandle" ∧ yX2_fewestChanges.cls ≠ "java/lang/invoke/VarHandle" ∧ (parseMethodDescriptor yX2_fewestChanges.desc).map (fun d => d.parameters.length) = some 1 := by decide +kernel
theorem hyX2_firstFall : yX2_firstFall.cls = RX2 ∧ yX2_firstFall.cls ≠ "java/lang/invoke/MethodHandle" ∧ yX2_firstFall.cls ≠ "java/lang/invoke/VarHandle" ∧ (parseMethodDescriptor yX2_firstFall.desc).map (fun d => d.parameters.length) = some 1 := by decide +kernel
theorem hyX2_freePlaceOf : yX2_freePlaceOf.cls = RX2 ∧ yX2_freePlaceOf.cls ≠ "java/lang/invoke/MethodHandle" ∧ yX2_freePlaceOf.cls ≠ "java/lang/invoke/VarHandle" ∧ (parseMethodDescriptor yX2_freePlaceOf.desc).map (fun d => d.parameters.length) = some 3 := by decide +kernel
theorem hyX2_neighbourChange : yX2_neighbourChange.cls = RX2 ∧ yX2_neighbourChange.cls ≠ "java/lang/invoke/MethodHandle" ∧ yX2_neighbourChange.cls ≠ "java/lang/invoke/VarHandle" ∧ (parseMethodDescriptor yX2_neighbourChange.desc).map (fun d => d.parameters.length) = some 2 := by decide +kernel
theorem hyX2_neighbourChanges : yX2_neighbourChanges.cls = RX2 ∧ yX2_neighbourChanges.cls ≠ "java/lang/invoke/MethodHandle" ∧ yX2_neighbourChanges.cls ≠ "java/lang/invoke/VarHandle" ∧ (parseMethodDescriptor yX2_neighbourChanges.desc).map (fun d => d.parameters.length) = some 1 := by decide +kernel
theorem hyX2_take : yX2_take.cls = RX2 ∧ yX2_take.cls ≠ "java/lang/invoke/MethodHandle" ∧ yX2_take.cls ≠ "java/lang/invoke/VarHandle" ∧ (parseMethodDescriptor yX2_take.desc).map (fun d => d.parameters.length) = some 3 := by decide +kernel
theorem hyX3_begin : yX3_begin.cls = RX3 ∧ yX3_begin.cls ≠ "java/lang/invoke/MethodHandle" ∧ yX3_begin.cls ≠ "java/lang/invoke/VarHandle" ∧ (parseMethodDescriptor yX3_begin.desc).map (fun d => d.parameters.length) = some 1 := by decide +kernel
theorem hyX3_exchange : yX3_exchange.cls = RX3 ∧ yX3_exchange.cls ≠ "java/lang/invoke/MethodHandle" ∧ yX3_exchange.cls ≠ "java/lang/invoke/VarHandle" ∧ (parseMethodDescriptor yX3_exchange.desc).map (fun d => d.parameters.length) = some 2 := by decide +kernel
theorem hyX3_howMany : yX3_howMany.cls = RX3 ∧ yX3_howMany.cls ≠ "java/lang/invoke/MethodHandle" ∧ yX3_howMany.cls ≠ "java/lang/invoke/VarHandle" ∧ (parseMethodDescriptor yX3_howMany.desc).map (fun d => d.parameters.length) = some 1 := by decide +kernel
theorem hyX3_next : yX3_next.cls = RX3 ∧ yX3_next.cls ≠ "java/lang/invoke/MethodHandle" ∧ yX3_next.cls ≠ "java/lang/invoke/VarHandle" ∧ (parseMethodDescriptor yX3_next.desc).map (fun d => d.parameters.length) = some 0 := by decide +kernel
theorem hyX3_placeOf : yX3_placeOf.cls = RX3 ∧ yX3_placeOf.cls ≠ "java/lang/invoke/MethodHandle" ∧ yX3_placeOf.cls ≠ "java/lang/invoke/VarHandle" ∧ (parseMethodDescriptor yX3_placeOf.desc).map (fun d => d.parameters.length) = some 1 := by decide +kernel
theorem hyX3_tally : yX3_tally.cls = RX3 ∧ yX3_tally.cls ≠ "java/lang/invoke/MethodHandle" ∧ yX3_tally.cls ≠ "java/lang/invoke/VarHandle" ∧ (parseMethodDescriptor yX3_tally.desc).map (fun d => d.parameters.length) = some 1 := by decide +kernel
theorem hyX3_ways : yX3_ways.cls = RX3 ∧ yX3_ways.cls ≠ "java/lang/invoke/MethodHandle" ∧ yX3_ways.cls ≠ "java/lang/invoke/VarHandle" ∧ (parseMethodDescriptor yX3_ways.desc).map (fun d => d.parameters.length) = some 1 := by decide +kernel
theorem hyX4_advance : yX4_advance.cls = RX4 ∧ yX4_advance.cls ≠ "java/lang/invoke/MethodHandle" ∧ yX4_advance.cls ≠ "java/lang/invoke/VarHandle" ∧ (parseMethodDescriptor yX4_advance.desc).map (fun d => d.parameters.length) = some 1 := by decide +kernel
theorem hyX4_advanceToMatins : yX4_advanceToMatins.cls = RX4 ∧ yX4_advanceToMatins.cls ≠ "java/lang/invoke/MethodHandle" ∧ yX4_advanceToMatins.cls ≠ "java/lang/invoke/VarHandle" ∧ (parseMethodDescriptor yX4_advanceToMatins.desc).map (fun d => d.parameters.length) = some 0 := by decide +kernel
theorem hyX4_after : yX4_after.cls = RX4 ∧ yX4_after.cls ≠ "java/lang/invoke/MethodHandle" ∧ yX4_after.cls ≠ "java/lang/invoke/VarHandle" ∧ (parseMethodDescriptor yX4_after.desc).map (fun d => d.parameters.length) = some 1 := by decide +kernel
theorem hyX4_atHome : yX4_atHome.cls = RX4 ∧ yX4_atHome.cls ≠ "java/lang/invoke/MethodHandle" ∧ yX4_atHome.cls ≠ "java/lang/invoke/VarHandle" ∧ (parseMethodDescriptor yX4_atHome.desc).map (fun d => d.parameters.length) = some 0 := by decide +kernel
theorem hyX4_become : yX4_become.cls = RX4 ∧ yX4_become.cls ≠ "java/lang/invoke/MethodHandle" ∧ yX4_become.cls ≠ "java/lang/invoke/VarHandle" ∧ (parseMethodDescriptor yX4_become.desc).map (fun d => d.parameters.length) = some 1 := by decide +kernel
theorem hyX4_before : yX4_before.cls = RX4 ∧ yX4_before.cls ≠ "java/lang/invoke/MethodHandle" ∧ yX4_before.cls ≠ "java/lang/invoke/VarHandle" ∧ (parseMethodDescriptor yX4_before.desc).map (fun d => d.parameters.length) = some 1 := by decide +kernel
theorem hyX4_exchange : yX4_exchange.cls = RX4 ∧ yX4_exchange.cls ≠ "java/lang/invoke/MethodHandle" ∧ yX4_exchange.cls ≠ "java/lang/invoke/VarHandle" ∧ (parseMethodDescriptor yX4_exchange.desc).map (fun d => d.parameters.length) = some 2 := by decide +kernel
theorem hyX4_figures : yX4_figures.cls = RX4 ∧ yX4_figures.cls ≠ "java/lang/invoke/MethodHandle" ∧ yX4_figures.cls ≠ "java/lang/invoke/VarHandle" ∧ (parseMethodDescriptor yX4_figures.desc).map (fun d => d.parameters.length) = some 0 := by decide +kernel
theorem hyX4_handOn : yX4_handOn.cls = RX4 ∧ yX4_handOn.cls ≠ "java/lang/invoke/MethodHandle" ∧ yX4_handOn.cls ≠ "java/lang/invoke/VarHandle" ∧ (parseMethodDescriptor yX4_handOn.desc).map (fun d => d.parameters.length) = some 2 := by decide +kernel
theorem hyX4_hasHoodWithThing : yX4_hasHoodWithThing.cls = RX4 ∧ yX4_hasHoodWithThing.cls ≠ "java/lang/invoke/MethodHandle" ∧ yX4_hasHoodWithThing.cls ≠ "java/lang/invoke/VarHandle" ∧ (parseMethodDescriptor yX4_hasHoodWithThing.desc).map (fun d => d.parameters.length) = some 0 := by decide +kernel
theorem hyX4_isMatins : yX4_isMatins.cls = RX4 ∧ yX4_isMatins.cls ≠ "java/lang/invoke/MethodHandle" ∧ yX4_isMatins.cls ≠ "java/lang/invoke/VarHandle" ∧ (parseMethodDescriptor yX4_isMatins.desc).map (fun d => d.parameters.length) = some 0 := by decide +kernel
theorem hyX4_isSaint : yX4_isSaint.cls = RX4 ∧ yX4_isSaint.cls ≠ "java/lang/invoke/MethodHandle" ∧ yX4_isSaint.cls ≠ "java/lang/invoke/VarHandle" ∧ (parseMethodDescriptor yX4_isSaint.desc).map (fun d => d.parameters.length) = some 1 := by decide +kernel
theorem hyX4_lets : yX4_lets.cls = RX4 ∧ yX4_lets.cls ≠ "java/lang/invoke/MethodHandle" ∧ yX4_lets.cls ≠ "java/lang/invoke/VarHandle" ∧ (parseMethodDescriptor yX4_lets.desc).map (fun d => d.parameters.length) = some 1 := by decide +kernel
theorem hyX4_singMatins : yX4_singMatins.cls = RX4 ∧ yX4_singMatins.cls ≠ "java/lang/invoke/MethodHandle" ∧ yX4_singMatins.cls ≠ "java/lang/invoke/VarHandle" ∧ (parseMethodDescriptor yX4_singMatins.desc).map (fun d => d.parameters.length) = some 0 := by decide +kernel
theorem hyX4_takeFigures : yX4_takeFigures.cls = RX4 ∧ yX4_takeFigures.cls ≠ "java/lang/invoke/MethodHandle" ∧ yX4_takeFigures.cls ≠ "java/lang/invoke/VarHandle" ∧ (parseMethodDescriptor yX4_takeFigures.desc).map (fun d => d.parameters.length) = some 1 := by decide +kernel
theorem hyX4_turn : yX4_turn.cls = RX4 ∧ yX4_turn.cls ≠ "java/lang/invoke/MethodHandle" ∧ yX4_turn.cls ≠ "java/lang/invoke/VarHandle" ∧ (parseMethodDescriptor yX4_turn.desc).map (fun d => d.parameters.length) = some 1 := by decide +kernel
theorem hyX4_whoHas : yX4_whoHas.cls = RX4 ∧ yX4_whoHas.cls ≠ "java/lang/invoke/MethodHandle" ∧ yX4_whoHas.cls ≠ "java/lang/invoke/VarHandle" ∧ (parseMethodDescriptor yX4_whoHas.desc).map (fun d => d.parameters.length) = some 1 := by decide +kernel
theorem hyX4_withNone : yX4_withNone.cls = RX4 ∧ yX4_withNone.cls ≠ "java/lang/invoke/MethodHandle" ∧ yX4_withNone.cls ≠ "java/lang/invoke/VarHandle" ∧ (parseMethodDescriptor yX4_withNone.desc).map (fun d => d.parameters.length) = some 0 := by decide +kernel
theorem hyX5_clear : yX5_clear.cls = RX5 ∧ yX5_clear.cls ≠ "java/lang/invoke/MethodHandle" ∧ yX5_clear.cls ≠ "java/lang/invoke/VarHandle" ∧ (parseMethodDescriptor yX5_clear.desc).map (fun d => d.parameters.length) = some 0 := by decide +kernel
theorem hyX5_cut : yX5_cut.cls = RX5 ∧ yX5_cut.cls ≠ "java/lang/invoke/MethodHandle" ∧ yX5_cut.cls ≠ "java/lang/invoke/VarHandle" ∧ (parseMethodDescriptor yX5_cut.desc).map (fun d => d.parameters.length) = some 1 := by decide +kernel
theorem hyX5_has : yX5_has.cls = RX5 ∧ yX5_has.cls ≠ "java/lang/invoke/MethodHandle" ∧ yX5_has.cls ≠ "java/lang/invoke/VarHandle" ∧ (parseMethodDescriptor yX5_has.desc).map (fun d => d.parameters.length) = some 2 := by decide +kernel
theorem hyX5_isMissing : yX5_isMissing.cls = RX5 ∧ yX5_isMissing.cls ≠ "java/lang/invoke/MethodHandle" ∧ yX5_isMissing.cls ≠ "java/lang/invoke/VarHandle" ∧ (parseMethodDescriptor yX5_isMissing.desc).map (fun d => d.parameters.length) = some 0 := by decide +kernel
theorem hyX5_lay : yX5_lay.cls = RX5 ∧ yX5_lay.cls ≠ "java/lang/invoke/MethodHandle" ∧ yX5_lay.cls ≠ "java/lang/invoke/VarHandle" ∧ (parseMethodDescriptor yX5_lay.desc).map (fun d => d.parameters.length) = some 2 := by decide +kernel
theorem hyX5_put : yX5_put.cls = RX5 ∧ yX5_put.cls ≠ "java/lang/invoke/MethodHandle" ∧ yX5_put.cls ≠ "java/lang/invoke/VarHandle" ∧ (parseMethodDescriptor yX5_put.desc).map (fun d => d.parameters.length) = some 2 := by decide +kernel
theorem hyX6_add : yX6_add.cls = RX6 ∧ yX6_add.cls ≠ "java/lang/invoke/MethodHandle" ∧ yX6_add.cls ≠ "java/lang/invoke/VarHandle" ∧ (parseMethodDescriptor yX6_add.desc).map (fun d => d.parameters.length) = some 1 := by decide +kernel
theorem hyX6_fail : yX6_fail.cls = RX6 ∧ yX6_fail.cls ≠ "java/lang/invoke/MethodHandle" ∧ yX6_fail.cls ≠ "java/lang/invoke/VarHandle" ∧ (parseMethodDescriptor yX6_fail.desc).map (fun d => d.parameters.length) = some 2 := by decide +kernel
theorem hyX6_isFigure : yX6_isFigure.cls = RX6 ∧ yX6_isFigure.cls ≠ "java/lang/invoke/MethodHandle" ∧ yX6_isFigure.cls ≠ "java/lang/invoke/VarHandle" ∧ (parseMethodDescriptor yX6_isFigure.desc).map (fun d => d.parameters.length) = some 1 := by decide +kernel
theorem hyX6_isNumber : yX6_isNumber.cls = RX6 ∧ yX6_isNumber.cls ≠ "java/lang/invoke/MethodHandle" ∧ yX6_isNumber.cls ≠ "java/lang/invoke/VarHandle" ∧ (parseMethodDescriptor yX6_isNumber.desc).map (fun d => d.parameters.length) = some 2 := by decide +kernel
theorem hyX6_numberAt : yX6_numberAt.cls = RX6 ∧ yX6_numberAt.cls ≠ "java/lang/invoke/MethodHandle" ∧ yX6_numberAt.cls ≠ "java/lang/invoke/VarHandle" ∧ (parseMethodDescriptor yX6_numberAt.desc).map (fun d => d.parameters.length) = some 2 := by decide +kernel
theorem hyX6_read : yX6_read.cls = RX6 ∧ yX6_read.cls ≠ "java/lang/invoke/MethodHandle" ∧ yX6_read.cls ≠ "java/lang/invoke/VarHandle" ∧ (parseMethodDescriptor yX6_read.desc).map (fun d => d.parameters.length) = some 0 := by decide +kernel
theorem hyX6_take : yX6_take.cls = RX6 ∧ yX6_take.cls ≠ "java/lang/invoke/MethodHandle" ∧ yX6_take.cls ≠ "java/lang/invoke/VarHandle" ∧ (parseMethodDescriptor yX6_take.desc).map (fun d => d.parameters.length) = some 2 := by decide +kernel
theorem hyX6_takeNight : yX6_takeNight.cls = RX6 ∧ yX6_takeNight.cls ≠ "java/lang/invoke/MethodHandle" ∧ yX6_takeNight.cls ≠ "java/lang/invoke/VarHandle" ∧ (parseMethodDescriptor yX6_takeNight.desc).map (fun d => d.parameters.length) = some 2 := by decide +kernel
theorem hyX6_takeSign : yX6_takeSign.cls = RX6 ∧ yX6_takeSign.cls ≠ "java/lang/invoke/MethodHandle" ∧ yX6_takeSign.cls ≠ "java/lang/invoke/VarHandle" ∧ (parseMethodDescriptor yX6_takeSign.desc).map (fun d => d.parameters.length) = some 3 := by decide +kernel
theorem hyX6_takeSort : yX6_takeSort.cls = RX6 ∧ yX6_takeSort.cls ≠ "java/lang/invoke/MethodHandle" ∧ yX6_takeSort.cls ≠ "java/lang/invoke/VarHandle" ∧ (parseMethodDescriptor yX6_takeSort.desc).map (fun d => d.parameters.length) = some 1 := by decide +kernel
theorem hyX6_takeThing : yX6_takeThing.cls = RX6 ∧ yX6_takeThing.cls ≠ "java/lang/invoke/MethodHandle" ∧ yX6_takeThing.cls ≠ "java/lang/invoke/VarHandle" ∧ (parseMethodDescriptor yX6_takeThing.desc).map (fun d => d.parameters.length) = some 2 := by decide +kernel
theorem hyX6_tokenLength : yX6_tokenLength.cls = RX6 ∧ yX6_tokenLength.cls ≠ "java/lang/invoke/MethodHandle" ∧ yX6_tokenLength.cls ≠ "java/lang/invoke/VarHandle" ∧ (parseMethodDescriptor yX6_tokenLength.desc).map (fun d => d.parameters.length) = some 1 := by decide +kernel
theorem hyX7_areCluesAsTold : yX7_areCluesAsTold.cls = RX7 ∧ yX7_areCluesAsTold.cls ≠ "java/lang/invoke/MethodHandle" ∧ yX7_areCluesAsTold.cls ≠ "java/lang/invoke/VarHandle" ∧ (parseMethodDescriptor yX7_areCluesAsTold.desc).map (fun d => d.parameters.length) = some 4 := by decide +kernel
theorem hyX7_comesByHand : yX7_comesByHand.cls = RX7 ∧ yX7_comesByHand.cls ≠ "java/lang/invoke/MethodHandle" ∧ yX7_comesByHand.cls ≠ "java/lang/invoke/VarHandle" ∧ (parseMethodDescriptor yX7_comesByHand.desc).map (fun d => d.parameters.length) = some 2 := by decide +kernel
theorem hyX7_commonDivisor : yX7_commonDivisor.cls ≠ "java/lang/invoke/MethodHandle" ∧ yX7_commonDivisor.cls ≠ "java/lang/invoke/VarHandle" ∧ (parseMethodDescriptor yX7_commonDivisor.desc).map (fun d => d.parameters.length) = some 2 := by decide +kernel
theorem hyX7_fewestByHand : yX7_fewestByHand.cls = RX7 ∧ yX7_fewestByHand.cls ≠ "java/lang/invoke/MethodHandle" ∧ yX7_fewestByHand.cls ≠ "java/lang/invoke/VarHandle" ∧ (parseMethodDescriptor yX7_fewestByHand.desc).map (fun d => d.parameters.length) = some 2 := by decide +kernel
theorem hyX7_findingOf : yX7_findingOf.cls = RX7 ∧ yX7_findingOf.cls ≠ "java/lang/invoke/MethodHandle" ∧ yX7_findingOf.cls ≠ "java/lang/invoke/VarHandle" ∧ (parseMethodDescriptor yX7_findingOf.desc).map (fun d => d.parameters.length) = some 3 := by decide +kernel
theorem hyX7_found : yX7_found.cls = RX7 ∧ yX7_found.cls ≠ "java/lang/invoke/MethodHandle" ∧ yX7_found.cls ≠ "java/lang/invoke/VarHandle" ∧ (parseMethodDescriptor yX7_found.desc).map (fun d => d.parameters.length) = some 1 := by decide +kernel
theorem hyX7_isFirstOrSecond : yX7_isFirstOrSecond.cls ≠ "java/lang/invoke/MethodHandle" ∧ yX7_isFirstOrSecond.cls ≠ "java/lang/invoke/VarHandle" ∧ (parseMethodDescriptor yX7_isFirstOrSecond.desc).map (fun d => d.parameters.length) = some 1 := by decide +kernel
theorem hyX7_isOfKind : yX7_isOfKind.cls ≠ "java/lang/invoke/MethodHandle" ∧ yX7_isOfKind.cls ≠ "java/lang/invoke/VarHandle" ∧ (parseMethodDescriptor yX7_isOfKind.desc).map (fun d => d.parameters.length) = some 2 := by decide +kernel
theorem hyX7_isPair : yX7_isPair.cls = RX7 ∧ yX7_isPair.cls ≠ "java/lang/invoke/MethodHandle" ∧ yX7_isPair.cls ≠ "java/lang/invoke/VarHandle" ∧ (parseMethodDescriptor yX7_isPair.desc).map (fun d => d.parameters.length) = some 1 := by decide +kernel
theorem hyX7_isRow : yX7_isRow.cls ≠ "java/lang/invoke/MethodHandle" ∧ yX7_isRow.cls ≠ "java/lang/invoke/VarHandle" ∧ (parseMethodDescriptor yX7_isRow.desc).map (fun d => d.parameters.length) = some 1 := by decide +kernel
theorem hyX7_isThing : yX7_isThing.cls ≠ "java/lang/invoke/MethodHandle" ∧ yX7_isThing.cls ≠ "java/lang/invoke/VarHandle" ∧ (parseMethodDescriptor yX7_isThing.desc).map (fun d => d.parameters.length) = some 1 := by decide +kernel
theorem hyX7_kindsThatFit : yX7_kindsThatFit.cls = RX7 ∧ yX7_kindsThatFit.cls ≠ "java/lang/invoke/MethodHandle" ∧ yX7_kindsThatFit.cls ≠ "java/lang/invoke/VarHandle" ∧ (parseMethodDescriptor yX7_kindsThatFit.desc).map (fun d => d.parameters.length) = some 4 := by decide +kernel
theorem hyX7_nightsThatFit : yX7_nightsThatFit.cls = RX7 ∧ yX7_nightsThatFit.cls ≠ "java/lang/invoke/MethodHandle" ∧ yX7_nightsThatFit.cls ≠ "java/lang/invoke/VarHandle" ∧ (parseMethodDescriptor yX7_nightsThatFit.desc).map (fun d => d.parameters.length) = some 4 := by decide +kernel
theorem hyX7_ordersThatFit : yX7_ordersThatFit.cls = RX7 ∧ yX7_ordersThatFit.cls ≠ "java/lang/invoke/MethodHandle" ∧ yX7_ordersThatFit.cls ≠ "java/lang/invoke/VarHandle" ∧ (parseMethodDescriptor yX7_ordersThatFit.desc).map (fun d => d.parameters.length) = some 5 := by decide +kernel
theorem hyX7_power : yX7_power.cls ≠ "java/lang/invoke/MethodHandle" ∧ yX7_power.cls ≠ "java/lang/invoke/VarHandle" ∧ (parseMethodDescriptor yX7_power.desc).map (fun d => d.parameters.length) = some 2 := by decide +kernel
theorem hyX7_rowsThere : yX7_rowsThere.cls = RX7 ∧ yX7_rowsThere.cls ≠ "java/lang/invoke/MethodHandle" ∧ yX7_rowsThere.cls ≠ "java/lang/invoke/VarHandle" ∧ (parseMethodDescriptor yX7_rowsThere.desc).map (fun d => d.parameters.length) = some 0 := by decide +kernel
theorem hyX7_trialShows : yX7_trialShows.cls = RX7 ∧ yX7_trialShows.cls ≠ "java/lang/invoke/MethodHandle" ∧ yX7_trialShows.cls ≠ "java/lang/invoke/VarHandle" ∧ (parseMethodDescriptor yX7_trialShows.desc).map (fun d => d.parameters.length) = some 4 := by decide +kernel
theorem hyX8_against : yX8_against.cls = RX8 ∧ yX8_against.cls ≠ "java/lang/invoke/MethodHandle" ∧ yX8_against.cls ≠ "java/lang/invoke/VarHandle" ∧ (parseMethodDescriptor yX8_against.desc).map (fun d => d.parameters.length) = some 3 := by decide +kernel
theorem hyX8_allRows : yX8_allRows.cls = RX8 ∧ yX8_allRows.cls ≠ "java/lang/invoke/MethodHandle" ∧ yX8_allRows.cls ≠ "java/lang/invoke/VarHandle" ∧ (parseMethodDescriptor yX8_allRows.desc).map (fun d => d.parameters.length) = some 0 := by decide +kernel
theorem hyX8_atHome : yX8_atHome.cls = RX8 ∧ yX8_atHome.cls ≠ "java/lang/invoke/MethodHandle" ∧ yX8_atHome.cls ≠ "java/lang/invoke/VarHandle" ∧ (parseMethodDescriptor yX8_atHome.desc).map (fun d => d.parameters.length) = some 0 := by decide +kernel
theorem hyX8_bars : yX8_bars.cls = RX8 ∧ yX8_bars.cls ≠ "java/lang/invoke/MethodHandle" ∧ yX8_bars.cls ≠ "java/lang/invoke/VarHandle" ∧ (parseMethodDescriptor yX8_bars.desc).map (fun d => d.parameters.length) = some 5 := by decide +kernel
theorem hyX8_changes : yX8_changes.cls = RX8 ∧ yX8_changes.cls ≠ "java/lang/invoke/MethodHandle" ∧ yX8_changes.cls ≠ "java/lang/invoke/VarHandle" ∧ (parseMethodDescriptor yX8_changes.desc).map (fun d => d.parameters.length) = some 3 := by decide +kernel
theorem hyX8_copyOf : yX8_copyOf.cls = RX8 ∧ yX8_copyOf.cls ≠ "java/lang/invoke/MethodHandle" ∧ yX8_copyOf.cls ≠ "java/lang/invoke/VarHandle" ∧ (parseMethodDescriptor yX8_copyOf.desc).map (fun d => d.parameters.length) = some 3 := by decide +kernel
theorem hyX8_countsThere : yX8_countsThere.cls = RX8 ∧ yX8_countsThere.cls ≠ "java/lang/invoke/MethodHandle" ∧ yX8_countsThere.cls ≠ "java/lang/invoke/VarHandle" ∧ (parseMethodDescriptor yX8_countsThere.desc).map (fun d => d.parameters.length) = some 0 := by decide +kernel
theorem hyX8_fails : yX8_fails.cls = RX8 ∧ yX8_fails.cls ≠ "java/lang/invoke/MethodHandle" ∧ yX8_fails.cls ≠ "java/lang/invoke/VarHandle" ∧ (parseMethodDescriptor yX8_fails.desc).map (fun d => d.parameters.length) = some 2 := by decide +kernel
theorem hyX8_figures : yX8_figures.cls = RX8 ∧ yX8_figures.cls ≠ "java/lang/invoke/MethodHandle" ∧ yX8_figures.cls ≠ "java/lang/invoke/VarHandle" ∧ (parseMethodDescriptor yX8_figures.desc).map (fun d => d.parameters.length) = some 1 := by decide +kernel
theorem hyX8_finds : yX8_finds.cls = RX8 ∧ yX8_finds.cls ≠ "java/lang/invoke/MethodHandle" ∧ yX8_finds.cls ≠ "java/lang/invoke/VarHandle" ∧ (parseMethodDescriptor yX8_finds.desc).map (fun d => d.parameters.length) = some 1 := by decide +kernel
theorem hyX8_goesOn : yX8_goesOn.cls = RX8 ∧ yX8_goesOn.cls ≠ "java/lang/invoke/MethodHandle" ∧ yX8_goesOn.cls ≠ "java/lang/invoke/VarHandle" ∧ (parseMethodDescriptor yX8_goesOn.desc).map (fun d => d.parameters.length) = some 1 := by decide +kernel
theorem hyX8_has : yX8_has.cls ≠ "java/lang/invoke/MethodHandle" ∧ yX8_has.cls ≠ "java/lang/invoke/VarHandle" ∧ (parseMethodDescriptor yX8_has.desc).map (fun d => d.parameters.length) = some 2 := by decide +kernel
theorem hyX8_hasBy : yX8_hasBy.cls = RX8 ∧ yX8_hasBy.cls ≠ "java/lang/invoke/MethodHandle" ∧ yX8_hasBy.cls ≠ "java/lang/invoke/VarHandle" ∧ (parseMethodDescriptor yX8_hasBy.desc).map (fun d => d.parameters.length) = some 4 := by decide +kernel
theorem hyX8_here : yX8_here.cls = RX8 ∧ yX8_here.cls ≠ "java/lang/invoke/MethodHandle" ∧ yX8_here.cls ≠ "java/lang/invoke/VarHandle" ∧ (parseMethodDescriptor yX8_here.desc).map (fun d => d.parameters.length) = some 0 := by decide +kernel
theorem hyX8_holderIn : yX8_holderIn.cls = RX8 ∧ yX8_holderIn.cls ≠ "java/lang/invoke/MethodHandle" ∧ yX8_holderIn.cls ≠ "java/lang/invoke/VarHandle" ∧ (parseMethodDescriptor yX8_holderIn.desc).map (fun d => d.parameters.length) = some 2 := by decide +kernel
theorem hyX8_in : yX8_in.cls ≠ "java/lang/invoke/MethodHandle" ∧ yX8_in.cls ≠ "java/lang/invoke/VarHandle" ∧ (parseMethodDescriptor yX8_in.desc).map (fun d => d.parameters.length) = some 3 := by decide +kernel
theorem hyX8_isA : yX8_isA.cls ≠ "java/lang/invoke/MethodHandle" ∧ yX8_isA.cls ≠ "java/lang/invoke/VarHandle" ∧ (parseMethodDescriptor yX8_isA.desc).map (fun d => d.parameters.length) = some 2 := by decide +kernel
theorem hyX8_isRow : yX8_isRow.cls ≠ "java/lang/invoke/MethodHandle" ∧ yX8_isRow.cls ≠ "java/lang/invoke/VarHandle" ∧ (parseMethodDescriptor yX8_isRow.desc).map (fun d => d.parameters.length) = some 1 := by decide +kernel
theorem hyX8_isSaint : yX8_isSaint.cls = RX8 ∧ yX8_isSaint.cls ≠ "java/lang/invoke/MethodHandle" ∧ yX8_isSaint.cls ≠ "java/lang/invoke/VarHandle" ∧ (parseMethodDescriptor yX8_isSaint.desc).map (fun d => d.parameters.length) = some 1 := by decide +kernel
theorem hyX8_isSo : yX8_isSo.cls = RX8 ∧ yX8_isSo.cls ≠ "java/lang/invoke/MethodHandle" ∧ yX8_isSo.cls ≠ "java/lang/invoke/VarHandle" ∧ (parseMethodDescriptor yX8_isSo.desc).map (fun d => d.parameters.length) = some 3 := by decide +kernel
theorem hyX8_kindOf : yX8_kindOf.cls ≠ "java/lang/invoke/MethodHandle" ∧ yX8_kindOf.cls ≠ "java/lang/invoke/VarHandle" ∧ (parseMethodDescriptor yX8_kindOf.desc).map (fun d => d.parameters.length) = some 1 := by decide +kernel
theorem hyX8_laysPairs : yX8_laysPairs.cls = RX8 ∧ yX8_laysPairs.cls ≠ "java/lang/invoke/MethodHandle" ∧ yX8_laysPairs.cls ≠ "java/lang/invoke/VarHandle" ∧ (parseMethodDescriptor yX8_laysPairs.desc).map (fun d => d.parameters.length) = some 0 := by decide +kernel
theorem hyX8_laysTo : yX8_laysTo.cls = RX8 ∧ yX8_laysTo.cls ≠ "java/lang/invoke/MethodHandle" ∧ yX8_laysTo.cls ≠ "java/lang/invoke/VarHandle" ∧ (parseMethodDescriptor yX8_laysTo.desc).map (fun d => d.parameters.length) = some 2 := by decide +kernel
theorem hyX8_lets : yX8_lets.cls = RX8 ∧ yX8_lets.cls ≠ "java/lang/invoke/MethodHandle" ∧ yX8_lets.cls ≠ "java/lang/invoke/VarHandle" ∧ (parseMethodDescriptor yX8_lets.desc).map (fun d => d.parameters.length) = some 2 := by decide +kernel
theorem hyX8_mark20 : yX8_mark20.cls = RX8 ∧ yX8_mark20.cls ≠ "java/lang/invoke/MethodHandle" ∧ yX8_mark20.cls ≠ "java/lang/invoke/VarHandle" ∧ (parseMethodDescriptor yX8_mark20.desc).map (fun d => d.parameters.length) = some 1 := by decide +kernel
theorem hyX8_mark21 : yX8_mark21.cls = RX8 ∧ yX8_mark21.cls ≠ "java/lang/invoke/MethodHandle" ∧ yX8_mark21.cls ≠ "java/lang/invoke/VarHandle" ∧ (parseMethodDescriptor yX8_mark21.desc).map (fun d => d.parameters.length) = some 1 := by decide +kernel
theorem hyX8_mark23 : yX8_mark23.cls = RX8 ∧ yX8_mark23.cls ≠ "java/lang/invoke/MethodHandle" ∧ yX8_mark23.cls ≠ "java/lang/invoke/VarHandle" ∧ (parseMethodDescriptor yX8_mark23.desc).map (fun d => d.parameters.length) = some 1 := by decide +kernel
theorem hyX8_markOf : yX8_markOf.cls = RX8 ∧ yX8_markOf.cls ≠ "java/lang/invoke/MethodHandle" ∧ yX8_markOf.cls ≠ "java/lang/invoke/VarHandle" ∧ (parseMethodDescriptor yX8_markOf.desc).map (fun d => d.parameters.length) = some 1 := by decide +kernel
theorem hyX8_minds : yX8_minds.cls = RX8 ∧ yX8_minds.cls ≠ "java/lang/invoke/MethodHandle" ∧ yX8_minds.cls ≠ "java/lang/invoke/VarHandle" ∧ (parseMethodDescriptor yX8_minds.desc).map (fun d => d.parameters.length) = some 0 := by decide +kernel
theorem hyX8_mostRings : yX8_mostRings.cls = RX8 ∧ yX8_mostRings.cls ≠ "java/lang/invoke/MethodHandle" ∧ yX8_mostRings.cls ≠ "java/lang/invoke/VarHandle" ∧ (parseMethodDescriptor yX8_mostRings.desc).map (fun d => d.parameters.length) = some 0 := by decide +kernel
theorem hyX8_nextRow : yX8_nextRow.cls = RX8 ∧ yX8_nextRow.cls ≠ "java/lang/invoke/MethodHandle" ∧ yX8_nextRow.cls ≠ "java/lang/invoke/VarHandle" ∧ (parseMethodDescriptor yX8_nextRow.desc).map (fun d => d.parameters.length) = some 0 := by decide +kernel
theorem hyX8_noneOf : yX8_noneOf.cls = RX8 ∧ yX8_noneOf.cls ≠ "java/lang/invoke/MethodHandle" ∧ yX8_noneOf.cls ≠ "java/lang/invoke/VarHandle" ∧ (parseMethodDescriptor yX8_noneOf.desc).map (fun d => d.parameters.length) = some 0 := by decide +kernel
theorem hyX8_placeOf : yX8_placeOf.cls = RX8 ∧ yX8_placeOf.cls ≠ "java/lang/invoke/MethodHandle" ∧ yX8_placeOf.cls ≠ "java/lang/invoke/VarHandle" ∧ (parseMethodDescriptor yX8_placeOf.desc).map (fun d => d.parameters.length) = some 1 := by decide +kernel
theorem hyX8_rings : yX8_rings.cls = RX8 ∧ yX8_rings.cls ≠ "java/lang/invoke/MethodHandle" ∧ yX8_rings.cls ≠ "java/lang/invoke/VarHandle" ∧ (parseMethodDescriptor yX8_rings.desc).map (fun d => d.parameters.length) = some 0 := by decide +kernel
theorem hyX8_rowsOf : yX8_rowsOf.cls = RX8 ∧ yX8_rowsOf.cls ≠ "java/lang/invoke/MethodHandle" ∧ yX8_rowsOf.cls ≠ "java/lang/invoke/VarHandle" ∧ (parseMethodDescriptor yX8_rowsOf.desc).map (fun d => d.parameters.length) = some 0 := by decide +kernel
theorem hyX8_rowsThere : yX8_rowsThere.cls = RX8 ∧ yX8_rowsThere.cls ≠ "java/lang/invoke/MethodHandle" ∧ yX8_rowsThere.cls ≠ "java/lang/invoke/VarHandle" ∧ (parseMethodDescriptor yX8_rowsThere.desc).map (fun d => d.parameters.length) = some 0 := by decide +kernel
theorem hyX8_size10 : yX8_size10.cls = RX8 ∧ yX8_size10.cls ≠ "java/lang/invoke/MethodHandle" ∧ yX8_size10.cls ≠ "java/lang/invoke/VarHandle" ∧ (parseMethodDescriptor yX8_size10.desc).map (fun d => d.parameters.length) = some 1 := by decide +kernel
theorem hyX8_size11 : yX8_size11.cls = RX8 ∧ yX8_size11.cls ≠ "java/lang/invoke/MethodHandle" ∧ yX8_size11.cls ≠ "java/lang/invoke/VarHandle" ∧ (parseMethodDescriptor yX8_size11.desc).map (fun d => d.parameters.length) = some 1 := by decide +kernel
theorem hyX8_size13 : yX8_size13.cls = RX8 ∧ yX8_size13.cls ≠ "java/lang/invoke/MethodHandle" ∧ yX8_size13.cls ≠ "java/lang/invoke/VarHandle" ∧ (parseMethodDescriptor yX8_size13.desc).map (fun d => d.parameters.length) = some 1 := by decide +kernel
theorem hyX8_sizeOf : yX8_sizeOf.cls = RX8 ∧ yX8_sizeOf.cls ≠ "java/lang/invoke/MethodHandle" ∧ yX8_sizeOf.cls ≠ "java/lang/invoke/VarHandle" ∧ (parseMethodDescriptor yX8_sizeOf.desc).map (fun d => d.parameters.length) = some 1 := by decide +kernel
theorem hyX8_stepsBy : yX8_stepsBy.cls = RX8 ∧ yX8_stepsBy.cls ≠ "java/lang/invoke/MethodHandle" ∧ yX8_stepsBy.cls ≠ "java/lang/invoke/VarHandle" ∧ (parseMethodDescriptor yX8_stepsBy.desc).map (fun d => d.parameters.length) = some 2 := by decide +kernel
theorem hyX8_takes : yX8_takes.cls = RX8 ∧ yX8_takes.cls ≠ "java/lang/invoke/MethodHandle" ∧ yX8_takes.cls ≠ "java/lang/invoke/VarHandle" ∧ (parseMethodDescriptor yX8_takes.desc).map (fun d => d.parameters.length) = some 1 := by decide +kernel
theorem hyX8_takesAll : yX8_takesAll.cls = RX8 ∧ yX8_takesAll.cls ≠ "java/lang/invoke/MethodHandle" ∧ yX8_takesAll.cls ≠ "java/lang/invoke/VarHandle" ∧ (parseMethodDescriptor yX8_takesAll.desc).map (fun d => d.parameters.length) = some 0 := by decide +kernel
theorem hyX8_takesNumber : yX8_takesNumber.cls = RX8 ∧ yX8_takesNumber.cls ≠ "java/lang/invoke/MethodHandle" ∧ yX8_takesNumber.cls ≠ "java/lang/invoke/VarHandle" ∧ (parseMethodDescriptor yX8_takesNumber.desc).map (fun d => d.parameters.length) = some 3 := by decide +kernel
theorem hyX8_takesSaint : yX8_takesSaint.cls = RX8 ∧ yX8_takesSaint.cls ≠ "java/lang/invoke/MethodHandle" ∧ yX8_takesSaint.cls ≠ "java/lang/invoke/VarHandle" ∧ (parseMethodDescriptor yX8_takesSaint.desc).map (fun d => d.parameters.length) = some 0 := by decide +kernel
theorem hyX8_toMatins : yX8_toMatins.cls = RX8 ∧ yX8_toMatins.cls ≠ "java/lang/invoke/MethodHandle" ∧ yX8_toMatins.cls ≠ "java/lang/invoke/VarHandle" ∧ (parseMethodDescriptor yX8_toMatins.desc).map (fun d => d.parameters.length) = some 0 := by decide +kernel
theorem hyX8_traces : yX8_traces.cls = RX8 ∧ yX8_traces.cls ≠ "java/lang/invoke/MethodHandle" ∧ yX8_traces.cls ≠ "java/lang/invoke/VarHandle" ∧ (parseMethodDescriptor yX8_traces.desc).map (fun d => d.parameters.length) = some 1 := by decide +kernel
theorem hyX8_tries : yX8_tries.cls = RX8 ∧ yX8_tries.cls ≠ "java/lang/invoke/MethodHandle" ∧ yX8_tries.cls ≠ "java/lang/invoke/VarHandle" ∧ (parseMethodDescriptor yX8_tries.desc).map (fun d => d.parameters.length) = some 0 := by decide +kernel
theorem hyX8_turns : yX8_turns.cls = RX8 ∧ yX8_turns.cls ≠ "java/lang/invoke/MethodHandle" ∧ yX8_turns.cls ≠ "java/lang/invoke/VarHandle" ∧ (parseMethodDescriptor yX8_turns.desc).map (fun d => d.parameters.length) = some 2 := by decide +kernel
abbrev BX0_forget (d pc : Nat) (lv : List (Nat × Value)) (st : List Value) (M : Mm) (Q : Int32 → Mm → Prop) : Prop := Bd d yX0_forget cX0_forget 1 none wsX0_forget pc lv st M Q
abbrev kX0_forget (d : Nat)  (M : Mm) (Q : Int32 → Mm → Prop) : Prop := Ct d yX0_forget none wsX0_forget [.ref 36] M Q
abbrev BX0_keep (d pc : Nat) (lv : List (Nat × Value)) (st : List Value) (M : Mm) (Q : Int32 → Mm → Prop) : Prop := Bd d yX0_keep cX0_keep 3 none wsX0_keep pc lv st M Q
abbrev kX0_keep (d : Nat) (o1 : Nat) (M : Mm) (Q : Int32 → Mm → Prop) : Prop := Ct d yX0_keep none wsX0_keep [.ref 36, .ref o1] M Q
abbrev BX0_takeBack (d pc : Nat) (lv : List (Nat × Value)) (st : List Value) (M : Mm) (Q : Int32 → Mm → Prop) : Prop := Bd d yX0_takeBack cX0_takeBack 3 none wsX0_takeBack pc lv st M Q
abbrev kX0_takeBack (d : Nat) (o1 : Nat) (M : Mm) (Q : Int32 → Mm → Prop) : Prop := Ct d yX0_takeBack none wsX0_takeBack [.ref 36, .ref o1] M Q
abbrev BX1_answer (d pc : Nat) (lv : List (Nat × Value)) (st : List Value) (M : Mm) (Q : Int32 → Mm → Prop) : Prop := Bd d yX1_answer cX1_answer 5 (some .int) wsX1_answer pc lv st M Q
abbrev kX1_answer (d : Nat) (o1 : Nat) (v2 : Int32) (v3 : Int32) (M : Mm) (Q : Int32 → Mm → Prop) : Prop := Ct d yX1_answer (some .int) wsX1_answer [.ref 46, .ref o1, .int v2, .int v3] M Q
abbrev BX1_run (d pc : Nat) (lv : List (Nat × Value)) (st : List Value) (M : Mm) (Q : Int32 → Mm → Prop) : Prop := Bd d yX1_run cX1_run 7 (some .int) wsX1_run pc lv st M Q
abbrev kX1_run (d : Nat) (v1 : Int32) (o2 : Nat) (v3 : Int32) (v4 : Int32) (M : Mm) (Q : Int32 → Mm → Prop) : Prop := Ct d yX1_run (some .int) wsX1_run [.ref 46, .int v1, .ref o2, .int v3, .int v4] M Q
abbrev BX1_leave (d pc : Nat) (lv : List (Nat × Value)) (st : List Value) (M : Mm) (Q : Int32 → Mm → Prop) : Prop := Bd d yX1_leave cX1_leave 2 none wsX1_leave pc lv st M Q
abbrev kX1_leave (d : Nat) (v1 : Int32) (M : Mm) (Q : Int32 → Mm → Prop) : Prop := Ct d yX1_leave none wsX1_leave [.ref 46, .int v1] M Q
abbrev BX2_take (d pc : Nat) (lv : List (Nat × Value)) (st : List Value) (M : Mm) (Q : Int32 → Mm → Prop) : Prop := Bd d yX2_take cX2_take 7 (some .boolean) wsX2_take pc lv st M Q
abbrev kX2_take (d : Nat) (o1 : Nat) (o2 : Nat) (v3 : Int32) (M : Mm) (Q : Int32 → Mm → Prop) : Prop := Ct d yX2_take (some .boolean) wsX2_take [.ref 40, .ref o1, .ref o2, .int v3] M Q
abbrev BX2_freePlaceOf (d pc : Nat) (lv : List (Nat × Value)) (st : List Value) (M : Mm) (Q : Int32 → Mm → Prop) : Prop := Bd d yX2_freePlaceOf cX2_freePlaceOf 5 (some .int) wsX2_freePlaceOf pc lv st M Q
abbrev kX2_freePlaceOf (d : Nat) (v1 : Int32) (v2 : Int32) (v3 : Int32) (M : Mm) (Q : Int32 → Mm → Prop) : Prop := Ct d yX2_freePlaceOf (some .int) wsX2_freePlaceOf [.ref 40, .int v1, .int v2, .int v3] M Q
abbrev BX2_fewestChanges (d pc : Nat) (lv : List (Nat × Value)) (st : List Value) (M : Mm) (Q : Int32 → Mm → Prop) : Prop := Bd d yX2_fewestChanges cX2_fewestChanges 2 (some .int) wsX2_fewestChanges pc lv st M Q
abbrev kX2_fewestChanges (d : Nat) (o1 : Nat) (M : Mm) (Q : Int32 → Mm → Prop) : Prop := Ct d yX2_fewestChanges (some .int) wsX2_fewestChanges [.ref 40, .ref o1] M Q
abbrev BX2_evenOrOdd (d pc : Nat) (lv : List (Nat × Value)) (st : List Value) (M : Mm) (Q : Int32 → Mm → Prop) : Prop := Bd d yX2_evenOrOdd cX2_evenOrOdd 2 (some .int) wsX2_evenOrOdd pc lv st M Q
abbrev kX2_evenOrOdd (d : Nat) (o1 : Nat) (M : Mm) (Q : Int32 → Mm → Prop) : Prop := Ct d yX2_evenOrOdd (some .int) wsX2_evenOrOdd [.ref 40, .ref o1] M Q
abbrev BX2_cyclesWithoutNone (d pc : Nat) (lv : List (Nat × Value)) (st : List Value) (M : Mm) (Q : Int32 → Mm → Prop) : Prop := Bd d yX2_cyclesWithoutNone cX2_cyclesWithoutNone 8 (some .int) wsX2_cyclesWithoutNone pc lv st M Q
abbrev kX2_cyclesWithoutNone (d : Nat) (o1 : Nat) (M : Mm) (Q : Int32 → Mm → Prop) : Prop := Ct d yX2_cyclesWithoutNone (some .int) wsX2_cyclesWithoutNone [.ref 40, .ref o1] M Q
abbrev BX2_neighbourChanges (d pc : Nat) (lv : List (Nat × Value)) (st : List Value) (M : Mm) (Q : Int32 → Mm → Prop) : Prop := Bd d yX2_neighbourChanges cX2_neighbourChanges 5 (some .int) wsX2_neighbourChanges pc lv st M Q
abbrev kX2_neighbourChanges (d : Nat) (o1 : Nat) (M : Mm) (Q : Int32 → Mm → Prop) : Prop := Ct d yX2_neighbourChanges (some .int) wsX2_neighbourChanges [.ref 40, .ref o1] M Q
abbrev BX2_neighbourChange (d pc : Nat) (lv : List (Nat × Value)) (st : List Value) (M : Mm) (Q : Int32 → Mm → Prop) : Prop := Bd d yX2_neighbourChange cX2_neighbourChange 6 (some .int) wsX2_neighbourChange pc lv st M Q
abbrev kX2_neighbourChange (d : Nat) (o1 : Nat) (v2 : Int32) (M : Mm) (Q : Int32 → Mm → Prop) : Prop := Ct d yX2_neighbourChange (some .int) wsX2_neighbourChange [.ref 40, .ref o1, .int v2] M Q
abbrev BX2_firstFall (d pc : Nat) (lv : List (Nat × Value)) (st : List Value) (M : Mm) (Q : Int32 → Mm → Prop) : Prop := Bd d yX2_firstFall cX2_firstFall 3 (some .int) wsX2_firstFall pc lv st M Q
abbrev kX2_firstFall (d : Nat) (v1 : Int32) (M : Mm) (Q : Int32 → Mm → Prop) : Prop := Ct d yX2_firstFall (some .int) wsX2_firstFall [.ref 40, .int v1] M Q
abbrev BX3_howMany (d pc : Nat) (lv : List (Nat × Value)) (st : List Value) (M : Mm) (Q : Int32 → Mm → Prop) : Prop := Bd d yX3_howMany cX3_howMany 2 (some .int) wsX3_howMany pc lv st M Q
abbrev kX3_howMany (d : Nat) (o1 : Nat) (M : Mm) (Q : Int32 → Mm → Prop) : Prop := Ct d yX3_howMany (some .int) wsX3_howMany [.ref 43, .ref o1] M Q
abbrev BX3_placeOf (d pc : Nat) (lv : List (Nat × Value)) (st : List Value) (M : Mm) (Q : Int32 → Mm → Prop) : Prop := Bd d yX3_placeOf cX3_placeOf 6 (some .int) wsX3_placeOf pc lv st M Q
abbrev kX3_placeOf (d : Nat) (o1 : Nat) (M : Mm) (Q : Int32 → Mm → Prop) : Prop := Ct d yX3_placeOf (some .int) wsX3_placeOf [.ref 43, .ref o1] M Q
abbrev BX3_begin (d pc : Nat) (lv : List (Nat × Value)) (st : List Value) (M : Mm) (Q : Int32 → Mm → Prop) : Prop := Bd d yX3_begin cX3_begin 5 (some .int) wsX3_begin pc lv st M Q
abbrev kX3_begin (d : Nat) (o1 : Nat) (M : Mm) (Q : Int32 → Mm → Prop) : Prop := Ct d yX3_begin (some .int) wsX3_begin [.ref 43, .ref o1] M Q
abbrev BX3_next (d pc : Nat) (lv : List (Nat × Value)) (st : List Value) (M : Mm) (Q : Int32 → Mm → Prop) : Prop := Bd d yX3_next cX3_next 5 none wsX3_next pc lv st M Q
abbrev kX3_next (d : Nat)  (M : Mm) (Q : Int32 → Mm → Prop) : Prop := Ct d yX3_next none wsX3_next [.ref 43] M Q
abbrev BX3_exchange (d pc : Nat) (lv : List (Nat × Value)) (st : List Value) (M : Mm) (Q : Int32 → Mm → Prop) : Prop := Bd d yX3_exchange cX3_exchange 4 none wsX3_exchange pc lv st M Q
abbrev kX3_exchange (d : Nat) (v1 : Int32) (v2 : Int32) (M : Mm) (Q : Int32 → Mm → Prop) : Prop := Ct d yX3_exchange none wsX3_exchange [.ref 43, .int v1, .int v2] M Q
abbrev BX3_tally (d pc : Nat) (lv : List (Nat × Value)) (st : List Value) (M : Mm) (Q : Int32 → Mm → Prop) : Prop := Bd d yX3_tally cX3_tally 3 none wsX3_tally pc lv st M Q
abbrev kX3_tally (d : Nat) (o1 : Nat) (M : Mm) (Q : Int32 → Mm → Prop) : Prop := Ct d yX3_tally none wsX3_tally [.ref 43, .ref o1] M Q
abbrev BX3_ways (d pc : Nat) (lv : List (Nat × Value)) (st : List Value) (M : Mm) (Q : Int32 → Mm → Prop) : Prop := Bd d yX3_ways cX3_ways 4 (some .int) wsX3_ways pc lv st M Q
abbrev kX3_ways (d : Nat) (v1 : Int32) (M : Mm) (Q : Int32 → Mm → Prop) : Prop := Ct d yX3_ways (some .int) wsX3_ways [.ref 43, .int v1] M Q
abbrev BX4_become (d pc : Nat) (lv : List (Nat × Value)) (st : List Value) (M : Mm) (Q : Int32 → Mm → Prop) : Prop := Bd d yX4_become cX4_become 2 none wsX4_become pc lv st M Q
abbrev kX4_become (d : Nat) (o0 : Nat) (o1 : Nat) (M : Mm) (Q : Int32 → Mm → Prop) : Prop := Ct d yX4_become none wsX4_become [.ref o0, .ref o1] M Q
abbrev BX4_isSaint (d pc : Nat) (lv : List (Nat × Value)) (st : List Value) (M : Mm) (Q : Int32 → Mm → Prop) : Prop := Bd d yX4_isSaint cX4_isSaint 2 (some .boolean) wsX4_isSaint pc lv st M Q
abbrev kX4_isSaint (d : Nat) (o0 : Nat) (v1 : Int32) (M : Mm) (Q : Int32 → Mm → Prop) : Prop := Ct d yX4_isSaint (some .boolean) wsX4_isSaint [.ref o0, .int v1] M Q
abbrev BX4_after (d pc : Nat) (lv : List (Nat × Value)) (st : List Value) (M : Mm) (Q : Int32 → Mm → Prop) : Prop := Bd d yX4_after cX4_after 2 (some .int) wsX4_after pc lv st M Q
abbrev kX4_after (d : Nat) (o0 : Nat) (v1 : Int32) (M : Mm) (Q : Int32 → Mm → Prop) : Prop := Ct d yX4_after (some .int) wsX4_after [.ref o0, .int v1] M Q
abbrev BX4_before (d pc : Nat) (lv : List (Nat × Value)) (st : List Value) (M : Mm) (Q : Int32 → Mm → Prop) : Prop := Bd d yX4_before cX4_before 2 (some .int) wsX4_before pc lv st M Q
abbrev kX4_before (d : Nat) (o0 : Nat) (v1 : Int32) (M : Mm) (Q : Int32 → Mm → Prop) : Prop := Ct d yX4_before (some .int) wsX4_before [.ref o0, .int v1] M Q
abbrev BX4_lets (d pc : Nat) (lv : List (Nat × Value)) (st : List Value) (M : Mm) (Q : Int32 → Mm → Prop) : Prop := Bd d yX4_lets cX4_lets 2 (some .boolean) wsX4_lets pc lv st M Q
abbrev kX4_lets (d : Nat) (o0 : Nat) (v1 : Int32) (M : Mm) (Q : Int32 → Mm → Prop) : Prop := Ct d yX4_lets (some .boolean) wsX4_lets [.ref o0, .int v1] M Q
abbrev BX4_exchange (d pc : Nat) (lv : List (Nat × Value)) (st : List Value) (M : Mm) (Q : Int32 → Mm → Prop) : Prop := Bd d yX4_exchange cX4_exchange 4 none wsX4_exchange pc lv st M Q
abbrev kX4_exchange (d : Nat) (o0 : Nat) (v1 : Int32) (v2 : Int32) (M : Mm) (Q : Int32 → Mm → Prop) : Prop := Ct d yX4_exchange none wsX4_exchange [.ref o0, .int v1, .int v2] M Q
abbrev BX4_advance (d pc : Nat) (lv : List (Nat × Value)) (st : List Value) (M : Mm) (Q : Int32 → Mm → Prop) : Prop := Bd d yX4_advance cX4_advance 3 none wsX4_advance pc lv st M Q
abbrev kX4_advance (d : Nat) (o0 : Nat) (v1 : Int32) (M : Mm) (Q : Int32 → Mm → Prop) : Prop := Ct d yX4_advance none wsX4_advance [.ref o0, .int v1] M Q
abbrev BX4_advanceToMatins (d pc : Nat) (lv : List (Nat × Value)) (st : List Value) (M : Mm) (Q : Int32 → Mm → Prop) : Prop := Bd d yX4_advanceToMatins cX4_advanceToMatins 2 none wsX4_advanceToMatins pc lv st M Q
abbrev kX4_advanceToMatins (d : Nat) (o0 : Nat) (M : Mm) (Q : Int32 → Mm → Prop) : Prop := Ct d yX4_advanceToMatins none wsX4_advanceToMatins [.ref o0] M Q
abbrev BX4_isMatins (d pc : Nat) (lv : List (Nat × Value)) (st : List Value) (M : Mm) (Q : Int32 → Mm → Prop) : Prop := Bd d yX4_isMatins cX4_isMatins 1 (some .boolean) wsX4_isMatins pc lv st M Q
abbrev kX4_isMatins (d : Nat) (o0 : Nat) (M : Mm) (Q : Int32 → Mm → Prop) : Prop := Ct d yX4_isMatins (some .boolean) wsX4_isMatins [.ref o0] M Q
abbrev BX4_turn (d pc : Nat) (lv : List (Nat × Value)) (st : List Value) (M : Mm) (Q : Int32 → Mm → Prop) : Prop := Bd d yX4_turn cX4_turn 3 none wsX4_turn pc lv st M Q
abbrev kX4_turn (d : Nat) (o0 : Nat) (v1 : Int32) (M : Mm) (Q : Int32 → Mm → Prop) : Prop := Ct d yX4_turn none wsX4_turn [.ref o0, .int v1] M Q
abbrev BX4_handOn (d pc : Nat) (lv : List (Nat × Value)) (st : List Value) (M : Mm) (Q : Int32 → Mm → Prop) : Prop := Bd d yX4_handOn cX4_handOn 3 none wsX4_handOn pc lv st M Q
abbrev kX4_handOn (d : Nat) (o0 : Nat) (v1 : Int32) (v2 : Int32) (M : Mm) (Q : Int32 → Mm → Prop) : Prop := Ct d yX4_handOn none wsX4_handOn [.ref o0, .int v1, .int v2] M Q
abbrev BX4_singMatins (d pc : Nat) (lv : List (Nat × Value)) (st : List Value) (M : Mm) (Q : Int32 → Mm → Prop) : Prop := Bd d yX4_singMatins cX4_singMatins 3 none wsX4_singMatins pc lv st M Q
abbrev kX4_singMatins (d : Nat) (o0 : Nat) (M : Mm) (Q : Int32 → Mm → Prop) : Prop := Ct d yX4_singMatins none wsX4_singMatins [.ref o0] M Q
abbrev BX4_whoHas (d pc : Nat) (lv : List (Nat × Value)) (st : List Value) (M : Mm) (Q : Int32 → Mm → Prop) : Prop := Bd d yX4_whoHas cX4_whoHas 3 (some .int) wsX4_whoHas pc lv st M Q
abbrev kX4_whoHas (d : Nat) (o0 : Nat) (v1 : Int32) (M : Mm) (Q : Int32 → Mm → Prop) : Prop := Ct d yX4_whoHas (some .int) wsX4_whoHas [.ref o0, .int v1] M Q
abbrev BX4_withNone (d pc : Nat) (lv : List (Nat × Value)) (st : List Value) (M : Mm) (Q : Int32 → Mm → Prop) : Prop := Bd d yX4_withNone cX4_withNone 3 (some .int) wsX4_withNone pc lv st M Q
abbrev kX4_withNone (d : Nat) (o0 : Nat) (M : Mm) (Q : Int32 → Mm → Prop) : Prop := Ct d yX4_withNone (some .int) wsX4_withNone [.ref o0] M Q
abbrev BX4_atHome (d pc : Nat) (lv : List (Nat × Value)) (st : List Value) (M : Mm) (Q : Int32 → Mm → Prop) : Prop := Bd d yX4_atHome cX4_atHome 3 (some .int) wsX4_atHome pc lv st M Q
abbrev kX4_atHome (d : Nat) (o0 : Nat) (M : Mm) (Q : Int32 → Mm → Prop) : Prop := Ct d yX4_atHome (some .int) wsX4_atHome [.ref o0] M Q
abbrev BX4_hasHoodWithThing (d pc : Nat) (lv : List (Nat × Value)) (st : List Value) (M : Mm) (Q : Int32 → Mm → Prop) : Prop := Bd d yX4_hasHoodWithThing cX4_hasHoodWithThing 2 (some .boolean) wsX4_hasHoodWithThing pc lv st M Q
abbrev kX4_hasHoodWithThing (d : Nat) (o0 : Nat) (M : Mm) (Q : Int32 → Mm → Prop) : Prop := Ct d yX4_hasHoodWithThing (some .boolean) wsX4_hasHoodWithThing [.ref o0] M Q
abbrev BX4_figures (d pc : Nat) (lv : List (Nat × Value)) (st : List Value) (M : Mm) (Q : Int32 → Mm → Prop) : Prop := Bd d yX4_figures cX4_figures 3 (some .int) wsX4_figures pc lv st M Q
abbrev kX4_figures (d : Nat) (o0 : Nat) (M : Mm) (Q : Int32 → Mm → Prop) : Prop := Ct d yX4_figures (some .int) wsX4_figures [.ref o0] M Q
abbrev BX4_takeFigures (d pc : Nat) (lv : List (Nat × Value)) (st : List Value) (M : Mm) (Q : Int32 → Mm → Prop) : Prop := Bd d yX4_takeFigures cX4_takeFigures 4 none wsX4_takeFigures pc lv st M Q
abbrev kX4_takeFigures (d : Nat) (o0 : Nat) (v1 : Int32) (M : Mm) (Q : Int32 → Mm → Prop) : Prop := Ct d yX4_takeFigures none wsX4_takeFigures [.ref o0, .int v1] M Q
abbrev BX5_isMissing (d pc : Nat) (lv : List (Nat × Value)) (st : List Value) (M : Mm) (Q : Int32 → Mm → Prop) : Prop := Bd d yX5_isMissing cX5_isMissing 1 (some .boolean) wsX5_isMissing pc lv st M Q
abbrev kX5_isMissing (d : Nat) (o0 : Nat) (M : Mm) (Q : Int32 → Mm → Prop) : Prop := Ct d yX5_isMissing (some .boolean) wsX5_isMissing [.ref o0] M Q
abbrev BX5_lay (d pc : Nat) (lv : List (Nat × Value)) (st : List Value) (M : Mm) (Q : Int32 → Mm → Prop) : Prop := Bd d yX5_lay cX5_lay 3 none wsX5_lay pc lv st M Q
abbrev kX5_lay (d : Nat) (o0 : Nat) (v1 : Int32) (v2 : Int32) (M : Mm) (Q : Int32 → Mm → Prop) : Prop := Ct d yX5_lay none wsX5_lay [.ref o0, .int v1, .int v2] M Q
abbrev BX5_clear (d pc : Nat) (lv : List (Nat × Value)) (st : List Value) (M : Mm) (Q : Int32 → Mm → Prop) : Prop := Bd d yX5_clear cX5_clear 2 (some .int) wsX5_clear pc lv st M Q
abbrev kX5_clear (d : Nat) (o0 : Nat) (M : Mm) (Q : Int32 → Mm → Prop) : Prop := Ct d yX5_clear (some .int) wsX5_clear [.ref o0] M Q
abbrev BX5_has (d pc : Nat) (lv : List (Nat × Value)) (st : List Value) (M : Mm) (Q : Int32 → Mm → Prop) : Prop := Bd d yX5_has cX5_has 3 (some .boolean) wsX5_has pc lv st M Q
abbrev kX5_has (d : Nat) (o0 : Nat) (v1 : Int32) (v2 : Int32) (M : Mm) (Q : Int32 → Mm → Prop) : Prop := Ct d yX5_has (some .boolean) wsX5_has [.ref o0, .int v1, .int v2] M Q
abbrev BX5_put (d pc : Nat) (lv : List (Nat × Value)) (st : List Value) (M : Mm) (Q : Int32 → Mm → Prop) : Prop := Bd d yX5_put cX5_put 3 (some .int) wsX5_put pc lv st M Q
abbrev kX5_put (d : Nat) (o0 : Nat) (v1 : Int32) (v2 : Int32) (M : Mm) (Q : Int32 → Mm → Prop) : Prop := Ct d yX5_put (some .int) wsX5_put [.ref o0, .int v1, .int v2] M Q
abbrev BX5_cut (d pc : Nat) (lv : List (Nat × Value)) (st : List Value) (M : Mm) (Q : Int32 → Mm → Prop) : Prop := Bd d yX5_cut cX5_cut 2 (some .int) wsX5_cut pc lv st M Q
abbrev kX5_cut (d : Nat) (o0 : Nat) (v1 : Int32) (M : Mm) (Q : Int32 → Mm → Prop) : Prop := Ct d yX5_cut (some .int) wsX5_cut [.ref o0, .int v1] M Q
abbrev BX6_add (d pc : Nat) (lv : List (Nat × Value)) (st : List Value) (M : Mm) (Q : Int32 → Mm → Prop) : Prop := Bd d yX6_add cX6_add 2 (some .boolean) wsX6_add pc lv st M Q
abbrev kX6_add (d : Nat) (v1 : Int32) (M : Mm) (Q : Int32 → Mm → Prop) : Prop := Ct d yX6_add (some .boolean) wsX6_add [.ref 18, .int v1] M Q
abbrev BX6_read (d pc : Nat) (lv : List (Nat × Value)) (st : List Value) (M : Mm) (Q : Int32 → Mm → Prop) : Prop := Bd d yX6_read cX6_read 6 (some .int) wsX6_read pc lv st M Q
abbrev kX6_read (d : Nat)  (M : Mm) (Q : Int32 → Mm → Prop) : Prop := Ct d yX6_read (some .int) wsX6_read [.ref 18] M Q
abbrev BX6_fail (d pc : Nat) (lv : List (Nat × Value)) (st : List Value) (M : Mm) (Q : Int32 → Mm → Prop) : Prop := Bd d yX6_fail cX6_fail 3 (some .int) wsX6_fail pc lv st M Q
abbrev kX6_fail (d : Nat) (v1 : Int32) (v2 : Int32) (M : Mm) (Q : Int32 → Mm → Prop) : Prop := Ct d yX6_fail (some .int) wsX6_fail [.ref 18, .int v1, .int v2] M Q
abbrev BX6_isFigure (d pc : Nat) (lv : List (Nat × Value)) (st : List Value) (M : Mm) (Q : Int32 → Mm → Prop) : Prop := Bd d yX6_isFigure cX6_isFigure 2 (some .boolean) wsX6_isFigure pc lv st M Q
abbrev kX6_isFigure (d : Nat) (v1 : Int32) (M : Mm) (Q : Int32 → Mm → Prop) : Prop := Ct d yX6_isFigure (some .boolean) wsX6_isFigure [.ref 18, .int v1] M Q
abbrev BX6_tokenLength (d pc : Nat) (lv : List (Nat × Value)) (st : List Value) (M : Mm) (Q : Int32 → Mm → Prop) : Prop := Bd d yX6_tokenLength cX6_tokenLength 3 (some .int) wsX6_tokenLength pc lv st M Q
abbrev kX6_tokenLength (d : Nat) (v1 : Int32) (M : Mm) (Q : Int32 → Mm → Prop) : Prop := Ct d yX6_tokenLength (some .int) wsX6_tokenLength [.ref 18, .int v1] M Q
abbrev BX6_take (d pc : Nat) (lv : List (Nat × Value)) (st : List Value) (M : Mm) (Q : Int32 → Mm → Prop) : Prop := Bd d yX6_take cX6_take 3 (some .int) wsX6_take pc lv st M Q
abbrev kX6_take (d : Nat) (v1 : Int32) (v2 : Int32) (M : Mm) (Q : Int32 → Mm → Prop) : Prop := Ct d yX6_take (some .int) wsX6_take [.ref 18, .int v1, .int v2] M Q
abbrev BX6_takeSign (d pc : Nat) (lv : List (Nat × Value)) (st : List Value) (M : Mm) (Q : Int32 → Mm → Prop) : Prop := Bd d yX6_takeSign cX6_takeSign 4 (some .int) wsX6_takeSign pc lv st M Q
abbrev kX6_takeSign (d : Nat) (v1 : Int32) (v2 : Int32) (v3 : Int32) (M : Mm) (Q : Int32 → Mm → Prop) : Prop := Ct d yX6_takeSign (some .int) wsX6_takeSign [.ref 18, .int v1, .int v2, .int v3] M Q
abbrev BX6_takeNight (d pc : Nat) (lv : List (Nat × Value)) (st : List Value) (M : Mm) (Q : Int32 → Mm → Prop) : Prop := Bd d yX6_takeNight cX6_takeNight 4 (some .int) wsX6_takeNight pc lv st M Q
abbrev kX6_takeNight (d : Nat) (v1 : Int32) (v2 : Int32) (M : Mm) (Q : Int32 → Mm → Prop) : Prop := Ct d yX6_takeNight (some .int) wsX6_takeNight [.ref 18, .int v1, .int v2] M Q
abbrev BX6_takeSort (d pc : Nat) (lv : List (Nat × Value)) (st : List Value) (M : Mm) (Q : Int32 → Mm → Prop) : Prop := Bd d yX6_takeSort cX6_takeSort 3 (some .int) wsX6_takeSort pc lv st M Q
abbrev kX6_takeSort (d : Nat) (v1 : Int32) (M : Mm) (Q : Int32 → Mm → Prop) : Prop := Ct d yX6_takeSort (some .int) wsX6_takeSort [.ref 18, .int v1] M Q
abbrev BX6_takeThing (d pc : Nat) (lv : List (Nat × Value)) (st : List Value) (M : Mm) (Q : Int32 → Mm → Prop) : Prop := Bd d yX6_takeThing cX6_takeThing 4 (some .int) wsX6_takeThing pc lv st M Q
abbrev kX6_takeThing (d : Nat) (v1 : Int32) (v2 : Int32) (M : Mm) (Q : Int32 → Mm → Prop) : Prop := Ct d yX6_takeThing (some .int) wsX6_takeThing [.ref 18, .int v1, .int v2] M Q
abbrev BX6_isNumber (d pc : Nat) (lv : List (Nat × Value)) (st : List Value) (M : Mm) (Q : Int32 → Mm → Prop) : Prop := Bd d yX6_isNumber cX6_isNumber 3 (some .boolean) wsX6_isNumber pc lv st M Q
abbrev kX6_isNumber (d : Nat) (v1 : Int32) (v2 : Int32) (M : Mm) (Q : Int32 → Mm → Prop) : Prop := Ct d yX6_isNumber (some .boolean) wsX6_isNumber [.ref 18, .int v1, .int v2] M Q
abbrev BX6_numberAt (d pc : Nat) (lv : List (Nat × Value)) (st : List Value) (M : Mm) (Q : Int32 → Mm → Prop) : Prop := Bd d yX6_numberAt cX6_numberAt 5 (some .int) wsX6_numberAt pc lv st M Q
abbrev kX6_numberAt (d : Nat) (v1 : Int32) (v2 : Int32) (M : Mm) (Q : Int32 → Mm → Prop) : Prop := Ct d yX6_numberAt (some .int) wsX6_numberAt [.ref 18, .int v1, .int v2] M Q
abbrev BX7_row (d pc : Nat) (lv : List (Nat × Value)) (st : List Value) (M : Mm) (Q : Int32 → Mm → Prop) : Prop := Bd d yX7_row cX7_row 4 (some .int) wsX7_row pc lv st M Q
abbrev kX7_row (d : Nat) (v1 : Int32) (v2 : Int32) (v3 : Int32) (M : Mm) (Q : Int32 → Mm → Prop) : Prop := Ct d yX7_row (some .int) wsX7_row [.ref 0, .int v1, .int v2, .int v3] M Q
abbrev BX7_set (d pc : Nat) (lv : List (Nat × Value)) (st : List Value) (M : Mm) (Q : Int32 → Mm → Prop) : Prop := Bd d yX7_set cX7_set 5 (some .int) wsX7_set pc lv st M Q
abbrev kX7_set (d : Nat) (v1 : Int32) (v2 : Int32) (v3 : Int32) (M : Mm) (Q : Int32 → Mm → Prop) : Prop := Ct d yX7_set (some .int) wsX7_set [.ref 0, .int v1, .int v2, .int v3] M Q
abbrev BX7_copy (d pc : Nat) (lv : List (Nat × Value)) (st : List Value) (M : Mm) (Q : Int32 → Mm → Prop) : Prop := Bd d yX7_copy cX7_copy 8 (some .int) wsX7_copy pc lv st M Q
abbrev kX7_copy (d : Nat) (v1 : Int32) (v2 : Int32) (v3 : Int32) (v4 : Int32) (v5 : Int32) (M : Mm) (Q : Int32 → Mm → Prop) : Prop := Ct d yX7_copy (some .int) wsX7_copy [.ref 0, .int v1, .int v2, .int v3, .int v4, .int v5] M Q
abbrev BX7_drop (d pc : Nat) (lv : List (Nat × Value)) (st : List Value) (M : Mm) (Q : Int32 → Mm → Prop) : Prop := Bd d yX7_drop cX7_drop 2 (some .int) wsX7_drop pc lv st M Q
abbrev kX7_drop (d : Nat) (v1 : Int32) (M : Mm) (Q : Int32 → Mm → Prop) : Prop := Ct d yX7_drop (some .int) wsX7_drop [.ref 0, .int v1] M Q
abbrev BX7_feed (d pc : Nat) (lv : List (Nat × Value)) (st : List Value) (M : Mm) (Q : Int32 → Mm → Prop) : Prop := Bd d yX7_feed cX7_feed 2 (some .int) wsX7_feed pc lv st M Q
abbrev kX7_feed (d : Nat) (v1 : Int32) (M : Mm) (Q : Int32 → Mm → Prop) : Prop := Ct d yX7_feed (some .int) wsX7_feed [.ref 0, .int v1] M Q
abbrev BX7_saints (d pc : Nat) (lv : List (Nat × Value)) (st : List Value) (M : Mm) (Q : Int32 → Mm → Prop) : Prop := Bd d yX7_saints cX7_saints 2 (some .int) wsX7_saints pc lv st M Q
abbrev kX7_saints (d : Nat)  (M : Mm) (Q : Int32 → Mm → Prop) : Prop := Ct d yX7_saints (some .int) wsX7_saints [.ref 0] M Q
abbrev BX7_fault (d pc : Nat) (lv : List (Nat × Value)) (st : List Value) (M : Mm) (Q : Int32 → Mm → Prop) : Prop := Bd d yX7_fault cX7_fault 1 (some .int) wsX7_fault pc lv st M Q
abbrev kX7_fault (d : Nat)  (M : Mm) (Q : Int32 → Mm → Prop) : Prop := Ct d yX7_fault (some .int) wsX7_fault [.ref 0] M Q
abbrev BX7_steps (d pc : Nat) (lv : List (Nat × Value)) (st : List Value) (M : Mm) (Q : Int32 → Mm → Prop) : Prop := Bd d yX7_steps cX7_steps 3 (some .int) wsX7_steps pc lv st M Q
abbrev kX7_steps (d : Nat) (v1 : Int32) (M : Mm) (Q : Int32 → Mm → Prop) : Prop := Ct d yX7_steps (some .int) wsX7_steps [.ref 0, .int v1] M Q
abbrev BX7_swap (d pc : Nat) (lv : List (Nat × Value)) (st : List Value) (M : Mm) (Q : Int32 → Mm → Prop) : Prop := Bd d yX7_swap cX7_swap 3 (some .int) wsX7_swap pc lv st M Q
abbrev kX7_swap (d : Nat) (v1 : Int32) (v2 : Int32) (M : Mm) (Q : Int32 → Mm → Prop) : Prop := Ct d yX7_swap (some .int) wsX7_swap [.ref 0, .int v1, .int v2] M Q
abbrev BX7_night (d pc : Nat) (lv : List (Nat × Value)) (st : List Value) (M : Mm) (Q : Int32 → Mm → Prop) : Prop := Bd d yX7_night cX7_night 3 (some .int) wsX7_night pc lv st M Q
abbrev kX7_night (d : Nat) (v1 : Int32) (M : Mm) (Q : Int32 → Mm → Prop) : Prop := Ct d yX7_night (some .int) wsX7_night [.ref 0, .int v1] M Q
abbrev BX7_undo (d pc : Nat) (lv : List (Nat × Value)) (st : List Value) (M : Mm) (Q : Int32 → Mm → Prop) : Prop := Bd d yX7_undo cX7_undo 1 (some .int) wsX7_undo pc lv st M Q
abbrev kX7_undo (d : Nat)  (M : Mm) (Q : Int32 → Mm → Prop) : Prop := Ct d yX7_undo (some .int) wsX7_undo [.ref 0] M Q
abbrev BX7_saint (d pc : Nat) (lv : List (Nat × Value)) (st : List Value) (M : Mm) (Q : Int32 → Mm → Prop) : Prop := Bd d yX7_saint cX7_saint 3 (some .int) wsX7_saint pc lv st M Q
abbrev kX7_saint (d : Nat) (v1 : Int32) (v2 : Int32) (M : Mm) (Q : Int32 → Mm → Prop) : Prop := Ct d yX7_saint (some .int) wsX7_saint [.ref 0, .int v1, .int v2] M Q
abbrev BX7_holder (d pc : Nat) (lv : List (Nat × Value)) (st : List Value) (M : Mm) (Q : Int32 → Mm → Prop) : Prop := Bd d yX7_holder cX7_holder 2 (some .int) wsX7_holder pc lv st M Q
abbrev kX7_holder (d : Nat) (v1 : Int32) (M : Mm) (Q : Int32 → Mm → Prop) : Prop := Ct d yX7_holder (some .int) wsX7_holder [.ref 0, .int v1] M Q
abbrev BX7_ahead (d pc : Nat) (lv : List (Nat × Value)) (st : List Value) (M : Mm) (Q : Int32 → Mm → Prop) : Prop := Bd d yX7_ahead cX7_ahead 4 (some .int) wsX7_ahead pc lv st M Q
abbrev kX7_ahead (d : Nat) (v1 : Int32) (v2 : Int32) (M : Mm) (Q : Int32 → Mm → Prop) : Prop := Ct d yX7_ahead (some .int) wsX7_ahead [.ref 0, .int v1, .int v2] M Q
abbrev BX7_when (d pc : Nat) (lv : List (Nat × Value)) (st : List Value) (M : Mm) (Q : Int32 → Mm → Prop) : Prop := Bd d yX7_when cX7_when 4 (some .int) wsX7_when pc lv st M Q
abbrev kX7_when (d : Nat) (v1 : Int32) (v2 : Int32) (M : Mm) (Q : Int32 → Mm → Prop) : Prop := Ct d yX7_when (some .int) wsX7_when [.ref 0, .int v1, .int v2] M Q
abbrev BX7_pray (d pc : Nat) (lv : List (Nat × Value)) (st : List Value) (M : Mm) (Q : Int32 → Mm → Prop) : Prop := Bd d yX7_pray cX7_pray 2 (some .int) wsX7_pray pc lv st M Q
abbrev kX7_pray (d : Nat) (v1 : Int32) (M : Mm) (Q : Int32 → Mm → Prop) : Prop := Ct d yX7_pray (some .int) wsX7_pray [.ref 0, .int v1] M Q
abbrev BX7_round (d pc : Nat) (lv : List (Nat × Value)) (st : List Value) (M : Mm) (Q : Int32 → Mm → Prop) : Prop := Bd d yX7_round cX7_round 3 (some .int) wsX7_round pc lv st M Q
abbrev kX7_round (d : Nat)  (M : Mm) (Q : Int32 → Mm → Prop) : Prop := Ct d yX7_round (some .int) wsX7_round [.ref 0] M Q
abbrev BX7_home (d pc : Nat) (lv : List (Nat × Value)) (st : List Value) (M : Mm) (Q : Int32 → Mm → Prop) : Prop := Bd d yX7_home cX7_home 2 (some .int) wsX7_home pc lv st M Q
abbrev kX7_home (d : Nat) (v1 : Int32) (M : Mm) (Q : Int32 → Mm → Prop) : Prop := Ct d yX7_home (some .int) wsX7_home [.ref 0, .int v1] M Q
abbrev BX7_swaps (d pc : Nat) (lv : List (Nat × Value)) (st : List Value) (M : Mm) (Q : Int32 → Mm → Prop) : Prop := Bd d yX7_swaps cX7_swaps 5 (some .int) wsX7_swaps pc lv st M Q
abbrev kX7_swaps (d : Nat) (v1 : Int32) (v2 : Int32) (v3 : Int32) (M : Mm) (Q : Int32 → Mm → Prop) : Prop := Ct d yX7_swaps (some .int) wsX7_swaps [.ref 0, .int v1, .int v2, .int v3] M Q
abbrev BX7_sort (d pc : Nat) (lv : List (Nat × Value)) (st : List Value) (M : Mm) (Q : Int32 → Mm → Prop) : Prop := Bd d yX7_sort cX7_sort 5 (some .int) wsX7_sort pc lv st M Q
abbrev kX7_sort (d : Nat) (v1 : Int32) (v2 : Int32) (v3 : Int32) (M : Mm) (Q : Int32 → Mm → Prop) : Prop := Ct d yX7_sort (some .int) wsX7_sort [.ref 0, .int v1, .int v2, .int v3] M Q
abbrev BX7_plan (d pc : Nat) (lv : List (Nat × Value)) (st : List Value) (M : Mm) (Q : Int32 → Mm → Prop) : Prop := Bd d yX7_plan cX7_plan 5 (some .int) wsX7_plan pc lv st M Q
abbrev kX7_plan (d : Nat) (v1 : Int32) (v2 : Int32) (v3 : Int32) (M : Mm) (Q : Int32 → Mm → Prop) : Prop := Ct d yX7_plan (some .int) wsX7_plan [.ref 0, .int v1, .int v2, .int v3] M Q
abbrev BX7_fits (d pc : Nat) (lv : List (Nat × Value)) (st : List Value) (M : Mm) (Q : Int32 → Mm → Prop) : Prop := Bd d yX7_fits cX7_fits 7 (some .int) wsX7_fits pc lv st M Q
abbrev kX7_fits (d : Nat) (v1 : Int32) (v2 : Int32) (v3 : Int32) (v4 : Int32) (v5 : Int32) (M : Mm) (Q : Int32 → Mm → Prop) : Prop := Ct d yX7_fits (some .int) wsX7_fits [.ref 0, .int v1, .int v2, .int v3, .int v4, .int v5] M Q
abbrev BX7_began (d pc : Nat) (lv : List (Nat × Value)) (st : List Value) (M : Mm) (Q : Int32 → Mm → Prop) : Prop := Bd d yX7_began cX7_began 7 (some .int) wsX7_began pc lv st M Q
abbrev kX7_began (d : Nat) (v1 : Int32) (v2 : Int32) (v3 : Int32) (v4 : Int32) (v5 : Int32) (M : Mm) (Q : Int32 → Mm → Prop) : Prop := Ct d yX7_began (some .int) wsX7_began [.ref 0, .int v1, .int v2, .int v3, .int v4, .int v5] M Q
abbrev BX7_sleep (d pc : Nat) (lv : List (Nat × Value)) (st : List Value) (M : Mm) (Q : Int32 → Mm → Prop) : Prop := Bd d yX7_sleep cX7_sleep 8 (some .int) wsX7_sleep pc lv st M Q
abbrev kX7_sleep (d : Nat) (v1 : Int32) (v2 : Int32) (v3 : Int32) (v4 : Int32) (M : Mm) (Q : Int32 → Mm → Prop) : Prop := Ct d yX7_sleep (some .int) wsX7_sleep [.ref 0, .int v1, .int v2, .int v3, .int v4] M Q
abbrev BX7_drawn (d pc : Nat) (lv : List (Nat × Value)) (st : List Value) (M : Mm) (Q : Int32 → Mm → Prop) : Prop := Bd d yX7_drawn cX7_drawn 9 (some .int) wsX7_drawn pc lv st M Q
abbrev kX7_drawn (d : Nat) (v1 : Int32) (v2 : Int32) (v3 : Int32) (M : Mm) (Q : Int32 → Mm → Prop) : Prop := Ct d yX7_drawn (some .int) wsX7_drawn [.ref 0, .int v1, .int v2, .int v3] M Q
abbrev BX7_image (d pc : Nat) (lv : List (Nat × Value)) (st : List Value) (M : Mm) (Q : Int32 → Mm → Prop) : Prop := Bd d yX7_image cX7_image 2 (some .int) wsX7_image pc lv st M Q
abbrev kX7_image (d : Nat) (v1 : Int32) (M : Mm) (Q : Int32 → Mm → Prop) : Prop := Ct d yX7_image (some .int) wsX7_image [.ref 0, .int v1] M Q
abbrev BX7_restore (d pc : Nat) (lv : List (Nat × Value)) (st : List Value) (M : Mm) (Q : Int32 → Mm → Prop) : Prop := Bd d yX7_restore cX7_restore 2 (some .int) wsX7_restore pc lv st M Q
abbrev kX7_restore (d : Nat) (v1 : Int32) (M : Mm) (Q : Int32 → Mm → Prop) : Prop := Ct d yX7_restore (some .int) wsX7_restore [.ref 0, .int v1] M Q
abbrev BX7_kind (d pc : Nat) (lv : List (Nat × Value)) (st : List Value) (M : Mm) (Q : Int32 → Mm → Prop) : Prop := Bd d yX7_kind cX7_kind 2 (some .int) wsX7_kind pc lv st M Q
abbrev kX7_kind (d : Nat) (v1 : Int32) (M : Mm) (Q : Int32 → Mm → Prop) : Prop := Ct d yX7_kind (some .int) wsX7_kind [.ref 0, .int v1] M Q
abbrev BX7_as (d pc : Nat) (lv : List (Nat × Value)) (st : List Value) (M : Mm) (Q : Int32 → Mm → Prop) : Prop := Bd d yX7_as cX7_as 3 (some .int) wsX7_as pc lv st M Q
abbrev kX7_as (d : Nat) (v1 : Int32) (v2 : Int32) (M : Mm) (Q : Int32 → Mm → Prop) : Prop := Ct d yX7_as (some .int) wsX7_as [.ref 0, .int v1, .int v2] M Q
abbrev BX7_ask (d pc : Nat) (lv : List (Nat × Value)) (st : List Value) (M : Mm) (Q : Int32 → Mm → Prop) : Prop := Bd d yX7_ask cX7_ask 3 (some .int) wsX7_ask pc lv st M Q
abbrev kX7_ask (d : Nat) (v1 : Int32) (v2 : Int32) (M : Mm) (Q : Int32 → Mm → Prop) : Prop := Ct d yX7_ask (some .int) wsX7_ask [.ref 0, .int v1, .int v2] M Q
abbrev BX7_trace (d pc : Nat) (lv : List (Nat × Value)) (st : List Value) (M : Mm) (Q : Int32 → Mm → Prop) : Prop := Bd d yX7_trace cX7_trace 2 (some .int) wsX7_trace pc lv st M Q
abbrev kX7_trace (d : Nat) (v1 : Int32) (M : Mm) (Q : Int32 → Mm → Prop) : Prop := Ct d yX7_trace (some .int) wsX7_trace [.ref 0, .int v1] M Q
abbrev BX7_count (d pc : Nat) (lv : List (Nat × Value)) (st : List Value) (M : Mm) (Q : Int32 → Mm → Prop) : Prop := Bd d yX7_count cX7_count 2 (some .int) wsX7_count pc lv st M Q
abbrev kX7_count (d : Nat) (v1 : Int32) (M : Mm) (Q : Int32 → Mm → Prop) : Prop := Ct d yX7_count (some .int) wsX7_count [.ref 0, .int v1] M Q
abbrev BX7_status (d pc : Nat) (lv : List (Nat × Value)) (st : List Value) (M : Mm) (Q : Int32 → Mm → Prop) : Prop := Bd d yX7_status cX7_status 1 (some .int) wsX7_status pc lv st M Q
abbrev kX7_status (d : Nat)  (M : Mm) (Q : Int32 → Mm → Prop) : Prop := Ct d yX7_status (some .int) wsX7_status [.ref 0] M Q
abbrev BX7_isRow (d pc : Nat) (lv : List (Nat × Value)) (st : List Value) (M : Mm) (Q : Int32 → Mm → Prop) : Prop := Bd d yX7_isRow cX7_isRow 1 (some .boolean) wsX7_isRow pc lv st M Q
abbrev kX7_isRow (d : Nat) (v0 : Int32) (M : Mm) (Q : Int32 → Mm → Prop) : Prop := Ct d yX7_isRow (some .boolean) wsX7_isRow [.int v0] M Q
abbrev BX7_isThing (d pc : Nat) (lv : List (Nat × Value)) (st : List Value) (M : Mm) (Q : Int32 → Mm → Prop) : Prop := Bd d yX7_isThing cX7_isThing 1 (some .boolean) wsX7_isThing pc lv st M Q
abbrev kX7_isThing (d : Nat) (v0 : Int32) (M : Mm) (Q : Int32 → Mm → Prop) : Prop := Ct d yX7_isThing (some .boolean) wsX7_isThing [.int v0] M Q
abbrev BX7_isFirstOrSecond (d pc : Nat) (lv : List (Nat × Value)) (st : List Value) (M : Mm) (Q : Int32 → Mm → Prop) : Prop := Bd d yX7_isFirstOrSecond cX7_isFirstOrSecond 1 (some .boolean) wsX7_isFirstOrSecond pc lv st M Q
abbrev kX7_isFirstOrSecond (d : Nat) (v0 : Int32) (M : Mm) (Q : Int32 → Mm → Prop) : Prop := Ct d yX7_isFirstOrSecond (some .boolean) wsX7_isFirstOrSecond [.int v0] M Q
abbrev BX7_isOfKind (d pc : Nat) (lv : List (Nat × Value)) (st : List Value) (M : Mm) (Q : Int32 → Mm → Prop) : Prop := Bd d yX7_isOfKind cX7_isOfKind 4 (some .boolean) wsX7_isOfKind pc lv st M Q
abbrev kX7_isOfKind (d : Nat) (v0 : Int32) (v1 : Int32) (M : Mm) (Q : Int32 → Mm → Prop) : Prop := Ct d yX7_isOfKind (some .boolean) wsX7_isOfKind [.int v0, .int v1] M Q
abbrev BX7_power (d pc : Nat) (lv : List (Nat × Value)) (st : List Value) (M : Mm) (Q : Int32 → Mm → Prop) : Prop := Bd d yX7_power cX7_power 4 (some .int) wsX7_power pc lv st M Q
abbrev kX7_power (d : Nat) (v0 : Int32) (v1 : Int32) (M : Mm) (Q : Int32 → Mm → Prop) : Prop := Ct d yX7_power (some .int) wsX7_power [.int v0, .int v1] M Q
abbrev BX7_commonDivisor (d pc : Nat) (lv : List (Nat × Value)) (st : List Value) (M : Mm) (Q : Int32 → Mm → Prop) : Prop := Bd d yX7_commonDivisor cX7_commonDivisor 6 (some .int) wsX7_commonDivisor pc lv st M Q
abbrev kX7_commonDivisor (d : Nat) (v0 : Int32) (v1 : Int32) (M : Mm) (Q : Int32 → Mm → Prop) : Prop := Ct d yX7_commonDivisor (some .int) wsX7_commonDivisor [.int v0, .int v1] M Q
abbrev BX7_found (d pc : Nat) (lv : List (Nat × Value)) (st : List Value) (M : Mm) (Q : Int32 → Mm → Prop) : Prop := Bd d yX7_found cX7_found 2 (some .int) wsX7_found pc lv st M Q
abbrev kX7_found (d : Nat) (v1 : Int32) (M : Mm) (Q : Int32 → Mm → Prop) : Prop := Ct d yX7_found (some .int) wsX7_found [.ref 0, .int v1] M Q
abbrev BX7_findingOf (d pc : Nat) (lv : List (Nat × Value)) (st : List Value) (M : Mm) (Q : Int32 → Mm → Prop) : Prop := Bd d yX7_findingOf cX7_findingOf 5 (some .int) wsX7_findingOf pc lv st M Q
abbrev kX7_findingOf (d : Nat) (v1 : Int32) (v2 : Int32) (v3 : Int32) (M : Mm) (Q : Int32 → Mm → Prop) : Prop := Ct d yX7_findingOf (some .int) wsX7_findingOf [.ref 0, .int v1, .int v2, .int v3] M Q
abbrev BX7_rowsThere (d pc : Nat) (lv : List (Nat × Value)) (st : List Value) (M : Mm) (Q : Int32 → Mm → Prop) : Prop := Bd d yX7_rowsThere cX7_rowsThere 3 (some .int) wsX7_rowsThere pc lv st M Q
abbrev kX7_rowsThere (d : Nat)  (M : Mm) (Q : Int32 → Mm → Prop) : Prop := Ct d yX7_rowsThere (some .int) wsX7_rowsThere [.ref 0] M Q
abbrev BX7_fewestByHand (d pc : Nat) (lv : List (Nat × Value)) (st : List Value) (M : Mm) (Q : Int32 → Mm → Prop) : Prop := Bd d yX7_fewestByHand cX7_fewestByHand 5 (some .int) wsX7_fewestByHand pc lv st M Q
abbrev kX7_fewestByHand (d : Nat) (v1 : Int32) (v2 : Int32) (M : Mm) (Q : Int32 → Mm → Prop) : Prop := Ct d yX7_fewestByHand (some .int) wsX7_fewestByHand [.ref 0, .int v1, .int v2] M Q
abbrev BX7_isPair (d pc : Nat) (lv : List (Nat × Value)) (st : List Value) (M : Mm) (Q : Int32 → Mm → Prop) : Prop := Bd d yX7_isPair cX7_isPair 2 (some .boolean) wsX7_isPair pc lv st M Q
abbrev kX7_isPair (d : Nat) (v1 : Int32) (M : Mm) (Q : Int32 → Mm → Prop) : Prop := Ct d yX7_isPair (some .boolean) wsX7_isPair [.ref 0, .int v1] M Q
abbrev BX7_comesByHand (d pc : Nat) (lv : List (Nat × Value)) (st : List Value) (M : Mm) (Q : Int32 → Mm → Prop) : Prop := Bd d yX7_comesByHand cX7_comesByHand 3 (some .boolean) wsX7_comesByHand pc lv st M Q
abbrev kX7_comesByHand (d : Nat) (v1 : Int32) (v2 : Int32) (M : Mm) (Q : Int32 → Mm → Prop) : Prop := Ct d yX7_comesByHand (some .boolean) wsX7_comesByHand [.ref 0, .int v1, .int v2] M Q
abbrev BX7_areCluesAsTold (d pc : Nat) (lv : List (Nat × Value)) (st : List Value) (M : Mm) (Q : Int32 → Mm → Prop) : Prop := Bd d yX7_areCluesAsTold cX7_areCluesAsTold 5 (some .boolean) wsX7_areCluesAsTold pc lv st M Q
abbrev kX7_areCluesAsTold (d : Nat) (v1 : Int32) (v2 : Int32) (v3 : Int32) (v4 : Int32) (M : Mm) (Q : Int32 → Mm → Prop) : Prop := Ct d yX7_areCluesAsTold (some .boolean) wsX7_areCluesAsTold [.ref 0, .int v1, .int v2, .int v3, .int v4] M Q
abbrev BX7_kindsThatFit (d pc : Nat) (lv : List (Nat × Value)) (st : List Value) (M : Mm) (Q : Int32 → Mm → Prop) : Prop := Bd d yX7_kindsThatFit cX7_kindsThatFit 7 (some .int) wsX7_kindsThatFit pc lv st M Q
abbrev kX7_kindsThatFit (d : Nat) (v1 : Int32) (v2 : Int32) (v3 : Int32) (v4 : Int32) (M : Mm) (Q : Int32 → Mm → Prop) : Prop := Ct d yX7_kindsThatFit (some .int) wsX7_kindsThatFit [.ref 0, .int v1, .int v2, .int v3, .int v4] M Q
abbrev BX7_nightsThatFit (d pc : Nat) (lv : List (Nat × Value)) (st : List Value) (M : Mm) (Q : Int32 → Mm → Prop) : Prop := Bd d yX7_nightsThatFit cX7_nightsThatFit 7 (some .int) wsX7_nightsThatFit pc lv st M Q
abbrev kX7_nightsThatFit (d : Nat) (v1 : Int32) (v2 : Int32) (v3 : Int32) (v4 : Int32) (M : Mm) (Q : Int32 → Mm → Prop) : Prop := Ct d yX7_nightsThatFit (some .int) wsX7_nightsThatFit [.ref 0, .int v1, .int v2, .int v3, .int v4] M Q
abbrev BX7_ordersThatFit (d pc : Nat) (lv : List (Nat × Value)) (st : List Value) (M : Mm) (Q : Int32 → Mm → Prop) : Prop := Bd d yX7_ordersThatFit cX7_ordersThatFit 9 (some .int) wsX7_ordersThatFit pc lv st M Q
abbrev kX7_ordersThatFit (d : Nat) (v1 : Int32) (v2 : Int32) (v3 : Int32) (v4 : Int32) (v5 : Int32) (M : Mm) (Q : Int32 → Mm → Prop) : Prop := Ct d yX7_ordersThatFit (some .int) wsX7_ordersThatFit [.ref 0, .int v1, .int v2, .int v3, .int v4, .int v5] M Q
abbrev BX7_trialShows (d pc : Nat) (lv : List (Nat × Value)) (st : List Value) (M : Mm) (Q : Int32 → Mm → Prop) : Prop := Bd d yX7_trialShows cX7_trialShows 7 (some .boolean) wsX7_trialShows pc lv st M Q
abbrev kX7_trialShows (d : Nat) (v1 : Int32) (v2 : Int32) (v3 : Int32) (v4 : Int32) (M : Mm) (Q : Int32 → Mm → Prop) : Prop := Ct d yX7_trialShows (some .boolean) wsX7_trialShows [.ref 0, .int v1, .int v2, .int v3, .int v4] M Q
abbrev BX8_in (d pc : Nat) (lv : List (Nat × Value)) (st : List Value) (M : Mm) (Q : Int32 → Mm → Prop) : Prop := Bd d yX8_in cX8_in 6 (some .boolean) wsX8_in pc lv st M Q
abbrev kX8_in (d : Nat) (v0 : Int64) (v2 : Int64) (v4 : Int64) (M : Mm) (Q : Int32 → Mm → Prop) : Prop := Ct d yX8_in (some .boolean) wsX8_in [.long v0, .long v2, .long v4] M Q
abbrev BX8_has (d pc : Nat) (lv : List (Nat × Value)) (st : List Value) (M : Mm) (Q : Int32 → Mm → Prop) : Prop := Bd d yX8_has cX8_has 2 (some .boolean) wsX8_has pc lv st M Q
abbrev kX8_has (d : Nat) (v0 : Int32) (v1 : Int32) (M : Mm) (Q : Int32 → Mm → Prop) : Prop := Ct d yX8_has (some .boolean) wsX8_has [.int v0, .int v1] M Q
abbrev BX8_copyOf (d pc : Nat) (lv : List (Nat × Value)) (st : List Value) (M : Mm) (Q : Int32 → Mm → Prop) : Prop := Bd d yX8_copyOf cX8_copyOf 5 none wsX8_copyOf pc lv st M Q
abbrev kX8_copyOf (d : Nat) (v1 : Int32) (v2 : Int32) (v3 : Int32) (M : Mm) (Q : Int32 → Mm → Prop) : Prop := Ct d yX8_copyOf none wsX8_copyOf [.ref 49, .int v1, .int v2, .int v3] M Q
abbrev BX8_isSaint (d pc : Nat) (lv : List (Nat × Value)) (st : List Value) (M : Mm) (Q : Int32 → Mm → Prop) : Prop := Bd d yX8_isSaint cX8_isSaint 2 (some .boolean) wsX8_isSaint pc lv st M Q
abbrev kX8_isSaint (d : Nat) (v1 : Int32) (M : Mm) (Q : Int32 → Mm → Prop) : Prop := Ct d yX8_isSaint (some .boolean) wsX8_isSaint [.ref 49, .int v1] M Q
abbrev BX8_isRow (d pc : Nat) (lv : List (Nat × Value)) (st : List Value) (M : Mm) (Q : Int32 → Mm → Prop) : Prop := Bd d yX8_isRow cX8_isRow 1 (some .boolean) wsX8_isRow pc lv st M Q
abbrev kX8_isRow (d : Nat) (v0 : Int32) (M : Mm) (Q : Int32 → Mm → Prop) : Prop := Ct d yX8_isRow (some .boolean) wsX8_isRow [.int v0] M Q
abbrev BX8_finds (d pc : Nat) (lv : List (Nat × Value)) (st : List Value) (M : Mm) (Q : Int32 → Mm → Prop) : Prop := Bd d yX8_finds cX8_finds 2 (some .int) wsX8_finds pc lv st M Q
abbrev kX8_finds (d : Nat) (v1 : Int32) (M : Mm) (Q : Int32 → Mm → Prop) : Prop := Ct d yX8_finds (some .int) wsX8_finds [.ref 49, .int v1] M Q
abbrev BX8_against (d pc : Nat) (lv : List (Nat × Value)) (st : List Value) (M : Mm) (Q : Int32 → Mm → Prop) : Prop := Bd d yX8_against cX8_against 4 (some .int) wsX8_against pc lv st M Q
abbrev kX8_against (d : Nat) (v1 : Int32) (v2 : Int32) (v3 : Int32) (M : Mm) (Q : Int32 → Mm → Prop) : Prop := Ct d yX8_against (some .int) wsX8_against [.ref 49, .int v1, .int v2, .int v3] M Q
abbrev BX8_row (d pc : Nat) (lv : List (Nat × Value)) (st : List Value) (M : Mm) (Q : Int32 → Mm → Prop) : Prop := Bd d yX8_row cX8_row 5 (some .int) wsX8_row pc lv st M Q
abbrev kX8_row (d : Nat) (v1 : Int32) (v2 : Int32) (v3 : Int32) (M : Mm) (Q : Int32 → Mm → Prop) : Prop := Ct d yX8_row (some .int) wsX8_row [.ref 49, .int v1, .int v2, .int v3] M Q
abbrev BX8_set (d pc : Nat) (lv : List (Nat × Value)) (st : List Value) (M : Mm) (Q : Int32 → Mm → Prop) : Prop := Bd d yX8_set cX8_set 5 (some .int) wsX8_set pc lv st M Q
abbrev kX8_set (d : Nat) (v1 : Int32) (v2 : Int32) (v3 : Int32) (M : Mm) (Q : Int32 → Mm → Prop) : Prop := Ct d yX8_set (some .int) wsX8_set [.ref 49, .int v1, .int v2, .int v3] M Q
abbrev BX8_copy (d pc : Nat) (lv : List (Nat × Value)) (st : List Value) (M : Mm) (Q : Int32 → Mm → Prop) : Prop := Bd d yX8_copy cX8_copy 7 (some .int) wsX8_copy pc lv st M Q
abbrev kX8_copy (d : Nat) (v1 : Int32) (v2 : Int32) (v3 : Int32) (v4 : Int32) (v5 : Int32) (M : Mm) (Q : Int32 → Mm → Prop) : Prop := Ct d yX8_copy (some .int) wsX8_copy [.ref 49, .int v1, .int v2, .int v3, .int v4, .int v5] M Q
abbrev BX8_drop (d pc : Nat) (lv : List (Nat × Value)) (st : List Value) (M : Mm) (Q : Int32 → Mm → Prop) : Prop := Bd d yX8_drop cX8_drop 3 (some .int) wsX8_drop pc lv st M Q
abbrev kX8_drop (d : Nat) (v1 : Int32) (M : Mm) (Q : Int32 → Mm → Prop) : Prop := Ct d yX8_drop (some .int) wsX8_drop [.ref 49, .int v1] M Q
abbrev BX8_feed (d pc : Nat) (lv : List (Nat × Value)) (st : List Value) (M : Mm) (Q : Int32 → Mm → Prop) : Prop := Bd d yX8_feed cX8_feed 2 (some .int) wsX8_feed pc lv st M Q
abbrev kX8_feed (d : Nat) (v1 : Int32) (M : Mm) (Q : Int32 → Mm → Prop) : Prop := Ct d yX8_feed (some .int) wsX8_feed [.ref 49, .int v1] M Q
abbrev BX8_here (d pc : Nat) (lv : List (Nat × Value)) (st : List Value) (M : Mm) (Q : Int32 → Mm → Prop) : Prop := Bd d yX8_here cX8_here 1 (some .int) wsX8_here pc lv st M Q
abbrev kX8_here (d : Nat)  (M : Mm) (Q : Int32 → Mm → Prop) : Prop := Ct d yX8_here (some .int) wsX8_here [.ref 49] M Q
abbrev BX8_fails (d pc : Nat) (lv : List (Nat × Value)) (st : List Value) (M : Mm) (Q : Int32 → Mm → Prop) : Prop := Bd d yX8_fails cX8_fails 3 (some .boolean) wsX8_fails pc lv st M Q
abbrev kX8_fails (d : Nat) (v1 : Int32) (v2 : Int32) (M : Mm) (Q : Int32 → Mm → Prop) : Prop := Ct d yX8_fails (some .boolean) wsX8_fails [.ref 49, .int v1, .int v2] M Q
abbrev BX8_takes (d pc : Nat) (lv : List (Nat × Value)) (st : List Value) (M : Mm) (Q : Int32 → Mm → Prop) : Prop := Bd d yX8_takes cX8_takes 2 (some .boolean) wsX8_takes pc lv st M Q
abbrev kX8_takes (d : Nat) (v1 : Int32) (M : Mm) (Q : Int32 → Mm → Prop) : Prop := Ct d yX8_takes (some .boolean) wsX8_takes [.ref 49, .int v1] M Q
abbrev BX8_takesNumber (d pc : Nat) (lv : List (Nat × Value)) (st : List Value) (M : Mm) (Q : Int32 → Mm → Prop) : Prop := Bd d yX8_takesNumber cX8_takesNumber 5 (some .boolean) wsX8_takesNumber pc lv st M Q
abbrev kX8_takesNumber (d : Nat) (v1 : Int32) (v2 : Int32) (v3 : Int32) (M : Mm) (Q : Int32 → Mm → Prop) : Prop := Ct d yX8_takesNumber (some .boolean) wsX8_takesNumber [.ref 49, .int v1, .int v2, .int v3] M Q
abbrev BX8_kindOf (d pc : Nat) (lv : List (Nat × Value)) (st : List Value) (M : Mm) (Q : Int32 → Mm → Prop) : Prop := Bd d yX8_kindOf cX8_kindOf 1 (some .int) wsX8_kindOf pc lv st M Q
abbrev kX8_kindOf (d : Nat) (v0 : Int32) (M : Mm) (Q : Int32 → Mm → Prop) : Prop := Ct d yX8_kindOf (some .int) wsX8_kindOf [.int v0] M Q
abbrev BX8_takesSaint (d pc : Nat) (lv : List (Nat × Value)) (st : List Value) (M : Mm) (Q : Int32 → Mm → Prop) : Prop := Bd d yX8_takesSaint cX8_takesSaint 5 (some .boolean) wsX8_takesSaint pc lv st M Q
abbrev kX8_takesSaint (d : Nat)  (M : Mm) (Q : Int32 → Mm → Prop) : Prop := Ct d yX8_takesSaint (some .boolean) wsX8_takesSaint [.ref 49] M Q
abbrev BX8_takesAll (d pc : Nat) (lv : List (Nat × Value)) (st : List Value) (M : Mm) (Q : Int32 → Mm → Prop) : Prop := Bd d yX8_takesAll cX8_takesAll 1 (some .boolean) wsX8_takesAll pc lv st M Q
abbrev kX8_takesAll (d : Nat)  (M : Mm) (Q : Int32 → Mm → Prop) : Prop := Ct d yX8_takesAll (some .boolean) wsX8_takesAll [.ref 49] M Q
abbrev BX8_saints (d pc : Nat) (lv : List (Nat × Value)) (st : List Value) (M : Mm) (Q : Int32 → Mm → Prop) : Prop := Bd d yX8_saints cX8_saints 2 (some .int) wsX8_saints pc lv st M Q
abbrev kX8_saints (d : Nat)  (M : Mm) (Q : Int32 → Mm → Prop) : Prop := Ct d yX8_saints (some .int) wsX8_saints [.ref 49] M Q
abbrev BX8_fault (d pc : Nat) (lv : List (Nat × Value)) (st : List Value) (M : Mm) (Q : Int32 → Mm → Prop) : Prop := Bd d yX8_fault cX8_fault 1 (some .int) wsX8_fault pc lv st M Q
abbrev kX8_fault (d : Nat)  (M : Mm) (Q : Int32 → Mm → Prop) : Prop := Ct d yX8_fault (some .int) wsX8_fault [.ref 49] M Q
abbrev BX8_lets (d pc : Nat) (lv : List (Nat × Value)) (st : List Value) (M : Mm) (Q : Int32 → Mm → Prop) : Prop := Bd d yX8_lets cX8_lets 3 (some .boolean) wsX8_lets pc lv st M Q
abbrev kX8_lets (d : Nat) (v1 : Int32) (v2 : Int32) (M : Mm) (Q : Int32 → Mm → Prop) : Prop := Ct d yX8_lets (some .boolean) wsX8_lets [.ref 49, .int v1, .int v2] M Q
abbrev BX8_changes (d pc : Nat) (lv : List (Nat × Value)) (st : List Value) (M : Mm) (Q : Int32 → Mm → Prop) : Prop := Bd d yX8_changes cX8_changes 5 none wsX8_changes pc lv st M Q
abbrev kX8_changes (d : Nat) (v1 : Int32) (v2 : Int32) (v3 : Int32) (M : Mm) (Q : Int32 → Mm → Prop) : Prop := Ct d yX8_changes none wsX8_changes [.ref 49, .int v1, .int v2, .int v3] M Q
abbrev BX8_turns (d pc : Nat) (lv : List (Nat × Value)) (st : List Value) (M : Mm) (Q : Int32 → Mm → Prop) : Prop := Bd d yX8_turns cX8_turns 6 none wsX8_turns pc lv st M Q
abbrev kX8_turns (d : Nat) (v1 : Int32) (v2 : Int32) (M : Mm) (Q : Int32 → Mm → Prop) : Prop := Ct d yX8_turns none wsX8_turns [.ref 49, .int v1, .int v2] M Q
abbrev BX8_stepsBy (d pc : Nat) (lv : List (Nat × Value)) (st : List Value) (M : Mm) (Q : Int32 → Mm → Prop) : Prop := Bd d yX8_stepsBy cX8_stepsBy 5 none wsX8_stepsBy pc lv st M Q
abbrev kX8_stepsBy (d : Nat) (v1 : Int32) (v2 : Int32) (M : Mm) (Q : Int32 → Mm → Prop) : Prop := Ct d yX8_stepsBy none wsX8_stepsBy [.ref 49, .int v1, .int v2] M Q
abbrev BX8_minds (d pc : Nat) (lv : List (Nat × Value)) (st : List Value) (M : Mm) (Q : Int32 → Mm → Prop) : Prop := Bd d yX8_minds cX8_minds 2 none wsX8_minds pc lv st M Q
abbrev kX8_minds (d : Nat)  (M : Mm) (Q : Int32 → Mm → Prop) : Prop := Ct d yX8_minds none wsX8_minds [.ref 49] M Q
abbrev BX8_steps (d pc : Nat) (lv : List (Nat × Value)) (st : List Value) (M : Mm) (Q : Int32 → Mm → Prop) : Prop := Bd d yX8_steps cX8_steps 3 (some .int) wsX8_steps pc lv st M Q
abbrev kX8_steps (d : Nat) (v1 : Int32) (M : Mm) (Q : Int32 → Mm → Prop) : Prop := Ct d yX8_steps (some .int) wsX8_steps [.ref 49, .int v1] M Q
abbrev BX8_swap (d pc : Nat) (lv : List (Nat × Value)) (st : List Value) (M : Mm) (Q : Int32 → Mm → Prop) : Prop := Bd d yX8_swap cX8_swap 3 (some .int) wsX8_swap pc lv st M Q
abbrev kX8_swap (d : Nat) (v1 : Int32) (v2 : Int32) (M : Mm) (Q : Int32 → Mm → Prop) : Prop := Ct d yX8_swap (some .int) wsX8_swap [.ref 49, .int v1, .int v2] M Q
abbrev BX8_night (d pc : Nat) (lv : List (Nat × Value)) (st : List Value) (M : Mm) (Q : Int32 → Mm → Prop) : Prop := Bd d yX8_night cX8_night 3 (some .int) wsX8_night pc lv st M Q
abbrev kX8_night (d : Nat) (v1 : Int32) (M : Mm) (Q : Int32 → Mm → Prop) : Prop := Ct d yX8_night (some .int) wsX8_night [.ref 49, .int v1] M Q
abbrev BX8_undo (d pc : Nat) (lv : List (Nat × Value)) (st : List Value) (M : Mm) (Q : Int32 → Mm → Prop) : Prop := Bd d yX8_undo cX8_undo 1 (some .int) wsX8_undo pc lv st M Q
abbrev kX8_undo (d : Nat)  (M : Mm) (Q : Int32 → Mm → Prop) : Prop := Ct d yX8_undo (some .int) wsX8_undo [.ref 49] M Q
abbrev BX8_saint (d pc : Nat) (lv : List (Nat × Value)) (st : List Value) (M : Mm) (Q : Int32 → Mm → Prop) : Prop := Bd d yX8_saint cX8_saint 3 (some .int) wsX8_saint pc lv st M Q
abbrev kX8_saint (d : Nat) (v1 : Int32) (v2 : Int32) (M : Mm) (Q : Int32 → Mm → Prop) : Prop := Ct d yX8_saint (some .int) wsX8_saint [.ref 49, .int v1, .int v2] M Q
abbrev BX8_holderIn (d pc : Nat) (lv : List (Nat × Value)) (st : List Value) (M : Mm) (Q : Int32 → Mm → Prop) : Prop := Bd d yX8_holderIn cX8_holderIn 4 (some .int) wsX8_holderIn pc lv st M Q
abbrev kX8_holderIn (d : Nat) (v1 : Int32) (v2 : Int32) (M : Mm) (Q : Int32 → Mm → Prop) : Prop := Ct d yX8_holderIn (some .int) wsX8_holderIn [.ref 49, .int v1, .int v2] M Q
abbrev BX8_holder (d pc : Nat) (lv : List (Nat × Value)) (st : List Value) (M : Mm) (Q : Int32 → Mm → Prop) : Prop := Bd d yX8_holder cX8_holder 2 (some .int) wsX8_holder pc lv st M Q
abbrev kX8_holder (d : Nat) (v1 : Int32) (M : Mm) (Q : Int32 → Mm → Prop) : Prop := Ct d yX8_holder (some .int) wsX8_holder [.ref 49, .int v1] M Q
abbrev BX8_tries (d pc : Nat) (lv : List (Nat × Value)) (st : List Value) (M : Mm) (Q : Int32 → Mm → Prop) : Prop := Bd d yX8_tries cX8_tries 1 none wsX8_tries pc lv st M Q
abbrev kX8_tries (d : Nat)  (M : Mm) (Q : Int32 → Mm → Prop) : Prop := Ct d yX8_tries none wsX8_tries [.ref 49] M Q
abbrev BX8_goesOn (d pc : Nat) (lv : List (Nat × Value)) (st : List Value) (M : Mm) (Q : Int32 → Mm → Prop) : Prop := Bd d yX8_goesOn cX8_goesOn 3 none wsX8_goesOn pc lv st M Q
abbrev kX8_goesOn (d : Nat) (v1 : Int32) (M : Mm) (Q : Int32 → Mm → Prop) : Prop := Ct d yX8_goesOn none wsX8_goesOn [.ref 49, .int v1] M Q
abbrev BX8_ahead (d pc : Nat) (lv : List (Nat × Value)) (st : List Value) (M : Mm) (Q : Int32 → Mm → Prop) : Prop := Bd d yX8_ahead cX8_ahead 3 (some .int) wsX8_ahead pc lv st M Q
abbrev kX8_ahead (d : Nat) (v1 : Int32) (v2 : Int32) (M : Mm) (Q : Int32 → Mm → Prop) : Prop := Ct d yX8_ahead (some .int) wsX8_ahead [.ref 49, .int v1, .int v2] M Q
abbrev BX8_when (d pc : Nat) (lv : List (Nat × Value)) (st : List Value) (M : Mm) (Q : Int32 → Mm → Prop) : Prop := Bd d yX8_when cX8_when 4 (some .int) wsX8_when pc lv st M Q
abbrev kX8_when (d : Nat) (v1 : Int32) (v2 : Int32) (M : Mm) (Q : Int32 → Mm → Prop) : Prop := Ct d yX8_when (some .int) wsX8_when [.ref 49, .int v1, .int v2] M Q
abbrev BX8_toMatins (d pc : Nat) (lv : List (Nat × Value)) (st : List Value) (M : Mm) (Q : Int32 → Mm → Prop) : Prop := Bd d yX8_toMatins cX8_toMatins 1 none wsX8_toMatins pc lv st M Q
abbrev kX8_toMatins (d : Nat)  (M : Mm) (Q : Int32 → Mm → Prop) : Prop := Ct d yX8_toMatins none wsX8_toMatins [.ref 49] M Q
abbrev BX8_pray (d pc : Nat) (lv : List (Nat × Value)) (st : List Value) (M : Mm) (Q : Int32 → Mm → Prop) : Prop := Bd d yX8_pray cX8_pray 2 (some .int) wsX8_pray pc lv st M Q
abbrev kX8_pray (d : Nat) (v1 : Int32) (M : Mm) (Q : Int32 → Mm → Prop) : Prop := Ct d yX8_pray (some .int) wsX8_pray [.ref 49, .int v1] M Q
abbrev BX8_round (d pc : Nat) (lv : List (Nat × Value)) (st : List Value) (M : Mm) (Q : Int32 → Mm → Prop) : Prop := Bd d yX8_round cX8_round 4 (some .int) wsX8_round pc lv st M Q
abbrev kX8_round (d : Nat)  (M : Mm) (Q : Int32 → Mm → Prop) : Prop := Ct d yX8_round (some .int) wsX8_round [.ref 49] M Q
abbrev BX8_countsThere (d pc : Nat) (lv : List (Nat × Value)) (st : List Value) (M : Mm) (Q : Int32 → Mm → Prop) : Prop := Bd d yX8_countsThere cX8_countsThere 2 none wsX8_countsThere pc lv st M Q
abbrev kX8_countsThere (d : Nat)  (M : Mm) (Q : Int32 → Mm → Prop) : Prop := Ct d yX8_countsThere none wsX8_countsThere [.ref 49] M Q
abbrev BX8_rowsOf (d pc : Nat) (lv : List (Nat × Value)) (st : List Value) (M : Mm) (Q : Int32 → Mm → Prop) : Prop := Bd d yX8_rowsOf cX8_rowsOf 4 (some .int) wsX8_rowsOf pc lv st M Q
abbrev kX8_rowsOf (d : Nat)  (M : Mm) (Q : Int32 → Mm → Prop) : Prop := Ct d yX8_rowsOf (some .int) wsX8_rowsOf [.ref 49] M Q
abbrev BX8_placeOf (d pc : Nat) (lv : List (Nat × Value)) (st : List Value) (M : Mm) (Q : Int32 → Mm → Prop) : Prop := Bd d yX8_placeOf cX8_placeOf 6 (some .int) wsX8_placeOf pc lv st M Q
abbrev kX8_placeOf (d : Nat) (v1 : Int32) (M : Mm) (Q : Int32 → Mm → Prop) : Prop := Ct d yX8_placeOf (some .int) wsX8_placeOf [.ref 49, .int v1] M Q
abbrev BX8_atHome (d pc : Nat) (lv : List (Nat × Value)) (st : List Value) (M : Mm) (Q : Int32 → Mm → Prop) : Prop := Bd d yX8_atHome cX8_atHome 3 (some .int) wsX8_atHome pc lv st M Q
abbrev kX8_atHome (d : Nat)  (M : Mm) (Q : Int32 → Mm → Prop) : Prop := Ct d yX8_atHome (some .int) wsX8_atHome [.ref 49] M Q
abbrev BX8_allRows (d pc : Nat) (lv : List (Nat × Value)) (st : List Value) (M : Mm) (Q : Int32 → Mm → Prop) : Prop := Bd d yX8_allRows cX8_allRows 1 (some .int) wsX8_allRows pc lv st M Q
abbrev kX8_allRows (d : Nat)  (M : Mm) (Q : Int32 → Mm → Prop) : Prop := Ct d yX8_allRows (some .int) wsX8_allRows [.ref 49] M Q
abbrev BX8_home (d pc : Nat) (lv : List (Nat × Value)) (st : List Value) (M : Mm) (Q : Int32 → Mm → Prop) : Prop := Bd d yX8_home cX8_home 2 (some .int) wsX8_home pc lv st M Q
abbrev kX8_home (d : Nat) (v1 : Int32) (M : Mm) (Q : Int32 → Mm → Prop) : Prop := Ct d yX8_home (some .int) wsX8_home [.ref 49, .int v1] M Q
abbrev BX8_laysTo (d pc : Nat) (lv : List (Nat × Value)) (st : List Value) (M : Mm) (Q : Int32 → Mm → Prop) : Prop := Bd d yX8_laysTo cX8_laysTo 7 (some .boolean) wsX8_laysTo pc lv st M Q
abbrev kX8_laysTo (d : Nat) (v1 : Int32) (v2 : Int32) (M : Mm) (Q : Int32 → Mm → Prop) : Prop := Ct d yX8_laysTo (some .boolean) wsX8_laysTo [.ref 49, .int v1, .int v2] M Q
abbrev BX8_rings (d pc : Nat) (lv : List (Nat × Value)) (st : List Value) (M : Mm) (Q : Int32 → Mm → Prop) : Prop := Bd d yX8_rings cX8_rings 5 (some .int) wsX8_rings pc lv st M Q
abbrev kX8_rings (d : Nat)  (M : Mm) (Q : Int32 → Mm → Prop) : Prop := Ct d yX8_rings (some .int) wsX8_rings [.ref 49] M Q
abbrev BX8_mostRings (d pc : Nat) (lv : List (Nat × Value)) (st : List Value) (M : Mm) (Q : Int32 → Mm → Prop) : Prop := Bd d yX8_mostRings cX8_mostRings 6 (some .int) wsX8_mostRings pc lv st M Q
abbrev kX8_mostRings (d : Nat)  (M : Mm) (Q : Int32 → Mm → Prop) : Prop := Ct d yX8_mostRings (some .int) wsX8_mostRings [.ref 49] M Q
abbrev BX8_noneOf (d pc : Nat) (lv : List (Nat × Value)) (st : List Value) (M : Mm) (Q : Int32 → Mm → Prop) : Prop := Bd d yX8_noneOf cX8_noneOf 3 (some .int) wsX8_noneOf pc lv st M Q
abbrev kX8_noneOf (d : Nat)  (M : Mm) (Q : Int32 → Mm → Prop) : Prop := Ct d yX8_noneOf (some .int) wsX8_noneOf [.ref 49] M Q
abbrev BX8_swaps (d pc : Nat) (lv : List (Nat × Value)) (st : List Value) (M : Mm) (Q : Int32 → Mm → Prop) : Prop := Bd d yX8_swaps cX8_swaps 6 (some .int) wsX8_swaps pc lv st M Q
abbrev kX8_swaps (d : Nat) (v1 : Int32) (v2 : Int32) (v3 : Int32) (M : Mm) (Q : Int32 → Mm → Prop) : Prop := Ct d yX8_swaps (some .int) wsX8_swaps [.ref 49, .int v1, .int v2, .int v3] M Q
abbrev BX8_sort (d pc : Nat) (lv : List (Nat × Value)) (st : List Value) (M : Mm) (Q : Int32 → Mm → Prop) : Prop := Bd d yX8_sort cX8_sort 8 (some .int) wsX8_sort pc lv st M Q
abbrev kX8_sort (d : Nat) (v1 : Int32) (v2 : Int32) (v3 : Int32) (M : Mm) (Q : Int32 → Mm → Prop) : Prop := Ct d yX8_sort (some .int) wsX8_sort [.ref 49, .int v1, .int v2, .int v3] M Q
abbrev BX8_laysPairs (d pc : Nat) (lv : List (Nat × Value)) (st : List Value) (M : Mm) (Q : Int32 → Mm → Prop) : Prop := Bd d yX8_laysPairs cX8_laysPairs 4 (some .int) wsX8_laysPairs pc lv st M Q
abbrev kX8_laysPairs (d : Nat)  (M : Mm) (Q : Int32 → Mm → Prop) : Prop := Ct d yX8_laysPairs (some .int) wsX8_laysPairs [.ref 49] M Q
abbrev BX8_hasBy (d pc : Nat) (lv : List (Nat × Value)) (st : List Value) (M : Mm) (Q : Int32 → Mm → Prop) : Prop := Bd d yX8_hasBy cX8_hasBy 5 (some .boolean) wsX8_hasBy pc lv st M Q
abbrev kX8_hasBy (d : Nat) (v1 : Int32) (v2 : Int32) (v3 : Int32) (v4 : Int32) (M : Mm) (Q : Int32 → Mm → Prop) : Prop := Ct d yX8_hasBy (some .boolean) wsX8_hasBy [.ref 49, .int v1, .int v2, .int v3, .int v4] M Q
abbrev BX8_plan (d pc : Nat) (lv : List (Nat × Value)) (st : List Value) (M : Mm) (Q : Int32 → Mm → Prop) : Prop := Bd d yX8_plan cX8_plan 7 (some .int) wsX8_plan pc lv st M Q
abbrev kX8_plan (d : Nat) (v1 : Int32) (v2 : Int32) (v3 : Int32) (M : Mm) (Q : Int32 → Mm → Prop) : Prop := Ct d yX8_plan (some .int) wsX8_plan [.ref 49, .int v1, .int v2, .int v3] M Q
abbrev BX8_isSo (d pc : Nat) (lv : List (Nat × Value)) (st : List Value) (M : Mm) (Q : Int32 → Mm → Prop) : Prop := Bd d yX8_isSo cX8_isSo 6 (some .boolean) wsX8_isSo pc lv st M Q
abbrev kX8_isSo (d : Nat) (v1 : Int32) (v2 : Int32) (v3 : Int32) (M : Mm) (Q : Int32 → Mm → Prop) : Prop := Ct d yX8_isSo (some .boolean) wsX8_isSo [.ref 49, .int v1, .int v2, .int v3] M Q
abbrev BX8_bars (d pc : Nat) (lv : List (Nat × Value)) (st : List Value) (M : Mm) (Q : Int32 → Mm → Prop) : Prop := Bd d yX8_bars cX8_bars 7 (some .int) wsX8_bars pc lv st M Q
abbrev kX8_bars (d : Nat) (v1 : Int32) (v2 : Int32) (v3 : Int32) (v4 : Int32) (v5 : Int32) (M : Mm) (Q : Int32 → Mm → Prop) : Prop := Ct d yX8_bars (some .int) wsX8_bars [.ref 49, .int v1, .int v2, .int v3, .int v4, .int v5] M Q
abbrev BX8_fits (d pc : Nat) (lv : List (Nat × Value)) (st : List Value) (M : Mm) (Q : Int32 → Mm → Prop) : Prop := Bd d yX8_fits cX8_fits 9 (some .int) wsX8_fits pc lv st M Q
abbrev kX8_fits (d : Nat) (v1 : Int32) (v2 : Int32) (v3 : Int32) (v4 : Int32) (v5 : Int32) (M : Mm) (Q : Int32 → Mm → Prop) : Prop := Ct d yX8_fits (some .int) wsX8_fits [.ref 49, .int v1, .int v2, .int v3, .int v4, .int v5] M Q
abbrev BX8_nextRow (d pc : Nat) (lv : List (Nat × Value)) (st : List Value) (M : Mm) (Q : Int32 → Mm → Prop) : Prop := Bd d yX8_nextRow cX8_nextRow 6 (some .boolean) wsX8_nextRow pc lv st M Q
abbrev kX8_nextRow (d : Nat)  (M : Mm) (Q : Int32 → Mm → Prop) : Prop := Ct d yX8_nextRow (some .boolean) wsX8_nextRow [.ref 49] M Q
abbrev BX8_began (d pc : Nat) (lv : List (Nat × Value)) (st : List Value) (M : Mm) (Q : Int32 → Mm → Prop) : Prop := Bd d yX8_began cX8_began 13 (some .int) wsX8_began pc lv st M Q
abbrev kX8_began (d : Nat) (v1 : Int32) (v2 : Int32) (v3 : Int32) (v4 : Int32) (v5 : Int32) (M : Mm) (Q : Int32 → Mm → Prop) : Prop := Ct d yX8_began (some .int) wsX8_began [.ref 49, .int v1, .int v2, .int v3, .int v4, .int v5] M Q
abbrev BX8_sleep (d pc : Nat) (lv : List (Nat × Value)) (st : List Value) (M : Mm) (Q : Int32 → Mm → Prop) : Prop := Bd d yX8_sleep cX8_sleep 10 (some .int) wsX8_sleep pc lv st M Q
abbrev kX8_sleep (d : Nat) (v1 : Int32) (v2 : Int32) (v3 : Int32) (v4 : Int32) (M : Mm) (Q : Int32 → Mm → Prop) : Prop := Ct d yX8_sleep (some .int) wsX8_sleep [.ref 49, .int v1, .int v2, .int v3, .int v4] M Q
abbrev BX8_figures (d pc : Nat) (lv : List (Nat × Value)) (st : List Value) (M : Mm) (Q : Int32 → Mm → Prop) : Prop := Bd d yX8_figures cX8_figures 4 (some .int) wsX8_figures pc lv st M Q
abbrev kX8_figures (d : Nat) (v1 : Int32) (M : Mm) (Q : Int32 → Mm → Prop) : Prop := Ct d yX8_figures (some .int) wsX8_figures [.ref 49, .int v1] M Q
abbrev BX8_drawn (d pc : Nat) (lv : List (Nat × Value)) (st : List Value) (M : Mm) (Q : Int32 → Mm → Prop) : Prop := Bd d yX8_drawn cX8_drawn 11 (some .int) wsX8_drawn pc lv st M Q
abbrev kX8_drawn (d : Nat) (v1 : Int32) (v2 : Int32) (v3 : Int32) (M : Mm) (Q : Int32 → Mm → Prop) : Prop := Ct d yX8_drawn (some .int) wsX8_drawn [.ref 49, .int v1, .int v2, .int v3] M Q
abbrev BX8_image (d pc : Nat) (lv : List (Nat × Value)) (st : List Value) (M : Mm) (Q : Int32 → Mm → Prop) : Prop := Bd d yX8_image cX8_image 2 (some .int) wsX8_image pc lv st M Q
abbrev kX8_image (d : Nat) (v1 : Int32) (M : Mm) (Q : Int32 → Mm → Prop) : Prop := Ct d yX8_image (some .int) wsX8_image [.ref 49, .int v1] M Q
abbrev BX8_restore (d pc : Nat) (lv : List (Nat × Value)) (st : List Value) (M : Mm) (Q : Int32 → Mm → Prop) : Prop := Bd d yX8_restore cX8_restore 2 (some .int) wsX8_restore pc lv st M Q
abbrev kX8_restore (d : Nat) (v1 : Int32) (M : Mm) (Q : Int32 → Mm → Prop) : Prop := Ct d yX8_restore (some .int) wsX8_restore [.ref 49, .int v1] M Q
abbrev BX8_kind (d pc : Nat) (lv : List (Nat × Value)) (st : List Value) (M : Mm) (Q : Int32 → Mm → Prop) : Prop := Bd d yX8_kind cX8_kind 2 (some .int) wsX8_kind pc lv st M Q
abbrev kX8_kind (d : Nat) (v1 : Int32) (M : Mm) (Q : Int32 → Mm → Prop) : Prop := Ct d yX8_kind (some .int) wsX8_kind [.ref 49, .int v1] M Q
abbrev BX8_isA (d pc : Nat) (lv : List (Nat × Value)) (st : List Value) (M : Mm) (Q : Int32 → Mm → Prop) : Prop := Bd d yX8_isA cX8_isA 2 (some .boolean) wsX8_isA pc lv st M Q
abbrev kX8_isA (d : Nat) (v0 : Int32) (v1 : Int32) (M : Mm) (Q : Int32 → Mm → Prop) : Prop := Ct d yX8_isA (some .boolean) wsX8_isA [.int v0, .int v1] M Q
abbrev BX8_as (d pc : Nat) (lv : List (Nat × Value)) (st : List Value) (M : Mm) (Q : Int32 → Mm → Prop) : Prop := Bd d yX8_as cX8_as 3 (some .int) wsX8_as pc lv st M Q
abbrev kX8_as (d : Nat) (v1 : Int32) (v2 : Int32) (M : Mm) (Q : Int32 → Mm → Prop) : Prop := Ct d yX8_as (some .int) wsX8_as [.ref 49, .int v1, .int v2] M Q
abbrev BX8_traces (d pc : Nat) (lv : List (Nat × Value)) (st : List Value) (M : Mm) (Q : Int32 → Mm → Prop) : Prop := Bd d yX8_traces cX8_traces 2 none wsX8_traces pc lv st M Q
abbrev kX8_traces (d : Nat) (v1 : Int32) (M : Mm) (Q : Int32 → Mm → Prop) : Prop := Ct d yX8_traces none wsX8_traces [.ref 49, .int v1] M Q
abbrev BX8_size10 (d pc : Nat) (lv : List (Nat × Value)) (st : List Value) (M : Mm) (Q : Int32 → Mm → Prop) : Prop := Bd d yX8_size10 cX8_size10 2 (some .int) wsX8_size10 pc lv st M Q
abbrev kX8_size10 (d : Nat) (v1 : Int32) (M : Mm) (Q : Int32 → Mm → Prop) : Prop := Ct d yX8_size10 (some .int) wsX8_size10 [.ref 49, .int v1] M Q
abbrev BX8_size11 (d pc : Nat) (lv : List (Nat × Value)) (st : List Value) (M : Mm) (Q : Int32 → Mm → Prop) : Prop := Bd d yX8_size11 cX8_size11 3 (some .int) wsX8_size11 pc lv st M Q
abbrev kX8_size11 (d : Nat) (v1 : Int32) (M : Mm) (Q : Int32 → Mm → Prop) : Prop := Ct d yX8_size11 (some .int) wsX8_size11 [.ref 49, .int v1] M Q
abbrev BX8_size13 (d pc : Nat) (lv : List (Nat × Value)) (st : List Value) (M : Mm) (Q : Int32 → Mm → Prop) : Prop := Bd d yX8_size13 cX8_size13 2 (some .int) wsX8_size13 pc lv st M Q
abbrev kX8_size13 (d : Nat) (v1 : Int32) (M : Mm) (Q : Int32 → Mm → Prop) : Prop := Ct d yX8_size13 (some .int) wsX8_size13 [.ref 49, .int v1] M Q
abbrev BX8_sizeOf (d pc : Nat) (lv : List (Nat × Value)) (st : List Value) (M : Mm) (Q : Int32 → Mm → Prop) : Prop := Bd d yX8_sizeOf cX8_sizeOf 2 (some .int) wsX8_sizeOf pc lv st M Q
abbrev kX8_sizeOf (d : Nat) (v1 : Int32) (M : Mm) (Q : Int32 → Mm → Prop) : Prop := Ct d yX8_sizeOf (some .int) wsX8_sizeOf [.ref 49, .int v1] M Q
abbrev BX8_mark20 (d pc : Nat) (lv : List (Nat × Value)) (st : List Value) (M : Mm) (Q : Int32 → Mm → Prop) : Prop := Bd d yX8_mark20 cX8_mark20 2 (some .int) wsX8_mark20 pc lv st M Q
abbrev kX8_mark20 (d : Nat) (v1 : Int32) (M : Mm) (Q : Int32 → Mm → Prop) : Prop := Ct d yX8_mark20 (some .int) wsX8_mark20 [.ref 49, .int v1] M Q
abbrev BX8_mark21 (d pc : Nat) (lv : List (Nat × Value)) (st : List Value) (M : Mm) (Q : Int32 → Mm → Prop) : Prop := Bd d yX8_mark21 cX8_mark21 2 (some .int) wsX8_mark21 pc lv st M Q
abbrev kX8_mark21 (d : Nat) (v1 : Int32) (M : Mm) (Q : Int32 → Mm → Prop) : Prop := Ct d yX8_mark21 (some .int) wsX8_mark21 [.ref 49, .int v1] M Q
abbrev BX8_markOf (d pc : Nat) (lv : List (Nat × Value)) (st : List Value) (M : Mm) (Q : Int32 → Mm → Prop) : Prop := Bd d yX8_markOf cX8_markOf 2 (some .int) wsX8_markOf pc lv st M Q
abbrev kX8_markOf (d : Nat) (v1 : Int32) (M : Mm) (Q : Int32 → Mm → Prop) : Prop := Ct d yX8_markOf (some .int) wsX8_markOf [.ref 49, .int v1] M Q
abbrev BX8_mark23 (d pc : Nat) (lv : List (Nat × Value)) (st : List Value) (M : Mm) (Q : Int32 → Mm → Prop) : Prop := Bd d yX8_mark23 cX8_mark23 3 (some .int) wsX8_mark23 pc lv st M Q
abbrev kX8_mark23 (d : Nat) (v1 : Int32) (M : Mm) (Q : Int32 → Mm → Prop) : Prop := Ct d yX8_mark23 (some .int) wsX8_mark23 [.ref 49, .int v1] M Q
abbrev BX8_ask (d pc : Nat) (lv : List (Nat × Value)) (st : List Value) (M : Mm) (Q : Int32 → Mm → Prop) : Prop := Bd d yX8_ask cX8_ask 3 (some .int) wsX8_ask pc lv st M Q
abbrev kX8_ask (d : Nat) (v1 : Int32) (v2 : Int32) (M : Mm) (Q : Int32 → Mm → Prop) : Prop := Ct d yX8_ask (some .int) wsX8_ask [.ref 49, .int v1, .int v2] M Q
abbrev BX8_trace (d pc : Nat) (lv : List (Nat × Value)) (st : List Value) (M : Mm) (Q : Int32 → Mm → Prop) : Prop := Bd d yX8_trace cX8_trace 2 (some .int) wsX8_trace pc lv st M Q
abbrev kX8_trace (d : Nat) (v1 : Int32) (M : Mm) (Q : Int32 → Mm → Prop) : Prop := Ct d yX8_trace (some .int) wsX8_trace [.ref 49, .int v1] M Q
abbrev BX8_rowsThere (d pc : Nat) (lv : List (Nat × Value)) (st : List Value) (M : Mm) (Q : Int32 → Mm → Prop) : Prop := Bd d yX8_rowsThere cX8_rowsThere 3 (some .int) wsX8_rowsThere pc lv st M Q
abbrev kX8_rowsThere (d : Nat)  (M : Mm) (Q : Int32 → Mm → Prop) : Prop := Ct d yX8_rowsThere (some .int) wsX8_rowsThere [.ref 49] M Q
abbrev BX8_count (d pc : Nat) (lv : List (Nat × Value)) (st : List Value) (M : Mm) (Q : Int32 → Mm → Prop) : Prop := Bd d yX8_count cX8_count 2 (some .int) wsX8_count pc lv st M Q
abbrev kX8_count (d : Nat) (v1 : Int32) (M : Mm) (Q : Int32 → Mm → Prop) : Prop := Ct d yX8_count (some .int) wsX8_count [.ref 49, .int v1] M Q
abbrev BX8_status (d pc : Nat) (lv : List (Nat × Value)) (st : List Value) (M : Mm) (Q : Int32 → Mm → Prop) : Prop := Bd d yX8_status cX8_status 1 (some .int) wsX8_status pc lv st M Q
abbrev kX8_status (d : Nat)  (M : Mm) (Q : Int32 → Mm → Prop) : Prop := Ct d yX8_status (some .int) wsX8_status [.ref 49] M Q
abbrev BJ6_bitCount_0f7a4 (d pc : Nat) (lv : List (Nat × Value)) (st : List Value) (M : Mm) (Q : Int32 → Mm → Prop) : Prop := Bd d yJ6_bitCount_0f7a4 cJ6_bitCount_0f7a4 1 (some .int) wsJ6_bitCount_0f7a4 pc lv st M Q
abbrev kJ6_bitCount_0f7a4 (d : Nat) (v0 : Int32) (M : Mm) (Q : Int32 → Mm → Prop) : Prop := Ct d yJ6_bitCount_0f7a4 (some .int) wsJ6_bitCount_0f7a4 [.int v0] M Q
abbrev BJ0_length_8abf5 (d pc : Nat) (lv : List (Nat × Value)) (st : List Value) (M : Mm) (Q : Int32 → Mm → Prop) : Prop := Bd d yJ0_length_8abf5 cJ0_length_8abf5 1 (some .int) wsJ0_length_8abf5 pc lv st M Q
abbrev kJ0_length_8abf5 (d : Nat)  (M : Mm) (Q : Int32 → Mm → Prop) : Prop := Ct d yJ0_length_8abf5 (some .int) wsJ0_length_8abf5 [.ref 1004] M Q
abbrev BJ0_indexOf_0f7a4 (d pc : Nat) (lv : List (Nat × Value)) (st : List Value) (M : Mm) (Q : Int32 → Mm → Prop) : Prop := Bd d yJ0_indexOf_0f7a4 cJ0_indexOf_0f7a4 2 (some .int) wsJ0_indexOf_0f7a4 pc lv st M Q
abbrev kJ0_indexOf_0f7a4 (d : Nat) (v1 : Int32) (M : Mm) (Q : Int32 → Mm → Prop) : Prop := Ct d yJ0_indexOf_0f7a4 (some .int) wsJ0_indexOf_0f7a4 [.ref 1004, .int v1] M Q
abbrev BJ0_indexOf_7cf53 (d pc : Nat) (lv : List (Nat × Value)) (st : List Value) (M : Mm) (Q : Int32 → Mm → Prop) : Prop := Bd d yJ0_indexOf_7cf53 cJ0_indexOf_7cf53 3 (some .int) wsJ0_indexOf_7cf53 pc lv st M Q
abbrev kJ0_indexOf_7cf53 (d : Nat) (v1 : Int32) (v2 : Int32) (M : Mm) (Q : Int32 → Mm → Prop) : Prop := Ct d yJ0_indexOf_7cf53 (some .int) wsJ0_indexOf_7cf53 [.ref 1004, .int v1, .int v2] M Q
abbrev BJ0_coder_7d493 (d pc : Nat) (lv : List (Nat × Value)) (st : List Value) (M : Mm) (Q : Int32 → Mm → Prop) : Prop := Bd d yJ0_coder_7d493 cJ0_coder_7d493 1 (some .byte) wsJ0_coder_7d493 pc lv st M Q
abbrev kJ0_coder_7d493 (d : Nat)  (M : Mm) (Q : Int32 → Mm → Prop) : Prop := Ct d yJ0_coder_7d493 (some .byte) wsJ0_coder_7d493 [.ref 1004] M Q
abbrev BJ0_isLatin1_aae02 (d pc : Nat) (lv : List (Nat × Value)) (st : List Value) (M : Mm) (Q : Int32 → Mm → Prop) : Prop := Bd d yJ0_isLatin1_aae02 cJ0_isLatin1_aae02 1 (some .boolean) wsJ0_isLatin1_aae02 pc lv st M Q
abbrev kJ0_isLatin1_aae02 (d : Nat)  (M : Mm) (Q : Int32 → Mm → Prop) : Prop := Ct d yJ0_isLatin1_aae02 (some .boolean) wsJ0_isLatin1_aae02 [.ref 1004] M Q
abbrev BJ1_canEncode_9a6ad (d pc : Nat) (lv : List (Nat × Value)) (st : List Value) (M : Mm) (Q : Int32 → Mm → Prop) : Prop := Bd d yJ1_canEncode_9a6ad cJ1_canEncode_9a6ad 1 (some .boolean) wsJ1_canEncode_9a6ad pc lv st M Q
abbrev kJ1_canEncode_9a6ad (d : Nat) (v0 : Int32) (M : Mm) (Q : Int32 → Mm → Prop) : Prop := Ct d yJ1_canEncode_9a6ad (some .boolean) wsJ1_canEncode_9a6ad [.int v0] M Q
abbrev BJ1_indexOf_4cfef (d pc : Nat) (lv : List (Nat × Value)) (st : List Value) (M : Mm) (Q : Int32 → Mm → Prop) : Prop := Bd d yJ1_indexOf_4cfef cJ1_indexOf_4cfef 4 (some .int) wsJ1_indexOf_4cfef pc lv st M Q
abbrev kJ1_indexOf_4cfef (d : Nat) (v1 : Int32) (v2 : Int32) (v3 : Int32) (M : Mm) (Q : Int32 → Mm → Prop) : Prop := Ct d yJ1_indexOf_4cfef (some .int) wsJ1_indexOf_4cfef [.ref 1005, .int v1, .int v2, .int v3] M Q
abbrev BJ1_indexOfChar_4cfef (d pc : Nat) (lv : List (Nat × Value)) (st : List Value) (M : Mm) (Q : Int32 → Mm → Prop) : Prop := Bd d yJ1_indexOfChar_4cfef cJ1_indexOfChar_4cfef 6 (some .int) wsJ1_indexOfChar_4cfef pc lv st M Q
abbrev kJ1_indexOfChar_4cfef (d : Nat) (v1 : Int32) (v2 : Int32) (v3 : Int32) (M : Mm) (Q : Int32 → Mm → Prop) : Prop := Ct d yJ1_indexOfChar_4cfef (some .int) wsJ1_indexOfChar_4cfef [.ref 1005, .int v1, .int v2, .int v3] M Q
abbrev BJ7_fill_53178 (d pc : Nat) (lv : List (Nat × Value)) (st : List Value) (M : Mm) (Q : Int32 → Mm → Prop) : Prop := Bd d yJ7_fill_53178 cJ7_fill_53178 4 none wsJ7_fill_53178 pc lv st M Q
abbrev kJ7_fill_53178 (d : Nat) (o0 : Nat) (v1 : Int32) (M : Mm) (Q : Int32 → Mm → Prop) : Prop := Ct d yJ7_fill_53178 none wsJ7_fill_53178 [.ref o0, .int v1] M Q
abbrev kJ2_indexOf_4cfef (d : Nat) (v1 : Int32) (v2 : Int32) (v3 : Int32) (M : Mm) (Q : Int32 → Mm → Prop) : Prop := Ct d yJ2_indexOf_4cfef (some .int) wsJ2_indexOf_4cfef [.ref 1005, .int v1, .int v2, .int v3] M Q
