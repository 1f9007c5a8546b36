theorem sv_0 : ∀ pc, pc < 37 → sx_okE 0 prog_2_method_1_code 1 true (none) pc (kt_Acts_init pc) = true := by decide +kernel
set_option maxRecDepth 100000 in
theorem sv_0_out : ∀ pc, 37 ≤ pc → (kt_Acts_init pc).1 = .nop := by
  intro pc h
  unfold kt_Acts_init
  split <;> first | rfl | omega
theorem sv_1 : ∀ pc, pc < 6 → sx_okE 0 prog_2_method_2_code 1 false (none) pc (kt_Acts_forgetAll pc) = true := by decide +kernel
set_option maxRecDepth 100000 in
theorem sv_1_out : ∀ pc, 6 ≤ pc → (kt_Acts_forgetAll pc).1 = .nop := by
  intro pc h
  unfold kt_Acts_forgetAll
  split <;> first | rfl | omega
theorem sv_2 : ∀ pc, pc < 70 → sx_okE 0 prog_2_method_3_code 5 false (none) pc (kt_Acts_keep pc) = true := by decide +kernel
set_option maxRecDepth 100000 in
theorem sv_2_out : ∀ pc, 70 ≤ pc → (kt_Acts_keep pc).1 = .nop := by
  intro pc h
  unfold kt_Acts_keep
  split <;> first | rfl | omega
theorem sv_3 : ∀ pc, pc < 162 → sx_okE 0 prog_2_method_4_code 3 false (none) pc (kt_Acts_revertLatest pc) = true := by decide +kernel
set_option maxRecDepth 100000 in
theorem sv_3_out : ∀ pc, 162 ≤ pc → (kt_Acts_revertLatest pc).1 = .nop := by
  intro pc h
  unfold kt_Acts_revertLatest
  split <;> first | rfl | omega
theorem sv_4 : ∀ pc, pc < 13 → sx_okE 1 prog_3_method_1_code 1 true (none) pc (kt_Asker_init pc) = true := by decide +kernel
set_option maxRecDepth 100000 in
theorem sv_4_out : ∀ pc, 13 ≤ pc → (kt_Asker_init pc).1 = .nop := by
  intro pc h
  unfold kt_Asker_init
  split <;> first | rfl | omega
theorem sv_5 : ∀ pc, pc < 25 → sx_okE 1 prog_3_method_2_code 2 false (some .int) pc (kt_Asker_numberAt pc) = true := by decide +kernel
set_option maxRecDepth 100000 in
theorem sv_5_out : ∀ pc, 25 ≤ pc → (kt_Asker_numberAt pc).1 = .nop := by
  intro pc h
  unfold kt_Asker_numberAt
  split <;> first | rfl | omega
theorem sv_6 : ∀ pc, pc < 14 → sx_okE 1 prog_3_method_3_code 4 false (some .int) pc (kt_Asker_answer pc) = true := by decide +kernel
set_option maxRecDepth 100000 in
theorem sv_6_out : ∀ pc, 14 ≤ pc → (kt_Asker_answer pc).1 = .nop := by
  intro pc h
  unfold kt_Asker_answer
  split <;> first | rfl | omega
theorem sv_7 : ∀ pc, pc < 234 → sx_okE 1 prog_3_method_4_code 6 false (some .int) pc (kt_Asker_runBody pc) = true := by decide +kernel
set_option maxRecDepth 100000 in
theorem sv_7_out : ∀ pc, 234 ≤ pc → (kt_Asker_runBody pc).1 = .nop := by
  intro pc h
  unfold kt_Asker_runBody
  split <;> first | rfl | omega
theorem sv_8 : ∀ pc, pc < 19 → sx_okE 1 prog_3_method_5_code 5 false (some .int) pc (kt_Asker_askAnew pc) = true := by decide +kernel
set_option maxRecDepth 100000 in
theorem sv_8_out : ∀ pc, 19 ≤ pc → (kt_Asker_askAnew pc).1 = .nop := by
  intro pc h
  unfold kt_Asker_askAnew
  split <;> first | rfl | omega
theorem sv_9 : ∀ pc, pc < 30 → sx_okE 1 prog_3_method_6_code 2 false (none) pc (kt_Asker_leaveNumber pc) = true := by decide +kernel
set_option maxRecDepth 100000 in
theorem sv_9_out : ∀ pc, 30 ≤ pc → (kt_Asker_leaveNumber pc).1 = .nop := by
  intro pc h
  unfold kt_Asker_leaveNumber
  split <;> first | rfl | omega
theorem sv_10 : ∀ pc, pc < 24 → sx_okE 2 prog_4_method_1_code 1 true (none) pc (kt_Fore_init pc) = true := by decide +kernel
set_option maxRecDepth 100000 in
theorem sv_10_out : ∀ pc, 24 ≤ pc → (kt_Fore_init pc).1 = .nop := by
  intro pc h
  unfold kt_Fore_init
  split <;> first | rfl | omega
theorem sv_11 : ∀ pc, pc < 21 → sx_okE 2 prog_4_method_2_code 3 false (some .int) pc (kt_Fore_holderBehind pc) = true := by decide +kernel
set_option maxRecDepth 100000 in
theorem sv_11_out : ∀ pc, 21 ≤ pc → (kt_Fore_holderBehind pc).1 = .nop := by
  intro pc h
  unfold kt_Fore_holderBehind
  split <;> first | rfl | omega
theorem sv_12 : ∀ pc, pc < 46 → sx_okE 2 prog_4_method_3_code 4 false (some .int) pc (kt_Fore_stepsUntilHolder pc) = true := by decide +kernel
set_option maxRecDepth 100000 in
theorem sv_12_out : ∀ pc, 46 ≤ pc → (kt_Fore_stepsUntilHolder pc).1 = .nop := by
  intro pc h
  unfold kt_Fore_stepsUntilHolder
  split <;> first | rfl | omega
theorem sv_13 : ∀ pc, pc < 55 → sx_okE 2 prog_4_method_4_code 5 false (some .int) pc (kt_Fore_holdersWithin pc) = true := by decide +kernel
set_option maxRecDepth 100000 in
theorem sv_13_out : ∀ pc, 55 ≤ pc → (kt_Fore_holdersWithin pc).1 = .nop := by
  intro pc h
  unfold kt_Fore_holdersWithin
  split <;> first | rfl | omega
theorem sv_14 : ∀ pc, pc < 77 → sx_okE 2 prog_4_method_5_code 5 false (some .int) pc (kt_Fore_repetition pc) = true := by decide +kernel
set_option maxRecDepth 100000 in
theorem sv_14_out : ∀ pc, 77 ≤ pc → (kt_Fore_repetition pc).1 = .nop := by
  intro pc h
  unfold kt_Fore_repetition
  split <;> first | rfl | omega
theorem sv_15 : ∀ pc, pc < 42 → sx_okE 2 prog_4_method_6_code 3 false (some .int) pc (kt_Fore_stepOfDone pc) = true := by decide +kernel
set_option maxRecDepth 100000 in
theorem sv_15_out : ∀ pc, 42 ≤ pc → (kt_Fore_stepOfDone pc).1 = .nop := by
  intro pc h
  unfold kt_Fore_stepOfDone
  split <;> first | rfl | omega
theorem sv_16 : ∀ pc, pc < 53 → sx_okE 2 prog_4_method_7_code 4 false (some .int) pc (kt_Fore_orderDoneFirst pc) = true := by decide +kernel
set_option maxRecDepth 100000 in
theorem sv_16_out : ∀ pc, 53 ≤ pc → (kt_Fore_orderDoneFirst pc).1 = .nop := by
  intro pc h
  unfold kt_Fore_orderDoneFirst
  split <;> first | rfl | omega
theorem sv_17 : ∀ pc, pc < 30 → sx_okE 2 prog_4_method_8_code 4 false (some .int) pc (kt_Fore_workWithin pc) = true := by decide +kernel
set_option maxRecDepth 100000 in
theorem sv_17_out : ∀ pc, 30 ≤ pc → (kt_Fore_workWithin pc).1 = .nop := by
  intro pc h
  unfold kt_Fore_workWithin
  split <;> first | rfl | omega
theorem sv_18 : ∀ pc, pc < 91 → sx_okE 2 prog_4_method_9_code 8 false (some .int) pc (kt_Fore_bestGift pc) = true := by decide +kernel
set_option maxRecDepth 100000 in
theorem sv_18_out : ∀ pc, 91 ≤ pc → (kt_Fore_bestGift pc).1 = .nop := by
  intro pc h
  unfold kt_Fore_bestGift
  split <;> first | rfl | omega
theorem sv_19 : ∀ pc, pc < 63 → sx_okE 2 prog_4_method_10_code 6 false (some .int) pc (kt_Fore_windsThatBring pc) = true := by decide +kernel
set_option maxRecDepth 100000 in
theorem sv_19_out : ∀ pc, 63 ≤ pc → (kt_Fore_windsThatBring pc).1 = .nop := by
  intro pc h
  unfold kt_Fore_windsThatBring
  split <;> first | rfl | omega
theorem sv_20 : ∀ pc, pc < 74 → sx_okE 2 prog_4_method_11_code 9 false (some .int) pc (kt_Fore_giftsThatGoAs pc) = true := by decide +kernel
set_option maxRecDepth 100000 in
theorem sv_20_out : ∀ pc, 74 ≤ pc → (kt_Fore_giftsThatGoAs pc).1 = .nop := by
  intro pc h
  unfold kt_Fore_giftsThatGoAs
  split <;> first | rfl | omega
theorem sv_21 : ∀ pc, pc < 64 → sx_okE 2 prog_4_method_12_code 8 false (some .int) pc (kt_Fore_keepsThatGoAs pc) = true := by decide +kernel
set_option maxRecDepth 100000 in
theorem sv_21_out : ∀ pc, 64 ≤ pc → (kt_Fore_keepsThatGoAs pc).1 = .nop := by
  intro pc h
  unfold kt_Fore_keepsThatGoAs
  split <;> first | rfl | omega
theorem sv_22 : ∀ pc, pc < 22 → sx_okE 2 prog_4_method_13_code 3 false (none) pc (kt_Fore_go pc) = true := by decide +kernel
set_option maxRecDepth 100000 in
theorem sv_22_out : ∀ pc, 22 ≤ pc → (kt_Fore_go pc).1 = .nop := by
  intro pc h
  unfold kt_Fore_go
  split <;> first | rfl | omega
theorem sv_23 : ∀ pc, pc < 39 → sx_okE 2 prog_4_method_14_code 4 false (some .int) pc (kt_Fore_stepsUntilDone pc) = true := by decide +kernel
set_option maxRecDepth 100000 in
theorem sv_23_out : ∀ pc, 39 ≤ pc → (kt_Fore_stepsUntilDone pc).1 = .nop := by
  intro pc h
  unfold kt_Fore_stepsUntilDone
  split <;> first | rfl | omega
theorem sv_24 : ∀ pc, pc < 57 → sx_okE 2 prog_4_method_15_code 5 false (some .boolean) pc (kt_Fore_goesAs pc) = true := by decide +kernel
set_option maxRecDepth 100000 in
theorem sv_24_out : ∀ pc, 57 ≤ pc → (kt_Fore_goesAs pc).1 = .nop := by
  intro pc h
  unfold kt_Fore_goesAs
  split <;> first | rfl | omega
theorem sv_25 : ∀ pc, pc < 59 → sx_okE 2 prog_4_method_16_code 4 false (some .long) pc (kt_Fore_markOfTrial pc) = true := by decide +kernel
set_option maxRecDepth 100000 in
theorem sv_25_out : ∀ pc, 59 ≤ pc → (kt_Fore_markOfTrial pc).1 = .nop := by
  intro pc h
  unfold kt_Fore_markOfTrial
  split <;> first | rfl | omega
theorem sv_26 : ∀ pc, pc < 33 → sx_okE 2 prog_4_method_17_code 3 false (some .int) pc (kt_Fore_earliestWithMarkOf pc) = true := by decide +kernel
set_option maxRecDepth 100000 in
theorem sv_26_out : ∀ pc, 33 ≤ pc → (kt_Fore_earliestWithMarkOf pc).1 = .nop := by
  intro pc h
  unfold kt_Fore_earliestWithMarkOf
  split <;> first | rfl | omega
theorem sv_27 : ∀ pc, pc < 36 → sx_okE 8 prog_5_method_2_code 2 false (some .int) pc (kt_Kinds_told pc) = true := by decide +kernel
set_option maxRecDepth 100000 in
theorem sv_27_out : ∀ pc, 36 ≤ pc → (kt_Kinds_told pc).1 = .nop := by
  intro pc h
  unfold kt_Kinds_told
  split <;> first | rfl | omega
theorem sv_28 : ∀ pc, pc < 31 → sx_okE 8 prog_5_method_3_code 4 false (some .boolean) pc (kt_Kinds_isOne pc) = true := by decide +kernel
set_option maxRecDepth 100000 in
theorem sv_28_out : ∀ pc, 31 ≤ pc → (kt_Kinds_isOne pc).1 = .nop := by
  intro pc h
  unfold kt_Kinds_isOne
  split <;> first | rfl | omega
theorem sv_29 : ∀ pc, pc < 52 → sx_okE 8 prog_5_method_4_code 5 false (some .int) pc (kt_Kinds_bodyOf pc) = true := by decide +kernel
set_option maxRecDepth 100000 in
theorem sv_29_out : ∀ pc, 52 ≤ pc → (kt_Kinds_bodyOf pc).1 = .nop := by
  intro pc h
  unfold kt_Kinds_bodyOf
  split <;> first | rfl | omega
theorem sv_30 : ∀ pc, pc < 23 → sx_okE 3 prog_6_method_1_code 1 true (none) pc (kt_Row_init pc) = true := by decide +kernel
set_option maxRecDepth 100000 in
theorem sv_30_out : ∀ pc, 23 ≤ pc → (kt_Row_init pc).1 = .nop := by
  intro pc h
  unfold kt_Row_init
  split <;> first | rfl | omega
theorem sv_31 : ∀ pc, pc < 14 → sx_okE 3 prog_6_method_2_code 1 false (some .boolean) pc (kt_Row_isMissing pc) = true := by decide +kernel
set_option maxRecDepth 100000 in
theorem sv_31_out : ∀ pc, 14 ≤ pc → (kt_Row_isMissing pc).1 = .nop := by
  intro pc h
  unfold kt_Row_isMissing
  split <;> first | rfl | omega
theorem sv_32 : ∀ pc, pc < 19 → sx_okE 3 prog_6_method_3_code 3 false (none) pc (kt_Row_lay pc) = true := by decide +kernel
set_option maxRecDepth 100000 in
theorem sv_32_out : ∀ pc, 19 ≤ pc → (kt_Row_lay pc).1 = .nop := by
  intro pc h
  unfold kt_Row_lay
  split <;> first | rfl | omega
theorem sv_33 : ∀ pc, pc < 12 → sx_okE 3 prog_6_method_4_code 2 false (some .int) pc (kt_Row_remove pc) = true := by decide +kernel
set_option maxRecDepth 100000 in
theorem sv_33_out : ∀ pc, 12 ≤ pc → (kt_Row_remove pc).1 = .nop := by
  intro pc h
  unfold kt_Row_remove
  split <;> first | rfl | omega
theorem sv_34 : ∀ pc, pc < 28 → sx_okE 3 prog_6_method_5_code 3 false (some .boolean) pc (kt_Row_hasPlaces pc) = true := by decide +kernel
set_option maxRecDepth 100000 in
theorem sv_34_out : ∀ pc, 28 ≤ pc → (kt_Row_hasPlaces pc).1 = .nop := by
  intro pc h
  unfold kt_Row_hasPlaces
  split <;> first | rfl | omega
theorem sv_35 : ∀ pc, pc < 18 → sx_okE 3 prog_6_method_6_code 3 false (some .int) pc (kt_Row_put pc) = true := by decide +kernel
set_option maxRecDepth 100000 in
theorem sv_35_out : ∀ pc, 18 ≤ pc → (kt_Row_put pc).1 = .nop := by
  intro pc h
  unfold kt_Row_put
  split <;> first | rfl | omega
theorem sv_36 : ∀ pc, pc < 40 → sx_okE 3 prog_6_method_7_code 2 false (some .int) pc (kt_Row_cutToLane pc) = true := by decide +kernel
set_option maxRecDepth 100000 in
theorem sv_36_out : ∀ pc, 40 ≤ pc → (kt_Row_cutToLane pc).1 = .nop := by
  intro pc h
  unfold kt_Row_cutToLane
  split <;> first | rfl | omega
theorem sv_37 : ∀ pc, pc < 13 → sx_okE 4 prog_7_method_1_code 1 true (none) pc (kt_Tape_init pc) = true := by decide +kernel
set_option maxRecDepth 100000 in
theorem sv_37_out : ∀ pc, 13 ≤ pc → (kt_Tape_init pc).1 = .nop := by
  intro pc h
  unfold kt_Tape_init
  split <;> first | rfl | omega
theorem sv_38 : ∀ pc, pc < 15 → sx_okE 4 prog_7_method_2_code 1 false (some .boolean) pc (kt_Tape_isFull pc) = true := by decide +kernel
set_option maxRecDepth 100000 in
theorem sv_38_out : ∀ pc, 15 ≤ pc → (kt_Tape_isFull pc).1 = .nop := by
  intro pc h
  unfold kt_Tape_isFull
  split <;> first | rfl | omega
theorem sv_39 : ∀ pc, pc < 25 → sx_okE 4 prog_7_method_3_code 2 false (some .int) pc (kt_Tape_add pc) = true := by decide +kernel
set_option maxRecDepth 100000 in
theorem sv_39_out : ∀ pc, 25 ≤ pc → (kt_Tape_add pc).1 = .nop := by
  intro pc h
  unfold kt_Tape_add
  split <;> first | rfl | omega
theorem sv_40 : ∀ pc, pc < 6 → sx_okE 4 prog_7_method_4_code 1 false (none) pc (kt_Tape_empty pc) = true := by decide +kernel
set_option maxRecDepth 100000 in
theorem sv_40_out : ∀ pc, 6 ≤ pc → (kt_Tape_empty pc).1 = .nop := by
  intro pc h
  unfold kt_Tape_empty
  split <;> first | rfl | omega
theorem sv_41 : ∀ pc, pc < 39 → sx_okE 4 prog_7_method_5_code 2 false (some .boolean) pc (kt_Tape_readInto pc) = true := by decide +kernel
set_option maxRecDepth 100000 in
theorem sv_41_out : ∀ pc, 39 ≤ pc → (kt_Tape_readInto pc).1 = .nop := by
  intro pc h
  unfold kt_Tape_readInto
  split <;> first | rfl | omega
theorem sv_42 : ∀ pc, pc < 35 → sx_okE 4 prog_7_method_6_code 2 false (some .boolean) pc (kt_Tape_readLaw pc) = true := by decide +kernel
set_option maxRecDepth 100000 in
theorem sv_42_out : ∀ pc, 35 ≤ pc → (kt_Tape_readLaw pc).1 = .nop := by
  intro pc h
  unfold kt_Tape_readLaw
  split <;> first | rfl | omega
theorem sv_43 : ∀ pc, pc < 57 → sx_okE 4 prog_7_method_7_code 4 false (some .boolean) pc (kt_Tape_readHeads pc) = true := by decide +kernel
set_option maxRecDepth 100000 in
theorem sv_43_out : ∀ pc, 57 ≤ pc → (kt_Tape_readHeads pc).1 = .nop := by
  intro pc h
  unfold kt_Tape_readHeads
  split <;> first | rfl | omega
theorem sv_44 : ∀ pc, pc < 80 → sx_okE 4 prog_7_method_8_code 4 false (some .boolean) pc (kt_Tape_readHead pc) = true := by decide +kernel
set_option maxRecDepth 100000 in
theorem sv_44_out : ∀ pc, 80 ≤ pc → (kt_Tape_readHead pc).1 = .nop := by
  intro pc h
  unfold kt_Tape_readHead
  split <;> first | rfl | omega
theorem sv_45 : ∀ pc, pc < 35 → sx_okE 4 prog_7_method_9_code 3 false (some .boolean) pc (kt_Tape_readOrders pc) = true := by decide +kernel
set_option maxRecDepth 100000 in
theorem sv_45_out : ∀ pc, 35 ≤ pc → (kt_Tape_readOrders pc).1 = .nop := by
  intro pc h
  unfold kt_Tape_readOrders
  split <;> first | rfl | omega
theorem sv_46 : ∀ pc, pc < 60 → sx_okE 4 prog_7_method_10_code 2 false (some .boolean) pc (kt_Tape_readOrder pc) = true := by decide +kernel
set_option maxRecDepth 100000 in
theorem sv_46_out : ∀ pc, 60 ≤ pc → (kt_Tape_readOrder pc).1 = .nop := by
  intro pc h
  unfold kt_Tape_readOrder
  split <;> first | rfl | omega
theorem sv_47 : ∀ pc, pc < 26 → sx_okE 4 prog_7_method_11_code 2 false (some .boolean) pc (kt_Tape_take pc) = true := by decide +kernel
set_option maxRecDepth 100000 in
theorem sv_47_out : ∀ pc, 26 ≤ pc → (kt_Tape_take pc).1 = .nop := by
  intro pc h
  unfold kt_Tape_take
  split <;> first | rfl | omega
theorem sv_48 : ∀ pc, pc < 97 → sx_okE 4 prog_7_method_12_code 6 false (some .boolean) pc (kt_Tape_takeNumber pc) = true := by decide +kernel
set_option maxRecDepth 100000 in
theorem sv_48_out : ∀ pc, 97 ≤ pc → (kt_Tape_takeNumber pc).1 = .nop := by
  intro pc h
  unfold kt_Tape_takeNumber
  split <;> first | rfl | omega
theorem sv_49 : ∀ pc, pc < 48 → sx_okE 4 prog_7_method_13_code 2 false (some .int) pc (kt_Tape_figuresAhead pc) = true := by decide +kernel
set_option maxRecDepth 100000 in
theorem sv_49_out : ∀ pc, 48 ≤ pc → (kt_Tape_figuresAhead pc).1 = .nop := by
  intro pc h
  unfold kt_Tape_figuresAhead
  split <;> first | rfl | omega
theorem sv_50 : ∀ pc, pc < 25 → sx_okE 4 prog_7_method_14_code 1 false (some .int) pc (kt_Tape_next pc) = true := by decide +kernel
set_option maxRecDepth 100000 in
theorem sv_50_out : ∀ pc, 25 ≤ pc → (kt_Tape_next pc).1 = .nop := by
  intro pc h
  unfold kt_Tape_next
  split <;> first | rfl | omega
theorem sv_51 : ∀ pc, pc < 15 → sx_okE 4 prog_7_method_15_code 2 false (some .boolean) pc (kt_Tape_refuse pc) = true := by decide +kernel
set_option maxRecDepth 100000 in
theorem sv_51_out : ∀ pc, 15 ≤ pc → (kt_Tape_refuse pc).1 = .nop := by
  intro pc h
  unfold kt_Tape_refuse
  split <;> first | rfl | omega
