theorem sv_52 : ∀ pc, pc < 65 → sx_okE 5 prog_8_method_1_code 1 true (none) pc (kt_Town_init pc) = true := by decide +kernel
set_option maxRecDepth 100000 in
theorem sv_52_out : ∀ pc, 65 ≤ pc → (kt_Town_init pc).1 = .nop := by
  intro pc h
  unfold kt_Town_init
  split <;> first | rfl | omega
theorem sv_53 : ∀ pc, pc < 31 → sx_okE 5 prog_8_method_2_code 1 false (none) pc (kt_Town_clear pc) = true := by decide +kernel
set_option maxRecDepth 100000 in
theorem sv_53_out : ∀ pc, 31 ≤ pc → (kt_Town_clear pc).1 = .nop := by
  intro pc h
  unfold kt_Town_clear
  split <;> first | rfl | omega
theorem sv_54 : ∀ pc, pc < 165 → sx_okE 5 prog_8_method_3_code 2 false (none) pc (kt_Town_becomeLike pc) = true := by decide +kernel
set_option maxRecDepth 100000 in
theorem sv_54_out : ∀ pc, 165 ≤ pc → (kt_Town_becomeLike pc).1 = .nop := by
  intro pc h
  unfold kt_Town_becomeLike
  split <;> first | rfl | omega
theorem sv_55 : ∀ pc, pc < 51 → sx_okE 5 prog_8_method_4_code 4 false (none) pc (kt_Town_addHead pc) = true := by decide +kernel
set_option maxRecDepth 100000 in
theorem sv_55_out : ∀ pc, 51 ≤ pc → (kt_Town_addHead pc).1 = .nop := by
  intro pc h
  unfold kt_Town_addHead
  split <;> first | rfl | omega
theorem sv_56 : ∀ pc, pc < 46 → sx_okE 5 prog_8_method_5_code 3 false (some .int) pc (kt_Town_addOrder pc) = true := by decide +kernel
set_option maxRecDepth 100000 in
theorem sv_56_out : ∀ pc, 46 ≤ pc → (kt_Town_addOrder pc).1 = .nop := by
  intro pc h
  unfold kt_Town_addOrder
  split <;> first | rfl | omega
theorem sv_57 : ∀ pc, pc < 19 → sx_okE 5 prog_8_method_6_code 2 false (some .boolean) pc (kt_Town_hasHead pc) = true := by decide +kernel
set_option maxRecDepth 100000 in
theorem sv_57_out : ∀ pc, 19 ≤ pc → (kt_Town_hasHead pc).1 = .nop := by
  intro pc h
  unfold kt_Town_hasHead
  split <;> first | rfl | omega
theorem sv_58 : ∀ pc, pc < 19 → sx_okE 5 prog_8_method_7_code 2 false (some .boolean) pc (kt_Town_hasOrder pc) = true := by decide +kernel
set_option maxRecDepth 100000 in
theorem sv_58_out : ∀ pc, 19 ≤ pc → (kt_Town_hasOrder pc).1 = .nop := by
  intro pc h
  unfold kt_Town_hasOrder
  split <;> first | rfl | omega
theorem sv_59 : ∀ pc, pc < 33 → sx_okE 5 prog_8_method_8_code 4 false (some .int) pc (kt_Town_ordersThatAre pc) = true := by decide +kernel
set_option maxRecDepth 100000 in
theorem sv_59_out : ∀ pc, 33 ≤ pc → (kt_Town_ordersThatAre pc).1 = .nop := by
  intro pc h
  unfold kt_Town_ordersThatAre
  split <;> first | rfl | omega
theorem sv_60 : ∀ pc, pc < 11 → sx_okE 5 prog_8_method_9_code 2 false (none) pc (kt_Town_handTo pc) = true := by decide +kernel
set_option maxRecDepth 100000 in
theorem sv_60_out : ∀ pc, 11 ≤ pc → (kt_Town_handTo pc).1 = .nop := by
  intro pc h
  unfold kt_Town_handTo
  split <;> first | rfl | omega
theorem sv_61 : ∀ pc, pc < 65 → sx_okE 5 prog_8_method_10_code 2 false (some .int) pc (kt_Town_takeStep pc) = true := by decide +kernel
set_option maxRecDepth 100000 in
theorem sv_61_out : ∀ pc, 65 ≤ pc → (kt_Town_takeStep pc).1 = .nop := by
  intro pc h
  unfold kt_Town_takeStep
  split <;> first | rfl | omega
theorem sv_62 : ∀ pc, pc < 61 → sx_okE 5 prog_8_method_11_code 4 false (none) pc (kt_Town_revertStep pc) = true := by decide +kernel
set_option maxRecDepth 100000 in
theorem sv_62_out : ∀ pc, 61 ≤ pc → (kt_Town_revertStep pc).1 = .nop := by
  intro pc h
  unfold kt_Town_revertStep
  split <;> first | rfl | omega
theorem sv_63 : ∀ pc, pc < 46 → sx_okE 5 prog_8_method_12_code 2 false (some .int) pc (kt_Town_orderToWorkOn pc) = true := by decide +kernel
set_option maxRecDepth 100000 in
theorem sv_63_out : ∀ pc, 46 ≤ pc → (kt_Town_orderToWorkOn pc).1 = .nop := by
  intro pc h
  unfold kt_Town_orderToWorkOn
  split <;> first | rfl | omega
theorem sv_64 : ∀ pc, pc < 50 → sx_okE 5 prog_8_method_13_code 2 false (none) pc (kt_Town_workOn pc) = true := by decide +kernel
set_option maxRecDepth 100000 in
theorem sv_64_out : ∀ pc, 50 ≤ pc → (kt_Town_workOn pc).1 = .nop := by
  intro pc h
  unfold kt_Town_workOn
  split <;> first | rfl | omega
theorem sv_65 : ∀ pc, pc < 35 → sx_okE 5 prog_8_method_14_code 2 false (some .int) pc (kt_Town_patience pc) = true := by decide +kernel
set_option maxRecDepth 100000 in
theorem sv_65_out : ∀ pc, 35 ≤ pc → (kt_Town_patience pc).1 = .nop := by
  intro pc h
  unfold kt_Town_patience
  split <;> first | rfl | omega
theorem sv_66 : ∀ pc, pc < 55 → sx_okE 5 prog_8_method_15_code 1 false (some .int) pc (kt_Town_stride pc) = true := by decide +kernel
set_option maxRecDepth 100000 in
theorem sv_66_out : ∀ pc, 55 ≤ pc → (kt_Town_stride pc).1 = .nop := by
  intro pc h
  unfold kt_Town_stride
  split <;> first | rfl | omega
theorem sv_67 : ∀ pc, pc < 20 → sx_okE 5 prog_8_method_16_code 2 false (some .int) pc (kt_Town_seat pc) = true := by decide +kernel
set_option maxRecDepth 100000 in
theorem sv_67_out : ∀ pc, 20 ≤ pc → (kt_Town_seat pc).1 = .nop := by
  intro pc h
  unfold kt_Town_seat
  split <;> first | rfl | omega
theorem sv_68 : ∀ pc, pc < 158 → sx_okE 6 prog_1_method_1_code 2 true (none) pc (kt_X_init pc) = true := by decide +kernel
set_option maxRecDepth 100000 in
theorem sv_68_out : ∀ pc, 158 ≤ pc → (kt_X_init pc).1 = .nop := by
  intro pc h
  unfold kt_X_init
  split <;> first | rfl | omega
theorem sv_69 : ∀ pc, pc < 52 → sx_okE 6 prog_1_method_2_code 4 false (some .int) pc (kt_X_row pc) = true := by decide +kernel
set_option maxRecDepth 100000 in
theorem sv_69_out : ∀ pc, 52 ≤ pc → (kt_X_row pc).1 = .nop := by
  intro pc h
  unfold kt_X_row
  split <;> first | rfl | omega
theorem sv_70 : ∀ pc, pc < 47 → sx_okE 6 prog_1_method_3_code 5 false (some .int) pc (kt_X_set pc) = true := by decide +kernel
set_option maxRecDepth 100000 in
theorem sv_70_out : ∀ pc, 47 ≤ pc → (kt_X_set pc).1 = .nop := by
  intro pc h
  unfold kt_X_set
  split <;> first | rfl | omega
theorem sv_71 : ∀ pc, pc < 128 → sx_okE 6 prog_1_method_4_code 8 false (some .int) pc (kt_X_copy pc) = true := by decide +kernel
set_option maxRecDepth 100000 in
theorem sv_71_out : ∀ pc, 128 ≤ pc → (kt_X_copy pc).1 = .nop := by
  intro pc h
  unfold kt_X_copy
  split <;> first | rfl | omega
theorem sv_72 : ∀ pc, pc < 42 → sx_okE 6 prog_1_method_5_code 2 false (some .int) pc (kt_X_drop pc) = true := by decide +kernel
set_option maxRecDepth 100000 in
theorem sv_72_out : ∀ pc, 42 ≤ pc → (kt_X_drop pc).1 = .nop := by
  intro pc h
  unfold kt_X_drop
  split <;> first | rfl | omega
theorem sv_73 : ∀ pc, pc < 36 → sx_okE 6 prog_1_method_6_code 2 false (some .int) pc (kt_X_feed pc) = true := by decide +kernel
set_option maxRecDepth 100000 in
theorem sv_73_out : ∀ pc, 36 ≤ pc → (kt_X_feed pc).1 = .nop := by
  intro pc h
  unfold kt_X_feed
  split <;> first | rfl | omega
theorem sv_74 : ∀ pc, pc < 71 → sx_okE 6 prog_1_method_7_code 2 false (some .int) pc (kt_X_town pc) = true := by decide +kernel
set_option maxRecDepth 100000 in
theorem sv_74_out : ∀ pc, 71 ≤ pc → (kt_X_town pc).1 = .nop := by
  intro pc h
  unfold kt_X_town
  split <;> first | rfl | omega
theorem sv_75 : ∀ pc, pc < 5 → sx_okE 6 prog_1_method_8_code 1 false (some .int) pc (kt_X_fault pc) = true := by decide +kernel
set_option maxRecDepth 100000 in
theorem sv_75_out : ∀ pc, 5 ≤ pc → (kt_X_fault pc).1 = .nop := by
  intro pc h
  unfold kt_X_fault
  split <;> first | rfl | omega
theorem sv_76 : ∀ pc, pc < 97 → sx_okE 6 prog_1_method_9_code 5 false (some .int) pc (kt_X_steps pc) = true := by decide +kernel
set_option maxRecDepth 100000 in
theorem sv_76_out : ∀ pc, 97 ≤ pc → (kt_X_steps pc).1 = .nop := by
  intro pc h
  unfold kt_X_steps
  split <;> first | rfl | omega
theorem sv_77 : ∀ pc, pc < 63 → sx_okE 6 prog_1_method_10_code 3 false (some .int) pc (kt_X_wind pc) = true := by decide +kernel
set_option maxRecDepth 100000 in
theorem sv_77_out : ∀ pc, 63 ≤ pc → (kt_X_wind pc).1 = .nop := by
  intro pc h
  unfold kt_X_wind
  split <;> first | rfl | omega
theorem sv_78 : ∀ pc, pc < 49 → sx_okE 6 prog_1_method_11_code 3 false (some .int) pc (kt_X_give pc) = true := by decide +kernel
set_option maxRecDepth 100000 in
theorem sv_78_out : ∀ pc, 49 ≤ pc → (kt_X_give pc).1 = .nop := by
  intro pc h
  unfold kt_X_give
  split <;> first | rfl | omega
theorem sv_79 : ∀ pc, pc < 71 → sx_okE 6 prog_1_method_12_code 3 false (some .int) pc (kt_X_order pc) = true := by decide +kernel
set_option maxRecDepth 100000 in
theorem sv_79_out : ∀ pc, 71 ≤ pc → (kt_X_order pc).1 = .nop := by
  intro pc h
  unfold kt_X_order
  split <;> first | rfl | omega
theorem sv_80 : ∀ pc, pc < 72 → sx_okE 6 prog_1_method_13_code 2 false (some .int) pc (kt_X_back pc) = true := by decide +kernel
set_option maxRecDepth 100000 in
theorem sv_80_out : ∀ pc, 72 ≤ pc → (kt_X_back pc).1 = .nop := by
  intro pc h
  unfold kt_X_back
  split <;> first | rfl | omega
theorem sv_81 : ∀ pc, pc < 32 → sx_okE 6 prog_1_method_14_code 1 false (some .int) pc (kt_X_undo pc) = true := by decide +kernel
set_option maxRecDepth 100000 in
theorem sv_81_out : ∀ pc, 32 ≤ pc → (kt_X_undo pc).1 = .nop := by
  intro pc h
  unfold kt_X_undo
  split <;> first | rfl | omega
theorem sv_82 : ∀ pc, pc < 94 → sx_okE 6 prog_1_method_15_code 3 false (some .int) pc (kt_X_head pc) = true := by decide +kernel
set_option maxRecDepth 100000 in
theorem sv_82_out : ∀ pc, 94 ≤ pc → (kt_X_head pc).1 = .nop := by
  intro pc h
  unfold kt_X_head
  split <;> first | rfl | omega
theorem sv_83 : ∀ pc, pc < 73 → sx_okE 6 prog_1_method_16_code 3 false (some .int) pc (kt_X_orderHas pc) = true := by decide +kernel
set_option maxRecDepth 100000 in
theorem sv_83_out : ∀ pc, 73 ≤ pc → (kt_X_orderHas pc).1 = .nop := by
  intro pc h
  unfold kt_X_orderHas
  split <;> first | rfl | omega
theorem sv_84 : ∀ pc, pc < 75 → sx_okE 6 prog_1_method_17_code 2 false (some .int) pc (kt_X_hat pc) = true := by decide +kernel
set_option maxRecDepth 100000 in
theorem sv_84_out : ∀ pc, 75 ≤ pc → (kt_X_hat pc).1 = .nop := by
  intro pc h
  unfold kt_X_hat
  split <;> first | rfl | omega
theorem sv_85 : ∀ pc, pc < 35 → sx_okE 6 prog_1_method_18_code 2 false (some .int) pc (kt_X_who pc) = true := by decide +kernel
set_option maxRecDepth 100000 in
theorem sv_85_out : ∀ pc, 35 ≤ pc → (kt_X_who pc).1 = .nop := by
  intro pc h
  unfold kt_X_who
  split <;> first | rfl | omega
theorem sv_86 : ∀ pc, pc < 29 → sx_okE 6 prog_1_method_19_code 2 false (some .int) pc (kt_X_gets pc) = true := by decide +kernel
set_option maxRecDepth 100000 in
theorem sv_86_out : ∀ pc, 29 ≤ pc → (kt_X_gets pc).1 = .nop := by
  intro pc h
  unfold kt_X_gets
  split <;> first | rfl | omega
theorem sv_87 : ∀ pc, pc < 35 → sx_okE 6 prog_1_method_20_code 2 false (some .int) pc (kt_X_ever pc) = true := by decide +kernel
set_option maxRecDepth 100000 in
theorem sv_87_out : ∀ pc, 35 ≤ pc → (kt_X_ever pc).1 = .nop := by
  intro pc h
  unfold kt_X_ever
  split <;> first | rfl | omega
theorem sv_88 : ∀ pc, pc < 37 → sx_okE 6 prog_1_method_21_code 2 false (some .int) pc (kt_X_round pc) = true := by decide +kernel
set_option maxRecDepth 100000 in
theorem sv_88_out : ∀ pc, 37 ≤ pc → (kt_X_round pc).1 = .nop := by
  intro pc h
  unfold kt_X_round
  split <;> first | rfl | omega
theorem sv_89 : ∀ pc, pc < 29 → sx_okE 6 prog_1_method_22_code 2 false (some .int) pc (kt_X_done pc) = true := by decide +kernel
set_option maxRecDepth 100000 in
theorem sv_89_out : ∀ pc, 29 ≤ pc → (kt_X_done pc).1 = .nop := by
  intro pc h
  unfold kt_X_done
  split <;> first | rfl | omega
theorem sv_90 : ∀ pc, pc < 24 → sx_okE 6 prog_1_method_23_code 1 false (some .int) pc (kt_X_first pc) = true := by decide +kernel
set_option maxRecDepth 100000 in
theorem sv_90_out : ∀ pc, 24 ≤ pc → (kt_X_first pc).1 = .nop := by
  intro pc h
  unfold kt_X_first
  split <;> first | rfl | omega
theorem sv_91 : ∀ pc, pc < 35 → sx_okE 6 prog_1_method_24_code 3 false (some .int) pc (kt_X_by pc) = true := by decide +kernel
set_option maxRecDepth 100000 in
theorem sv_91_out : ∀ pc, 35 ≤ pc → (kt_X_by pc).1 = .nop := by
  intro pc h
  unfold kt_X_by
  split <;> first | rfl | omega
theorem sv_92 : ∀ pc, pc < 52 → sx_okE 6 prog_1_method_25_code 3 false (some .int) pc (kt_X_toGive pc) = true := by decide +kernel
set_option maxRecDepth 100000 in
theorem sv_92_out : ∀ pc, 52 ≤ pc → (kt_X_toGive pc).1 = .nop := by
  intro pc h
  unfold kt_X_toGive
  split <;> first | rfl | omega
theorem sv_93 : ∀ pc, pc < 35 → sx_okE 6 prog_1_method_26_code 3 false (some .int) pc (kt_X_winds pc) = true := by decide +kernel
set_option maxRecDepth 100000 in
theorem sv_93_out : ∀ pc, 35 ≤ pc → (kt_X_winds pc).1 = .nop := by
  intro pc h
  unfold kt_X_winds
  split <;> first | rfl | omega
theorem sv_94 : ∀ pc, pc < 78 → sx_okE 6 prog_1_method_27_code 6 false (some .int) pc (kt_X_lot pc) = true := by decide +kernel
set_option maxRecDepth 100000 in
theorem sv_94_out : ∀ pc, 78 ≤ pc → (kt_X_lot pc).1 = .nop := by
  intro pc h
  unfold kt_X_lot
  split <;> first | rfl | omega
theorem sv_95 : ∀ pc, pc < 87 → sx_okE 6 prog_1_method_28_code 6 false (some .int) pc (kt_X_seen pc) = true := by decide +kernel
set_option maxRecDepth 100000 in
theorem sv_95_out : ∀ pc, 87 ≤ pc → (kt_X_seen pc).1 = .nop := by
  intro pc h
  unfold kt_X_seen
  split <;> first | rfl | omega
theorem sv_96 : ∀ pc, pc < 80 → sx_okE 6 prog_1_method_29_code 6 false (some .int) pc (kt_X_keeps pc) = true := by decide +kernel
set_option maxRecDepth 100000 in
theorem sv_96_out : ∀ pc, 80 ≤ pc → (kt_X_keeps pc).1 = .nop := by
  intro pc h
  unfold kt_X_keeps
  split <;> first | rfl | omega
theorem sv_97 : ∀ pc, pc < 42 → sx_okE 6 prog_1_method_30_code 2 false (some .int) pc (kt_X_image pc) = true := by decide +kernel
set_option maxRecDepth 100000 in
theorem sv_97_out : ∀ pc, 42 ≤ pc → (kt_X_image pc).1 = .nop := by
  intro pc h
  unfold kt_X_image
  split <;> first | rfl | omega
theorem sv_98 : ∀ pc, pc < 44 → sx_okE 6 prog_1_method_31_code 2 false (some .int) pc (kt_X_restore pc) = true := by decide +kernel
set_option maxRecDepth 100000 in
theorem sv_98_out : ∀ pc, 44 ≤ pc → (kt_X_restore pc).1 = .nop := by
  intro pc h
  unfold kt_X_restore
  split <;> first | rfl | omega
theorem sv_99 : ∀ pc, pc < 26 → sx_okE 6 prog_1_method_32_code 2 false (some .int) pc (kt_X_kind pc) = true := by decide +kernel
set_option maxRecDepth 100000 in
theorem sv_99_out : ∀ pc, 26 ≤ pc → (kt_X_kind pc).1 = .nop := by
  intro pc h
  unfold kt_X_kind
  split <;> first | rfl | omega
theorem sv_100 : ∀ pc, pc < 51 → sx_okE 6 prog_1_method_33_code 3 false (some .int) pc (kt_X_as pc) = true := by decide +kernel
set_option maxRecDepth 100000 in
theorem sv_100_out : ∀ pc, 51 ≤ pc → (kt_X_as pc).1 = .nop := by
  intro pc h
  unfold kt_X_as
  split <;> first | rfl | omega
theorem sv_101 : ∀ pc, pc < 37 → sx_okE 6 prog_1_method_34_code 3 false (some .int) pc (kt_X_ask pc) = true := by decide +kernel
set_option maxRecDepth 100000 in
theorem sv_101_out : ∀ pc, 37 ≤ pc → (kt_X_ask pc).1 = .nop := by
  intro pc h
  unfold kt_X_ask
  split <;> first | rfl | omega
theorem sv_102 : ∀ pc, pc < 9 → sx_okE 6 prog_1_method_35_code 2 false (some .int) pc (kt_X_trace pc) = true := by decide +kernel
set_option maxRecDepth 100000 in
theorem sv_102_out : ∀ pc, 9 ≤ pc → (kt_X_trace pc).1 = .nop := by
  intro pc h
  unfold kt_X_trace
  split <;> first | rfl | omega
theorem sv_103 : ∀ pc, pc < 114 → sx_okE 6 prog_1_method_36_code 2 false (some .int) pc (kt_X_count pc) = true := by decide +kernel
set_option maxRecDepth 100000 in
theorem sv_103_out : ∀ pc, 114 ≤ pc → (kt_X_count pc).1 = .nop := by
  intro pc h
  unfold kt_X_count
  split <;> first | rfl | omega
