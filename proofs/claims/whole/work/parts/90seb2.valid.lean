theorem sv_104 : ∀ pc, pc < 5 → sx_okE 6 prog_1_method_37_code 1 false (some .int) pc (kt_X_status pc) = true := by decide +kernel
set_option maxRecDepth 100000 in
theorem sv_104_out : ∀ pc, 5 ≤ pc → (kt_X_status pc).1 = .nop := by
  intro pc h
  unfold kt_X_status
  split <;> first | rfl | omega
theorem sv_105 : ∀ pc, pc < 11 → sx_okE 6 prog_1_method_38_code 2 false (some .int) pc (kt_X_finding pc) = true := by decide +kernel
set_option maxRecDepth 100000 in
theorem sv_105_out : ∀ pc, 11 ≤ pc → (kt_X_finding pc).1 = .nop := by
  intro pc h
  unfold kt_X_finding
  split <;> first | rfl | omega
theorem sv_106 : ∀ pc, pc < 7 → sx_okE 6 prog_1_method_39_code 2 false (some .int) pc (kt_X_noFinding pc) = true := by decide +kernel
set_option maxRecDepth 100000 in
theorem sv_106_out : ∀ pc, 7 ≤ pc → (kt_X_noFinding pc).1 = .nop := by
  intro pc h
  unfold kt_X_noFinding
  split <;> first | rfl | omega
theorem sv_107 : ∀ pc, pc < 34 → sx_okE 6 prog_1_method_40_code 4 false (some .int) pc (kt_X_findingOf pc) = true := by decide +kernel
set_option maxRecDepth 100000 in
theorem sv_107_out : ∀ pc, 34 ≤ pc → (kt_X_findingOf pc).1 = .nop := by
  intro pc h
  unfold kt_X_findingOf
  split <;> first | rfl | omega
theorem sv_108 : ∀ pc, pc < 33 → sx_okE 6 prog_1_method_41_code 3 false (some .int) pc (kt_X_rowsThere pc) = true := by decide +kernel
set_option maxRecDepth 100000 in
theorem sv_108_out : ∀ pc, 33 ≤ pc → (kt_X_rowsThere pc).1 = .nop := by
  intro pc h
  unfold kt_X_rowsThere
  split <;> first | rfl | omega
theorem sv_109 : ∀ pc, pc < 16 → sx_okE 6 prog_1_method_42_code 1 false (some .boolean) pc (kt_X_isNoTown pc) = true := by decide +kernel
set_option maxRecDepth 100000 in
theorem sv_109_out : ∀ pc, 16 ≤ pc → (kt_X_isNoTown pc).1 = .nop := by
  intro pc h
  unfold kt_X_isNoTown
  split <;> first | rfl | omega
theorem sv_110 : ∀ pc, pc < 8 → sx_okE 6 prog_1_method_43_code 1 false (some .boolean) pc (kt_X_isRow pc) = true := by decide +kernel
set_option maxRecDepth 100000 in
theorem sv_110_out : ∀ pc, 8 ≤ pc → (kt_X_isRow pc).1 = .nop := by
  intro pc h
  unfold kt_X_isRow
  split <;> first | rfl | omega
theorem sv_111 : ∀ pc, pc < 7 → sx_okE 6 prog_1_method_44_code 1 false (some .boolean) pc (kt_X_isImage pc) = true := by decide +kernel
set_option maxRecDepth 100000 in
theorem sv_111_out : ∀ pc, 7 ≤ pc → (kt_X_isImage pc).1 = .nop := by
  intro pc h
  unfold kt_X_isImage
  split <;> first | rfl | omega
theorem sv_112 : ∀ pc, pc < 8 → sx_okE 6 prog_1_method_45_code 1 false (some .boolean) pc (kt_X_isSpan pc) = true := by decide +kernel
set_option maxRecDepth 100000 in
theorem sv_112_out : ∀ pc, 8 ≤ pc → (kt_X_isSpan pc).1 = .nop := by
  intro pc h
  unfold kt_X_isSpan
  split <;> first | rfl | omega
theorem sv_113 : ∀ pc, pc < 16 → sx_okE 6 prog_1_method_46_code 3 false (some .boolean) pc (kt_X_isBetween pc) = true := by decide +kernel
set_option maxRecDepth 100000 in
theorem sv_113_out : ∀ pc, 16 ≤ pc → (kt_X_isBetween pc).1 = .nop := by
  intro pc h
  unfold kt_X_isBetween
  split <;> first | rfl | omega
theorem sv_114 : ∀ pc, pc < 31 → sx_okE 6 prog_1_method_47_code 4 false (some .int) pc (kt_X_inLowestTerms pc) = true := by decide +kernel
set_option maxRecDepth 100000 in
theorem sv_114_out : ∀ pc, 31 ≤ pc → (kt_X_inLowestTerms pc).1 = .nop := by
  intro pc h
  unfold kt_X_inLowestTerms
  split <;> first | rfl | omega
theorem sv_115 : ∀ pc, pc < 132 → sx_okE 7 prog_10_method_1_code 2 true (none) pc (kt_M_init pc) = true := by decide +kernel
set_option maxRecDepth 100000 in
theorem sv_115_out : ∀ pc, 132 ≤ pc → (kt_M_init pc).1 = .nop := by
  intro pc h
  unfold kt_M_init
  split <;> first | rfl | omega
theorem sv_116 : ∀ pc, pc < 19 → sx_okE 7 prog_10_method_2_code 6 false (some .boolean) pc (kt_M_in pc) = true := by decide +kernel
set_option maxRecDepth 100000 in
theorem sv_116_out : ∀ pc, 19 ≤ pc → (kt_M_in pc).1 = .nop := by
  intro pc h
  unfold kt_M_in
  split <;> first | rfl | omega
theorem sv_117 : ∀ pc, pc < 15 → sx_okE 7 prog_10_method_3_code 2 false (some .boolean) pc (kt_M_has pc) = true := by decide +kernel
set_option maxRecDepth 100000 in
theorem sv_117_out : ∀ pc, 15 ≤ pc → (kt_M_has pc).1 = .nop := by
  intro pc h
  unfold kt_M_has
  split <;> first | rfl | omega
theorem sv_118 : ∀ pc, pc < 10 → sx_okE 7 prog_10_method_4_code 2 false (some .int) pc (kt_M_find pc) = true := by decide +kernel
set_option maxRecDepth 100000 in
theorem sv_118_out : ∀ pc, 10 ≤ pc → (kt_M_find pc).1 = .nop := by
  intro pc h
  unfold kt_M_find
  split <;> first | rfl | omega
theorem sv_119 : ∀ pc, pc < 7 → sx_okE 7 prog_10_method_5_code 2 false (some .int) pc (kt_M_well pc) = true := by decide +kernel
set_option maxRecDepth 100000 in
theorem sv_119_out : ∀ pc, 7 ≤ pc → (kt_M_well pc).1 = .nop := by
  intro pc h
  unfold kt_M_well
  split <;> first | rfl | omega
theorem sv_120 : ∀ pc, pc < 10 → sx_okE 7 prog_10_method_6_code 1 false (some .boolean) pc (kt_M_isRow pc) = true := by decide +kernel
set_option maxRecDepth 100000 in
theorem sv_120_out : ∀ pc, 10 ≤ pc → (kt_M_isRow pc).1 = .nop := by
  intro pc h
  unfold kt_M_isRow
  split <;> first | rfl | omega
theorem sv_121 : ∀ pc, pc < 87 → sx_okE 7 prog_10_method_7_code 5 false (some .int) pc (kt_M_row pc) = true := by decide +kernel
set_option maxRecDepth 100000 in
theorem sv_121_out : ∀ pc, 87 ≤ pc → (kt_M_row pc).1 = .nop := by
  intro pc h
  unfold kt_M_row
  split <;> first | rfl | omega
theorem sv_122 : ∀ pc, pc < 31 → sx_okE 7 prog_10_method_8_code 2 false (some .int) pc (kt_M_asLane pc) = true := by decide +kernel
set_option maxRecDepth 100000 in
theorem sv_122_out : ∀ pc, 31 ≤ pc → (kt_M_asLane pc).1 = .nop := by
  intro pc h
  unfold kt_M_asLane
  split <;> first | rfl | omega
theorem sv_123 : ∀ pc, pc < 86 → sx_okE 7 prog_10_method_9_code 4 false (some .int) pc (kt_M_set pc) = true := by decide +kernel
set_option maxRecDepth 100000 in
theorem sv_123_out : ∀ pc, 86 ≤ pc → (kt_M_set pc).1 = .nop := by
  intro pc h
  unfold kt_M_set
  split <;> first | rfl | omega
theorem sv_124 : ∀ pc, pc < 196 → sx_okE 7 prog_10_method_10_code 7 false (some .int) pc (kt_M_copy pc) = true := by decide +kernel
set_option maxRecDepth 100000 in
theorem sv_124_out : ∀ pc, 196 ≤ pc → (kt_M_copy pc).1 = .nop := by
  intro pc h
  unfold kt_M_copy
  split <;> first | rfl | omega
theorem sv_125 : ∀ pc, pc < 45 → sx_okE 7 prog_10_method_11_code 3 false (some .int) pc (kt_M_drop pc) = true := by decide +kernel
set_option maxRecDepth 100000 in
theorem sv_125_out : ∀ pc, 45 ≤ pc → (kt_M_drop pc).1 = .nop := by
  intro pc h
  unfold kt_M_drop
  split <;> first | rfl | omega
theorem sv_126 : ∀ pc, pc < 52 → sx_okE 7 prog_10_method_12_code 2 false (some .int) pc (kt_M_feed pc) = true := by decide +kernel
set_option maxRecDepth 100000 in
theorem sv_126_out : ∀ pc, 52 ≤ pc → (kt_M_feed pc).1 = .nop := by
  intro pc h
  unfold kt_M_feed
  split <;> first | rfl | omega
theorem sv_127 : ∀ pc, pc < 230 → sx_okE 7 prog_10_method_13_code 1 false (none) pc (kt_M_nextToken pc) = true := by decide +kernel
set_option maxRecDepth 100000 in
theorem sv_127_out : ∀ pc, 230 ≤ pc → (kt_M_nextToken pc).1 = .nop := by
  intro pc h
  unfold kt_M_nextToken
  split <;> first | rfl | omega
theorem sv_128 : ∀ pc, pc < 7 → sx_okE 7 prog_10_method_14_code 2 false (some .boolean) pc (kt_M_faults pc) = true := by decide +kernel
set_option maxRecDepth 100000 in
theorem sv_128_out : ∀ pc, 7 ≤ pc → (kt_M_faults pc).1 = .nop := by
  intro pc h
  unfold kt_M_faults
  split <;> first | rfl | omega
theorem sv_129 : ∀ pc, pc < 22 → sx_okE 7 prog_10_method_15_code 2 false (some .boolean) pc (kt_M_isLetter pc) = true := by decide +kernel
set_option maxRecDepth 100000 in
theorem sv_129_out : ∀ pc, 22 ≤ pc → (kt_M_isLetter pc).1 = .nop := by
  intro pc h
  unfold kt_M_isLetter
  split <;> first | rfl | omega
theorem sv_130 : ∀ pc, pc < 20 → sx_okE 7 prog_10_method_16_code 2 false (some .boolean) pc (kt_M_takes pc) = true := by decide +kernel
set_option maxRecDepth 100000 in
theorem sv_130_out : ∀ pc, 20 ≤ pc → (kt_M_takes pc).1 = .nop := by
  intro pc h
  unfold kt_M_takes
  split <;> first | rfl | omega
theorem sv_131 : ∀ pc, pc < 62 → sx_okE 7 prog_10_method_17_code 5 false (some .boolean) pc (kt_M_takesNumber pc) = true := by decide +kernel
set_option maxRecDepth 100000 in
theorem sv_131_out : ∀ pc, 62 ≤ pc → (kt_M_takesNumber pc).1 = .nop := by
  intro pc h
  unfold kt_M_takesNumber
  split <;> first | rfl | omega
theorem sv_132 : ∀ pc, pc < 103 → sx_okE 7 prog_10_method_18_code 3 false (some .boolean) pc (kt_M_readHead pc) = true := by decide +kernel
set_option maxRecDepth 100000 in
theorem sv_132_out : ∀ pc, 103 ≤ pc → (kt_M_readHead pc).1 = .nop := by
  intro pc h
  unfold kt_M_readHead
  split <;> first | rfl | omega
theorem sv_133 : ∀ pc, pc < 66 → sx_okE 7 prog_10_method_19_code 3 false (some .boolean) pc (kt_M_readOrder pc) = true := by decide +kernel
set_option maxRecDepth 100000 in
theorem sv_133_out : ∀ pc, 66 ≤ pc → (kt_M_readOrder pc).1 = .nop := by
  intro pc h
  unfold kt_M_readOrder
  split <;> first | rfl | omega
theorem sv_134 : ∀ pc, pc < 191 → sx_okE 7 prog_10_method_20_code 3 false (some .boolean) pc (kt_M_readTown pc) = true := by decide +kernel
set_option maxRecDepth 100000 in
theorem sv_134_out : ∀ pc, 191 ≤ pc → (kt_M_readTown pc).1 = .nop := by
  intro pc h
  unfold kt_M_readTown
  split <;> first | rfl | omega
theorem sv_135 : ∀ pc, pc < 73 → sx_okE 7 prog_10_method_21_code 3 false (some .int) pc (kt_M_town pc) = true := by decide +kernel
set_option maxRecDepth 100000 in
theorem sv_135_out : ∀ pc, 73 ≤ pc → (kt_M_town pc).1 = .nop := by
  intro pc h
  unfold kt_M_town
  split <;> first | rfl | omega
theorem sv_136 : ∀ pc, pc < 5 → sx_okE 7 prog_10_method_22_code 1 false (some .int) pc (kt_M_fault pc) = true := by decide +kernel
set_option maxRecDepth 100000 in
theorem sv_136_out : ∀ pc, 5 ≤ pc → (kt_M_fault pc).1 = .nop := by
  intro pc h
  unfold kt_M_fault
  split <;> first | rfl | omega
theorem sv_137 : ∀ pc, pc < 16 → sx_okE 7 prog_10_method_23_code 2 false (some .boolean) pc (kt_M_isHead pc) = true := by decide +kernel
set_option maxRecDepth 100000 in
theorem sv_137_out : ∀ pc, 16 ≤ pc → (kt_M_isHead pc).1 = .nop := by
  intro pc h
  unfold kt_M_isHead
  split <;> first | rfl | omega
theorem sv_138 : ∀ pc, pc < 16 → sx_okE 7 prog_10_method_24_code 2 false (some .boolean) pc (kt_M_isOrder pc) = true := by decide +kernel
set_option maxRecDepth 100000 in
theorem sv_138_out : ∀ pc, 16 ≤ pc → (kt_M_isOrder pc).1 = .nop := by
  intro pc h
  unfold kt_M_isOrder
  split <;> first | rfl | omega
theorem sv_139 : ∀ pc, pc < 42 → sx_okE 7 prog_10_method_25_code 3 false (some .int) pc (kt_M_outMany pc) = true := by decide +kernel
set_option maxRecDepth 100000 in
theorem sv_139_out : ∀ pc, 42 ≤ pc → (kt_M_outMany pc).1 = .nop := by
  intro pc h
  unfold kt_M_outMany
  split <;> first | rfl | omega
theorem sv_140 : ∀ pc, pc < 125 → sx_okE 7 prog_10_method_26_code 4 false (none) pc (kt_M_work pc) = true := by decide +kernel
set_option maxRecDepth 100000 in
theorem sv_140_out : ∀ pc, 125 ≤ pc → (kt_M_work pc).1 = .nop := by
  intro pc h
  unfold kt_M_work
  split <;> first | rfl | omega
theorem sv_141 : ∀ pc, pc < 147 → sx_okE 7 prog_10_method_27_code 4 false (none) pc (kt_M_oneStep pc) = true := by decide +kernel
set_option maxRecDepth 100000 in
theorem sv_141_out : ∀ pc, 147 ≤ pc → (kt_M_oneStep pc).1 = .nop := by
  intro pc h
  unfold kt_M_oneStep
  split <;> first | rfl | omega
theorem sv_142 : ∀ pc, pc < 94 → sx_okE 7 prog_10_method_28_code 2 false (none) pc (kt_M_note pc) = true := by decide +kernel
set_option maxRecDepth 100000 in
theorem sv_142_out : ∀ pc, 94 ≤ pc → (kt_M_note pc).1 = .nop := by
  intro pc h
  unfold kt_M_note
  split <;> first | rfl | omega
theorem sv_143 : ∀ pc, pc < 70 → sx_okE 7 prog_10_method_29_code 3 false (some .int) pc (kt_M_steps pc) = true := by decide +kernel
set_option maxRecDepth 100000 in
theorem sv_143_out : ∀ pc, 70 ≤ pc → (kt_M_steps pc).1 = .nop := by
  intro pc h
  unfold kt_M_steps
  split <;> first | rfl | omega
theorem sv_144 : ∀ pc, pc < 45 → sx_okE 7 prog_10_method_30_code 3 false (some .int) pc (kt_M_wind pc) = true := by decide +kernel
set_option maxRecDepth 100000 in
theorem sv_144_out : ∀ pc, 45 ≤ pc → (kt_M_wind pc).1 = .nop := by
  intro pc h
  unfold kt_M_wind
  split <;> first | rfl | omega
theorem sv_145 : ∀ pc, pc < 15 → sx_okE 7 prog_10_method_31_code 2 false (none) pc (kt_M_giveTo pc) = true := by decide +kernel
set_option maxRecDepth 100000 in
theorem sv_145_out : ∀ pc, 15 ≤ pc → (kt_M_giveTo pc).1 = .nop := by
  intro pc h
  unfold kt_M_giveTo
  split <;> first | rfl | omega
theorem sv_146 : ∀ pc, pc < 29 → sx_okE 7 prog_10_method_32_code 3 false (some .int) pc (kt_M_give pc) = true := by decide +kernel
set_option maxRecDepth 100000 in
theorem sv_146_out : ∀ pc, 29 ≤ pc → (kt_M_give pc).1 = .nop := by
  intro pc h
  unfold kt_M_give
  split <;> first | rfl | omega
theorem sv_147 : ∀ pc, pc < 101 → sx_okE 7 prog_10_method_33_code 3 false (some .int) pc (kt_M_order pc) = true := by decide +kernel
set_option maxRecDepth 100000 in
theorem sv_147_out : ∀ pc, 101 ≤ pc → (kt_M_order pc).1 = .nop := by
  intro pc h
  unfold kt_M_order
  split <;> first | rfl | omega
theorem sv_148 : ∀ pc, pc < 50 → sx_okE 7 prog_10_method_34_code 2 false (some .int) pc (kt_M_back pc) = true := by decide +kernel
set_option maxRecDepth 100000 in
theorem sv_148_out : ∀ pc, 50 ≤ pc → (kt_M_back pc).1 = .nop := by
  intro pc h
  unfold kt_M_back
  split <;> first | rfl | omega
theorem sv_149 : ∀ pc, pc < 59 → sx_okE 7 prog_10_method_35_code 2 false (some .int) pc (kt_M_undo pc) = true := by decide +kernel
set_option maxRecDepth 100000 in
theorem sv_149_out : ∀ pc, 59 ≤ pc → (kt_M_undo pc).1 = .nop := by
  intro pc h
  unfold kt_M_undo
  split <;> first | rfl | omega
theorem sv_150 : ∀ pc, pc < 93 → sx_okE 7 prog_10_method_36_code 3 false (some .int) pc (kt_M_head pc) = true := by decide +kernel
set_option maxRecDepth 100000 in
theorem sv_150_out : ∀ pc, 93 ≤ pc → (kt_M_head pc).1 = .nop := by
  intro pc h
  unfold kt_M_head
  split <;> first | rfl | omega
theorem sv_151 : ∀ pc, pc < 66 → sx_okE 7 prog_10_method_37_code 3 false (some .int) pc (kt_M_orderHas pc) = true := by decide +kernel
set_option maxRecDepth 100000 in
theorem sv_151_out : ∀ pc, 66 ≤ pc → (kt_M_orderHas pc).1 = .nop := by
  intro pc h
  unfold kt_M_orderHas
  split <;> first | rfl | omega
theorem sv_152 : ∀ pc, pc < 71 → sx_okE 7 prog_10_method_38_code 2 false (some .int) pc (kt_M_hat pc) = true := by decide +kernel
set_option maxRecDepth 100000 in
theorem sv_152_out : ∀ pc, 71 ≤ pc → (kt_M_hat pc).1 = .nop := by
  intro pc h
  unfold kt_M_hat
  split <;> first | rfl | omega
theorem sv_153 : ∀ pc, pc < 27 → sx_okE 7 prog_10_method_39_code 2 false (none) pc (kt_M_putAside pc) = true := by decide +kernel
set_option maxRecDepth 100000 in
theorem sv_153_out : ∀ pc, 27 ≤ pc → (kt_M_putAside pc).1 = .nop := by
  intro pc h
  unfold kt_M_putAside
  split <;> first | rfl | omega
theorem sv_154 : ∀ pc, pc < 27 → sx_okE 7 prog_10_method_40_code 2 false (none) pc (kt_M_takeBack pc) = true := by decide +kernel
set_option maxRecDepth 100000 in
theorem sv_154_out : ∀ pc, 27 ≤ pc → (kt_M_takeBack pc).1 = .nop := by
  intro pc h
  unfold kt_M_takeBack
  split <;> first | rfl | omega
theorem sv_155 : ∀ pc, pc < 18 → sx_okE 7 prog_10_method_41_code 3 false (none) pc (kt_M_goOn pc) = true := by decide +kernel
set_option maxRecDepth 100000 in
theorem sv_155_out : ∀ pc, 18 ≤ pc → (kt_M_goOn pc).1 = .nop := by
  intro pc h
  unfold kt_M_goOn
  split <;> first | rfl | omega
