theorem sv_156 : ∀ pc, pc < 10 → sx_okE 7 prog_10_method_42_code 1 false (some .boolean) pc (kt_M_isFar pc) = true := by decide +kernel
set_option maxRecDepth 100000 in
theorem sv_156_out : ∀ pc, 10 ≤ pc → (kt_M_isFar pc).1 = .nop := by
  intro pc h
  unfold kt_M_isFar
  split <;> first | rfl | omega
theorem sv_157 : ∀ pc, pc < 42 → sx_okE 7 prog_10_method_43_code 3 false (some .int) pc (kt_M_who pc) = true := by decide +kernel
set_option maxRecDepth 100000 in
theorem sv_157_out : ∀ pc, 42 ≤ pc → (kt_M_who pc).1 = .nop := by
  intro pc h
  unfold kt_M_who
  split <;> first | rfl | omega
theorem sv_158 : ∀ pc, pc < 74 → sx_okE 7 prog_10_method_44_code 4 false (some .int) pc (kt_M_gets pc) = true := by decide +kernel
set_option maxRecDepth 100000 in
theorem sv_158_out : ∀ pc, 74 ≤ pc → (kt_M_gets pc).1 = .nop := by
  intro pc h
  unfold kt_M_gets
  split <;> first | rfl | omega
theorem sv_159 : ∀ pc, pc < 67 → sx_okE 7 prog_10_method_45_code 4 false (some .int) pc (kt_M_ever pc) = true := by decide +kernel
set_option maxRecDepth 100000 in
theorem sv_159_out : ∀ pc, 67 ≤ pc → (kt_M_ever pc).1 = .nop := by
  intro pc h
  unfold kt_M_ever
  split <;> first | rfl | omega
theorem sv_160 : ∀ pc, pc < 57 → sx_okE 7 prog_10_method_46_code 5 false (some .boolean) pc (kt_M_isAlike pc) = true := by decide +kernel
set_option maxRecDepth 100000 in
theorem sv_160_out : ∀ pc, 57 ≤ pc → (kt_M_isAlike pc).1 = .nop := by
  intro pc h
  unfold kt_M_isAlike
  split <;> first | rfl | omega
theorem sv_161 : ∀ pc, pc < 179 → sx_okE 7 prog_10_method_47_code 4 false (some .int) pc (kt_M_round pc) = true := by decide +kernel
set_option maxRecDepth 100000 in
theorem sv_161_out : ∀ pc, 179 ≤ pc → (kt_M_round pc).1 = .nop := by
  intro pc h
  unfold kt_M_round
  split <;> first | rfl | omega
theorem sv_162 : ∀ pc, pc < 64 → sx_okE 7 prog_10_method_48_code 4 false (some .int) pc (kt_M_doneIn pc) = true := by decide +kernel
set_option maxRecDepth 100000 in
theorem sv_162_out : ∀ pc, 64 ≤ pc → (kt_M_doneIn pc).1 = .nop := by
  intro pc h
  unfold kt_M_doneIn
  split <;> first | rfl | omega
theorem sv_163 : ∀ pc, pc < 62 → sx_okE 7 prog_10_method_49_code 3 false (some .int) pc (kt_M_done pc) = true := by decide +kernel
set_option maxRecDepth 100000 in
theorem sv_163_out : ∀ pc, 62 ≤ pc → (kt_M_done pc).1 = .nop := by
  intro pc h
  unfold kt_M_done
  split <;> first | rfl | omega
theorem sv_164 : ∀ pc, pc < 81 → sx_okE 7 prog_10_method_50_code 5 false (some .int) pc (kt_M_first pc) = true := by decide +kernel
set_option maxRecDepth 100000 in
theorem sv_164_out : ∀ pc, 81 ≤ pc → (kt_M_first pc).1 = .nop := by
  intro pc h
  unfold kt_M_first
  split <;> first | rfl | omega
theorem sv_165 : ∀ pc, pc < 57 → sx_okE 7 prog_10_method_51_code 5 false (some .int) pc (kt_M_by pc) = true := by decide +kernel
set_option maxRecDepth 100000 in
theorem sv_165_out : ∀ pc, 57 ≤ pc → (kt_M_by pc).1 = .nop := by
  intro pc h
  unfold kt_M_by
  split <;> first | rfl | omega
theorem sv_166 : ∀ pc, pc < 115 → sx_okE 7 prog_10_method_52_code 7 false (some .int) pc (kt_M_toGive pc) = true := by decide +kernel
set_option maxRecDepth 100000 in
theorem sv_166_out : ∀ pc, 115 ≤ pc → (kt_M_toGive pc).1 = .nop := by
  intro pc h
  unfold kt_M_toGive
  split <;> first | rfl | omega
theorem sv_167 : ∀ pc, pc < 62 → sx_okE 7 prog_10_method_53_code 5 false (some .int) pc (kt_M_windsBy pc) = true := by decide +kernel
set_option maxRecDepth 100000 in
theorem sv_167_out : ∀ pc, 62 ≤ pc → (kt_M_windsBy pc).1 = .nop := by
  intro pc h
  unfold kt_M_windsBy
  split <;> first | rfl | omega
theorem sv_168 : ∀ pc, pc < 27 → sx_okE 7 prog_10_method_54_code 3 false (some .int) pc (kt_M_winds pc) = true := by decide +kernel
set_option maxRecDepth 100000 in
theorem sv_168_out : ∀ pc, 27 ≤ pc → (kt_M_winds pc).1 = .nop := by
  intro pc h
  unfold kt_M_winds
  split <;> first | rfl | omega
theorem sv_169 : ∀ pc, pc < 125 → sx_okE 7 prog_10_method_55_code 6 false (some .int) pc (kt_M_lot pc) = true := by decide +kernel
set_option maxRecDepth 100000 in
theorem sv_169_out : ∀ pc, 125 ≤ pc → (kt_M_lot pc).1 = .nop := by
  intro pc h
  unfold kt_M_lot
  split <;> first | rfl | omega
theorem sv_170 : ∀ pc, pc < 43 → sx_okE 7 prog_10_method_56_code 4 false (some .int) pc (kt_M_lacks pc) = true := by decide +kernel
set_option maxRecDepth 100000 in
theorem sv_170_out : ∀ pc, 43 ≤ pc → (kt_M_lacks pc).1 = .nop := by
  intro pc h
  unfold kt_M_lacks
  split <;> first | rfl | omega
theorem sv_171 : ∀ pc, pc < 68 → sx_okE 7 prog_10_method_57_code 5 false (some .boolean) pc (kt_M_goesSo pc) = true := by decide +kernel
set_option maxRecDepth 100000 in
theorem sv_171_out : ∀ pc, 68 ≤ pc → (kt_M_goesSo pc).1 = .nop := by
  intro pc h
  unfold kt_M_goesSo
  split <;> first | rfl | omega
theorem sv_172 : ∀ pc, pc < 157 → sx_okE 7 prog_10_method_58_code 10 false (some .int) pc (kt_M_seen pc) = true := by decide +kernel
set_option maxRecDepth 100000 in
theorem sv_172_out : ∀ pc, 157 ≤ pc → (kt_M_seen pc).1 = .nop := by
  intro pc h
  unfold kt_M_seen
  split <;> first | rfl | omega
theorem sv_173 : ∀ pc, pc < 120 → sx_okE 7 prog_10_method_59_code 8 false (some .int) pc (kt_M_keeps pc) = true := by decide +kernel
set_option maxRecDepth 100000 in
theorem sv_173_out : ∀ pc, 120 ≤ pc → (kt_M_keeps pc).1 = .nop := by
  intro pc h
  unfold kt_M_keeps
  split <;> first | rfl | omega
theorem sv_174 : ∀ pc, pc < 63 → sx_okE 7 prog_10_method_60_code 3 false (some .int) pc (kt_M_image pc) = true := by decide +kernel
set_option maxRecDepth 100000 in
theorem sv_174_out : ∀ pc, 63 ≤ pc → (kt_M_image pc).1 = .nop := by
  intro pc h
  unfold kt_M_image
  split <;> first | rfl | omega
theorem sv_175 : ∀ pc, pc < 63 → sx_okE 7 prog_10_method_61_code 3 false (some .int) pc (kt_M_restore pc) = true := by decide +kernel
set_option maxRecDepth 100000 in
theorem sv_175_out : ∀ pc, 63 ≤ pc → (kt_M_restore pc).1 = .nop := by
  intro pc h
  unfold kt_M_restore
  split <;> first | rfl | omega
theorem sv_176 : ∀ pc, pc < 23 → sx_okE 7 prog_10_method_62_code 2 false (some .int) pc (kt_M_kind pc) = true := by decide +kernel
set_option maxRecDepth 100000 in
theorem sv_176_out : ∀ pc, 23 ≤ pc → (kt_M_kind pc).1 = .nop := by
  intro pc h
  unfold kt_M_kind
  split <;> first | rfl | omega
theorem sv_177 : ∀ pc, pc < 35 → sx_okE 7 prog_10_method_63_code 2 false (some .boolean) pc (kt_M_isKind pc) = true := by decide +kernel
set_option maxRecDepth 100000 in
theorem sv_177_out : ∀ pc, 35 ≤ pc → (kt_M_isKind pc).1 = .nop := by
  intro pc h
  unfold kt_M_isKind
  split <;> first | rfl | omega
theorem sv_178 : ∀ pc, pc < 53 → sx_okE 7 prog_10_method_64_code 3 false (some .int) pc (kt_M_as pc) = true := by decide +kernel
set_option maxRecDepth 100000 in
theorem sv_178_out : ∀ pc, 53 ≤ pc → (kt_M_as pc).1 = .nop := by
  intro pc h
  unfold kt_M_as
  split <;> first | rfl | omega
theorem sv_179 : ∀ pc, pc < 30 → sx_okE 7 prog_10_method_65_code 2 false (none) pc (kt_M_begin pc) = true := by decide +kernel
set_option maxRecDepth 100000 in
theorem sv_179_out : ∀ pc, 30 ≤ pc → (kt_M_begin pc).1 = .nop := by
  intro pc h
  unfold kt_M_begin
  split <;> first | rfl | omega
theorem sv_180 : ∀ pc, pc < 25 → sx_okE 7 prog_10_method_66_code 3 false (some .int) pc (kt_M_lent pc) = true := by decide +kernel
set_option maxRecDepth 100000 in
theorem sv_180_out : ∀ pc, 25 ≤ pc → (kt_M_lent pc).1 = .nop := by
  intro pc h
  unfold kt_M_lent
  split <;> first | rfl | omega
theorem sv_181 : ∀ pc, pc < 24 → sx_okE 7 prog_10_method_67_code 2 false (some .int) pc (kt_M_firmMark pc) = true := by decide +kernel
set_option maxRecDepth 100000 in
theorem sv_181_out : ∀ pc, 24 ≤ pc → (kt_M_firmMark pc).1 = .nop := by
  intro pc h
  unfold kt_M_firmMark
  split <;> first | rfl | omega
theorem sv_182 : ∀ pc, pc < 17 → sx_okE 7 prog_10_method_68_code 2 false (some .int) pc (kt_M_windySize pc) = true := by decide +kernel
set_option maxRecDepth 100000 in
theorem sv_182_out : ∀ pc, 17 ≤ pc → (kt_M_windySize pc).1 = .nop := by
  intro pc h
  unfold kt_M_windySize
  split <;> first | rfl | omega
theorem sv_183 : ∀ pc, pc < 33 → sx_okE 7 prog_10_method_69_code 2 false (some .int) pc (kt_M_sizeOfWindy pc) = true := by decide +kernel
set_option maxRecDepth 100000 in
theorem sv_183_out : ∀ pc, 33 ≤ pc → (kt_M_sizeOfWindy pc).1 = .nop := by
  intro pc h
  unfold kt_M_sizeOfWindy
  split <;> first | rfl | omega
theorem sv_184 : ∀ pc, pc < 83 → sx_okE 7 prog_10_method_70_code 4 false (some .int) pc (kt_M_markOf pc) = true := by decide +kernel
set_option maxRecDepth 100000 in
theorem sv_184_out : ∀ pc, 83 ≤ pc → (kt_M_markOf pc).1 = .nop := by
  intro pc h
  unfold kt_M_markOf
  split <;> first | rfl | omega
theorem sv_185 : ∀ pc, pc < 22 → sx_okE 7 prog_10_method_71_code 3 false (some .int) pc (kt_M_firmSize pc) = true := by decide +kernel
set_option maxRecDepth 100000 in
theorem sv_185_out : ∀ pc, 22 ≤ pc → (kt_M_firmSize pc).1 = .nop := by
  intro pc h
  unfold kt_M_firmSize
  split <;> first | rfl | omega
theorem sv_186 : ∀ pc, pc < 47 → sx_okE 7 prog_10_method_72_code 3 false (some .int) pc (kt_M_sizeOf pc) = true := by decide +kernel
set_option maxRecDepth 100000 in
theorem sv_186_out : ∀ pc, 47 ≤ pc → (kt_M_sizeOf pc).1 = .nop := by
  intro pc h
  unfold kt_M_sizeOf
  split <;> first | rfl | omega
theorem sv_187 : ∀ pc, pc < 44 → sx_okE 7 prog_10_method_73_code 3 false (some .int) pc (kt_M_ask pc) = true := by decide +kernel
set_option maxRecDepth 100000 in
theorem sv_187_out : ∀ pc, 44 ≤ pc → (kt_M_ask pc).1 = .nop := by
  intro pc h
  unfold kt_M_ask
  split <;> first | rfl | omega
theorem sv_188 : ∀ pc, pc < 28 → sx_okE 7 prog_10_method_74_code 2 false (some .int) pc (kt_M_trace pc) = true := by decide +kernel
set_option maxRecDepth 100000 in
theorem sv_188_out : ∀ pc, 28 ≤ pc → (kt_M_trace pc).1 = .nop := by
  intro pc h
  unfold kt_M_trace
  split <;> first | rfl | omega
theorem sv_189 : ∀ pc, pc < 167 → sx_okE 7 prog_10_method_75_code 5 false (some .int) pc (kt_M_count pc) = true := by decide +kernel
set_option maxRecDepth 100000 in
theorem sv_189_out : ∀ pc, 167 ≤ pc → (kt_M_count pc).1 = .nop := by
  intro pc h
  unfold kt_M_count
  split <;> first | rfl | omega
theorem sv_190 : ∀ pc, pc < 5 → sx_okE 7 prog_10_method_76_code 1 false (some .int) pc (kt_M_status pc) = true := by decide +kernel
set_option maxRecDepth 100000 in
theorem sv_190_out : ∀ pc, 5 ≤ pc → (kt_M_status pc).1 = .nop := by
  intro pc h
  unfold kt_M_status
  split <;> first | rfl | omega
theorem sv_191 : ∀ pc, pc < 53 → sx_okE 11 prog_12_method_49_code 1 false (some .int) pc (kt_Integer_bitCount pc) = true := by decide +kernel
set_option maxRecDepth 100000 in
theorem sv_191_out : ∀ pc, 53 ≤ pc → (kt_Integer_bitCount pc).1 = .nop := by
  intro pc h
  unfold kt_Integer_bitCount
  split <;> first | rfl | omega
theorem sv_192 : ∀ pc, pc < 20 → sx_okE 10 prog_13_method_50_code 3 false (some .int) pc (kt_Math_floorMod pc) = true := by decide +kernel
set_option maxRecDepth 100000 in
theorem sv_192_out : ∀ pc, 20 ≤ pc → (kt_Math_floorMod pc).1 = .nop := by
  intro pc h
  unfold kt_Math_floorMod
  split <;> first | rfl | omega
theorem sv_193 : ∀ pc, pc < 11 → sx_okE 10 prog_13_method_69_code 2 false (some .int) pc (kt_Math_min pc) = true := by decide +kernel
set_option maxRecDepth 100000 in
theorem sv_193_out : ∀ pc, 11 ≤ pc → (kt_Math_min pc).1 = .nop := by
  intro pc h
  unfold kt_Math_min
  split <;> first | rfl | omega
theorem sv_194 : ∀ pc, pc < 21 → sx_okE 12 prog_18_method_103_code 4 false (none) pc (kt_Arrays_fill pc) = true := by decide +kernel
set_option maxRecDepth 100000 in
theorem sv_194_out : ∀ pc, 21 ≤ pc → (kt_Arrays_fill pc).1 = .nop := by
  intro pc h
  unfold kt_Arrays_fill
  split <;> first | rfl | omega
theorem sv_195 : ∀ pc, pc < 11 → sx_okE 10 prog_13_method_65_code 2 false (some .int) pc (kt_Math_max pc) = true := by decide +kernel
set_option maxRecDepth 100000 in
theorem sv_195_out : ∀ pc, 11 ≤ pc → (kt_Math_max pc).1 = .nop := by
  intro pc h
  unfold kt_Math_max
  split <;> first | rfl | omega
theorem sv_196 : ∀ pc, pc < 11 → sx_okE 13 prog_14_method_54_code 1 false (some .int) pc (kt_Str_length pc) = true := by decide +kernel
set_option maxRecDepth 100000 in
theorem sv_196_out : ∀ pc, 11 ≤ pc → (kt_Str_length pc).1 = .nop := by
  intro pc h
  unfold kt_Str_length
  split <;> first | rfl | omega
theorem sv_197 : ∀ pc, pc < 7 → sx_okE 13 prog_14_method_79_code 2 false (some .int) pc (kt_Str_indexOf pc) = true := by decide +kernel
set_option maxRecDepth 100000 in
theorem sv_197_out : ∀ pc, 7 ≤ pc → (kt_Str_indexOf pc).1 = .nop := by
  intro pc h
  unfold kt_Str_indexOf
  split <;> first | rfl | omega
theorem sv_198 : ∀ pc, pc < 37 → sx_okE 13 prog_14_method_80_code 3 false (some .int) pc (kt_Str_indexOf2 pc) = true := by decide +kernel
set_option maxRecDepth 100000 in
theorem sv_198_out : ∀ pc, 37 ≤ pc → (kt_Str_indexOf2 pc).1 = .nop := by
  intro pc h
  unfold kt_Str_indexOf2
  split <;> first | rfl | omega
theorem sv_199 : ∀ pc, pc < 15 → sx_okE 13 prog_14_method_152_code 1 false (some .byte) pc (kt_Str_coder pc) = true := by decide +kernel
set_option maxRecDepth 100000 in
theorem sv_199_out : ∀ pc, 15 ≤ pc → (kt_Str_coder pc).1 = .nop := by
  intro pc h
  unfold kt_Str_coder
  split <;> first | rfl | omega
theorem sv_200 : ∀ pc, pc < 19 → sx_okE 13 prog_14_method_154_code 1 false (some .boolean) pc (kt_Str_isLatin1 pc) = true := by decide +kernel
set_option maxRecDepth 100000 in
theorem sv_200_out : ∀ pc, 19 ≤ pc → (kt_Str_isLatin1 pc).1 = .nop := by
  intro pc h
  unfold kt_Str_isLatin1
  split <;> first | rfl | omega
theorem sv_201 : ∀ pc, pc < 17 → sx_okE 14 prog_15_method_4_code 1 false (some .boolean) pc (kt_SL1_canEncode pc) = true := by decide +kernel
set_option maxRecDepth 100000 in
theorem sv_201_out : ∀ pc, 17 ≤ pc → (kt_SL1_canEncode pc).1 = .nop := by
  intro pc h
  unfold kt_SL1_canEncode
  split <;> first | rfl | omega
theorem sv_202 : ∀ pc, pc < 37 → sx_okE 14 prog_15_method_22_code 4 false (some .int) pc (kt_SL1_indexOf pc) = true := by decide +kernel
set_option maxRecDepth 100000 in
theorem sv_202_out : ∀ pc, 37 ≤ pc → (kt_SL1_indexOf pc).1 = .nop := by
  intro pc h
  unfold kt_SL1_indexOf
  split <;> first | rfl | omega
theorem sv_203 : ∀ pc, pc < 33 → sx_okE 14 prog_15_method_23_code 6 false (some .int) pc (kt_SL1_indexOfChar pc) = true := by decide +kernel
set_option maxRecDepth 100000 in
theorem sv_203_out : ∀ pc, 33 ≤ pc → (kt_SL1_indexOfChar pc).1 = .nop := by
  intro pc h
  unfold kt_SL1_indexOfChar
  split <;> first | rfl | omega
theorem sv_204_0 : ∀ pc, pc < 150 → sx_okE 9 code 4 false (some .boolean) (0 + pc) (kt_Law_law (0 + pc)) = true := by decide +kernel
theorem sv_204_150 : ∀ pc, pc < 150 → sx_okE 9 code 4 false (some .boolean) (150 + pc) (kt_Law_law (150 + pc)) = true := by decide +kernel
theorem sv_204_300 : ∀ pc, pc < 150 → sx_okE 9 code 4 false (some .boolean) (300 + pc) (kt_Law_law (300 + pc)) = true := by decide +kernel
theorem sv_204_450 : ∀ pc, pc < 150 → sx_okE 9 code 4 false (some .boolean) (450 + pc) (kt_Law_law (450 + pc)) = true := by decide +kernel
theorem sv_204_600 : ∀ pc, pc < 150 → sx_okE 9 code 4 false (some .boolean) (600 + pc) (kt_Law_law (600 + pc)) = true := by decide +kernel
theorem sv_204_750 : ∀ pc, pc < 150 → sx_okE 9 code 4 false (some .boolean) (750 + pc) (kt_Law_law (750 + pc)) = true := by decide +kernel
theorem sv_204_900 : ∀ pc, pc < 150 → sx_okE 9 code 4 false (some .boolean) (900 + pc) (kt_Law_law (900 + pc)) = true := by decide +kernel
theorem sv_204_1050 : ∀ pc, pc < 150 → sx_okE 9 code 4 false (some .boolean) (1050 + pc) (kt_Law_law (1050 + pc)) = true := by decide +kernel
theorem sv_204_1200 : ∀ pc, pc < 8 → sx_okE 9 code 4 false (some .boolean) (1200 + pc) (kt_Law_law (1200 + pc)) = true := by decide +kernel
theorem sv_204 : ∀ pc, pc < 1208 → sx_okE 9 code 4 false (some .boolean) pc (kt_Law_law pc) = true := by
  intro pc h
  rcases Nat.lt_or_ge pc 150 with q | q
  · have := sv_204_0 (pc - 0) (by omega); rwa [Nat.add_sub_cancel' (by omega)] at this
  rcases Nat.lt_or_ge pc 300 with q | q
  · have := sv_204_150 (pc - 150) (by omega); rwa [Nat.add_sub_cancel' (by omega)] at this
  rcases Nat.lt_or_ge pc 450 with q | q
  · have := sv_204_300 (pc - 300) (by omega); rwa [Nat.add_sub_cancel' (by omega)] at this
  rcases Nat.lt_or_ge pc 600 with q | q
  · have := sv_204_450 (pc - 450) (by omega); rwa [Nat.add_sub_cancel' (by omega)] at this
  rcases Nat.lt_or_ge pc 750 with q | q
  · have := sv_204_600 (pc - 600) (by omega); rwa [Nat.add_sub_cancel' (by omega)] at this
  rcases Nat.lt_or_ge pc 900 with q | q
  · have := sv_204_750 (pc - 750) (by omega); rwa [Nat.add_sub_cancel' (by omega)] at this
  rcases Nat.lt_or_ge pc 1050 with q | q
  · have := sv_204_900 (pc - 900) (by omega); rwa [Nat.add_sub_cancel' (by omega)] at this
  rcases Nat.lt_or_ge pc 1200 with q | q
  · have := sv_204_1050 (pc - 1050) (by omega); rwa [Nat.add_sub_cancel' (by omega)] at this
  have := sv_204_1200 (pc - 1200) (by omega); rwa [Nat.add_sub_cancel' (by omega)] at this
