/-! Tables: printed by wip/gen/gen.py. -/
abbrev F_1 : aF := (yX0_init, cX0_init, 1, none)
abbrev F_2 : aF := (yX0_drop, cX0_drop, 1, none)
abbrev F_3 : aF := (yX0_findFewest, cX0_findFewest, 4, (some .boolean))
abbrev F_4 : aF := (yX0_prepare, cX0_prepare, 5, none)
abbrev F_5 : aF := (yX0_findOne, cX0_findOne, 3, (some .boolean))
abbrev F_6 : aF := (yX0_findTwo, cX0_findTwo, 4, (some .boolean))
abbrev F_7 : aF := (yX0_told, cX0_told, 1, (some .int))
abbrev F_8 : aF := (yX0_isStraight, cX0_isStraight, 9, (some .boolean))
abbrev F_9 : aF := (yX0_moveBy, cX0_moveBy, 4, (some .int))
abbrev F_10 : aF := (yX1_init, cX1_init, 1, none)
abbrev F_11 : aF := (yX1_begin, cX1_begin, 3, none)
abbrev F_12 : aF := (yX1_copy, cX1_copy, 2, none)
abbrev F_13 : aF := (yX1_isWhole, cX1_isWhole, 1, (some .boolean))
abbrev F_14 : aF := (yX1_isNear, cX1_isNear, 2, (some .boolean))
abbrev F_15 : aF := (yX1_advance, cX1_advance, 13, none)
abbrev F_16 : aF := (yX1_prepare, cX1_prepare, 4, none)
abbrev F_17 : aF := (yX2_init, cX2_init, 1, none)
abbrev F_18 : aF := (yX2_goBothWays, cX2_goBothWays, 2, none)
abbrev F_19 : aF := (yX2_goThrough, cX2_goThrough, 6, (some .int))
abbrev F_20 : aF := (yX2_apartAt, cX2_apartAt, 5, (some .int))
abbrev F_21 : aF := (yX2_nearest, cX2_nearest, 6, (some .int))
abbrev F_22 : aF := (yX3_init, cX3_init, 1, none)
abbrev F_23 : aF := (yX3_begin, cX3_begin, 2, none)
abbrev F_24 : aF := (yX3_isDone, cX3_isDone, 2, (some .boolean))
abbrev F_25 : aF := (yX3_isLongEnough, cX3_isLongEnough, 1, (some .boolean))
abbrev F_26 : aF := (yX3_fateIn, cX3_fateIn, 2, (some .int))
abbrev F_27 : aF := (yX3_goOn, cX3_goOn, 3, none)
abbrev F_28 : aF := (yX3_hardInch, cX3_hardInch, 5, (some .int))
abbrev F_29 : aF := (yX3_offTrue, cX3_offTrue, 5, (some .int))
abbrev F_30 : aF := (yX3_offAt, cX3_offAt, 2, (some .int))
abbrev F_31 : aF := (yX3_worstInch, cX3_worstInch, 5, (some .int))
abbrev F_32 : aF := (yX3_sideAt, cX3_sideAt, 4, (some .int))
abbrev F_33 : aF := (yX3_widestPart, cX3_widestPart, 6, (some .int))
abbrev F_34 : aF := (yX3_moved, cX3_moved, 5, (some .int))
abbrev F_35 : aF := (yX3_strike, cX3_strike, 5, none)
abbrev F_36 : aF := (yX3_springBack, cX3_springBack, 4, (some .int))
abbrev F_37 : aF := (yX3_moveAway, cX3_moveAway, 4, none)
abbrev F_38 : aF := (yX4_init, cX4_init, 1, none)
abbrev F_39 : aF := (yX4_drop, cX4_drop, 1, none)
abbrev F_40 : aF := (yX4_add, cX4_add, 3, none)
abbrev F_41 : aF := (yX4_search, cX4_search, 5, none)
abbrev F_42 : aF := (yX4_tryCause, cX4_tryCause, 5, none)
abbrev F_43 : aF := (yX4_fits, cX4_fits, 7, (some .boolean))
abbrev F_44 : aF := (yX4_behindLastFelt, cX4_behindLastFelt, 3, (some .int))
abbrev F_45 : aF := (yX4_agrees, cX4_agrees, 4, (some .boolean))
abbrev F_46 : aF := (yX4_alike, cX4_alike, 3, (some .int))
abbrev F_47 : aF := (yX5_init, cX5_init, 1, none)
abbrev F_48 : aF := (yX5_empty, cX5_empty, 2, none)
abbrev F_49 : aF := (yX5_from, cX5_from, 5, none)
abbrev F_50 : aF := (yX6_init, cX6_init, 1, none)
abbrev F_51 : aF := (yX6_read, cX6_read, 3, (some .int))
abbrev F_52 : aF := (yX6_exchange, cX6_exchange, 3, (some (.object "DeepHole$Shop")))
abbrev F_53 : aF := (yX6_begin, cX6_begin, 2, none)
abbrev F_54 : aF := (yX6_blame, cX6_blame, 2, none)
abbrev F_55 : aF := (yX6_lookForLacks, cX6_lookForLacks, 1, none)
abbrev F_56 : aF := (yX6_readRod, cX6_readRod, 1, none)
abbrev F_57 : aF := (yX6_readLip, cX6_readLip, 1, none)
abbrev F_58 : aF := (yX6_readCosts, cX6_readCosts, 1, none)
abbrev F_59 : aF := (yX6_readWay, cX6_readWay, 5, none)
abbrev F_60 : aF := (yX6_readHard, cX6_readHard, 4, none)
abbrev F_61 : aF := (yX6_readFrom, cX6_readFrom, 6, none)
abbrev F_62 : aF := (yX6_readSeer, cX6_readSeer, 3, none)
abbrev F_63 : aF := (yX6_beginLine, cX6_beginLine, 3, none)
abbrev F_64 : aF := (yX6_takeWord, cX6_takeWord, 2, none)
abbrev F_65 : aF := (yX6_takeIfWord, cX6_takeIfWord, 2, (some .boolean))
abbrev F_66 : aF := (yX6_takeWhole, cX6_takeWhole, 4, (some .int))
abbrev F_67 : aF := (yX6_takeNumber, cX6_takeNumber, 4, (some .int))
abbrev F_68 : aF := (yX6_takeSide, cX6_takeSide, 2, (some .int))
abbrev F_69 : aF := (yX6_takeNewName, cX6_takeNewName, 2, none)
abbrev F_70 : aF := (yX6_takeWayName, cX6_takeWayName, 3, (some .int))
abbrev F_71 : aF := (yX6_isName, cX6_isName, 1, (some .boolean))
abbrev F_72 : aF := (yX6_findName, cX6_findName, 2, (some .int))
abbrev F_73 : aF := (yX7_init, cX7_init, 2, none)
abbrev F_74 : aF := (yX7_drop, cX7_drop, 1, none)
abbrev F_75 : aF := (yX7_countOdds, cX7_countOdds, 4, (some .int))
abbrev F_76 : aF := (yX7_oddsBehind, cX7_oddsBehind, 10, (some .int))
abbrev F_77 : aF := (yX7_findCheapest, cX7_findCheapest, 4, (some .boolean))
abbrev F_78 : aF := (yX7_feedsBehind, cX7_feedsBehind, 7, none)
abbrev F_79 : aF := (yX7_keep, cX7_keep, 4, none)
abbrev F_80 : aF := (yX8_init, cX8_init, 1, none)
abbrev F_81 : aF := (yX8_empty, cX8_empty, 2, none)
abbrev F_82 : aF := (yX8_hardAt, cX8_hardAt, 2, (some .int))
abbrev F_83 : aF := (yX8_sideAt, cX8_sideAt, 2, (some .int))
abbrev F_84 : aF := (yX8_spotOf, cX8_spotOf, 3, (some .int))
abbrev F_85 : aF := (yX8_wayAt, cX8_wayAt, 3, (some .int))
abbrev F_86 : aF := (yX8_feedFor, cX8_feedFor, 2, (some .int))
abbrev F_87 : aF := (yX9_init, cX9_init, 1, none)
abbrev F_88 : aF := (yX9_put, cX9_put, 3, none)
abbrev F_89 : aF := (yX9_begin, cX9_begin, 2, none)
abbrev F_90 : aF := (yX9_byteAt, cX9_byteAt, 2, (some .int))
abbrev F_91 : aF := (yX9_advance, cX9_advance, 2, none)
abbrev F_92 : aF := (yX9_kindOf, cX9_kindOf, 1, (some .int))
abbrev F_93 : aF := (yX9_isWord, cX9_isWord, 3, (some .boolean))
abbrev F_94 : aF := (yX9_isLike, cX9_isLike, 4, (some .boolean))
abbrev F_95 : aF := (yX10_init, cX10_init, 1, none)
abbrev F_96 : aF := (yX10_drop, cX10_drop, 2, none)
abbrev F_97 : aF := (yX10_tell, cX10_tell, 4, none)
abbrev F_98 : aF := (yX10_howMany, cX10_howMany, 3, (some .int))
abbrev F_99 : aF := (yX10_narrow, cX10_narrow, 5, (some .boolean))
abbrev F_100 : aF := (yX10_narrowThree, cX10_narrowThree, 7, none)
abbrev F_101 : aF := (yX10_cut, cX10_cut, 4, none)
abbrev F_102 : aF := (yX10_widestInch, cX10_widestInch, 4, (some .int))
abbrev F_103 : aF := (yX11_init, cX11_init, 1, none)
abbrev F_104 : aF := (yX11_feed, cX11_feed, 7, (some .int))
abbrev F_105 : aF := (yX11_shop, cX11_shop, 2, (some .int))
abbrev F_106 : aF := (yX11_fault, cX11_fault, 1, (some .int))
abbrev F_107 : aF := (yX11_where, cX11_where, 1, (some .int))
abbrev F_108 : aF := (yX11_rod, cX11_rod, 2, (some .boolean))
abbrev F_109 : aF := (yX11_drill, cX11_drill, 4, (some .int))
abbrev F_110 : aF := (yX11_inch, cX11_inch, 3, (some .int))
abbrev F_111 : aF := (yX11_state, cX11_state, 2, (some .int))
abbrev F_112 : aF := (yX11_odds, cX11_odds, 4, (some .int))
abbrev F_113 : aF := (yX11_rows, cX11_rows, 5, (some .int))
abbrev F_114 : aF := (yX11_cheapest, cX11_cheapest, 3, (some .int))
abbrev F_115 : aF := (yX11_feedAt, cX11_feedAt, 2, (some .int))
abbrev F_116 : aF := (yX11_met, cX11_met, 3, (some .int))
abbrev F_117 : aF := (yX11_meet, cX11_meet, 2, (some .int))
abbrev F_118 : aF := (yX11_felt, cX11_felt, 3, (some .int))
abbrev F_119 : aF := (yX11_forget, cX11_forget, 2, (some .int))
abbrev F_120 : aF := (yX11_causes, cX11_causes, 1, (some .int))
abbrev F_121 : aF := (yX11_cause, cX11_cause, 3, (some .int))
abbrev F_122 : aF := (yX11_sure, cX11_sure, 2, (some .int))
abbrev F_123 : aF := (yX11_off, cX11_off, 3, (some .int))
abbrev F_124 : aF := (yX11_ring, cX11_ring, 3, (some .int))
abbrev F_125 : aF := (yX11_sees, cX11_sees, 3, (some .int))
abbrev F_126 : aF := (yX11_blow, cX11_blow, 4, (some .int))
abbrev F_127 : aF := (yX11_fewest, cX11_fewest, 3, (some .int))
abbrev F_128 : aF := (yX11_stroke, cX11_stroke, 2, (some .int))
abbrev F_129 : aF := (yX11_heat, cX11_heat, 1, (some .int))
abbrev F_130 : aF := (yX11_about, cX11_about, 1, (some .int))
abbrev F_131 : aF := (yX11_wall, cX11_wall, 4, (some .boolean))
abbrev F_132 : aF := (yX11_clear, cX11_clear, 2, (some .int))
abbrev F_133 : aF := (yX11_lies, cX11_lies, 4, (some .int))
abbrev F_134 : aF := (yX11_next, cX11_next, 2, (some .int))
abbrev F_135 : aF := (yX11_led, cX11_led, 3, (some .int))
abbrev F_136 : aF := (yX11_trouble, cX11_trouble, 1, (some .int))
abbrev F_137 : aF := (yX11_accept, cX11_accept, 2, (some .int))
abbrev F_138 : aF := (yX11_refuse, cX11_refuse, 2, (some .int))
abbrev F_139 : aF := (yX11_refuseNowhere, cX11_refuseNowhere, 2, (some .int))
abbrev F_140 : aF := (yX11_isInchOfRod, cX11_isInchOfRod, 2, (some .boolean))
abbrev F_141 : aF := (yX11_oddsRefused, cX11_oddsRefused, 2, (some .int))
abbrev F_142 : aF := (yX11_sizeOf, cX11_sizeOf, 1, (some .int))
abbrev F_143 : aF := (yX11_divided, cX11_divided, 2, (some .int))
abbrev F_144 : aF := (yX11_sideX, cX11_sideX, 1, (some .int))
abbrev F_145 : aF := (yX11_sideY, cX11_sideY, 1, (some .int))
abbrev F_146 : aF := (yX12_init, cX12_init, 1, none)
abbrev F_147 : aF := (yX12_find, cX12_find, 4, (some .int))
abbrev F_148 : aF := (yX12_hardOf, cX12_hardOf, 3, (some .int))
abbrev F_149 : aF := (yX12_fromOf, cX12_fromOf, 3, (some .int))
abbrev F_150 : aF := (yX13_init, cX13_init, 1, none)
abbrev F_151 : aF := (yX13_refused, cX13_refused, 2, (some .int))
abbrev F_152 : aF := (yX13_lost, cX13_lost, 2, (some .int))
abbrev F_153 : aF := (yX13_denied, cX13_denied, 2, (some .boolean))
abbrev F_154 : aF := (yX13_done, cX13_done, 2, (some .int))
abbrev F_155 : aF := (yX13_granted, cX13_granted, 1, (some .boolean))
abbrev F_156 : aF := (yX13_in, cX13_in, 3, (some .boolean))
abbrev F_157 : aF := (yX13_plain, cX13_plain, 1, (some .int))
abbrev F_158 : aF := (yX13_byteAt, cX13_byteAt, 2, (some .int))
abbrev F_159 : aF := (yX13_isLetter, cX13_isLetter, 1, (some .boolean))
abbrev F_160 : aF := (yX13_isDigit, cX13_isDigit, 1, (some .boolean))
abbrev F_161 : aF := (yX13_wordOf, cX13_wordOf, 4, (some .long))
abbrev F_162 : aF := (yX13_goesOn, cX13_goesOn, 3, none)
abbrev F_163 : aF := (yX13_wrong, cX13_wrong, 2, none)
abbrev F_164 : aF := (yX13_wrongHere, cX13_wrongHere, 3, none)
abbrev F_165 : aF := (yX13_isWord, cX13_isWord, 2, (some .boolean))
abbrev F_166 : aF := (yX13_eats, cX13_eats, 3, (some .boolean))
abbrev F_167 : aF := (yX13_readWhole, cX13_readWhole, 4, (some .int))
abbrev F_168 : aF := (yX13_readPart, cX13_readPart, 4, (some .int))
abbrev F_169 : aF := (yX13_isName, cX13_isName, 1, (some .boolean))
abbrev F_170 : aF := (yX13_readShop, cX13_readShop, 2, none)
abbrev F_171 : aF := (yX13_readLine, cX13_readLine, 1, none)
abbrev F_172 : aF := (yX13_readRod, cX13_readRod, 4, none)
abbrev F_173 : aF := (yX13_readLip, cX13_readLip, 2, none)
abbrev F_174 : aF := (yX13_readCosts, cX13_readCosts, 2, none)
abbrev F_175 : aF := (yX13_readNamed, cX13_readNamed, 3, none)
abbrev F_176 : aF := (yX13_readWay, cX13_readWay, 4, none)
abbrev F_177 : aF := (yX13_readHard, cX13_readHard, 4, none)
abbrev F_178 : aF := (yX13_readFrom, cX13_readFrom, 4, none)
abbrev F_179 : aF := (yX13_readSeer, cX13_readSeer, 2, none)
abbrev F_180 : aF := (yX13_feed, cX13_feed, 8, (some .int))
abbrev F_181 : aF := (yX13_shop, cX13_shop, 3, (some .int))
abbrev F_182 : aF := (yX13_fault, cX13_fault, 1, (some .int))
abbrev F_183 : aF := (yX13_where, cX13_where, 1, (some .int))
abbrev F_184 : aF := (yX13_inchOf, cX13_inchOf, 3, (some .int))
abbrev F_185 : aF := (yX13_bores, cX13_bores, 15, none)
abbrev F_186 : aF := (yX13_tilts, cX13_tilts, 7, none)
abbrev F_187 : aF := (yX13_clears, cX13_clears, 2, none)
abbrev F_188 : aF := (yX13_begins, cX13_begins, 2, none)
abbrev F_189 : aF := (yX13_isThrough, cX13_isThrough, 1, (some .boolean))
abbrev F_190 : aF := (yX13_rod, cX13_rod, 2, (some .boolean))
abbrev F_191 : aF := (yX13_drill, cX13_drill, 4, (some .int))
abbrev F_192 : aF := (yX13_isDone, cX13_isDone, 2, (some .boolean))
abbrev F_193 : aF := (yX13_inch, cX13_inch, 3, (some .int))
abbrev F_194 : aF := (yX13_state, cX13_state, 2, (some .int))
abbrev F_195 : aF := (yX13_gets, cX13_gets, 6, (some .boolean))
abbrev F_196 : aF := (yX13_isNear, cX13_isNear, 2, (some .boolean))
abbrev F_197 : aF := (yX13_scattered, cX13_scattered, 2, (some .int))
abbrev F_198 : aF := (yX13_isSpan, cX13_isSpan, 3, (some .boolean))
abbrev F_199 : aF := (yX13_odds, cX13_odds, 9, (some .int))
abbrev F_200 : aF := (yX13_rows, cX13_rows, 2, (some .int))
abbrev F_201 : aF := (yX13_cheapest, cX13_cheapest, 6, (some .int))
abbrev F_202 : aF := (yX13_feedAt, cX13_feedAt, 2, (some .int))
abbrev F_203 : aF := (yX13_comes, cX13_comes, 3, (some .boolean))
abbrev F_204 : aF := (yX13_apart, cX13_apart, 4, (some .int))
abbrev F_205 : aF := (yX13_met, cX13_met, 3, (some .int))
abbrev F_206 : aF := (yX13_meet, cX13_meet, 5, (some .int))
abbrev F_207 : aF := (yX13_felt, cX13_felt, 3, (some .int))
abbrev F_208 : aF := (yX13_forget, cX13_forget, 2, (some .int))
abbrev F_209 : aF := (yX13_causesOf, cX13_causesOf, 1, (some .int))
abbrev F_210 : aF := (yX13_part, cX13_part, 5, (some .int))
abbrev F_211 : aF := (yX13_brings, cX13_brings, 5, (some .boolean))
abbrev F_212 : aF := (yX13_causes, cX13_causes, 3, (some .int))
abbrev F_213 : aF := (yX13_cause, cX13_cause, 5, (some .int))
abbrev F_214 : aF := (yX13_sure, cX13_sure, 5, (some .int))
abbrev F_215 : aF := (yX13_last, cX13_last, 1, (some .int))
abbrev F_216 : aF := (yX13_offOf, cX13_offOf, 3, (some .int))
abbrev F_217 : aF := (yX13_isShort, cX13_isShort, 1, (some .boolean))
abbrev F_218 : aF := (yX13_off, cX13_off, 3, (some .int))
abbrev F_219 : aF := (yX13_ringOf, cX13_ringOf, 2, (some .int))
abbrev F_220 : aF := (yX13_ringAt, cX13_ringAt, 3, (some .int))
abbrev F_221 : aF := (yX13_sideOf, cX13_sideOf, 4, (some .int))
abbrev F_222 : aF := (yX13_ring, cX13_ring, 3, (some .int))
abbrev F_223 : aF := (yX13_sees, cX13_sees, 2, (some .int))
abbrev F_224 : aF := (yX13_moved, cX13_moved, 4, (some .int))
abbrev F_225 : aF := (yX13_strikes, cX13_strikes, 9, none)
abbrev F_226 : aF := (yX13_blow, cX13_blow, 4, (some .int))
abbrev F_227 : aF := (yX13_isStraight, cX13_isStraight, 3, (some .boolean))
abbrev F_228 : aF := (yX13_straightens, cX13_straightens, 8, (some .boolean))
abbrev F_229 : aF := (yX13_strokesOf, cX13_strokesOf, 1, (some .int))
abbrev F_230 : aF := (yX13_secondDoes, cX13_secondDoes, 6, (some .boolean))
abbrev F_231 : aF := (yX13_fewest, cX13_fewest, 6, (some .int))
abbrev F_232 : aF := (yX13_stroke, cX13_stroke, 2, (some .int))
abbrev F_233 : aF := (yX13_heat, cX13_heat, 3, (some .int))
abbrev F_234 : aF := (yX13_about, cX13_about, 5, (some .int))
abbrev F_235 : aF := (yX13_wall, cX13_wall, 4, (some .boolean))
abbrev F_236 : aF := (yX13_clear, cX13_clear, 3, (some .int))
abbrev F_237 : aF := (yX13_narrowed, cX13_narrowed, 4, (some .boolean))
abbrev F_238 : aF := (yX13_spans, cX13_spans, 4, (some .boolean))
abbrev F_239 : aF := (yX13_lies, cX13_lies, 4, (some .int))
abbrev F_240 : aF := (yX13_next, cX13_next, 4, (some .int))
abbrev F_241 : aF := (yX13_led, cX13_led, 4, (some .int))
abbrev F_242 : aF := (yX13_trouble, cX13_trouble, 1, (some .int))
abbrev F_243 : aF := (yJ9_floorDiv_7cf53, cJ9_floorDiv_7cf53, 3, (some .int))
abbrev F_244 : aF := (yJ0_length_8abf5, cJ0_length_8abf5, 1, (some .int))
abbrev F_245 : aF := (yJ0_charAt_5068e, cJ0_charAt_5068e, 2, (some .char))
abbrev F_246 : aF := (yJ0_coder_7d493, cJ0_coder_7d493, 1, (some .byte))
abbrev F_247 : aF := (yJ0_isLatin1_aae02, cJ0_isLatin1_aae02, 1, (some .boolean))
abbrev F_248 : aF := (yJ0_checkIndex_df160, cJ0_checkIndex_df160, 2, none)
abbrev F_249 : aF := (yJ1_charAt_3b067, cJ1_charAt_3b067, 2, (some .char))
abbrev F_250 : aF := (yJ3_checkIndex_8e157, cJ3_checkIndex_8e157, 3, (some .int))
abbrev F_251 : aF := (yL_led, cL_led, 4, (some .int))
abbrev F_252 : aF := (yL_law, cL_law, 7, (some .boolean))
def cI : Nat → aF := fun n => (bif Nat.blt n 127 then (bif Nat.blt n 64 then (bif Nat.blt n 32 then (bif Nat.blt n 16 then (bif Nat.blt n 8 then (bif Nat.blt n 4 then (bif Nat.blt n 2 then F_1 else (bif Nat.blt n 3 then F_2 else F_3)) else (bif Nat.blt n 6 then (bif Nat.blt n 5 then F_4 else F_5) else (bif Nat.blt n 7 then F_6 else F_7))) else (bif Nat.blt n 12 then (bif Nat.blt n 10 then (bif Nat.blt n 9 then F_8 else F_9) else (bif Nat.blt n 11 then F_10 else F_11)) else (bif Nat.blt n 14 then (bif Nat.blt n 13 then F_12 else F_13) else (bif Nat.blt n 15 then F_14 else F_15)))) else (bif Nat.blt n 24 then (bif Nat.blt n 20 then (bif Nat.blt n 18 then (bif Nat.blt n 17 then F_16 else F_17) else (bif Nat.blt n 19 then F_18 else F_19)) else (bif Nat.blt n 22 then (bif Nat.blt n 21 then F_20 else F_21) else (bif Nat.blt n 23 then F_22 else F_23))) else (bif Nat.blt n 28 then (bif Nat.blt n 26 then (bif Nat.blt n 25 then F_24 else F_25) else (bif Nat.blt n 27 then F_26 else F_27)) else (bif Nat.blt n 30 then (bif Nat.blt n 29 then F_28 else F_29) else (bif Nat.blt n 31 then F_30 else F_31))))) else (bif Nat.blt n 48 then (bif Nat.blt n 40 then (bif Nat.blt n 36 then (bif Nat.blt n 34 then (bif Nat.blt n 33 then F_32 else F_33) else (bif Nat.blt n 35 then F_34 else F_35)) else (bif Nat.blt n 38 then (bif Nat.blt n 37 then F_36 else F_37) else (bif Nat.blt n 39 then F_38 else F_39))) else (bif Nat.blt n 44 then (bif Nat.blt n 42 then (bif Nat.blt n 41 then F_40 else F_41) else (bif Nat.blt n 43 then F_42 else F_43)) else (bif Nat.blt n 46 then (bif Nat.blt n 45 then F_44 else F_45) else (bif Nat.blt n 47 then F_46 else F_47)))) else (bif Nat.blt n 56 then (bif Nat.blt n 52 then (bif Nat.blt n 50 then (bif Nat.blt n 49 then F_48 else F_49) else (bif Nat.blt n 51 then F_50 else F_51)) else (bif Nat.blt n 54 then (bif Nat.blt n 53 then F_52 else F_53) else (bif Nat.blt n 55 then F_54 else F_55))) else (bif Nat.blt n 60 then (bif Nat.blt n 58 then (bif Nat.blt n 57 then F_56 else F_57) else (bif Nat.blt n 59 then F_58 else F_59)) else (bif Nat.blt n 62 then (bif Nat.blt n 61 then F_60 else F_61) else (bif Nat.blt n 63 then F_62 else F_63)))))) else (bif Nat.blt n 95 then (bif Nat.blt n 79 then (bif Nat.blt n 71 then (bif Nat.blt n 67 then (bif Nat.blt n 65 then F_64 else (bif Nat.blt n 66 then F_65 else F_66)) else (bif Nat.blt n 69 then (bif Nat.blt n 68 then F_67 else F_68) else (bif Nat.blt n 70 then F_69 else F_70))) else (bif Nat.blt n 75 then (bif Nat.blt n 73 then (bif Nat.blt n 72 then F_71 else F_72) else (bif Nat.blt n 74 then F_73 else F_74)) else (bif Nat.blt n 77 then (bif Nat.blt n 76 then F_75 else F_76) else (bif Nat.blt n 78 then F_77 else F_78)))) else (bif Nat.blt n 87 then (bif Nat.blt n 83 then (bif Nat.blt n 81 then (bif Nat.blt n 80 then F_79 else F_80) else (bif Nat.blt n 82 then F_81 else F_82)) else (bif Nat.blt n 85 then (bif Nat.blt n 84 then F_83 else F_84) else (bif Nat.blt n 86 then F_85 else F_86))) else (bif Nat.blt n 91 then (bif Nat.blt n 89 then (bif Nat.blt n 88 then F_87 else F_88) else (bif Nat.blt n 90 then F_89 else F_90)) else (bif Nat.blt n 93 then (bif Nat.blt n 92 then F_91 else F_92) else (bif Nat.blt n 94 then F_93 else F_94))))) else (bif Nat.blt n 111 then (bif Nat.blt n 103 then (bif Nat.blt n 99 then (bif Nat.blt n 97 then (bif Nat.blt n 96 then F_95 else F_96) else (bif Nat.blt n 98 then F_97 else F_98)) else (bif Nat.blt n 101 then (bif Nat.blt n 100 then F_99 else F_100) else (bif Nat.blt n 102 then F_101 else F_102))) else (bif Nat.blt n 107 then (bif Nat.blt n 105 then (bif Nat.blt n 104 then F_103 else F_104) else (bif Nat.blt n 106 then F_105 else F_106)) else (bif Nat.blt n 109 then (bif Nat.blt n 108 then F_107 else F_108) else (bif Nat.blt n 110 then F_109 else F_110)))) else (bif Nat.blt n 119 then (bif Nat.blt n 115 then (bif Nat.blt n 113 then (bif Nat.blt n 112 then F_111 else F_112) else (bif Nat.blt n 114 then F_113 else F_114)) else (bif Nat.blt n 117 then (bif Nat.blt n 116 then F_115 else F_116) else (bif Nat.blt n 118 then F_117 else F_118))) else (bif Nat.blt n 123 then (bif Nat.blt n 121 then (bif Nat.blt n 120 then F_119 else F_120) else (bif Nat.blt n 122 then F_121 else F_122)) else (bif Nat.blt n 125 then (bif Nat.blt n 124 then F_123 else F_124) else (bif Nat.blt n 126 then F_125 else F_126))))))) else (bif Nat.blt n 190 then (bif Nat.blt n 158 then (bif Nat.blt n 142 then (bif Nat.blt n 134 then (bif Nat.blt n 130 then (bif Nat.blt n 128 then F_127 else (bif Nat.blt n 129 then F_128 else F_129)) else (bif Nat.blt n 132 then (bif Nat.blt n 131 then F_130 else F_131) else (bif Nat.blt n 133 then F_132 else F_133))) else (bif Nat.blt n 138 then (bif Nat.blt n 136 then (bif Nat.blt n 135 then F_134 else F_135) else (bif Nat.blt n 137 then F_136 else F_137)) else (bif Nat.blt n 140 then (bif Nat.blt n 139 then F_138 else F_139) else (bif Nat.blt n 141 then F_140 else F_141)))) else (bif Nat.blt n 150 then (bif Nat.blt n 146 then (bif Nat.blt n 144 then (bif Nat.blt n 143 then F_142 else F_143) else (bif Nat.blt n 145 then F_144 else F_145)) else (bif Nat.blt n 148 then (bif Nat.blt n 147 then F_146 else F_147) else (bif Nat.blt n 149 then F_148 else F_149))) else (bif Nat.blt n 154 then (bif Nat.blt n 152 then (bif Nat.blt n 151 then F_150 else F_151) else (bif Nat.blt n 153 then F_152 else F_153)) else (bif Nat.blt n 156 then (bif Nat.blt n 155 then F_154 else F_155) else (bif Nat.blt n 157 then F_156 else F_157))))) else (bif Nat.blt n 174 then (bif Nat.blt n 166 then (bif Nat.blt n 162 then (bif Nat.blt n 160 then (bif Nat.blt n 159 then F_158 else F_159) else (bif Nat.blt n 161 then F_160 else F_161)) else (bif Nat.blt n 164 then (bif Nat.blt n 163 then F_162 else F_163) else (bif Nat.blt n 165 then F_164 else F_165))) else (bif Nat.blt n 170 then (bif Nat.blt n 168 then (bif Nat.blt n 167 then F_166 else F_167) else (bif Nat.blt n 169 then F_168 else F_169)) else (bif Nat.blt n 172 then (bif Nat.blt n 171 then F_170 else F_171) else (bif Nat.blt n 173 then F_172 else F_173)))) else (bif Nat.blt n 182 then (bif Nat.blt n 178 then (bif Nat.blt n 176 then (bif Nat.blt n 175 then F_174 else F_175) else (bif Nat.blt n 177 then F_176 else F_177)) else (bif Nat.blt n 180 then (bif Nat.blt n 179 then F_178 else F_179) else (bif Nat.blt n 181 then F_180 else F_181))) else (bif Nat.blt n 186 then (bif Nat.blt n 184 then (bif Nat.blt n 183 then F_182 else F_183) else (bif Nat.blt n 185 then F_184 else F_185)) else (bif Nat.blt n 188 then (bif Nat.blt n 187 then F_186 else F_187) else (bif Nat.blt n 189 then F_188 else F_189)))))) else (bif Nat.blt n 221 then (bif Nat.blt n 205 then (bif Nat.blt n 197 then (bif Nat.blt n 193 then (bif Nat.blt n 191 then F_190 else (bif Nat.blt n 192 then F_191 else F_192)) else (bif Nat.blt n 195 then (bif Nat.blt n 194 then F_193 else F_194) else (bif Nat.blt n 196 then F_195 else F_196))) else (bif Nat.blt n 201 then (bif Nat.blt n 199 then (bif Nat.blt n 198 then F_197 else F_198) else (bif Nat.blt n 200 then F_199 else F_200)) else (bif Nat.blt n 203 then (bif Nat.blt n 202 then F_201 else F_202) else (bif Nat.blt n 204 then F_203 else F_204)))) else (bif Nat.blt n 213 then (bif Nat.blt n 209 then (bif Nat.blt n 207 then (bif Nat.blt n 206 then F_205 else F_206) else (bif Nat.blt n 208 then F_207 else F_208)) else (bif Nat.blt n 211 then (bif Nat.blt n 210 then F_209 else F_210) else (bif Nat.blt n 212 then F_211 else F_212))) else (bif Nat.blt n 217 then (bif Nat.blt n 215 then (bif Nat.blt n 214 then F_213 else F_214) else (bif Nat.blt n 216 then F_215 else F_216)) else (bif Nat.blt n 219 then (bif Nat.blt n 218 then F_217 else F_218) else (bif Nat.blt n 220 then F_219 else F_220))))) else (bif Nat.blt n 237 then (bif Nat.blt n 229 then (bif Nat.blt n 225 then (bif Nat.blt n 223 then (bif Nat.blt n 222 then F_221 else F_222) else (bif Nat.blt n 224 then F_223 else F_224)) else (bif Nat.blt n 227 then (bif Nat.blt n 226 then F_225 else F_226) else (bif Nat.blt n 228 then F_227 else F_228))) else (bif Nat.blt n 233 then (bif Nat.blt n 231 then (bif Nat.blt n 230 then F_229 else F_230) else (bif Nat.blt n 232 then F_231 else F_232)) else (bif Nat.blt n 235 then (bif Nat.blt n 234 then F_233 else F_234) else (bif Nat.blt n 236 then F_235 else F_236)))) else (bif Nat.blt n 245 then (bif Nat.blt n 241 then (bif Nat.blt n 239 then (bif Nat.blt n 238 then F_237 else F_238) else (bif Nat.blt n 240 then F_239 else F_240)) else (bif Nat.blt n 243 then (bif Nat.blt n 242 then F_241 else F_242) else (bif Nat.blt n 244 then F_243 else F_244))) else (bif Nat.blt n 249 then (bif Nat.blt n 247 then (bif Nat.blt n 246 then F_245 else F_246) else (bif Nat.blt n 248 then F_247 else F_248)) else (bif Nat.blt n 251 then (bif Nat.blt n 250 then F_249 else F_250) else (bif Nat.blt n 252 then F_251 else F_252))))))))
theorem cI_1 : cI 1 = F_1 := rfl
theorem cI_2 : cI 2 = F_2 := rfl
theorem cI_3 : cI 3 = F_3 := rfl
theorem cI_4 : cI 4 = F_4 := rfl
theorem cI_5 : cI 5 = F_5 := rfl
theorem cI_6 : cI 6 = F_6 := rfl
theorem cI_7 : cI 7 = F_7 := rfl
theorem cI_8 : cI 8 = F_8 := rfl
theorem cI_9 : cI 9 = F_9 := rfl
theorem cI_10 : cI 10 = F_10 := rfl
theorem cI_11 : cI 11 = F_11 := rfl
theorem cI_12 : cI 12 = F_12 := rfl
theorem cI_13 : cI 13 = F_13 := rfl
theorem cI_14 : cI 14 = F_14 := rfl
theorem cI_15 : cI 15 = F_15 := rfl
theorem cI_16 : cI 16 = F_16 := rfl
theorem cI_17 : cI 17 = F_17 := rfl
theorem cI_18 : cI 18 = F_18 := rfl
theorem cI_19 : cI 19 = F_19 := rfl
theorem cI_20 : cI 20 = F_20 := rfl
theorem cI_21 : cI 21 = F_21 := rfl
theorem cI_22 : cI 22 = F_22 := rfl
theorem cI_23 : cI 23 = F_23 := rfl
theorem cI_24 : cI 24 = F_24 := rfl
theorem cI_25 : cI 25 = F_25 := rfl
theorem cI_26 : cI 26 = F_26 := rfl
theorem cI_27 : cI 27 = F_27 := rfl
theorem cI_28 : cI 28 = F_28 := rfl
theorem cI_29 : cI 29 = F_29 := rfl
theorem cI_30 : cI 30 = F_30 := rfl
theorem cI_31 : cI 31 = F_31 := rfl
theorem cI_32 : cI 32 = F_32 := rfl
theorem cI_33 : cI 33 = F_33 := rfl
theorem cI_34 : cI 34 = F_34 := rfl
theorem cI_35 : cI 35 = F_35 := rfl
theorem cI_36 : cI 36 = F_36 := rfl
theorem cI_37 : cI 37 = F_37 := rfl
theorem cI_38 : cI 38 = F_38 := rfl
theorem cI_39 : cI 39 = F_39 := rfl
theorem cI_40 : cI 40 = F_40 := rfl
theorem cI_41 : cI 41 = F_41 := rfl
theorem cI_42 : cI 42 = F_42 := rfl
theorem cI_43 : cI 43 = F_43 := rfl
theorem cI_44 : cI 44 = F_44 := rfl
theorem cI_45 : cI 45 = F_45 := rfl
theorem cI_46 : cI 46 = F_46 := rfl
theorem cI_47 : cI 47 = F_47 := rfl
theorem cI_48 : cI 48 = F_48 := rfl
theorem cI_49 : cI 49 = F_49 := rfl
theorem cI_50 : cI 50 = F_50 := rfl
theorem cI_51 : cI 51 = F_51 := rfl
theorem cI_52 : cI 52 = F_52 := rfl
theorem cI_53 : cI 53 = F_53 := rfl
theorem cI_54 : cI 54 = F_54 := rfl
theorem cI_55 : cI 55 = F_55 := rfl
theorem cI_56 : cI 56 = F_56 := rfl
theorem cI_57 : cI 57 = F_57 := rfl
theorem cI_58 : cI 58 = F_58 := rfl
theorem cI_59 : cI 59 = F_59 := rfl
theorem cI_60 : cI 60 = F_60 := rfl
theorem cI_61 : cI 61 = F_61 := rfl
theorem cI_62 : cI 62 = F_62 := rfl
theorem cI_63 : cI 63 = F_63 := rfl
theorem cI_64 : cI 64 = F_64 := rfl
theorem cI_65 : cI 65 = F_65 := rfl
theorem cI_66 : cI 66 = F_66 := rfl
theorem cI_67 : cI 67 = F_67 := rfl
theorem cI_68 : cI 68 = F_68 := rfl
theorem cI_69 : cI 69 = F_69 := rfl
theorem cI_70 : cI 70 = F_70 := rfl
theorem cI_71 : cI 71 = F_71 := rfl
theorem cI_72 : cI 72 = F_72 := rfl
theorem cI_73 : cI 73 = F_73 := rfl
theorem cI_74 : cI 74 = F_74 := rfl
theorem cI_75 : cI 75 = F_75 := rfl
theorem cI_76 : cI 76 = F_76 := rfl
theorem cI_77 : cI 77 = F_77 := rfl
theorem cI_78 : cI 78 = F_78 := rfl
theorem cI_79 : cI 79 = F_79 := rfl
theorem cI_80 : cI 80 = F_80 := rfl
theorem cI_81 : cI 81 = F_81 := rfl
theorem cI_82 : cI 82 = F_82 := rfl
theorem cI_83 : cI 83 = F_83 := rfl
theorem cI_84 : cI 84 = F_84 := rfl
theorem cI_85 : cI 85 = F_85 := rfl
theorem cI_86 : cI 86 = F_86 := rfl
theorem cI_87 : cI 87 = F_87 := rfl
theorem cI_88 : cI 88 = F_88 := rfl
theorem cI_89 : cI 89 = F_89 := rfl
theorem cI_90 : cI 90 = F_90 := rfl
theorem cI_91 : cI 91 = F_91 := rfl
theorem cI_92 : cI 92 = F_92 := rfl
theorem cI_93 : cI 93 = F_93 := rfl
theorem cI_94 : cI 94 = F_94 := rfl
theorem cI_95 : cI 95 = F_95 := rfl
theorem cI_96 : cI 96 = F_96 := rfl
theorem cI_97 : cI 97 = F_97 := rfl
theorem cI_98 : cI 98 = F_98 := rfl
theorem cI_99 : cI 99 = F_99 := rfl
theorem cI_100 : cI 100 = F_100 := rfl
theorem cI_101 : cI 101 = F_101 := rfl
theorem cI_102 : cI 102 = F_102 := rfl
theorem cI_103 : cI 103 = F_103 := rfl
theorem cI_104 : cI 104 = F_104 := rfl
theorem cI_105 : cI 105 = F_105 := rfl
theorem cI_106 : cI 106 = F_106 := rfl
theorem cI_107 : cI 107 = F_107 := rfl
theorem cI_108 : cI 108 = F_108 := rfl
theorem cI_109 : cI 109 = F_109 := rfl
theorem cI_110 : cI 110 = F_110 := rfl
theorem cI_111 : cI 111 = F_111 := rfl
theorem cI_112 : cI 112 = F_112 := rfl
theorem cI_113 : cI 113 = F_113 := rfl
theorem cI_114 : cI 114 = F_114 := rfl
theorem cI_115 : cI 115 = F_115 := rfl
theorem cI_116 : cI 116 = F_116 := rfl
theorem cI_117 : cI 117 = F_117 := rfl
theorem cI_118 : cI 118 = F_118 := rfl
theorem cI_119 : cI 119 = F_119 := rfl
theorem cI_120 : cI 120 = F_120 := rfl
theorem cI_121 : cI 121 = F_121 := rfl
theorem cI_122 : cI 122 = F_122 := rfl
theorem cI_123 : cI 123 = F_123 := rfl
theorem cI_124 : cI 124 = F_124 := rfl
theorem cI_125 : cI 125 = F_125 := rfl
theorem cI_126 : cI 126 = F_126 := rfl
theorem cI_127 : cI 127 = F_127 := rfl
theorem cI_128 : cI 128 = F_128 := rfl
theorem cI_129 : cI 129 = F_129 := rfl
theorem cI_130 : cI 130 = F_130 := rfl
theorem cI_131 : cI 131 = F_131 := rfl
theorem cI_132 : cI 132 = F_132 := rfl
theorem cI_133 : cI 133 = F_133 := rfl
theorem cI_134 : cI 134 = F_134 := rfl
theorem cI_135 : cI 135 = F_135 := rfl
theorem cI_136 : cI 136 = F_136 := rfl
theorem cI_137 : cI 137 = F_137 := rfl
theorem cI_138 : cI 138 = F_138 := rfl
theorem cI_139 : cI 139 = F_139 := rfl
theorem cI_140 : cI 140 = F_140 := rfl
theorem cI_141 : cI 141 = F_141 := rfl
theorem cI_142 : cI 142 = F_142 := rfl
theorem cI_143 : cI 143 = F_143 := rfl
theorem cI_144 : cI 144 = F_144 := rfl
theorem cI_145 : cI 145 = F_145 := rfl
theorem cI_146 : cI 146 = F_146 := rfl
theorem cI_147 : cI 147 = F_147 := rfl
theorem cI_148 : cI 148 = F_148 := rfl
theorem cI_149 : cI 149 = F_149 := rfl
theorem cI_150 : cI 150 = F_150 := rfl
theorem cI_151 : cI 151 = F_151 := rfl
theorem cI_152 : cI 152 = F_152 := rfl
theorem cI_153 : cI 153 = F_153 := rfl
theorem cI_154 : cI 154 = F_154 := rfl
theorem cI_155 : cI 155 = F_155 := rfl
theorem cI_156 : cI 156 = F_156 := rfl
theorem cI_157 : cI 157 = F_157 := rfl
theorem cI_158 : cI 158 = F_158 := rfl
theorem cI_159 : cI 159 = F_159 := rfl
theorem cI_160 : cI 160 = F_160 := rfl
theorem cI_161 : cI 161 = F_161 := rfl
theorem cI_162 : cI 162 = F_162 := rfl
theorem cI_163 : cI 163 = F_163 := rfl
theorem cI_164 : cI 164 = F_164 := rfl
theorem cI_165 : cI 165 = F_165 := rfl
theorem cI_166 : cI 166 = F_166 := rfl
theorem cI_167 : cI 167 = F_167 := rfl
theorem cI_168 : cI 168 = F_168 := rfl
theorem cI_169 : cI 169 = F_169 := rfl
theorem cI_170 : cI 170 = F_170 := rfl
theorem cI_171 : cI 171 = F_171 := rfl
theorem cI_172 : cI 172 = F_172 := rfl
theorem cI_173 : cI 173 = F_173 := rfl
theorem cI_174 : cI 174 = F_174 := rfl
theorem cI_175 : cI 175 = F_175 := rfl
theorem cI_176 : cI 176 = F_176 := rfl
theorem cI_177 : cI 177 = F_177 := rfl
theorem cI_178 : cI 178 = F_178 := rfl
theorem cI_179 : cI 179 = F_179 := rfl
theorem cI_180 : cI 180 = F_180 := rfl
theorem cI_181 : cI 181 = F_181 := rfl
theorem cI_182 : cI 182 = F_182 := rfl
theorem cI_183 : cI 183 = F_183 := rfl
theorem cI_184 : cI 184 = F_184 := rfl
theorem cI_185 : cI 185 = F_185 := rfl
theorem cI_186 : cI 186 = F_186 := rfl
theorem cI_187 : cI 187 = F_187 := rfl
theorem cI_188 : cI 188 = F_188 := rfl
theorem cI_189 : cI 189 = F_189 := rfl
theorem cI_190 : cI 190 = F_190 := rfl
theorem cI_191 : cI 191 = F_191 := rfl
theorem cI_192 : cI 192 = F_192 := rfl
theorem cI_193 : cI 193 = F_193 := rfl
theorem cI_194 : cI 194 = F_194 := rfl
theorem cI_195 : cI 195 = F_195 := rfl
theorem cI_196 : cI 196 = F_196 := rfl
theorem cI_197 : cI 197 = F_197 := rfl
theorem cI_198 : cI 198 = F_198 := rfl
theorem cI_199 : cI 199 = F_199 := rfl
theorem cI_200 : cI 200 = F_200 := rfl
theorem cI_201 : cI 201 = F_201 := rfl
theorem cI_202 : cI 202 = F_202 := rfl
theorem cI_203 : cI 203 = F_203 := rfl
theorem cI_204 : cI 204 = F_204 := rfl
theorem cI_205 : cI 205 = F_205 := rfl
theorem cI_206 : cI 206 = F_206 := rfl
theorem cI_207 : cI 207 = F_207 := rfl
theorem cI_208 : cI 208 = F_208 := rfl
theorem cI_209 : cI 209 = F_209 := rfl
theorem cI_210 : cI 210 = F_210 := rfl
theorem cI_211 : cI 211 = F_211 := rfl
theorem cI_212 : cI 212 = F_212 := rfl
theorem cI_213 : cI 213 = F_213 := rfl
theorem cI_214 : cI 214 = F_214 := rfl
theorem cI_215 : cI 215 = F_215 := rfl
theorem cI_216 : cI 216 = F_216 := rfl
theorem cI_217 : cI 217 = F_217 := rfl
theorem cI_218 : cI 218 = F_218 := rfl
theorem cI_219 : cI 219 = F_219 := rfl
theorem cI_220 : cI 220 = F_220 := rfl
theorem cI_221 : cI 221 = F_221 := rfl
theorem cI_222 : cI 222 = F_222 := rfl
theorem cI_223 : cI 223 = F_223 := rfl
theorem cI_224 : cI 224 = F_224 := rfl
theorem cI_225 : cI 225 = F_225 := rfl
theorem cI_226 : cI 226 = F_226 := rfl
theorem cI_227 : cI 227 = F_227 := rfl
theorem cI_228 : cI 228 = F_228 := rfl
theorem cI_229 : cI 229 = F_229 := rfl
theorem cI_230 : cI 230 = F_230 := rfl
theorem cI_231 : cI 231 = F_231 := rfl
theorem cI_232 : cI 232 = F_232 := rfl
theorem cI_233 : cI 233 = F_233 := rfl
theorem cI_234 : cI 234 = F_234 := rfl
theorem cI_235 : cI 235 = F_235 := rfl
theorem cI_236 : cI 236 = F_236 := rfl
theorem cI_237 : cI 237 = F_237 := rfl
theorem cI_238 : cI 238 = F_238 := rfl
theorem cI_239 : cI 239 = F_239 := rfl
theorem cI_240 : cI 240 = F_240 := rfl
theorem cI_241 : cI 241 = F_241 := rfl
theorem cI_242 : cI 242 = F_242 := rfl
theorem cI_243 : cI 243 = F_243 := rfl
theorem cI_244 : cI 244 = F_244 := rfl
theorem cI_245 : cI 245 = F_245 := rfl
theorem cI_246 : cI 246 = F_246 := rfl
theorem cI_247 : cI 247 = F_247 := rfl
theorem cI_248 : cI 248 = F_248 := rfl
theorem cI_249 : cI 249 = F_249 := rfl
theorem cI_250 : cI 250 = F_250 := rfl
theorem cI_251 : cI 251 = F_251 := rfl
theorem cI_252 : cI 252 = F_252 := rfl
theorem kl_0 : aKl 0 RX0 TX0 6 tyX0 := ⟨rfl, by decide, inT0, tyX0_ok, nmX0, rfl⟩
theorem df_0 : ∀ j t, (lyt 0)[j]? = some t → defaultValue (tyX0 j) = dfv t := dfl (by decide +kernel)
theorem kl_1 : aKl 1 RX1 TX1 10 tyX1 := ⟨rfl, by decide, inT1, tyX1_ok, nmX1, rfl⟩
theorem df_1 : ∀ j t, (lyt 1)[j]? = some t → defaultValue (tyX1 j) = dfv t := dfl (by decide +kernel)
theorem kl_2 : aKl 2 RX2 TX2 7 tyX2 := ⟨rfl, by decide, inT2, tyX2_ok, nmX2, rfl⟩
theorem df_2 : ∀ j t, (lyt 2)[j]? = some t → defaultValue (tyX2 j) = dfv t := dfl (by decide +kernel)
theorem kl_3 : aKl 3 RX3 TX3 7 tyX3 := ⟨rfl, by decide, inT3, tyX3_ok, nmX3, rfl⟩
theorem df_3 : ∀ j t, (lyt 3)[j]? = some t → defaultValue (tyX3 j) = dfv t := dfl (by decide +kernel)
theorem kl_4 : aKl 4 RX4 TX4 7 tyX4 := ⟨rfl, by decide, inT4, tyX4_ok, nmX4, rfl⟩
theorem df_4 : ∀ j t, (lyt 4)[j]? = some t → defaultValue (tyX4 j) = dfv t := dfl (by decide +kernel)
theorem kl_5 : aKl 5 RX5 TX5 4 tyX5 := ⟨rfl, by decide, inT5, tyX5_ok, nmX5, rfl⟩
theorem df_5 : ∀ j t, (lyt 5)[j]? = some t → defaultValue (tyX5 j) = dfv t := dfl (by decide +kernel)
theorem kl_6 : aKl 6 RX6 TX6 15 tyX6 := ⟨rfl, by decide, inT6, tyX6_ok, nmX6, rfl⟩
theorem df_6 : ∀ j t, (lyt 6)[j]? = some t → defaultValue (tyX6 j) = dfv t := dfl (by decide +kernel)
theorem kl_7 : aKl 7 RX7 TX7 7 tyX7 := ⟨rfl, by decide, inT7, tyX7_ok, nmX7, rfl⟩
theorem df_7 : ∀ j t, (lyt 7)[j]? = some t → defaultValue (tyX7 j) = dfv t := dfl (by decide +kernel)
theorem kl_8 : aKl 8 RX8 TX8 19 tyX8 := ⟨rfl, by decide, inT8, tyX8_ok, nmX8, rfl⟩
theorem df_8 : ∀ j t, (lyt 8)[j]? = some t → defaultValue (tyX8 j) = dfv t := dfl (by decide +kernel)
theorem kl_9 : aKl 9 RX9 TX9 8 tyX9 := ⟨rfl, by decide, inT9, tyX9_ok, nmX9, rfl⟩
theorem df_9 : ∀ j t, (lyt 9)[j]? = some t → defaultValue (tyX9 j) = dfv t := dfl (by decide +kernel)
theorem kl_10 : aKl 10 RX10 TX10 8 tyX10 := ⟨rfl, by decide, inT10, tyX10_ok, nmX10, rfl⟩
theorem df_10 : ∀ j t, (lyt 10)[j]? = some t → defaultValue (tyX10 j) = dfv t := dfl (by decide +kernel)
theorem kl_11 : aKl 11 RX11 TX11 12 tyX11 := ⟨rfl, by decide, inT11, tyX11_ok, nmX11, rfl⟩
theorem df_11 : ∀ j t, (lyt 11)[j]? = some t → defaultValue (tyX11 j) = dfv t := dfl (by decide +kernel)
theorem kl_12 : aKl 12 RX12 TX12 29 tyX12 := ⟨rfl, by decide, inT12, tyX12_ok, nmX12, rfl⟩
theorem df_12 : ∀ j t, (lyt 12)[j]? = some t → defaultValue (tyX12 j) = dfv t := dfl (by decide +kernel)
theorem kl_13 : aKl 13 RX13 TX13 43 tyX13 := ⟨rfl, by decide, inT13, tyX13_ok, nmX13, rfl⟩
theorem df_13 : ∀ j t, (lyt 13)[j]? = some t → defaultValue (tyX13 j) = dfv t := dfl (by decide +kernel)
theorem aY_1 : aY F_1 0 := ⟨tw_537, ⟨by decide, by decide, by decide +kernel⟩, by decide, tw_107, by decide⟩
theorem aY_2 : aY F_2 0 := ⟨tw_866, ⟨by decide, by decide, by decide +kernel⟩, by decide, tw_107, by decide⟩
theorem aY_3 : aY F_3 3 := ⟨tw_1161, ⟨by decide, by decide, by decide +kernel⟩, by decide, tw_107, by decide⟩
theorem aY_4 : aY F_4 2 := ⟨tw_1165, ⟨by decide, by decide, by decide +kernel⟩, by decide, tw_107, by decide⟩
theorem aY_5 : aY F_5 1 := ⟨tw_1182, ⟨by decide, by decide, by decide +kernel⟩, by decide, tw_107, by decide⟩
theorem aY_6 : aY F_6 1 := ⟨tw_1189, ⟨by decide, by decide, by decide +kernel⟩, by decide, tw_107, by decide⟩
theorem aY_7 : aY F_7 1 := ⟨tw_1185, ⟨by decide, by decide, by decide +kernel⟩, by decide, tw_107, by decide⟩
theorem aY_8 : aY F_8 3 := ⟨tw_1171, ⟨by decide, by decide, by decide +kernel⟩, by decide, tw_107, by decide⟩
theorem aY_9 : aY F_9 2 := ⟨tw_1175, ⟨by decide, by decide, by decide +kernel⟩, by decide, tw_107, by decide⟩
theorem aY_10 : aY F_10 0 := ⟨tw_355, ⟨by decide, by decide, by decide +kernel⟩, by decide, tw_103, by decide⟩
theorem aY_11 : aY F_11 2 := ⟨tw_854, ⟨by decide, by decide, by decide +kernel⟩, by decide, tw_103, by decide⟩
theorem aY_12 : aY F_12 1 := ⟨tw_980, ⟨by decide, by decide, by decide +kernel⟩, by decide, tw_103, by decide⟩
theorem aY_13 : aY F_13 0 := ⟨tw_898, ⟨by decide, by decide, by decide +kernel⟩, by decide, tw_103, by decide⟩
theorem aY_14 : aY F_14 1 := ⟨tw_987, ⟨by decide, by decide, by decide +kernel⟩, by decide, tw_103, by decide⟩
theorem aY_15 : aY F_15 5 := ⟨tw_914, ⟨by decide, by decide, by decide +kernel⟩, by decide, tw_103, by decide⟩
theorem aY_16 : aY F_16 2 := ⟨tw_918, ⟨by decide, by decide, by decide +kernel⟩, by decide, tw_103, by decide⟩
theorem aY_17 : aY F_17 0 := ⟨tw_473, ⟨by decide, by decide, by decide +kernel⟩, by decide, tw_105, by decide⟩
theorem aY_18 : aY F_18 1 := ⟨tw_1019, ⟨by decide, by decide, by decide +kernel⟩, by decide, tw_105, by decide⟩
theorem aY_19 : aY F_19 4 := ⟨tw_1023, ⟨by decide, by decide, by decide +kernel⟩, by decide, tw_105, by decide⟩
theorem aY_20 : aY F_20 2 := ⟨tw_1032, ⟨by decide, by decide, by decide +kernel⟩, by decide, tw_105, by decide⟩
theorem aY_21 : aY F_21 1 := ⟨tw_1041, ⟨by decide, by decide, by decide +kernel⟩, by decide, tw_105, by decide⟩
theorem aY_22 : aY F_22 0 := ⟨tw_349, ⟨by decide, by decide, by decide +kernel⟩, by decide, tw_102, by decide⟩
theorem aY_23 : aY F_23 1 := ⟨tw_850, ⟨by decide, by decide, by decide +kernel⟩, by decide, tw_102, by decide⟩
theorem aY_24 : aY F_24 1 := ⟨tw_950, ⟨by decide, by decide, by decide +kernel⟩, by decide, tw_102, by decide⟩
theorem aY_25 : aY F_25 0 := ⟨tw_1106, ⟨by decide, by decide, by decide +kernel⟩, by decide, tw_102, by decide⟩
theorem aY_26 : aY F_26 1 := ⟨tw_894, ⟨by decide, by decide, by decide +kernel⟩, by decide, tw_102, by decide⟩
theorem aY_27 : aY F_27 1 := ⟨tw_902, ⟨by decide, by decide, by decide +kernel⟩, by decide, tw_102, by decide⟩
theorem aY_28 : aY F_28 2 := ⟨tw_1269, ⟨by decide, by decide, by decide +kernel⟩, by decide, tw_102, by decide⟩
theorem aY_29 : aY F_29 2 := ⟨tw_1110, ⟨by decide, by decide, by decide +kernel⟩, by decide, tw_102, by decide⟩
theorem aY_30 : aY F_30 1 := ⟨tw_1123, ⟨by decide, by decide, by decide +kernel⟩, by decide, tw_102, by decide⟩
theorem aY_31 : aY F_31 0 := ⟨tw_1119, ⟨by decide, by decide, by decide +kernel⟩, by decide, tw_102, by decide⟩
theorem aY_32 : aY F_32 1 := ⟨tw_1130, ⟨by decide, by decide, by decide +kernel⟩, by decide, tw_102, by decide⟩
theorem aY_33 : aY F_33 0 := ⟨tw_1209, ⟨by decide, by decide, by decide +kernel⟩, by decide, tw_102, by decide⟩
theorem aY_34 : aY F_34 3 := ⟨tw_1146, ⟨by decide, by decide, by decide +kernel⟩, by decide, tw_102, by decide⟩
theorem aY_35 : aY F_35 3 := ⟨tw_1142, ⟨by decide, by decide, by decide +kernel⟩, by decide, tw_102, by decide⟩
theorem aY_36 : aY F_36 0 := ⟨tw_1201, ⟨by decide, by decide, by decide +kernel⟩, by decide, tw_102, by decide⟩
theorem aY_37 : aY F_37 3 := ⟨tw_1151, ⟨by decide, by decide, by decide +kernel⟩, by decide, tw_102, by decide⟩
theorem aY_38 : aY F_38 0 := ⟨tw_503, ⟨by decide, by decide, by decide +kernel⟩, by decide, tw_106, by decide⟩
theorem aY_39 : aY F_39 0 := ⟨tw_862, ⟨by decide, by decide, by decide +kernel⟩, by decide, tw_106, by decide⟩
theorem aY_40 : aY F_40 2 := ⟨tw_1054, ⟨by decide, by decide, by decide +kernel⟩, by decide, tw_106, by decide⟩
theorem aY_41 : aY F_41 1 := ⟨tw_1066, ⟨by decide, by decide, by decide +kernel⟩, by decide, tw_106, by decide⟩
theorem aY_42 : aY F_42 4 := ⟨tw_1070, ⟨by decide, by decide, by decide +kernel⟩, by decide, tw_106, by decide⟩
theorem aY_43 : aY F_43 4 := ⟨tw_1074, ⟨by decide, by decide, by decide +kernel⟩, by decide, tw_106, by decide⟩
theorem aY_44 : aY F_44 0 := ⟨tw_1079, ⟨by decide, by decide, by decide +kernel⟩, by decide, tw_106, by decide⟩
theorem aY_45 : aY F_45 2 := ⟨tw_1086, ⟨by decide, by decide, by decide +kernel⟩, by decide, tw_106, by decide⟩
theorem aY_46 : aY F_46 1 := ⟨tw_1098, ⟨by decide, by decide, by decide +kernel⟩, by decide, tw_106, by decide⟩
theorem aY_47 : aY F_47 0 := ⟨tw_181, ⟨by decide, by decide, by decide +kernel⟩, by decide, tw_101, by decide⟩
theorem aY_48 : aY F_48 0 := ⟨tw_664, ⟨by decide, by decide, by decide +kernel⟩, by decide, tw_101, by decide⟩
theorem aY_49 : aY F_49 3 := ⟨tw_833, ⟨by decide, by decide, by decide +kernel⟩, by decide, tw_101, by decide⟩
theorem aY_50 : aY F_50 0 := ⟨tw_132, ⟨by decide, by decide, by decide +kernel⟩, by decide, tw_98, by decide⟩
theorem aY_51 : aY F_51 1 := ⟨tw_652, ⟨by decide, by decide, by decide +kernel⟩, by decide, tw_98, by decide⟩
theorem aY_52 : aY F_52 1 := ⟨tw_846, ⟨by decide, by decide, by decide +kernel⟩, by decide, tw_98, by decide⟩
theorem aY_53 : aY F_53 1 := ⟨tw_656, ⟨by decide, by decide, by decide +kernel⟩, by decide, tw_98, by decide⟩
theorem aY_54 : aY F_54 1 := ⟨tw_744, ⟨by decide, by decide, by decide +kernel⟩, by decide, tw_98, by decide⟩
theorem aY_55 : aY F_55 0 := ⟨tw_842, ⟨by decide, by decide, by decide +kernel⟩, by decide, tw_98, by decide⟩
theorem aY_56 : aY F_56 0 := ⟨tw_736, ⟨by decide, by decide, by decide +kernel⟩, by decide, tw_98, by decide⟩
theorem aY_57 : aY F_57 0 := ⟨tw_765, ⟨by decide, by decide, by decide +kernel⟩, by decide, tw_98, by decide⟩
theorem aY_58 : aY F_58 0 := ⟨tw_773, ⟨by decide, by decide, by decide +kernel⟩, by decide, tw_98, by decide⟩
theorem aY_59 : aY F_59 0 := ⟨tw_780, ⟨by decide, by decide, by decide +kernel⟩, by decide, tw_98, by decide⟩
theorem aY_60 : aY F_60 0 := ⟨tw_807, ⟨by decide, by decide, by decide +kernel⟩, by decide, tw_98, by decide⟩
theorem aY_61 : aY F_61 0 := ⟨tw_820, ⟨by decide, by decide, by decide +kernel⟩, by decide, tw_98, by decide⟩
theorem aY_62 : aY F_62 0 := ⟨tw_837, ⟨by decide, by decide, by decide +kernel⟩, by decide, tw_98, by decide⟩
theorem aY_63 : aY F_63 2 := ⟨tw_740, ⟨by decide, by decide, by decide +kernel⟩, by decide, tw_98, by decide⟩
theorem aY_64 : aY F_64 1 := ⟨tw_754, ⟨by decide, by decide, by decide +kernel⟩, by decide, tw_98, by decide⟩
theorem aY_65 : aY F_65 1 := ⟨tw_829, ⟨by decide, by decide, by decide +kernel⟩, by decide, tw_98, by decide⟩
theorem aY_66 : aY F_66 2 := ⟨tw_758, ⟨by decide, by decide, by decide +kernel⟩, by decide, tw_98, by decide⟩
theorem aY_67 : aY F_67 3 := ⟨tw_750, ⟨by decide, by decide, by decide +kernel⟩, by decide, tw_98, by decide⟩
theorem aY_68 : aY F_68 0 := ⟨tw_812, ⟨by decide, by decide, by decide +kernel⟩, by decide, tw_98, by decide⟩
theorem aY_69 : aY F_69 1 := ⟨tw_784, ⟨by decide, by decide, by decide +kernel⟩, by decide, tw_98, by decide⟩
theorem aY_70 : aY F_70 0 := ⟨tw_825, ⟨by decide, by decide, by decide +kernel⟩, by decide, tw_98, by decide⟩
theorem aY_71 : aY F_71 0 := ⟨tw_788, ⟨by decide, by decide, by decide +kernel⟩, by decide, tw_98, by decide⟩
theorem aY_72 : aY F_72 0 := ⟨tw_796, ⟨by decide, by decide, by decide +kernel⟩, by decide, tw_98, by decide⟩
theorem aY_73 : aY F_73 0 := ⟨tw_439, ⟨by decide, by decide, by decide +kernel⟩, by decide, tw_104, by decide⟩
theorem aY_74 : aY F_74 0 := ⟨tw_858, ⟨by decide, by decide, by decide +kernel⟩, by decide, tw_104, by decide⟩
theorem aY_75 : aY F_75 3 := ⟨tw_971, ⟨by decide, by decide, by decide +kernel⟩, by decide, tw_104, by decide⟩
theorem aY_76 : aY F_76 4 := ⟨tw_976, ⟨by decide, by decide, by decide +kernel⟩, by decide, tw_104, by decide⟩
theorem aY_77 : aY F_77 3 := ⟨tw_999, ⟨by decide, by decide, by decide +kernel⟩, by decide, tw_104, by decide⟩
theorem aY_78 : aY F_78 4 := ⟨tw_1003, ⟨by decide, by decide, by decide +kernel⟩, by decide, tw_104, by decide⟩
theorem aY_79 : aY F_79 2 := ⟨tw_1007, ⟨by decide, by decide, by decide +kernel⟩, by decide, tw_104, by decide⟩
theorem aY_80 : aY F_80 0 := ⟨tw_175, ⟨by decide, by decide, by decide +kernel⟩, by decide, tw_100, by decide⟩
theorem aY_81 : aY F_81 0 := ⟨tw_660, ⟨by decide, by decide, by decide +kernel⟩, by decide, tw_100, by decide⟩
theorem aY_82 : aY F_82 1 := ⟨tw_925, ⟨by decide, by decide, by decide +kernel⟩, by decide, tw_100, by decide⟩
theorem aY_83 : aY F_83 1 := ⟨tw_933, ⟨by decide, by decide, by decide +kernel⟩, by decide, tw_100, by decide⟩
theorem aY_84 : aY F_84 2 := ⟨tw_906, ⟨by decide, by decide, by decide +kernel⟩, by decide, tw_100, by decide⟩
theorem aY_85 : aY F_85 1 := ⟨tw_929, ⟨by decide, by decide, by decide +kernel⟩, by decide, tw_100, by decide⟩
theorem aY_86 : aY F_86 1 := ⟨tw_910, ⟨by decide, by decide, by decide +kernel⟩, by decide, tw_100, by decide⟩
theorem aY_87 : aY F_87 0 := ⟨tw_138, ⟨by decide, by decide, by decide +kernel⟩, by decide, tw_99, by decide⟩
theorem aY_88 : aY F_88 1 := ⟨tw_640, ⟨by decide, by decide, by decide +kernel⟩, by decide, tw_99, by decide⟩
theorem aY_89 : aY F_89 1 := ⟨tw_668, ⟨by decide, by decide, by decide +kernel⟩, by decide, tw_99, by decide⟩
theorem aY_90 : aY F_90 1 := ⟨tw_676, ⟨by decide, by decide, by decide +kernel⟩, by decide, tw_99, by decide⟩
theorem aY_91 : aY F_91 0 := ⟨tw_672, ⟨by decide, by decide, by decide +kernel⟩, by decide, tw_99, by decide⟩
theorem aY_92 : aY F_92 1 := ⟨tw_679, ⟨by decide, by decide, by decide +kernel⟩, by decide, tw_99, by decide⟩
theorem aY_93 : aY F_93 1 := ⟨tw_684, ⟨by decide, by decide, by decide +kernel⟩, by decide, tw_99, by decide⟩
theorem aY_94 : aY F_94 2 := ⟨tw_800, ⟨by decide, by decide, by decide +kernel⟩, by decide, tw_99, by decide⟩
theorem aY_95 : aY F_95 0 := ⟨tw_565, ⟨by decide, by decide, by decide +kernel⟩, by decide, tw_108, by decide⟩
theorem aY_96 : aY F_96 0 := ⟨tw_870, ⟨by decide, by decide, by decide +kernel⟩, by decide, tw_108, by decide⟩
theorem aY_97 : aY F_97 3 := ⟨tw_1217, ⟨by decide, by decide, by decide +kernel⟩, by decide, tw_108, by decide⟩
theorem aY_98 : aY F_98 0 := ⟨tw_1225, ⟨by decide, by decide, by decide +kernel⟩, by decide, tw_108, by decide⟩
theorem aY_99 : aY F_99 2 := ⟨tw_1233, ⟨by decide, by decide, by decide +kernel⟩, by decide, tw_108, by decide⟩
theorem aY_100 : aY F_100 2 := ⟨tw_1238, ⟨by decide, by decide, by decide +kernel⟩, by decide, tw_108, by decide⟩
theorem aY_101 : aY F_101 3 := ⟨tw_1245, ⟨by decide, by decide, by decide +kernel⟩, by decide, tw_108, by decide⟩
theorem aY_102 : aY F_102 1 := ⟨tw_1253, ⟨by decide, by decide, by decide +kernel⟩, by decide, tw_108, by decide⟩
theorem aY_103 : aY F_103 0 := ⟨tw_124, ⟨by decide, by decide, by decide +kernel⟩, by decide, tw_97, by decide⟩
theorem aY_104 : aY F_104 5 := ⟨tw_636, ⟨by decide, by decide, by decide +kernel⟩, by decide, tw_97, by decide⟩
theorem aY_105 : aY F_105 1 := ⟨tw_644, ⟨by decide, by decide, by decide +kernel⟩, by decide, tw_97, by decide⟩
theorem aY_106 : aY F_106 0 := ⟨tw_878, ⟨by decide, by decide, by decide +kernel⟩, by decide, tw_97, by decide⟩
theorem aY_107 : aY F_107 0 := ⟨tw_882, ⟨by decide, by decide, by decide +kernel⟩, by decide, tw_97, by decide⟩
theorem aY_108 : aY F_108 1 := ⟨tw_886, ⟨by decide, by decide, by decide +kernel⟩, by decide, tw_97, by decide⟩
theorem aY_109 : aY F_109 1 := ⟨tw_890, ⟨by decide, by decide, by decide +kernel⟩, by decide, tw_97, by decide⟩
theorem aY_110 : aY F_110 2 := ⟨tw_946, ⟨by decide, by decide, by decide +kernel⟩, by decide, tw_97, by decide⟩
theorem aY_111 : aY F_111 1 := ⟨tw_959, ⟨by decide, by decide, by decide +kernel⟩, by decide, tw_97, by decide⟩
theorem aY_112 : aY F_112 2 := ⟨tw_963, ⟨by decide, by decide, by decide +kernel⟩, by decide, tw_97, by decide⟩
theorem aY_113 : aY F_113 1 := ⟨tw_991, ⟨by decide, by decide, by decide +kernel⟩, by decide, tw_97, by decide⟩
theorem aY_114 : aY F_114 2 := ⟨tw_995, ⟨by decide, by decide, by decide +kernel⟩, by decide, tw_97, by decide⟩
theorem aY_115 : aY F_115 1 := ⟨tw_1011, ⟨by decide, by decide, by decide +kernel⟩, by decide, tw_97, by decide⟩
theorem aY_116 : aY F_116 1 := ⟨tw_1015, ⟨by decide, by decide, by decide +kernel⟩, by decide, tw_97, by decide⟩
theorem aY_117 : aY F_117 0 := ⟨tw_1037, ⟨by decide, by decide, by decide +kernel⟩, by decide, tw_97, by decide⟩
theorem aY_118 : aY F_118 2 := ⟨tw_1046, ⟨by decide, by decide, by decide +kernel⟩, by decide, tw_97, by decide⟩
theorem aY_119 : aY F_119 0 := ⟨tw_1058, ⟨by decide, by decide, by decide +kernel⟩, by decide, tw_97, by decide⟩
theorem aY_120 : aY F_120 0 := ⟨tw_1062, ⟨by decide, by decide, by decide +kernel⟩, by decide, tw_97, by decide⟩
theorem aY_121 : aY F_121 2 := ⟨tw_1090, ⟨by decide, by decide, by decide +kernel⟩, by decide, tw_97, by decide⟩
theorem aY_122 : aY F_122 1 := ⟨tw_1094, ⟨by decide, by decide, by decide +kernel⟩, by decide, tw_97, by decide⟩
theorem aY_123 : aY F_123 2 := ⟨tw_1102, ⟨by decide, by decide, by decide +kernel⟩, by decide, tw_97, by decide⟩
theorem aY_124 : aY F_124 1 := ⟨tw_1115, ⟨by decide, by decide, by decide +kernel⟩, by decide, tw_97, by decide⟩
theorem aY_125 : aY F_125 1 := ⟨tw_1134, ⟨by decide, by decide, by decide +kernel⟩, by decide, tw_97, by decide⟩
theorem aY_126 : aY F_126 3 := ⟨tw_1138, ⟨by decide, by decide, by decide +kernel⟩, by decide, tw_97, by decide⟩
theorem aY_127 : aY F_127 2 := ⟨tw_1157, ⟨by decide, by decide, by decide +kernel⟩, by decide, tw_97, by decide⟩
theorem aY_128 : aY F_128 1 := ⟨tw_1193, ⟨by decide, by decide, by decide +kernel⟩, by decide, tw_97, by decide⟩
theorem aY_129 : aY F_129 0 := ⟨tw_1197, ⟨by decide, by decide, by decide +kernel⟩, by decide, tw_97, by decide⟩
theorem aY_130 : aY F_130 0 := ⟨tw_1205, ⟨by decide, by decide, by decide +kernel⟩, by decide, tw_97, by decide⟩
theorem aY_131 : aY F_131 3 := ⟨tw_1213, ⟨by decide, by decide, by decide +kernel⟩, by decide, tw_97, by decide⟩
theorem aY_132 : aY F_132 0 := ⟨tw_1221, ⟨by decide, by decide, by decide +kernel⟩, by decide, tw_97, by decide⟩
theorem aY_133 : aY F_133 3 := ⟨tw_1229, ⟨by decide, by decide, by decide +kernel⟩, by decide, tw_97, by decide⟩
theorem aY_134 : aY F_134 1 := ⟨tw_1249, ⟨by decide, by decide, by decide +kernel⟩, by decide, tw_97, by decide⟩
theorem aY_135 : aY F_135 1 := ⟨tw_1265, ⟨by decide, by decide, by decide +kernel⟩, by decide, tw_97, by decide⟩
theorem aY_136 : aY F_136 0 := ⟨tw_1257, ⟨by decide, by decide, by decide +kernel⟩, by decide, tw_97, by decide⟩
theorem aY_137 : aY F_137 1 := ⟨tw_874, ⟨by decide, by decide, by decide +kernel⟩, by decide, tw_97, by decide⟩
theorem aY_138 : aY F_138 1 := ⟨tw_648, ⟨by decide, by decide, by decide +kernel⟩, by decide, tw_97, by decide⟩
theorem aY_139 : aY F_139 1 := ⟨tw_954, ⟨by decide, by decide, by decide +kernel⟩, by decide, tw_97, by decide⟩
theorem aY_140 : aY F_140 1 := ⟨tw_1050, ⟨by decide, by decide, by decide +kernel⟩, by decide, tw_97, by decide⟩
theorem aY_141 : aY F_141 1 := ⟨tw_967, ⟨by decide, by decide, by decide +kernel⟩, by decide, tw_97, by decide⟩
theorem aY_142 : aY F_142 1 := ⟨tw_942, ⟨by decide, by decide, by decide +kernel⟩, by decide, tw_97, by decide⟩
theorem aY_143 : aY F_143 2 := ⟨tw_921, ⟨by decide, by decide, by decide +kernel⟩, by decide, tw_97, by decide⟩
theorem aY_144 : aY F_144 1 := ⟨tw_936, ⟨by decide, by decide, by decide +kernel⟩, by decide, tw_97, by decide⟩
theorem aY_145 : aY F_145 1 := ⟨tw_939, ⟨by decide, by decide, by decide +kernel⟩, by decide, tw_97, by decide⟩
theorem aY_146 : aY F_146 0 := ⟨tw_1484, ⟨by decide, by decide, by decide +kernel⟩, by decide, tw_114, by decide⟩
theorem aY_147 : aY F_147 1 := ⟨tw_1687, ⟨by decide, by decide, by decide +kernel⟩, by decide, tw_114, by decide⟩
theorem aY_148 : aY F_148 1 := ⟨tw_1768, ⟨by decide, by decide, by decide +kernel⟩, by decide, tw_114, by decide⟩
theorem aY_149 : aY F_149 1 := ⟨tw_1760, ⟨by decide, by decide, by decide +kernel⟩, by decide, tw_114, by decide⟩
theorem aY_150 : aY F_150 0 := ⟨tw_1336, ⟨by decide, by decide, by decide +kernel⟩, by decide, tw_109, by decide⟩
theorem aY_151 : aY F_151 1 := ⟨tw_1479, ⟨by decide, by decide, by decide +kernel⟩, by decide, tw_109, by decide⟩
theorem aY_152 : aY F_152 1 := ⟨tw_1787, ⟨by decide, by decide, by decide +kernel⟩, by decide, tw_109, by decide⟩
theorem aY_153 : aY F_153 1 := ⟨tw_1740, ⟨by decide, by decide, by decide +kernel⟩, by decide, tw_109, by decide⟩
theorem aY_154 : aY F_154 1 := ⟨tw_1724, ⟨by decide, by decide, by decide +kernel⟩, by decide, tw_109, by decide⟩
theorem aY_155 : aY F_155 0 := ⟨tw_1744, ⟨by decide, by decide, by decide +kernel⟩, by decide, tw_109, by decide⟩
theorem aY_156 : aY F_156 3 := ⟨tw_1649, ⟨by decide, by decide, by decide +kernel⟩, by decide, tw_109, by decide⟩
theorem aY_157 : aY F_157 1 := ⟨tw_1775, ⟨by decide, by decide, by decide +kernel⟩, by decide, tw_109, by decide⟩
theorem aY_158 : aY F_158 1 := ⟨tw_1600, ⟨by decide, by decide, by decide +kernel⟩, by decide, tw_109, by decide⟩
theorem aY_159 : aY F_159 1 := ⟨tw_1603, ⟨by decide, by decide, by decide +kernel⟩, by decide, tw_109, by decide⟩
theorem aY_160 : aY F_160 1 := ⟨tw_1607, ⟨by decide, by decide, by decide +kernel⟩, by decide, tw_109, by decide⟩
theorem aY_161 : aY F_161 1 := ⟨tw_1623, ⟨by decide, by decide, by decide +kernel⟩, by decide, tw_109, by decide⟩
theorem aY_162 : aY F_162 0 := ⟨tw_1596, ⟨by decide, by decide, by decide +kernel⟩, by decide, tw_109, by decide⟩
theorem aY_163 : aY F_163 1 := ⟨tw_1633, ⟨by decide, by decide, by decide +kernel⟩, by decide, tw_109, by decide⟩
theorem aY_164 : aY F_164 2 := ⟨tw_1637, ⟨by decide, by decide, by decide +kernel⟩, by decide, tw_109, by decide⟩
theorem aY_165 : aY F_165 1 := ⟨tw_1620, ⟨by decide, by decide, by decide +kernel⟩, by decide, tw_109, by decide⟩
theorem aY_166 : aY F_166 1 := ⟨tw_1708, ⟨by decide, by decide, by decide +kernel⟩, by decide, tw_109, by decide⟩
theorem aY_167 : aY F_167 2 := ⟨tw_1646, ⟨by decide, by decide, by decide +kernel⟩, by decide, tw_109, by decide⟩
theorem aY_168 : aY F_168 3 := ⟨tw_1642, ⟨by decide, by decide, by decide +kernel⟩, by decide, tw_109, by decide⟩
theorem aY_169 : aY F_169 0 := ⟨tw_1679, ⟨by decide, by decide, by decide +kernel⟩, by decide, tw_109, by decide⟩
theorem aY_170 : aY F_170 0 := ⟨tw_1611, ⟨by decide, by decide, by decide +kernel⟩, by decide, tw_109, by decide⟩
theorem aY_171 : aY F_171 0 := ⟨tw_1615, ⟨by decide, by decide, by decide +kernel⟩, by decide, tw_109, by decide⟩
theorem aY_172 : aY F_172 0 := ⟨tw_1629, ⟨by decide, by decide, by decide +kernel⟩, by decide, tw_109, by decide⟩
theorem aY_173 : aY F_173 0 := ⟨tw_1656, ⟨by decide, by decide, by decide +kernel⟩, by decide, tw_109, by decide⟩
theorem aY_174 : aY F_174 0 := ⟨tw_1664, ⟨by decide, by decide, by decide +kernel⟩, by decide, tw_109, by decide⟩
theorem aY_175 : aY F_175 2 := ⟨tw_1675, ⟨by decide, by decide, by decide +kernel⟩, by decide, tw_109, by decide⟩
theorem aY_176 : aY F_176 0 := ⟨tw_1671, ⟨by decide, by decide, by decide +kernel⟩, by decide, tw_109, by decide⟩
theorem aY_177 : aY F_177 0 := ⟨tw_1694, ⟨by decide, by decide, by decide +kernel⟩, by decide, tw_109, by decide⟩
theorem aY_178 : aY F_178 0 := ⟨tw_1703, ⟨by decide, by decide, by decide +kernel⟩, by decide, tw_109, by decide⟩
theorem aY_179 : aY F_179 0 := ⟨tw_1712, ⟨by decide, by decide, by decide +kernel⟩, by decide, tw_109, by decide⟩
theorem aY_180 : aY F_180 5 := ⟨tw_1471, ⟨by decide, by decide, by decide +kernel⟩, by decide, tw_109, by decide⟩
theorem aY_181 : aY F_181 1 := ⟨tw_1475, ⟨by decide, by decide, by decide +kernel⟩, by decide, tw_109, by decide⟩
theorem aY_182 : aY F_182 0 := ⟨tw_1728, ⟨by decide, by decide, by decide +kernel⟩, by decide, tw_109, by decide⟩
theorem aY_183 : aY F_183 0 := ⟨tw_1732, ⟨by decide, by decide, by decide +kernel⟩, by decide, tw_109, by decide⟩
theorem aY_184 : aY F_184 2 := ⟨tw_1764, ⟨by decide, by decide, by decide +kernel⟩, by decide, tw_109, by decide⟩
theorem aY_185 : aY F_185 5 := ⟨tw_1756, ⟨by decide, by decide, by decide +kernel⟩, by decide, tw_109, by decide⟩
theorem aY_186 : aY F_186 6 := ⟨tw_1772, ⟨by decide, by decide, by decide +kernel⟩, by decide, tw_109, by decide⟩
theorem aY_187 : aY F_187 1 := ⟨tw_1720, ⟨by decide, by decide, by decide +kernel⟩, by decide, tw_109, by decide⟩
theorem aY_188 : aY F_188 1 := ⟨tw_1717, ⟨by decide, by decide, by decide +kernel⟩, by decide, tw_109, by decide⟩
theorem aY_189 : aY F_189 0 := ⟨tw_1752, ⟨by decide, by decide, by decide +kernel⟩, by decide, tw_109, by decide⟩
theorem aY_190 : aY F_190 1 := ⟨tw_1736, ⟨by decide, by decide, by decide +kernel⟩, by decide, tw_109, by decide⟩
theorem aY_191 : aY F_191 1 := ⟨tw_1748, ⟨by decide, by decide, by decide +kernel⟩, by decide, tw_109, by decide⟩
theorem aY_192 : aY F_192 1 := ⟨tw_1783, ⟨by decide, by decide, by decide +kernel⟩, by decide, tw_109, by decide⟩
theorem aY_193 : aY F_193 2 := ⟨tw_1779, ⟨by decide, by decide, by decide +kernel⟩, by decide, tw_109, by decide⟩
theorem aY_194 : aY F_194 1 := ⟨tw_1792, ⟨by decide, by decide, by decide +kernel⟩, by decide, tw_109, by decide⟩
theorem aY_195 : aY F_195 2 := ⟨tw_1808, ⟨by decide, by decide, by decide +kernel⟩, by decide, tw_109, by decide⟩
theorem aY_196 : aY F_196 1 := ⟨tw_1812, ⟨by decide, by decide, by decide +kernel⟩, by decide, tw_109, by decide⟩
theorem aY_197 : aY F_197 1 := ⟨tw_1804, ⟨by decide, by decide, by decide +kernel⟩, by decide, tw_109, by decide⟩
theorem aY_198 : aY F_198 2 := ⟨tw_1800, ⟨by decide, by decide, by decide +kernel⟩, by decide, tw_109, by decide⟩
theorem aY_199 : aY F_199 2 := ⟨tw_1796, ⟨by decide, by decide, by decide +kernel⟩, by decide, tw_109, by decide⟩
theorem aY_200 : aY F_200 1 := ⟨tw_1816, ⟨by decide, by decide, by decide +kernel⟩, by decide, tw_109, by decide⟩
theorem aY_201 : aY F_201 2 := ⟨tw_1820, ⟨by decide, by decide, by decide +kernel⟩, by decide, tw_109, by decide⟩
theorem aY_202 : aY F_202 1 := ⟨tw_1824, ⟨by decide, by decide, by decide +kernel⟩, by decide, tw_109, by decide⟩
theorem aY_203 : aY F_203 2 := ⟨tw_1836, ⟨by decide, by decide, by decide +kernel⟩, by decide, tw_109, by decide⟩
theorem aY_204 : aY F_204 1 := ⟨tw_1832, ⟨by decide, by decide, by decide +kernel⟩, by decide, tw_109, by decide⟩
theorem aY_205 : aY F_205 1 := ⟨tw_1828, ⟨by decide, by decide, by decide +kernel⟩, by decide, tw_109, by decide⟩
theorem aY_206 : aY F_206 0 := ⟨tw_1840, ⟨by decide, by decide, by decide +kernel⟩, by decide, tw_109, by decide⟩
theorem aY_207 : aY F_207 2 := ⟨tw_1844, ⟨by decide, by decide, by decide +kernel⟩, by decide, tw_109, by decide⟩
theorem aY_208 : aY F_208 0 := ⟨tw_1848, ⟨by decide, by decide, by decide +kernel⟩, by decide, tw_109, by decide⟩
theorem aY_209 : aY F_209 0 := ⟨tw_1856, ⟨by decide, by decide, by decide +kernel⟩, by decide, tw_109, by decide⟩
theorem aY_210 : aY F_210 2 := ⟨tw_1864, ⟨by decide, by decide, by decide +kernel⟩, by decide, tw_109, by decide⟩
theorem aY_211 : aY F_211 1 := ⟨tw_1860, ⟨by decide, by decide, by decide +kernel⟩, by decide, tw_109, by decide⟩
theorem aY_212 : aY F_212 0 := ⟨tw_1852, ⟨by decide, by decide, by decide +kernel⟩, by decide, tw_109, by decide⟩
theorem aY_213 : aY F_213 2 := ⟨tw_1868, ⟨by decide, by decide, by decide +kernel⟩, by decide, tw_109, by decide⟩
theorem aY_214 : aY F_214 1 := ⟨tw_1872, ⟨by decide, by decide, by decide +kernel⟩, by decide, tw_109, by decide⟩
theorem aY_215 : aY F_215 0 := ⟨tw_1888, ⟨by decide, by decide, by decide +kernel⟩, by decide, tw_109, by decide⟩
theorem aY_216 : aY F_216 2 := ⟨tw_1884, ⟨by decide, by decide, by decide +kernel⟩, by decide, tw_109, by decide⟩
theorem aY_217 : aY F_217 0 := ⟨tw_1880, ⟨by decide, by decide, by decide +kernel⟩, by decide, tw_109, by decide⟩
theorem aY_218 : aY F_218 2 := ⟨tw_1876, ⟨by decide, by decide, by decide +kernel⟩, by decide, tw_109, by decide⟩
theorem aY_219 : aY F_219 1 := ⟨tw_1900, ⟨by decide, by decide, by decide +kernel⟩, by decide, tw_109, by decide⟩
theorem aY_220 : aY F_220 0 := ⟨tw_1896, ⟨by decide, by decide, by decide +kernel⟩, by decide, tw_109, by decide⟩
theorem aY_221 : aY F_221 1 := ⟨tw_1904, ⟨by decide, by decide, by decide +kernel⟩, by decide, tw_109, by decide⟩
theorem aY_222 : aY F_222 1 := ⟨tw_1892, ⟨by decide, by decide, by decide +kernel⟩, by decide, tw_109, by decide⟩
theorem aY_223 : aY F_223 1 := ⟨tw_1908, ⟨by decide, by decide, by decide +kernel⟩, by decide, tw_109, by decide⟩
theorem aY_224 : aY F_224 3 := ⟨tw_1920, ⟨by decide, by decide, by decide +kernel⟩, by decide, tw_109, by decide⟩
theorem aY_225 : aY F_225 6 := ⟨tw_1916, ⟨by decide, by decide, by decide +kernel⟩, by decide, tw_109, by decide⟩
theorem aY_226 : aY F_226 3 := ⟨tw_1912, ⟨by decide, by decide, by decide +kernel⟩, by decide, tw_109, by decide⟩
theorem aY_227 : aY F_227 1 := ⟨tw_1932, ⟨by decide, by decide, by decide +kernel⟩, by decide, tw_109, by decide⟩
theorem aY_228 : aY F_228 3 := ⟨tw_1928, ⟨by decide, by decide, by decide +kernel⟩, by decide, tw_109, by decide⟩
theorem aY_229 : aY F_229 0 := ⟨tw_1936, ⟨by decide, by decide, by decide +kernel⟩, by decide, tw_109, by decide⟩
theorem aY_230 : aY F_230 2 := ⟨tw_1940, ⟨by decide, by decide, by decide +kernel⟩, by decide, tw_109, by decide⟩
theorem aY_231 : aY F_231 2 := ⟨tw_1924, ⟨by decide, by decide, by decide +kernel⟩, by decide, tw_109, by decide⟩
theorem aY_232 : aY F_232 1 := ⟨tw_1944, ⟨by decide, by decide, by decide +kernel⟩, by decide, tw_109, by decide⟩
theorem aY_233 : aY F_233 0 := ⟨tw_1948, ⟨by decide, by decide, by decide +kernel⟩, by decide, tw_109, by decide⟩
theorem aY_234 : aY F_234 0 := ⟨tw_1952, ⟨by decide, by decide, by decide +kernel⟩, by decide, tw_109, by decide⟩
theorem aY_235 : aY F_235 3 := ⟨tw_1956, ⟨by decide, by decide, by decide +kernel⟩, by decide, tw_109, by decide⟩
theorem aY_236 : aY F_236 0 := ⟨tw_1960, ⟨by decide, by decide, by decide +kernel⟩, by decide, tw_109, by decide⟩
theorem aY_237 : aY F_237 3 := ⟨tw_1972, ⟨by decide, by decide, by decide +kernel⟩, by decide, tw_109, by decide⟩
theorem aY_238 : aY F_238 1 := ⟨tw_1968, ⟨by decide, by decide, by decide +kernel⟩, by decide, tw_109, by decide⟩
theorem aY_239 : aY F_239 3 := ⟨tw_1964, ⟨by decide, by decide, by decide +kernel⟩, by decide, tw_109, by decide⟩
theorem aY_240 : aY F_240 1 := ⟨tw_1976, ⟨by decide, by decide, by decide +kernel⟩, by decide, tw_109, by decide⟩
theorem aY_241 : aY F_241 1 := ⟨tw_1980, ⟨by decide, by decide, by decide +kernel⟩, by decide, tw_109, by decide⟩
theorem aY_242 : aY F_242 0 := ⟨tw_1984, ⟨by decide, by decide, by decide +kernel⟩, by decide, tw_109, by decide⟩
theorem aY_243 : aY F_243 2 := ⟨tw_1241, ⟨by decide, by decide, by decide +kernel⟩, by decide, tw_115, by decide⟩
theorem aY_244 : aY F_244 0 := ⟨tw_688, ⟨by decide, by decide, by decide +kernel⟩, by decide, tw_110, by decide⟩
theorem aY_245 : aY F_245 1 := ⟨tw_698, ⟨by decide, by decide, by decide +kernel⟩, by decide, tw_110, by decide⟩
theorem aY_246 : aY F_246 0 := ⟨tw_692, ⟨by decide, by decide, by decide +kernel⟩, by decide, tw_110, by decide⟩
theorem aY_247 : aY F_247 0 := ⟨tw_702, ⟨by decide, by decide, by decide +kernel⟩, by decide, tw_110, by decide⟩
theorem aY_248 : aY F_248 2 := ⟨tw_708, ⟨by decide, by decide, by decide +kernel⟩, by decide, tw_110, by decide⟩
theorem aY_249 : aY F_249 2 := ⟨tw_705, ⟨by decide, by decide, by decide +kernel⟩, by decide, tw_111, by decide⟩
theorem aY_250 : aY F_250 3 := ⟨tw_713, ⟨by decide, by decide, by decide +kernel⟩, by decide, tw_112, by decide⟩
