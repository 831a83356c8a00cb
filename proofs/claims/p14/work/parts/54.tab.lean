/-! more contracts, checked: written by wip/gen/contracts2.py -/
def c_204 : CE := (1, [rF [60, 62, 64, 66], some (.inr (.inr (0, 39, 0)))], [], iA 0 2, [], ([], []), []) -- X1_faultAt
def ac_204 : List AnE := [(0, ([rF [60, 62, 64, 66], some (.inr (.inr (0, 39, 0))), none], [], []), 4, [0, 0, 0]),
  (9, ([rF [60, 62, 64, 66], some (.inr (.inr (0, 39, 0))), none], [], []), 3, [0, 0, 0]),
  (25, ([rF [60, 62, 64, 66], some (.inr (.inr (0, 39, 0))), none], [], []), 1, [0, 0, 0]),
  (29, ([rF [60, 62, 64, 66], some (.inr (.inr (0, 39, 0))), none], [], []), 2, [0, 0, 0]),
  (30, ([rF [60, 62, 64, 66], some (.inr (.inr (0, 39, 0))), none], [cst 2], []), 0, [0, 0, 0])]
theorem kc_204 : chkM shP TV t_9 c_204 ac_204 = true := by decide +kernel
abbrev q_X1_faultAt : CE := c_204
def c_205 : CE := (3, [rF [60, 62, 64, 66], iA 0 39, tI], [], none, [], ([61, 63, 65, 67], []), []) -- X1_put
def ac_205 : List AnE := [(0, ([rF [60, 62, 64, 66], iA 0 39, tI], [], []), 3, [0, 0, 0]),
  (18, ([rF [60, 62, 64, 66], iA 0 39, tI], [], []), 2, [0, 0, 0]),
  (37, ([rF [60, 62, 64, 66], iA 0 39, tI], [], []), 0, [0, 0, 0]),
  (44, ([rF [60, 62, 64, 66], iA 0 39, tI], [], []), 1, [0, 0, 0])]
theorem kc_205 : chkM shP TV t_9 c_205 ac_205 = true := by decide +kernel
abbrev q_X1_put : CE := c_205
def c_206 : CE := (30, [rF [1], cst 0], [], rF [5], [], ([], []), []) -- X5_bodyRow
def ac_206 : List AnE := [(0, ([rF [1], cst 0], [], []), 1, [0, 0]),
  (28, ([rF [1], iA 0 0], [], []), 0, [0, 0])]
theorem kc_206 : chkM shP TV t_9 c_206 ac_206 = true := by decide +kernel
abbrev q_X5_bodyRow_2 : CE := c_206
def c_207 : CE := (30, [rF [1], cst 1], [], rF [6], [], ([], []), []) -- X5_bodyRow
def ac_207 : List AnE := [(0, ([rF [1], cst 1], [], []), 1, [0, 0]),
  (33, ([rF [1], iA 1 1], [], []), 0, [0, 0])]
theorem kc_207 : chkM shP TV t_9 c_207 ac_207 = true := by decide +kernel
abbrev q_X5_bodyRow_3 : CE := c_207
def c_208 : CE := (30, [rF [1], cst 2], [], rF [7], [], ([], []), []) -- X5_bodyRow
def ac_208 : List AnE := [(0, ([rF [1], cst 2], [], []), 1, [0, 0]),
  (38, ([rF [1], iA 2 2], [], []), 0, [0, 0])]
theorem kc_208 : chkM shP TV t_9 c_208 ac_208 = true := by decide +kernel
abbrev q_X5_bodyRow_4 : CE := c_208
def c_209 : CE := (30, [rF [1], cst 3], [], rF [8], [], ([], []), []) -- X5_bodyRow
def ac_209 : List AnE := [(0, ([rF [1], cst 3], [], []), 1, [0, 0]),
  (43, ([rF [1], iA 3 3], [], []), 0, [0, 0])]
theorem kc_209 : chkM shP TV t_9 c_209 ac_209 = true := by decide +kernel
abbrev q_X5_bodyRow_5 : CE := c_209
def c_210 : CE := (51, [rF [0], tI, iA 4 2147483647, tI], [], cst (-1), [], ([], []), []) -- X6_alter
def ac_210 : List AnE := [(0, ([rF [0], tI, iA 4 2147483647, tI, none, none], [], []), 1, [0, 0, 0, 0, 0, 0]),
  (29, ([rF [0], tI, iA 4 2147483647, tI, none, none], [], []), 0, [0, 0, 0, 0, 0, 0])]
theorem kc_210 : chkM shP TV t_9 c_210 ac_210 = true := by decide +kernel
abbrev q_X6_alter : CE := c_210
def c_211 : CE := (51, [rF [0], tI, iA (-2147483648) (-1), tI], [], cst (-1), [], ([], []), []) -- X6_alter
def ac_211 : List AnE := [(0, ([rF [0], tI, iA (-2147483648) (-1), tI, none, none], [], []), 1, [0, 0, 0, 0, 0, 0]),
  (29, ([rF [0], tI, iA (-2147483648) (-1), tI, none, none], [], []), 0, [0, 0, 0, 0, 0, 0])]
theorem kc_211 : chkM shP TV t_9 c_211 ac_211 = true := by decide +kernel
abbrev q_X6_alter_1 : CE := c_211
def c_212 : CE := (95, [rF [0], tI, iA 40 2147483647, tI], [], iA (-12) (-1), [], ([], []), []) -- X6_lay
def ac_212 : List AnE := [(0, ([rF [0], tI, iA 40 2147483647, tI, none], [], []), 1, [0, 0, 0, 0, 0]),
  (11, ([rF [0], iA 0 3, iA 40 2147483647, tI, none], [], []), 0, [0, 0, 0, 0, 0])]
theorem kc_212 : chkM shP TV t_9 c_212 ac_212 = true := by decide +kernel
abbrev q_X6_lay : CE := c_212
def c_213 : CE := (95, [rF [0], tI, iA (-2147483648) (-1), tI], [], iA (-12) (-1), [], ([], []), []) -- X6_lay
def ac_213 : List AnE := [(0, ([rF [0], tI, iA (-2147483648) (-1), tI, none], [], []), 1, [0, 0, 0, 0, 0]),
  (11, ([rF [0], iA 0 3, iA (-2147483648) (-1), tI, none], [], []), 0, [0, 0, 0, 0, 0])]
theorem kc_213 : chkM shP TV t_9 c_213 ac_213 = true := by decide +kernel
abbrev q_X6_lay_1 : CE := c_213
def c_214 : CE := (125, [rF [68], iA 0 5, iA 2 3], [], tI, [], ([], []), []) -- X7_of
def ac_214 : List AnE := [(0, ([rF [68], iA 0 5, iA 2 3], [], []), 0, [0, 0, 0])]
theorem kc_214 : chkM shP TV t_9 c_214 ac_214 = true := by decide +kernel
abbrev q_X7_of_6 : CE := c_214
def c_215 : CE := (126, [rF [68], iA 0 5, cst 0, iA 0 3], [(14041, 1, 9)], none, [(14041, 1, 9)], ([70], []), []) -- X7_becomesOf
def ac_215 : List AnE := [(0, ([rF [68], iA 0 5, cst 0, iA 0 3], [], [(14041, 1, 9)]), 0, [0, 0, 0, 0])]
theorem kc_215 : chkM shP TV t_9 c_215 ac_215 = true := by decide +kernel
abbrev q_X7_becomesOf_2 : CE := c_215
def c_216 : CE := (142, [rF [68], cst 41, iA 1 9], [], iA 1 9, [], ([], [13841]), []) -- X7_becomes
def ac_216 : List AnE := [(0, ([rF [68], cst 41, iA 1 9, none], [], []), 0, [0, 0, 0, 0])]
theorem kc_216 : chkM shP TV t_9 c_216 ac_216 = true := by decide +kernel
abbrev q_X7_becomes_2 : CE := c_216
def c_217 : CE := (142, [rF [68], some (.inl ((8, 33, 5), none, 0, (0, 0), [])), iA 0 3], [], iA 0 3, [], ([], [13808, 13813, 13818, 13823, 13828, 13833]), []) -- X7_becomes
def ac_217 : List AnE := [(0, ([rF [68], some (.inl ((8, 33, 5), none, 0, (0, 0), [])), iA 0 3, none], [], []), 0, [0, 0, 0, 0])]
theorem kc_217 : chkM shP TV t_9 c_217 ac_217 = true := by decide +kernel
abbrev q_X7_becomes_3 : CE := c_217
def c_218 : CE := (142, [rF [68], some (.inl ((9, 34, 5), none, 0, (0, 0), [])), iA 0 3], [], iA 0 3, [], ([], [13809, 13814, 13819, 13824, 13829, 13834]), []) -- X7_becomes
def ac_218 : List AnE := [(0, ([rF [68], some (.inl ((9, 34, 5), none, 0, (0, 0), [])), iA 0 3, none], [], []), 0, [0, 0, 0, 0])]
theorem kc_218 : chkM shP TV t_9 c_218 ac_218 = true := by decide +kernel
abbrev q_X7_becomes_4 : CE := c_218
def c_219 : CE := (142, [rF [68], iA 39 40, tI], [], tI, [], ([], [13839, 13840]), []) -- X7_becomes
def ac_219 : List AnE := [(0, ([rF [68], iA 39 40, tI, none], [], []), 0, [0, 0, 0, 0])]
theorem kc_219 : chkM shP TV t_9 c_219 ac_219 = true := by decide +kernel
abbrev q_X7_becomes_5 : CE := c_219
def c_220 : CE := (142, [rF [68], some (.inl ((10, 35, 5), none, 0, (0, 0), [])), tI], [], tI, [], ([], [13810, 13815, 13820, 13825, 13830, 13835]), []) -- X7_becomes
def ac_220 : List AnE := [(0, ([rF [68], some (.inl ((10, 35, 5), none, 0, (0, 0), [])), tI, none], [], []), 0, [0, 0, 0, 0])]
theorem kc_220 : chkM shP TV t_9 c_220 ac_220 = true := by decide +kernel
abbrev q_X7_becomes_6 : CE := c_220
def c_221 : CE := (142, [rF [68], some (.inl ((11, 36, 5), none, 0, (0, 0), [])), tI], [], tI, [], ([], [13811, 13816, 13821, 13826, 13831, 13836]), []) -- X7_becomes
def ac_221 : List AnE := [(0, ([rF [68], some (.inl ((11, 36, 5), none, 0, (0, 0), [])), tI, none], [], []), 0, [0, 0, 0, 0])]
theorem kc_221 : chkM shP TV t_9 c_221 ac_221 = true := by decide +kernel
abbrev q_X7_becomes_7 : CE := c_221
def c_222 : CE := (145, [rF [68], tI, iA 4 2147483647, tI], [], cst (-1), [], ([], []), []) -- X7_alter
def ac_222 : List AnE := [(0, ([rF [68], tI, iA 4 2147483647, tI, none], [], []), 4, [0, 0, 0, 0, 0]),
  (16, ([rF [68], tI, iA 4 2147483647, tI, none], [], []), 3, [0, 0, 0, 0, 0]),
  (29, ([rF [68], tI, iA 4 2147483647, tI, none], [], []), 2, [0, 0, 0, 0, 0]),
  (59, ([rF [68], tI, iA 4 2147483647, tI, none], [], []), 1, [0, 0, 0, 0, 0]),
  (75, ([rF [68], tI, iA 4 2147483647, tI, cst 0], [], []), 0, [0, 0, 0, 0, 0])]
theorem kc_222 : chkM shP TV t_9 c_222 ac_222 = true := by decide +kernel
abbrev q_X7_alter : CE := c_222
def c_223 : CE := (145, [rF [68], tI, iA (-2147483648) (-1), tI], [], cst (-1), [], ([], []), []) -- X7_alter
def ac_223 : List AnE := [(0, ([rF [68], tI, iA (-2147483648) (-1), tI, none], [], []), 4, [0, 0, 0, 0, 0]),
  (16, ([rF [68], tI, iA (-2147483648) (-1), tI, none], [], []), 3, [0, 0, 0, 0, 0]),
  (29, ([rF [68], tI, iA (-2147483648) (-1), tI, none], [], []), 2, [0, 0, 0, 0, 0]),
  (59, ([rF [68], tI, iA (-2147483648) (-1), tI, none], [], []), 1, [0, 0, 0, 0, 0]),
  (75, ([rF [68], tI, iA (-2147483648) (-1), tI, cst 0], [], []), 0, [0, 0, 0, 0, 0])]
theorem kc_223 : chkM shP TV t_9 c_223 ac_223 = true := by decide +kernel
abbrev q_X7_alter_1 : CE := c_223
def c_224 : CE := (146, [rF [68], iA 5 2147483647, tI], [], cst (-1), [], ([], []), []) -- X7_set
def ac_224 : List AnE := [(0, ([rF [68], iA 5 2147483647, tI, none], [], []), 4, [0, 0, 0, 0]),
  (17, ([rF [68], iA 5 2147483647, tI, none], [], []), 3, [0, 0, 0, 0]),
  (34, ([rF [68], iA 5 2147483647, tI, none], [], []), 2, [0, 0, 0, 0]),
  (55, ([rF [68], iA 5 2147483647, tI, none], [], []), 1, [0, 0, 0, 0]),
  (75, ([rF [68], iA 5 2147483647, tI, iA 0 0], [], []), 0, [0, 0, 0, 0])]
theorem kc_224 : chkM shP TV t_9 c_224 ac_224 = true := by decide +kernel
abbrev q_X7_set : CE := c_224
def c_225 : CE := (146, [rF [68], iA (-2147483648) 1, tI], [], cst (-1), [], ([], []), []) -- X7_set
def ac_225 : List AnE := [(0, ([rF [68], iA (-2147483648) 1, tI, none], [], []), 4, [0, 0, 0, 0]),
  (17, ([rF [68], iA (-2147483648) 1, tI, none], [], []), 3, [0, 0, 0, 0]),
  (34, ([rF [68], iA (-2147483648) 1, tI, none], [], []), 2, [0, 0, 0, 0]),
  (55, ([rF [68], iA (-2147483648) 1, tI, none], [], []), 1, [0, 0, 0, 0]),
  (75, ([rF [68], iA (-2147483648) 1, tI, iA 0 0], [], []), 0, [0, 0, 0, 0])]
theorem kc_225 : chkM shP TV t_9 c_225 ac_225 = true := by decide +kernel
abbrev q_X7_set_1 : CE := c_225
def b_10 : List (CE × List AnE) := [(c_204, ac_204), (c_205, ac_205), (c_206, ac_206), (c_207, ac_207), (c_208, ac_208), (c_209, ac_209), (c_210, ac_210), (c_211, ac_211), (c_212, ac_212), (c_213, ac_213), (c_214, ac_214), (c_215, ac_215), (c_216, ac_216), (c_217, ac_217), (c_218, ac_218), (c_219, ac_219), (c_220, ac_220), (c_221, ac_221), (c_222, ac_222), (c_223, ac_223), (c_224, ac_224), (c_225, ac_225)]
def t_10 : List CE := [c_204, c_205, c_206, c_207, c_208, c_209, c_210, c_211, c_212, c_213, c_214, c_215, c_216, c_217, c_218, c_219, c_220, c_221, c_222, c_223, c_224, c_225] ++ t_9
theorem h_up10 {wS : List Value → Mm → Option Rs} {k : Nat} (h : Hall TV wS k t_9) : Hall TV wS (k + 1) t_10 := by
  refine Hall_step h b_10 ?_
  unfold b_10
  simp only [List.all_cons, List.all_nil, kc_204, kc_205, kc_206, kc_207, kc_208, kc_209, kc_210, kc_211, kc_212, kc_213, kc_214, kc_215, kc_216, kc_217, kc_218, kc_219, kc_220, kc_221, kc_222, kc_223, kc_224, kc_225, Bool.and_self]
def c_226 : CE := (51, [rF [0], tI, cst 0, tI], [], iA (-2) 3, [], ([5], []), []) -- X6_alter
def ac_226 : List AnE := [(0, ([rF [0], tI, cst 0, tI, none, none], [], []), 3, [0, 0, 0, 0, 0, 0]),
  (29, ([rF [0], tI, cst 0, tI, none, none], [], []), 0, [0, 0, 0, 0, 0, 0]),
  (31, ([rF [0], iA 0 5, iA 0 0, iA 0 3, none, none], [], []), 2, [0, 0, 0, 0, 0, 0]),
  (46, ([rF [0], iA 0 5, iA 0 0, iA 0 3, none, none], [], []), 1, [0, 0, 0, 0, 0, 0])]
theorem kc_226 : chkM shP TV t_10 c_226 ac_226 = true := by decide +kernel
abbrev q_X6_alter_2 : CE := c_226
def c_227 : CE := (51, [rF [0], tI, cst 1, tI], [], iA (-2) 3, [], ([6], []), []) -- X6_alter
def ac_227 : List AnE := [(0, ([rF [0], tI, cst 1, tI, none, none], [], []), 3, [0, 0, 0, 0, 0, 0]),
  (29, ([rF [0], tI, cst 1, tI, none, none], [], []), 0, [0, 0, 0, 0, 0, 0]),
  (31, ([rF [0], iA 0 5, iA 1 1, iA 0 3, none, none], [], []), 2, [0, 0, 0, 0, 0, 0]),
  (46, ([rF [0], iA 0 5, iA 1 1, iA 0 3, none, none], [], []), 1, [0, 0, 0, 0, 0, 0])]
theorem kc_227 : chkM shP TV t_10 c_227 ac_227 = true := by decide +kernel
abbrev q_X6_alter_3 : CE := c_227
def c_228 : CE := (51, [rF [0], tI, cst 2, tI], [], tI, [], ([7], []), []) -- X6_alter
def ac_228 : List AnE := [(0, ([rF [0], tI, cst 2, tI, none, none], [], []), 3, [0, 0, 0, 0, 0, 0]),
  (29, ([rF [0], tI, cst 2, tI, none, none], [], []), 0, [0, 0, 0, 0, 0, 0]),
  (31, ([rF [0], iA 0 5, iA 2 2, tI, none, none], [], []), 2, [0, 0, 0, 0, 0, 0]),
  (46, ([rF [0], iA 0 5, iA 2 2, tI, none, none], [], []), 1, [0, 0, 0, 0, 0, 0])]
theorem kc_228 : chkM shP TV t_10 c_228 ac_228 = true := by decide +kernel
abbrev q_X6_alter_4 : CE := c_228
def c_229 : CE := (51, [rF [0], tI, cst 3, tI], [], tI, [], ([8], []), []) -- X6_alter
def ac_229 : List AnE := [(0, ([rF [0], tI, cst 3, tI, none, none], [], []), 3, [0, 0, 0, 0, 0, 0]),
  (29, ([rF [0], tI, cst 3, tI, none, none], [], []), 0, [0, 0, 0, 0, 0, 0]),
  (31, ([rF [0], iA 0 5, iA 3 3, tI, none, none], [], []), 2, [0, 0, 0, 0, 0, 0]),
  (46, ([rF [0], iA 0 5, iA 3 3, tI, none, none], [], []), 1, [0, 0, 0, 0, 0, 0])]
theorem kc_229 : chkM shP TV t_10 c_229 ac_229 = true := by decide +kernel
abbrev q_X6_alter_5 : CE := c_229
def c_230 : CE := (95, [rF [0], tI, iA 0 39, tI], [], iA (-12) 1, [], ([61, 63, 65, 67], []), []) -- X6_lay
def ac_230 : List AnE := [(0, ([rF [0], tI, iA 0 39, tI, none], [], []), 2, [0, 0, 0, 0, 0]),
  (11, ([rF [0], iA 0 3, iA 0 39, tI, none], [], []), 1, [0, 0, 0, 0, 0]),
  (35, ([rF [0], iA 0 3, iA 0 39, tI, iA 0 0], [], []), 0, [0, 0, 0, 0, 0])]
theorem kc_230 : chkM shP TV t_10 c_230 ac_230 = true := by decide +kernel
abbrev q_X6_lay_2 : CE := c_230
def c_231 : CE := (145, [rF [68], tI, cst 2, tI], [], tI, [], ([], [13810, 13815, 13820, 13825, 13830, 13835]), []) -- X7_alter
def ac_231 : List AnE := [(0, ([rF [68], tI, cst 2, tI, none], [], []), 8, [0, 0, 0, 0, 0]),
  (16, ([rF [68], tI, iA 2 2, tI, none], [], []), 7, [0, 0, 0, 0, 0]),
  (29, ([rF [68], tI, iA 2 2, tI, none], [], []), 6, [0, 0, 0, 0, 0]),
  (59, ([rF [68], tI, iA 2 2, tI, none], [], []), 1, [0, 0, 0, 0, 0]),
  (60, ([rF [68], tI, iA 2 2, iA 0 9, none], [cst 1], []), 5, [0, 0, 0, 0, 0]),
  (75, ([rF [68], tI, iA 2 2, tI, iA 0 1], [], []), 0, [0, 0, 0, 0, 0]),
  (77, ([rF [68], iA 0 5, iA 2 2, iA 0 9, iA 1 1], [], []), 4, [0, 0, 0, 0, 0]),
  (101, ([rF [68], iA 0 5, iA 2 2, iA 0 9, iA 1 1], [], []), 2, [0, 0, 0, 0, 0]),
  (103, ([rF [68], iA 0 5, iA 2 2, iA 0 9, iA 1 1], [tI], []), 3, [0, 0, 0, 0, 0])]
theorem kc_231 : chkM shP TV t_10 c_231 ac_231 = true := by decide +kernel
abbrev q_X7_alter_2 : CE := c_231
def c_232 : CE := (145, [rF [68], tI, cst 3, tI], [], tI, [], ([], [13811, 13816, 13821, 13826, 13831, 13836]), []) -- X7_alter
def ac_232 : List AnE := [(0, ([rF [68], tI, cst 3, tI, none], [], []), 8, [0, 0, 0, 0, 0]),
  (16, ([rF [68], tI, iA 3 3, tI, none], [], []), 7, [0, 0, 0, 0, 0]),
  (29, ([rF [68], tI, iA 3 3, tI, none], [], []), 6, [0, 0, 0, 0, 0]),
  (59, ([rF [68], tI, iA 3 3, tI, none], [], []), 1, [0, 0, 0, 0, 0]),
  (60, ([rF [68], tI, iA 3 3, iA 0 9, none], [cst 1], []), 5, [0, 0, 0, 0, 0]),
  (75, ([rF [68], tI, iA 3 3, tI, iA 0 1], [], []), 0, [0, 0, 0, 0, 0]),
  (77, ([rF [68], iA 0 5, iA 3 3, iA 0 9, iA 1 1], [], []), 4, [0, 0, 0, 0, 0]),
  (101, ([rF [68], iA 0 5, iA 3 3, iA 0 9, iA 1 1], [], []), 2, [0, 0, 0, 0, 0]),
  (103, ([rF [68], iA 0 5, iA 3 3, iA 0 9, iA 1 1], [tI], []), 3, [0, 0, 0, 0, 0])]
theorem kc_232 : chkM shP TV t_10 c_232 ac_232 = true := by decide +kernel
abbrev q_X7_alter_3 : CE := c_232
def c_233 : CE := (146, [rF [68], cst 2, tI], [], tI, [], ([], [13839, 13840]), []) -- X7_set
def ac_233 : List AnE := [(0, ([rF [68], cst 2, tI, none], [], []), 3, [0, 0, 0, 0]),
  (56, ([rF [68], iA 2 2, tI, none], [some (.inl ((0, 1, 1), none, 0, (0, 0), [(3, 0, 20)]))], []), 2, [0, 0, 0, 0]),
  (75, ([rF [68], iA 2 2, tI, iA 0 0], [], []), 0, [0, 0, 0, 0]),
  (76, ([rF [68], iA 2 2, tI, iA 1 1], [tI], []), 1, [0, 0, 0, 0])]
theorem kc_233 : chkM shP TV t_10 c_233 ac_233 = true := by decide +kernel
abbrev q_X7_set_2 : CE := c_233
def c_234 : CE := (146, [rF [68], cst 3, tI], [], tI, [], ([], [13839, 13840]), []) -- X7_set
def ac_234 : List AnE := [(0, ([rF [68], cst 3, tI, none], [], []), 4, [0, 0, 0, 0]),
  (17, ([rF [68], iA 3 3, tI, none], [], []), 3, [0, 0, 0, 0]),
  (56, ([rF [68], iA 3 3, tI, none], [some (.inl ((0, 1, 1), none, 0, (0, 0), [(3, 0, 60)]))], []), 2, [0, 0, 0, 0]),
  (75, ([rF [68], iA 3 3, tI, iA 0 0], [], []), 0, [0, 0, 0, 0]),
  (76, ([rF [68], iA 3 3, tI, iA 1 1], [tI], []), 1, [0, 0, 0, 0])]
theorem kc_234 : chkM shP TV t_10 c_234 ac_234 = true := by decide +kernel
abbrev q_X7_set_3 : CE := c_234
def c_235 : CE := (146, [rF [68], cst 4, tI], [], iA (-1) 9, [], ([], [13841]), []) -- X7_set
def ac_235 : List AnE := [(0, ([rF [68], cst 4, tI, none], [], []), 6, [0, 0, 0, 0]),
  (17, ([rF [68], iA 4 4, tI, none], [], []), 5, [0, 0, 0, 0]),
  (34, ([rF [68], iA 4 4, tI, none], [], []), 4, [0, 0, 0, 0]),
  (55, ([rF [68], iA 4 4, tI, none], [], []), 1, [0, 0, 0, 0]),
  (56, ([rF [68], iA 4 4, iA 1 9, none], [cst 1], []), 3, [0, 0, 0, 0]),
  (75, ([rF [68], iA 4 4, tI, iA 0 0], [], []), 0, [0, 0, 0, 0]),
  (76, ([rF [68], iA 4 4, iA 1 9, iA 1 1], [iA 1 9], []), 2, [0, 0, 0, 0])]
theorem kc_235 : chkM shP TV t_10 c_235 ac_235 = true := by decide +kernel
abbrev q_X7_set_4 : CE := c_235
def c_236 : CE := (148, [rF [68], tI], [], tI, [], ([70, 74], [13800, 13801, 13802, 13803, 13804, 13805, 13806, 13807, 13808, 13809, 13810, 13811, 13812, 13813, 13814, 13815, 13816, 13817, 13818, 13819, 13820, 13821, 13822, 13823, 13824, 13825, 13826, 13827, 13828, 13829, 13830, 13831, 13832, 13833, 13834, 13835, 13836, 13837, 13838, 13839, 13840, 13841, 13842, 13843, 13844, 13845, 13846, 13847, 13848, 13849, 13850, 13851, 13852, 13853, 13854, 13855, 13856, 13857, 13858, 13859, 13860, 13861, 13862]), []) -- X7_hire
def ac_236 : List AnE := [(0, ([rF [68], tI, none, none], [], []), 5, [0, 0, 0, 0]),
  (10, ([rF [68], iA 0 5, none, none], [], []), 4, [0, 0, 0, 0]),
  (57, ([rF [68], iA 0 5, iA 0 3, none], [], [(14041, 1, 9)]), 0, [0, 0, 0, 0]),
  (60, ([rF [68], iA 0 5, iA 0 3, none], [], [(14041, 1, 9)]), 3, [0, 0, 0, 0]),
  (73, ([rF [68], iA 0 5, iA 0 3, none], [], [(14041, 1, 9)]), 1, [0, 0, 0, 0]),
  (74, ([rF [68], iA 0 5, iA 0 3, none], [cst 2], [(14041, 1, 9)]), 2, [0, 0, 0, 0])]
theorem kc_236 : chkM shP TV t_10 c_236 ac_236 = true := by decide +kernel
abbrev q_X7_hire : CE := c_236
def b_11 : List (CE × List AnE) := [(c_226, ac_226), (c_227, ac_227), (c_228, ac_228), (c_229, ac_229), (c_230, ac_230), (c_231, ac_231), (c_232, ac_232), (c_233, ac_233), (c_234, ac_234), (c_235, ac_235), (c_236, ac_236)]
def t_11 : List CE := [c_226, c_227, c_228, c_229, c_230, c_231, c_232, c_233, c_234, c_235, c_236] ++ t_10
theorem h_up11 {wS : List Value → Mm → Option Rs} {k : Nat} (h : Hall TV wS k t_10) : Hall TV wS (k + 1) t_11 := by
  refine Hall_step h b_11 ?_
  unfold b_11
  simp only [List.all_cons, List.all_nil, kc_226, kc_227, kc_228, kc_229, kc_230, kc_231, kc_232, kc_233, kc_234, kc_235, kc_236, Bool.and_self]
def h_al0t : CE := (145, [rF [68], tI, cst 0, tI], [], iA (-2) 3, [], ([], [13808, 13813, 13818, 13823, 13828, 13833]), []) -- X7_alter
def a_al0t : List AnE := [(60, ([rF [68], tI, cst 0, iA 0 3, none], [cst 1], []), 4, [0, 0, 0, 0, 0]),
  (75, ([rF [68], tI, cst 0, iA 0 3, cst 1], [], []), 0, [0, 0, 0, 0, 0]),
  (77, ([rF [68], iA 0 5, cst 0, iA 0 3, iA 1 1], [], []), 3, [0, 0, 0, 0, 0]),
  (101, ([rF [68], iA 0 5, cst 0, iA 0 3, iA 1 1], [], []), 1, [0, 0, 0, 0, 0]),
  (103, ([rF [68], iA 0 5, cst 0, iA 0 3, iA 1 1], [iA 0 3], []), 2, [0, 0, 0, 0, 0])]
theorem k_al0t : a_al0t.all (blkOK shP TV t_11 (mT 145) h_al0t (codeZ 145) a_al0t) = true := by decide +kernel
def h_al0f : CE := (145, [rF [68], tI, cst 0, tI], [], cst (-1), [], ([], []), []) -- X7_alter
def a_al0f : List AnE := [(60, ([rF [68], tI, cst 0, tI, none], [cst 0], []), 1, [0, 0, 0, 0, 0]),
  (75, ([rF [68], tI, cst 0, tI, cst 0], [], []), 0, [0, 0, 0, 0, 0])]
theorem k_al0f : a_al0f.all (blkOK shP TV t_11 (mT 145) h_al0t (codeZ 145) a_al0f) = true := by decide +kernel
def h_al1t : CE := (145, [rF [68], tI, cst 1, tI], [], iA (-2) 3, [], ([], [13809, 13814, 13819, 13824, 13829, 13834]), []) -- X7_alter
def a_al1t : List AnE := [(60, ([rF [68], tI, cst 1, iA 0 3, none], [cst 1], []), 4, [0, 0, 0, 0, 0]),
  (75, ([rF [68], tI, cst 1, iA 0 3, cst 1], [], []), 0, [0, 0, 0, 0, 0]),
  (77, ([rF [68], iA 0 5, cst 1, iA 0 3, iA 1 1], [], []), 3, [0, 0, 0, 0, 0]),
  (101, ([rF [68], iA 0 5, cst 1, iA 0 3, iA 1 1], [], []), 1, [0, 0, 0, 0, 0]),
  (103, ([rF [68], iA 0 5, cst 1, iA 0 3, iA 1 1], [iA 0 3], []), 2, [0, 0, 0, 0, 0])]
theorem k_al1t : a_al1t.all (blkOK shP TV t_11 (mT 145) h_al1t (codeZ 145) a_al1t) = true := by decide +kernel
def h_fo : CE := (165, [rF [68], tI, tI, tI], [], none, [], ([70, 74], [13617, 13618, 13619, 13620]), []) -- X7_findOdds
def a_fo : List AnE := [(72, ([rF [68], tI, tI, tI, tI, iA 0 64, none, none, none, none], [], []), 4484, [0, 0, 0, 0, 0, (-69), 0, 0, 0, 0]),
  (99, ([rF [68], tI, tI, tI, tI, iA 0 63, tJ, none, iA 0 6, none], [], [(14041, 1, 9)]), 4482, [0, 0, 0, 0, 0, (-69), 0, 0, (-9), 0]),
  (126, ([rF [68], tI, tI, tI, tI, iA 0 63, tJ, none, iA 0 5, none], [], [(14038, 1, 6), (14041, 1, 9)]), 4480, [0, 0, 0, 0, 0, (-69), 0, 0, (-9), 0]),
  (127, ([rF [68], tI, tI, tI, tI, iA 0 63, tJ, none, iA 0 5, none], [cst 1], [(14038, 1, 6), (14041, 1, 9)]), 4481, [0, 0, 0, 0, 0, (-69), 0, 0, (-9), 0]),
  (145, ([rF [68], tI, tI, tI, tI, iA 0 63, tJ, none, iA 0 5, iA 0 1], [tJ], [(14038, 1, 6), (14041, 1, 9)]), 4479, [0, 0, 0, 0, 0, (-69), 0, 0, (-9), 0]),
  (155, ([rF [68], tI, tI, tI, tI, iA 0 63, tJ, none, iA 0 5, iA 0 0], [tJ], [(14038, 1, 6), (14041, 1, 9)]), 4476, [0, 0, 0, 0, 0, (-69), 0, 0, (-9), 0]),
  (160, ([rF [68], tI, tI, tI, tI, iA 0 63, tJ, none, iA 0 5, iA 0 1], [some (.inr (.inr ((-2147483648), 2147483647, 0))), tJ], [(14038, 1, 6), (14041, 1, 9)]), 4478, [0, 0, 0, 0, 0, (-69), 0, 0, (-9), 0]),
  (176, ([rF [68], tI, tI, tI, tI, iA 0 63, tJ, none, iA 0 5, iA 0 0], [cst 0, some (.inl ((0, 5, 1), none, 9, (0, 0), [])), rF [68]], [(14038, 1, 6), (14041, 1, 9)]), 4475, [0, 0, 0, 0, 0, (-69), 0, 0, (-9), 0]),
  (183, ([rF [68], tI, tI, tI, tI, iA 0 63, tJ, none, iA 0 5, iA 1 1], [cst 3, cst 0, some (.inl ((0, 5, 1), none, 9, (0, 0), [])), rF [68]], [(14038, 1, 6), (14041, 1, 9)]), 4477, [0, 0, 0, 0, 0, (-69), 0, 0, (-9), 0]),
  (192, ([rF [68], tI, tI, tI, tI, iA 0 63, tJ, none, iA 0 6, none], [], [(14041, 1, 9)]), 4420, [0, 0, 0, 0, 0, (-69), 0, 0, 0, 0]),
  (233, ([rF [68], tI, tI, tI, tI, iA 0 63, tJ, none, iA 0 6, none], [tJ, rF [68]], [(14041, 1, 9)]), 4418, [0, 0, 0, 0, 0, (-69), 0, 0, 0, 0]),
  (234, ([rF [68], tI, tI, tI, tI, iA 0 63, tJ, none, iA 0 6, none], [tJ, tJ, rF [68]], [(14041, 1, 9)]), 4419, [0, 0, 0, 0, 0, (-69), 0, 0, 0, 0]),
  (238, ([rF [68], tI, tI, tI, tI, iA 0 63, none, none, none, none], [], []), 4417, [0, 0, 0, 0, 0, (-69), 0, 0, 0, 0]),
  (244, ([rF [68], tI, tI, tI, tI, iA 64 64, none, none, none, none], [], []), 0, [0, 0, 0, 0, 0, 0, 0, 0, 0, 0])]
theorem k_fo : a_fo.all (blkOK shP TV t_11 (mT 165) h_fo (codeZ 165) a_fo) = true := by decide +kernel
def h_al1f : CE := (145, [rF [68], tI, cst 1, tI], [], cst (-1), [], ([], []), []) -- X7_alter
def a_al1f : List AnE := [(60, ([rF [68], tI, cst 1, tI, none], [cst 0], []), 1, [0, 0, 0, 0, 0]),
  (75, ([rF [68], tI, cst 1, tI, cst 0], [], []), 0, [0, 0, 0, 0, 0])]
theorem k_al1f : a_al1f.all (blkOK shP TV t_11 (mT 145) h_al1t (codeZ 145) a_al1f) = true := by decide +kernel
