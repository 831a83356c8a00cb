/-! contracts of the text: written by wip/gen/contracts3.py -/
def c_237 : CE := (10, [rF [24]], [], tI, [], ([], []), []) -- X3_number
def ac_237 : List AnE := [(0, ([rF [24], none, none], [], []), 323, [0, 0, 0]),
  (7, ([rF [24], tI, iA 0 160], [], []), 321, [0, 0, (-2)]),
  (36, ([rF [24], tI, iA 0 160], [], []), 0, [0, 0, 0])]
theorem kc_237 : chkM shP TV t_12 c_237 ac_237 = true := by decide +kernel
abbrev q_X3_number : CE := c_237
def c_238 : CE := (14, [rF [23], iA 0 7, rF [10]], [], iA 0 1, [], ([], []), []) -- X4_hasNoRoom
def ac_238 : List AnE := [(0, ([rF [23], iA 0 7, rF [10]], [], []), 5, [0, 0, 0]),
  (16, ([rF [23], iA 0 0, rF [10]], [], [(2000, 0, 3)]), 3, [0, 0, 0]),
  (17, ([rF [23], iA 0 0, rF [10]], [cst 1], [(2000, 4, 4)]), 4, [0, 0, 0]),
  (18, ([rF [23], iA 1 7, rF [10]], [], []), 2, [0, 0, 0]),
  (36, ([rF [23], iA 1 7, rF [10]], [], []), 0, [0, 0, 0]),
  (37, ([rF [23], iA 1 4, rF [10]], [cst 1], [(2001, 6, 6)]), 1, [0, 0, 0])]
theorem kc_238 : chkM shP TV t_12 c_238 ac_238 = true := by decide +kernel
abbrev q_X4_hasNoRoom : CE := c_238
def c_239 : CE := (16, [iA 0 7, tI], [], iA 3 99, [], ([], []), []) -- X4_most
def ac_239 : List AnE := [(0, ([iA 0 7, tI], [], []), 9, [0, 0]),
  (48, ([iA 0 0, tI], [], []), 2, [0, 0]),
  (57, ([iA 0 0, tI], [], []), 0, [0, 0]),
  (59, ([iA 0 0, iA 0 0], [cst 99], []), 1, [0, 0]),
  (60, ([iA 5 5, tI], [], []), 6, [0, 0]),
  (63, ([iA 6 6, tI], [], []), 7, [0, 0]),
  (66, ([iA 7 7, tI], [], []), 8, [0, 0]),
  (69, ([iA 1 4, tI], [], []), 5, [0, 0]),
  (77, ([iA 1 4, tI], [], []), 3, [0, 0]),
  (79, ([iA 1 4, iA 0 0], [cst 3], []), 4, [0, 0])]
theorem kc_239 : chkM shP TV t_12 c_239 ac_239 = true := by decide +kernel
abbrev q_X4_most : CE := c_239
def c_240 : CE := (17, [rF [23], iA 5 7, rF [10]], [], none, [], ([], [2002, 2003, 2004, 4604]), []) -- X4_enter
def ac_240 : List AnE := [(0, ([rF [23], iA 5 7, rF [10]], [], []), 4, [0, 0, 0]),
  (68, ([rF [23], iA 5 5, rF [10]], [], []), 1, [0, 0, 0]),
  (93, ([rF [23], iA 6 6, rF [10]], [], []), 2, [0, 0, 0]),
  (118, ([rF [23], iA 7 7, rF [10]], [], []), 3, [0, 0, 0]),
  (169, ([rF [23], iA 5 7, rF [10]], [], []), 0, [0, 0, 0])]
theorem kc_240 : chkM shP TV t_12 c_240 ac_240 = true := by decide +kernel
abbrev q_X4_enter : CE := c_240
def c_241 : CE := (20, [rF [23], tI, tI], [], none, [], ([], [4601, 4602]), []) -- X4_refuse
def ac_241 : List AnE := [(0, ([rF [23], tI, tI], [], []), 0, [0, 0, 0])]
theorem kc_241 : chkM shP TV t_12 c_241 ac_241 = true := by decide +kernel
abbrev q_X4_refuse : CE := c_241
def c_242 : CE := (22, [tI], [], rF [2000, 2001, 2002, 2003, 2004, 2005, 2006, 2007], [], ([], []), []) -- X4_word
def ac_242 : List AnE := [(0, ([tI], [], []), 8, [0]),
  (44, ([iA 0 0], [], []), 1, [0]),
  (47, ([iA 1 1], [], []), 2, [0]),
  (50, ([iA 2 2], [], []), 3, [0]),
  (53, ([iA 3 3], [], []), 4, [0]),
  (56, ([iA 4 4], [], []), 5, [0]),
  (59, ([iA 5 5], [], []), 6, [0]),
  (62, ([iA 6 6], [], []), 7, [0]),
  (65, ([tI], [], []), 0, [0])]
theorem kc_242 : chkM shP TV t_12 c_242 ac_242 = true := by decide +kernel
abbrev q_X4_word : CE := c_242
def c_243 : CE := (24, [rF [10]], [], none, [], ([13], []), []) -- X5_takeTurnsByNumber
def ac_243 : List AnE := [(0, ([rF [10], none], [], []), 11, [0, 0]),
  (2, ([rF [10], iA 0 4], [], []), 9, [0, (-2)]),
  (20, ([rF [10], iA 4 4], [], []), 0, [0, 0])]
theorem kc_243 : chkM shP TV t_12 c_243 ac_243 = true := by decide +kernel
abbrev q_X5_takeTurnsByNumber : CE := c_243
def c_244 : CE := (28, [rF [10], tI, tI], [], iA 0 1, [(2000, 1, 4)], ([11, 12], [2000]), []) -- X5_addVillage
def ac_244 : List AnE := [(0, ([rF [10], tI, tI], [], []), 1, [0, 0, 0]),
  (10, ([rF [10], tI, tI], [], [(2000, 0, 3)]), 0, [0, 0, 0])]
theorem kc_244 : chkM shP TV t_12 c_244 ac_244 = true := by decide +kernel
abbrev q_X5_addVillage : CE := c_244
def c_245 : CE := (29, [rF [10], iA 0 3, iA 0 3, tI, tI], [], iA 0 1, [(2001, 1, 6)], ([14, 15, 16, 17, 18], [2001]), []) -- X5_addBody
def ac_245 : List AnE := [(0, ([rF [10], iA 0 3, iA 0 3, tI, tI], [], []), 1, [0, 0, 0, 0, 0]),
  (11, ([rF [10], iA 0 3, iA 0 3, tI, tI], [], [(2001, 0, 5)]), 0, [0, 0, 0, 0, 0])]
theorem kc_245 : chkM shP TV t_12 c_245 ac_245 = true := by decide +kernel
abbrev q_X5_addBody_1 : CE := c_245
def b_13 : List (CE × List AnE) := [(c_237, ac_237), (c_238, ac_238), (c_239, ac_239), (c_240, ac_240), (c_241, ac_241), (c_242, ac_242), (c_243, ac_243), (c_244, ac_244), (c_245, ac_245)]
def t_13 : List CE := [c_237, c_238, c_239, c_240, c_241, c_242, c_243, c_244, c_245] ++ t_12
theorem h_up13 {wS : List Value → Mm → Option Rs} {k : Nat} (h : Hall TV wS k t_12) : Hall TV wS (k + 1) t_13 := by
  refine Hall_step h b_13 ?_
  unfold b_13
  simp only [List.all_cons, List.all_nil, kc_237, kc_238, kc_239, kc_240, kc_241, kc_242, kc_243, kc_244, kc_245, Bool.and_self]
def c_246 : CE := (17, [rF [23], iA 1 4, rF [10]], [(5200, 0, 3)], none, [(2001, 1, 6)], ([14, 15, 16, 17, 18], [2001]), []) -- X4_enter
def ac_246 : List AnE := [(0, ([rF [23], iA 1 4, rF [10]], [], [(5200, 0, 3)]), 1, [0, 0, 0]),
  (143, ([rF [23], iA 1 4, rF [10]], [], [(5200, 0, 3)]), 0, [0, 0, 0])]
theorem kc_246 : chkM shP TV t_13 c_246 ac_246 = true := by decide +kernel
abbrev q_X4_enter_1 : CE := c_246
def c_247 : CE := (17, [rF [23], cst 0, rF [10]], [], none, [(2000, 1, 4)], ([11, 12], [2000]), []) -- X4_enter
def ac_247 : List AnE := [(0, ([rF [23], cst 0, rF [10]], [], []), 2, [0, 0, 0]),
  (48, ([rF [23], iA 0 0, rF [10]], [], []), 1, [0, 0, 0]),
  (169, ([rF [23], iA 0 0, rF [10]], [], [(2000, 1, 4)]), 0, [0, 0, 0])]
theorem kc_247 : chkM shP TV t_13 c_247 ac_247 = true := by decide +kernel
abbrev q_X4_enter_2 : CE := c_247
def c_248 : CE := (18, [rF [23], rF [10]], [], none, [], ([], [4601, 4602]), []) -- X4_checkPlaces
def ac_248 : List AnE := [(0, ([rF [23], rF [10], none], [], []), 22, [0, 0, 0]),
  (2, ([rF [23], rF [10], iA 0 6], [], []), 20, [0, 0, (-3)]),
  (36, ([rF [23], rF [10], iA 0 5], [], [(2001, 1, 6)]), 19, [0, 0, (-3)]),
  (42, ([rF [23], rF [10], iA 0 6], [], []), 0, [0, 0, 0])]
theorem kc_248 : chkM shP TV t_13 c_248 ac_248 = true := by decide +kernel
abbrev q_X4_checkPlaces : CE := c_248
def c_249 : CE := (19, [rF [23], tI, tI], [], iA 0 1, [], ([], [4601, 4602]), []) -- X4_expect
def ac_249 : List AnE := [(0, ([rF [23], tI, tI], [], []), 3, [0, 0, 0]),
  (7, ([rF [23], tI, tI], [], []), 2, [0, 0, 0]),
  (17, ([rF [23], tI, tI], [rF [23]], []), 0, [0, 0, 0]),
  (18, ([rF [23], iA 4 4, tI], [cst 1, rF [23]], []), 1, [0, 0, 0])]
theorem kc_249 : chkM shP TV t_13 c_249 ac_249 = true := by decide +kernel
abbrev q_X4_expect : CE := c_249
def c_250 : CE := (21, [rF [23]], [], some (.inl ((0, 7, 1), some (-4), 0, (0, 0), [])), [], ([], []), []) -- X4_lineOf
def ac_250 : List AnE := [(0, ([rF [23], none], [], []), 28, [0, 0]),
  (2, ([rF [23], iA 0 8], [], []), 26, [0, (-3)]),
  (24, ([rF [23], iA 0 7], [], []), 25, [0, (-3)]),
  (30, ([rF [23], iA 8 8], [], []), 0, [0, 0])]
theorem kc_250 : chkM shP TV t_13 c_250 ac_250 = true := by decide +kernel
abbrev q_X4_lineOf : CE := c_250
def c_251 : CE := (23, [rF [10]], [], none, [(2000, 0, 0), (2001, 0, 0)], ([13], [2000, 2001, 2002, 2003, 2004, 2005, 2006, 2007]), []) -- X5_clear
def ac_251 : List AnE := [(0, ([rF [10]], [], []), 0, [0])]
theorem kc_251 : chkM shP TV t_13 c_251 ac_251 = true := by decide +kernel
abbrev q_X5_clear : CE := c_251
def b_14 : List (CE × List AnE) := [(c_246, ac_246), (c_247, ac_247), (c_248, ac_248), (c_249, ac_249), (c_250, ac_250), (c_251, ac_251)]
def t_14 : List CE := [c_246, c_247, c_248, c_249, c_250, c_251] ++ t_13
theorem h_up14 {wS : List Value → Mm → Option Rs} {k : Nat} (h : Hall TV wS k t_13) : Hall TV wS (k + 1) t_14 := by
  refine Hall_step h b_14 ?_
  unfold b_14
  simp only [List.all_cons, List.all_nil, kc_246, kc_247, kc_248, kc_249, kc_250, kc_251, Bool.and_self]
def c_252 : CE := (15, [rF [23], cst 0], [], iA 0 1, [], ([26], [4601, 4602, 4801, 4802]), []) -- X4_takeNumbers
def ac_252 : List AnE := [(0, ([rF [23], cst 0, none, none, none], [], []), 15, [0, 0, 0, 0, 0]),
  (18, ([rF [23], iA 0 0, none, none, none], [cst 2], []), 14, [0, 0, 0, 0, 0]),
  (21, ([rF [23], iA 0 0, iA 2 2, iA 0 2, none], [], []), 12, [0, 0, 0, (-4), 0]),
  (43, ([rF [23], iA 0 0, iA 2 2, iA 0 1, none], [], []), 11, [0, 0, 0, (-4), 0]),
  (73, ([rF [23], iA 0 0, iA 2 2, iA 0 1, tI], [], []), 1, [0, 0, 0, 0, 0]),
  (87, ([rF [23], iA 0 0, iA 2 2, iA 0 1, tI], [], []), 10, [0, 0, 0, (-4), 0]),
  (101, ([rF [23], iA 0 0, iA 2 2, iA 2 2, none], [], []), 0, [0, 0, 0, 0, 0])]
theorem kc_252 : chkM shP TV t_14 c_252 ac_252 = true := by decide +kernel
abbrev q_X4_takeNumbers : CE := c_252
def c_253 : CE := (15, [rF [23], iA 5 7], [], iA 0 1, [], ([26], [4601, 4602, 4801, 4802]), []) -- X4_takeNumbers
def ac_253 : List AnE := [(0, ([rF [23], iA 5 7, none, none, none], [], []), 12, [0, 0, 0, 0, 0]),
  (8, ([rF [23], iA 5 7, none, none, none], [], []), 11, [0, 0, 0, 0, 0]),
  (17, ([rF [23], iA 5 7, none, none, none], [], []), 10, [0, 0, 0, 0, 0]),
  (21, ([rF [23], iA 5 7, iA 1 1, iA 0 1, none], [], []), 8, [0, 0, 0, (-4), 0]),
  (43, ([rF [23], iA 5 7, iA 1 1, iA 0 0, none], [], []), 7, [0, 0, 0, (-4), 0]),
  (73, ([rF [23], iA 5 7, iA 1 1, iA 0 0, tI], [], []), 1, [0, 0, 0, 0, 0]),
  (87, ([rF [23], iA 5 7, iA 1 1, iA 0 0, tI], [], []), 6, [0, 0, 0, (-4), 0]),
  (101, ([rF [23], iA 5 7, iA 1 1, iA 1 1, none], [], []), 0, [0, 0, 0, 0, 0])]
theorem kc_253 : chkM shP TV t_14 c_253 ac_253 = true := by decide +kernel
abbrev q_X4_takeNumbers_1 : CE := c_253
def b_15 : List (CE × List AnE) := [(c_252, ac_252), (c_253, ac_253)]
def t_15 : List CE := [c_252, c_253] ++ t_14
theorem h_up15 {wS : List Value → Mm → Option Rs} {k : Nat} (h : Hall TV wS k t_14) : Hall TV wS (k + 1) t_15 := by
  refine Hall_step h b_15 ?_
  unfold b_15
  simp only [List.all_cons, List.all_nil, kc_252, kc_253, Bool.and_self]
def h_tn : CE := (15, [rF [23], iA 1 4], [], iA 0 1, [(5200, 0, 3)], ([26], [4601, 4602, 4801, 4802]), []) -- X4_takeNumbers
def a_tn : List AnE := [(21, ([rF [23], iA 1 4, iA 3 3, iA 1 3, tI], [], [(5200, 0, 3)]), 16, [0, 0, 0, (-4), 0]),
  (43, ([rF [23], iA 1 4, iA 3 3, iA 1 2, tI], [], [(5200, 0, 3)]), 15, [0, 0, 0, (-4), 0]),
  (73, ([rF [23], iA 1 4, iA 3 3, iA 1 2, tI], [], [(5200, 0, 3)]), 1, [0, 0, 0, 0, 0]),
  (87, ([rF [23], iA 1 4, iA 3 3, iA 1 2, tI], [], [(5200, 0, 3)]), 14, [0, 0, 0, (-4), 0]),
  (101, ([rF [23], iA 1 4, iA 3 3, iA 3 3, tI], [], [(5200, 0, 3)]), 0, [0, 0, 0, 0, 0])]
theorem k_tn : a_tn.all (blkOK shP TV t_15 (mT 15) h_tn (codeZ 15) a_tn) = true := by decide +kernel
