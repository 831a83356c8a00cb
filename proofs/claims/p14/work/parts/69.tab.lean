/-! contracts of the text: written by wip/gen/contracts3.py -/
def c_257 : CE := (108, [rF [68], iA 0 1000], [], tI, [], ([], []), []) -- X7_byteAt
def ac_257 : List AnE := [(0, ([rF [68], iA 0 1000], [], []), 2, [0, 0]),
  (17, ([rF [68], iA 0 1000], [], []), 0, [0, 0]),
  (18, ([rF [68], iA 0 159], [tI], [(13609, 1, 160)]), 1, [0, 0])]
theorem kc_257 : chkM shP TV t_19 c_257 ac_257 = true := by decide +kernel
abbrev q_X7_byteAt : CE := c_257
def b_20 : List (CE × List AnE) := [(c_257, ac_257)]
def t_20 : List CE := [c_257] ++ t_19
theorem h_up20 {wS : List Value → Mm → Option Rs} {k : Nat} (h : Hall TV wS k t_19) : Hall TV wS (k + 1) t_20 := by
  refine Hall_step h b_20 ?_
  unfold b_20
  simp only [List.all_cons, List.all_nil, kc_257, Bool.and_self]
def c_258 : CE := (109, [rF [68], tI, tI, tI, tI], [], iA 0 1, [], ([], []), []) -- X7_is
def ac_258 : List AnE := [(0, ([rF [68], tI, tI, tI, tI], [], []), 2, [0, 0, 0, 0, 0]),
  (58, ([rF [68], tI, tI, tI, tI], [], []), 0, [0, 0, 0, 0, 0]),
  (59, ([rF [68], iA (-160) 160, tI, tI, tI], [cst 1], []), 1, [0, 0, 0, 0, 0])]
theorem kc_258 : chkM shP TV t_20 c_258 ac_258 = true := by decide +kernel
abbrev q_X7_is : CE := c_258
def c_259 : CE := (110, [rF [68], tI, tI, tI, tI], [], iA 0 1, [], ([], []), []) -- X7_ends
def ac_259 : List AnE := [(0, ([rF [68], tI, tI, tI, tI], [], []), 5, [0, 0, 0, 0, 0]),
  (32, ([rF [68], tI, iA 0 0, tI, tI], [], []), 4, [0, 0, 0, 0, 0]),
  (50, ([rF [68], tI, tI, iA 0 0, tI], [], []), 3, [0, 0, 0, 0, 0]),
  (71, ([rF [68], tI, tI, tI, iA 0 0], [], []), 2, [0, 0, 0, 0, 0]),
  (75, ([rF [68], tI, tI, tI, tI], [], []), 0, [0, 0, 0, 0, 0]),
  (76, ([rF [68], tI, tI, tI, tI], [cst 1], []), 1, [0, 0, 0, 0, 0])]
theorem kc_259 : chkM shP TV t_20 c_259 ac_259 = true := by decide +kernel
abbrev q_X7_ends : CE := c_259
def b_21 : List (CE × List AnE) := [(c_258, ac_258), (c_259, ac_259)]
def t_21 : List CE := [c_258, c_259] ++ t_20
theorem h_up21 {wS : List Value → Mm → Option Rs} {k : Nat} (h : Hall TV wS k t_20) : Hall TV wS (k + 1) t_21 := by
  refine Hall_step h b_21 ?_
  unfold b_21
  simp only [List.all_cons, List.all_nil, kc_258, kc_259, Bool.and_self]
def c_260 : CE := (111, [rF [68]], [], some (.inl ((0, 3, 1), some (-4), 0, (0, 0), [])), [], ([], []), []) -- X7_kindNow
def ac_260 : List AnE := [(0, ([rF [68]], [], []), 5, [0]),
  (29, ([rF [68]], [], []), 4, [0]),
  (58, ([rF [68]], [], []), 3, [0]),
  (92, ([rF [68]], [], []), 2, [0]),
  (123, ([rF [68]], [], []), 0, [0]),
  (125, ([rF [68]], [iA 2 3], []), 1, [0])]
theorem kc_260 : chkM shP TV t_21 c_260 ac_260 = true := by decide +kernel
abbrev q_X7_kindNow : CE := c_260
def b_22 : List (CE × List AnE) := [(c_260, ac_260)]
def t_22 : List CE := [c_260] ++ t_21
theorem h_up22 {wS : List Value → Mm → Option Rs} {k : Nat} (h : Hall TV wS k t_21) : Hall TV wS (k + 1) t_22 := by
  refine Hall_step h b_22 ?_
  unfold b_22
  simp only [List.all_cons, List.all_nil, kc_260, Bool.and_self]
def c_261 : CE := (112, [rF [68]], [], some (.inl ((0, 7, 1), some (-4), 0, (0, 0), [])), [], ([], []), []) -- X7_lineNow
def ac_261 : List AnE := [(0, ([rF [68]], [], []), 5, [0]),
  (32, ([rF [68]], [], []), 4, [0]),
  (61, ([rF [68]], [], []), 3, [0]),
  (92, ([rF [68]], [], []), 2, [0]),
  (124, ([rF [68]], [], []), 0, [0]),
  (128, ([rF [68]], [iA 6 7], []), 1, [0])]
theorem kc_261 : chkM shP TV t_22 c_261 ac_261 = true := by decide +kernel
abbrev q_X7_lineNow : CE := c_261
def b_23 : List (CE × List AnE) := [(c_261, ac_261)]
def t_23 : List CE := [c_261] ++ t_22
theorem h_up23 {wS : List Value → Mm → Option Rs} {k : Nat} (h : Hall TV wS k t_22) : Hall TV wS (k + 1) t_23 := by
  refine Hall_step h b_23 ?_
  unfold b_23
  simp only [List.all_cons, List.all_nil, kc_261, Bool.and_self]
