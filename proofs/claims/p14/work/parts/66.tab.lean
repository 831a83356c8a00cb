/-! contracts of the text: written by wip/gen/contracts3.py -/
def h5_0 : CE := h_tl
def t_17 : List CE := [h5_0] ++ t_16
def c_254 : CE := (12, [rF [23], rF [10]], [], iA 0 159, [], ([11, 12, 13, 14, 15, 16, 17, 18, 26], [2000, 2001, 2002, 2003, 2004, 2005, 2006, 2007, 4601, 4602, 4604, 4801, 4802]), []) -- X4_tell
def ac_254 : List AnE := [(0, ([rF [23], rF [10], none, none], [], []), 645, [0, 0, 0, 0]),
  (24, ([rF [23], rF [10], iA 0 160, none], [], [(4601, 0, 0)]), 643, [0, 0, (-4), 0]),
  (50, ([rF [23], rF [10], iA 0 159, iA 1 4], [], [(4601, 0, 0)]), 642, [0, 0, (-4), 0]),
  (65, ([rF [23], rF [10], iA 0 159, iA 1 4], [], [(4601, 0, 0)]), 641, [0, 0, (-4), 0]),
  (71, ([rF [23], rF [10], iA 160 160, none], [], [(4601, 0, 0)]), 0, [0, 0, 0, 0])]
theorem kc_254 : chkM shP TV t_17 c_254 ac_254 = true := by decide +kernel
abbrev q_X4_tell : CE := c_254
def c_255 : CE := (25, [rF [1], rF [10]], [], none, [], ([2, 3, 4, 5, 6, 7, 8, 9], [200, 201, 202, 203, 204, 205, 206, 207]), []) -- X5_become
def ac_255 : List AnE := [(0, ([rF [1], rF [10]], [], []), 0, [0, 0])]
theorem kc_255 : chkM shP TV t_17 c_255 ac_255 = true := by decide +kernel
abbrev q_X5_become_6 : CE := c_255
def b_18 : List (CE × List AnE) := [(c_254, ac_254), (c_255, ac_255)]
def t_18 : List CE := [c_254, c_255] ++ t_17
theorem h_up18 {wS : List Value → Mm → Option Rs} {k : Nat} (h : Hall TV wS k t_17) : Hall TV wS (k + 1) t_18 := by
  refine Hall_step h b_18 ?_
  unfold b_18
  simp only [List.all_cons, List.all_nil, kc_254, kc_255, Bool.and_self]
def c_256 : CE := (45, [rF [0]], [], tI, [(4800, 0, 0)], ([2, 3, 4, 5, 6, 7, 8, 9, 11, 12, 13, 14, 15, 16, 17, 18, 26], [200, 201, 202, 203, 204, 205, 206, 207, 2000, 2001, 2002, 2003, 2004, 2005, 2006, 2007, 3800, 4601, 4602, 4604, 4800, 4801, 4802, 6400, 9200]), []) -- X6_text
def ac_256 : List AnE := [(0, ([rF [0], none, none], [], []), 8, [0, 0, 0]),
  (44, ([rF [0], iA 0 159, none], [], [(4601, 0, 0), (4800, 0, 0)]), 7, [0, 0, 0]),
  (65, ([rF [0], iA 0 159, iA 0 2], [], [(3800, 0, 0), (4601, 0, 0), (4800, 0, 0)]), 5, [0, 0, (-2)]),
  (86, ([rF [0], iA 0 159, iA 2 2], [], [(3800, 0, 0), (4601, 0, 0), (4800, 0, 0)]), 0, [0, 0, 0])]
theorem kc_256 : chkM shP TV t_18 c_256 ac_256 = true := by decide +kernel
abbrev q_X6_text : CE := c_256
def b_19 : List (CE × List AnE) := [(c_256, ac_256)]
def t_19 : List CE := [c_256] ++ t_18
theorem h_up19 {wS : List Value → Mm → Option Rs} {k : Nat} (h : Hall TV wS k t_18) : Hall TV wS (k + 1) t_19 := by
  refine Hall_step h b_19 ?_
  unfold b_19
  simp only [List.all_cons, List.all_nil, kc_256, Bool.and_self]
