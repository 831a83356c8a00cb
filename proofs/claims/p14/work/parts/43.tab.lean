/-! contracts, level 3: written by wip/gen/contracts.py -/
def c_124 : CE := (38, [rF [1]], [], none, [], ([2, 3, 6, 9], [205, 206, 207]), []) -- X5_passOne
def ac_124 : List AnE := [(0, ([rF [1], none], [], []), 12, [0, 0]),
  (2, ([rF [1], iA 0 4], [], []), 10, [0, (-2)]),
  (26, ([rF [1], iA 0 4], [], []), 1, [0, 0]),
  (59, ([rF [1], iA 0 4], [], []), 0, [0, 0])]
theorem kc_124 : chkM shP TV t_2 c_124 ac_124 = true := by decide +kernel
abbrev q_X5_passOne : CE := c_124
def c_125 : CE := (38, [rF [10]], [], none, [], ([11, 12, 15, 18], [2005, 2006, 2007]), []) -- X5_passOne
def ac_125 : List AnE := [(0, ([rF [10], none], [], []), 12, [0, 0]),
  (2, ([rF [10], iA 0 4], [], []), 10, [0, (-2)]),
  (26, ([rF [10], iA 0 4], [], []), 1, [0, 0]),
  (59, ([rF [10], iA 0 4], [], []), 0, [0, 0])]
theorem kc_125 : chkM shP TV t_2 c_125 ac_125 = true := by decide +kernel
abbrev q_X5_passOne_1 : CE := c_125
def c_126 : CE := (54, [rF [0], tI, tI, tI, tI], [], iA (-3) 5, [], ([5, 6, 7, 8, 9], [201]), []) -- X6_find
def ac_126 : List AnE := [(0, ([rF [0], tI, tI, tI, tI], [], []), 0, [0, 0, 0, 0, 0])]
theorem kc_126 : chkM shP TV t_2 c_126 ac_126 = true := by decide +kernel
abbrev q_X6_find : CE := c_126
def c_127 : CE := (98, [rF [0], tI], [], tI, [], ([], []), []) -- X6_count
def ac_127 : List AnE := [(0, ([rF [0], tI], [], []), 13, [0, 0]),
  (40, ([rF [0], iA 0 0], [], []), 1, [0, 0]),
  (48, ([rF [0], iA 1 1], [], []), 2, [0, 0]),
  (56, ([rF [0], iA 2 2], [], []), 7, [0, 0]),
  (72, ([rF [0], iA 2 2], [], [(6400, 0, 0)]), 5, [0, 0]),
  (73, ([rF [0], iA 2 2], [cst 1], [(6400, 1, 1)]), 6, [0, 0]),
  (89, ([rF [0], iA 2 2], [iA 0 1], [(9200, 0, 0)]), 3, [0, 0]),
  (90, ([rF [0], iA 2 2], [cst 1, iA 0 1], [(9200, 1, 1)]), 4, [0, 0]),
  (92, ([rF [0], iA 3 3], [], []), 8, [0, 0]),
  (103, ([rF [0], iA 4 4], [], []), 11, [0, 0]),
  (127, ([rF [0], iA 4 4], [], [(12000, 0, 0)]), 9, [0, 0]),
  (129, ([rF [0], iA 4 4], [some (.inl ((0, 40, 1), none, 13001, (0, 0), []))], [(12000, 1, 1)]), 10, [0, 0]),
  (130, ([rF [0], iA 5 5], [], []), 12, [0, 0]),
  (138, ([rF [0], tI], [], []), 0, [0, 0])]
theorem kc_127 : chkM shP TV t_2 c_127 ac_127 = true := by decide +kernel
abbrev q_X6_count : CE := c_127
def c_128 : CE := (129, [rF [68], iA 0 5], [], tI, [], ([], []), []) -- X7_lacks
def ac_128 : List AnE := [(0, ([rF [68], iA 0 5], [], []), 0, [0, 0])]
theorem kc_128 : chkM shP TV t_2 c_128 ac_128 = true := by decide +kernel
abbrev q_X7_lacks : CE := c_128
def c_129 : CE := (139, [rF [68], tI], [], tI, [(14041, 1, 9)], ([70, 74], []), []) -- X7_rule
def ac_129 : List AnE := [(0, ([rF [68], tI], [], []), 5, [0, 0]),
  (60, ([rF [68], iA 0 0], [], [(14041, 1, 9)]), 1, [0, 0]),
  (65, ([rF [68], iA 1 5], [], [(14041, 1, 9)]), 2, [0, 0]),
  (77, ([rF [68], iA 6 8], [], [(14041, 1, 9)]), 3, [0, 0]),
  (86, ([rF [68], iA 9 9], [], [(14041, 1, 9)]), 4, [0, 0]),
  (94, ([rF [68], tI], [], [(14041, 1, 9)]), 0, [0, 0])]
theorem kc_129 : chkM shP TV t_2 c_129 ac_129 = true := by decide +kernel
abbrev q_X7_rule : CE := c_129
def b_3 : List (CE × List AnE) := [(c_124, ac_124), (c_125, ac_125), (c_126, ac_126), (c_127, ac_127), (c_128, ac_128), (c_129, ac_129)]
def t_3 : List CE := [c_124, c_125, c_126, c_127, c_128, c_129] ++ t_2
theorem h_up3 {wS : List Value → Mm → Option Rs} {k : Nat} (h : Hall TV wS k t_2) : Hall TV wS (k + 1) t_3 := by
  refine Hall_step h b_3 ?_
  unfold b_3
  simp only [List.all_cons, List.all_nil, kc_124, kc_125, kc_126, kc_127, kc_128, kc_129, Bool.and_self]
