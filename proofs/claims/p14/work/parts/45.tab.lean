/-! contracts, level 5: written by wip/gen/contracts.py -/
def c_138 : CE := (57, [rF [0], tI], [], tI, [], ([2, 3, 6, 9], [205, 206, 207]), []) -- X6_nights
def ac_138 : List AnE := [(0, ([rF [0], tI], [], []), 3, [0, 0]),
  (12, ([rF [0], iA 0 30], [], []), 2, [0, 0]),
  (32, ([rF [0], iA 0 30], [], []), 0, [0, 0]),
  (40, ([rF [0], iA 0 30], [cst (-3)], []), 1, [0, 0])]
theorem kc_138 : chkM shP TV t_4 c_138 ac_138 = true := by decide +kernel
abbrev q_X6_nights : CE := c_138
def c_139 : CE := (58, [rF [0], tI, tI], [], tI, [], ([11, 12, 13, 14, 15, 16, 17, 18], [2000, 2001, 2002, 2003, 2004, 2005, 2006, 2007]), []) -- X6_runs
def ac_139 : List AnE := [(0, ([rF [0], tI, tI, none, none], [], []), 7, [0, 0, 0, 0, 0]),
  (19, ([rF [0], tI, tI, none, none], [], []), 0, [0, 0, 0, 0, 0]),
  (21, ([rF [0], iA 0 30, iA 0 4, none, none], [], []), 6, [0, 0, 0, 0, 0]),
  (64, ([rF [0], iA 0 30, iA 0 0, rF [10], tI], [], []), 2, [0, 0, 0, 0, 0]),
  (67, ([rF [0], iA 0 30, iA 1 1, rF [10], tI], [], []), 3, [0, 0, 0, 0, 0]),
  (73, ([rF [0], iA 0 30, iA 2 2, rF [10], tI], [], []), 4, [0, 0, 0, 0, 0]),
  (79, ([rF [0], iA 0 30, iA 3 3, rF [10], tI], [], []), 5, [0, 0, 0, 0, 0]),
  (84, ([rF [0], iA 0 30, iA 4 4, rF [10], tI], [], []), 1, [0, 0, 0, 0, 0])]
theorem kc_139 : chkM shP TV t_4 c_139 ac_139 = true := by decide +kernel
abbrev q_X6_runs : CE := c_139
def c_140 : CE := (59, [rF [0], tI, tI, tI], [], tI, [], ([11, 12, 13, 14, 15, 16, 17, 18], [2000, 2001, 2002, 2003, 2004, 2005, 2006, 2007]), []) -- X6_ahead
def ac_140 : List AnE := [(0, ([rF [0], tI, tI, tI, none], [], []), 4, [0, 0, 0, 0, 0]),
  (30, ([rF [0], tI, tI, tI, none], [], []), 0, [0, 0, 0, 0, 0]),
  (32, ([rF [0], iA 0 5, iA 0 30, iA 0 1, none], [], []), 3, [0, 0, 0, 0, 0]),
  (59, ([rF [0], iA 0 5, iA 0 30, iA 1 1, rF [10]], [], []), 1, [0, 0, 0, 0, 0]),
  (66, ([rF [0], iA 0 5, iA 0 30, iA 0 0, rF [10]], [iA 0 3], []), 2, [0, 0, 0, 0, 0])]
theorem kc_140 : chkM shP TV t_4 c_140 ac_140 = true := by decide +kernel
abbrev q_X6_ahead : CE := c_140
def c_141 : CE := (62, [rF [0], tI, tI], [], iA 0 63, [], ([11, 12, 13, 14, 15, 16, 17, 18], [2000, 2001, 2002, 2003, 2004, 2005, 2006, 2007]), []) -- X6_provedByPrice
def ac_141 : List AnE := [(0, ([rF [0], tI, tI, none], [], []), 0, [0, 0, 0, 0])]
theorem kc_141 : chkM shP TV t_4 c_141 ac_141 = true := by decide +kernel
abbrev q_X6_provedByPrice : CE := c_141
def c_142 : CE := (63, [rF [0], tI], [], some (.inl (((-1), 60, 1), some (-4), 0, (0, 0), [])), [], ([11, 12, 13, 14, 15, 16, 17, 18], [2000, 2001, 2002, 2003, 2004, 2005, 2006, 2007]), []) -- X6_mild
def ac_142 : List AnE := [(0, ([rF [0], tI, none, none], [], []), 188, [0, 0, 0, 0]),
  (12, ([rF [0], iA 0 20, none, none], [], []), 187, [0, 0, 0, 0]),
  (15, ([rF [0], iA 0 20, iA (-1) 60, none], [], []), 5, [0, 0, 3, 0]),
  (44, ([rF [0], iA 0 20, iA 0 60, rF [10]], [], [(2003, 0, 60)]), 4, [0, 0, 3, 0]),
  (50, ([rF [0], iA 0 20, iA (-1) (-1), none], [], []), 0, [0, 0, 0, 0])]
theorem kc_142 : chkM shP TV t_4 c_142 ac_142 = true := by decide +kernel
abbrev q_X6_mild : CE := c_142
def c_143 : CE := (65, [rF [0], iA 0 3, tI, tI], [], tI, [], ([11, 12, 13, 14, 15, 16, 17, 18], [2000, 2001, 2002, 2003, 2004, 2005, 2006, 2007]), []) -- X6_meansBehind
def ac_143 : List AnE := [(0, ([rF [0], iA 0 3, tI, tI, none], [], []), 0, [0, 0, 0, 0, 0])]
theorem kc_143 : chkM shP TV t_4 c_143 ac_143 = true := by decide +kernel
abbrev q_X6_meansBehind : CE := c_143
def c_144 : CE := (66, [rF [0], tI, tI, tI], [], tI, [], ([11, 12, 13, 14, 15, 16, 17, 18], [2000, 2001, 2002, 2003, 2004, 2005, 2006, 2007]), []) -- X6_place
def ac_144 : List AnE := [(0, ([rF [0], tI, tI, tI, none, none, none, none, none], [], []), 26, [0, 0, 0, 0, 0, 0, 0, 0, 0]),
  (30, ([rF [0], tI, tI, tI, none, none, none, none, none], [], []), 0, [0, 0, 0, 0, 0, 0, 0, 0, 0]),
  (32, ([rF [0], iA 0 5, iA 0 20, iA 0 1, none, none, none, none, none], [], []), 25, [0, 0, 0, 0, 0, 0, 0, 0, 0]),
  (47, ([rF [0], iA 0 5, iA 0 20, iA 0 1, none, none, none, none, none], [], []), 24, [0, 0, 0, 0, 0, 0, 0, 0, 0]),
  (57, ([rF [0], iA 0 5, iA 0 20, iA 0 1, iA (-4) 3, tI, iA 0 4, none, none], [], []), 22, [0, 0, 0, 0, 0, 0, (-4), 0, 0]),
  (106, ([rF [0], iA 0 5, iA 0 20, iA 0 1, iA (-4) (-4), tI, iA 0 3, rF [10], tI], [], [(2000, 1, 4), (200, 1, 4)]), 20, [0, 0, 0, 0, 0, 0, (-4), 0, 0]),
  (114, ([rF [0], iA 0 5, iA 0 20, iA 0 1, iA (-3) 3, tI, iA 0 3, rF [10], tI], [], [(2000, 1, 4), (200, 1, 4)]), 21, [0, 0, 0, 0, 0, 0, (-4), 0, 0]),
  (120, ([rF [0], iA 0 5, iA 0 20, iA 0 1, iA (-4) 3, tI, iA 0 4, none, none], [], []), 3, [0, 0, 0, 0, 0, 0, 0, 0, 0]),
  (129, ([rF [0], iA 0 5, iA 0 20, iA 1 1, iA (-4) 3, tI, iA 0 4, none, none], [], []), 1, [0, 0, 0, 0, 0, 0, 0, 0, 0]),
  (131, ([rF [0], iA 0 5, iA 0 20, iA 0 0, iA (-4) 3, tI, iA 0 4, none, none], [some (.inl (((-4), 3, 1), none, 5, (0, 0), []))], []), 2, [0, 0, 0, 0, 0, 0, 0, 0, 0])]
theorem kc_144 : chkM shP TV t_4 c_144 ac_144 = true := by decide +kernel
abbrev q_X6_place : CE := c_144
def c_145 : CE := (67, [rF [0], tI, tI], [], tI, [], ([11, 12, 13, 14, 15, 16, 17, 18], [2000, 2001, 2002, 2003, 2004, 2005, 2006, 2007]), []) -- X6_kin
def ac_145 : List AnE := [(0, ([rF [0], tI, tI, none, none, none, none, none], [], []), 27, [0, 0, 0, 0, 0, 0, 0, 0]),
  (19, ([rF [0], tI, tI, none, none, none, none, none], [], []), 0, [0, 0, 0, 0, 0, 0, 0, 0]),
  (21, ([rF [0], iA 0 20, iA 0 1, none, none, none, none, none], [], []), 26, [0, 0, 0, 0, 0, 0, 0, 0]),
  (37, ([rF [0], iA 0 20, iA 0 1, iA (-4) 5, tI, iA 0 6, none, none], [], []), 24, [0, 0, 0, 0, 0, (-3), 0, 0]),
  (102, ([rF [0], iA 0 20, iA 0 1, iA (-4) 5, tI, iA 0 5, none, none], [], [(201, 1, 6)]), 23, [0, 0, 0, 0, 0, (-3), 0, 0]),
  (108, ([rF [0], iA 0 20, iA 0 1, iA (-4) 5, tI, iA 0 6, none, none], [], []), 4, [0, 0, 0, 0, 0, 0, 0, 0]),
  (118, ([rF [0], iA 0 20, iA 0 0, iA (-4) 5, tI, iA 0 6, none, none], [], []), 2, [0, 0, 0, 0, 0, 0, 0, 0]),
  (122, ([rF [0], iA 0 20, iA 1 1, iA (-3) 5, tI, iA 0 6, none, none], [], []), 3, [0, 0, 0, 0, 0, 0, 0, 0]),
  (124, ([rF [0], iA 0 20, iA 0 1, iA (-4) 5, tI, iA 0 6, none, none], [some (.inl (((-4), 5, 1), none, 4, (0, 0), []))], []), 1, [0, 0, 0, 0, 0, 0, 0, 0])]
theorem kc_145 : chkM shP TV t_4 c_145 ac_145 = true := by decide +kernel
abbrev q_X6_kin : CE := c_145
def c_146 : CE := (68, [rF [0], tI], [], iA (-1) 9, [], ([11, 12, 13, 14, 15, 16, 17, 18], [2000, 2001, 2002, 2003, 2004, 2005, 2006, 2007]), []) -- X6_late
def ac_146 : List AnE := [(0, ([rF [0], tI, none, none, none, none, none], [], []), 42, [0, 0, 0, 0, 0, 0, 0]),
  (12, ([rF [0], iA 0 20, none, none, none, none, none], [], []), 41, [0, 0, 0, 0, 0, 0, 0]),
  (19, ([rF [0], iA 0 20, iA 0 9, tI, iA 1 10, none, none], [], []), 43, [0, 0, 0, 0, (-4), 0, 0]),
  (57, ([rF [0], iA 0 20, iA 0 0, tI, iA 1 9, rF [10], tI], [], [(2004, 1, 9)]), 41, [0, 0, 0, 0, (-4), 0, 0]),
  (63, ([rF [0], iA 0 20, iA 1 9, tI, iA 1 9, rF [10], tI], [], [(2004, 1, 9)]), 42, [0, 0, 0, 0, (-4), 0, 0]),
  (69, ([rF [0], iA 0 20, iA 0 9, tI, iA 10 10, none, none], [], []), 0, [0, 0, 0, 0, 0, 0, 0])]
theorem kc_146 : chkM shP TV t_4 c_146 ac_146 = true := by decide +kernel
abbrev q_X6_late : CE := c_146
def c_147 : CE := (71, [rF [0], tI], [], tI, [], ([11, 12, 13, 14, 15, 16, 17, 18], [2000, 2001, 2002, 2003, 2004, 2005, 2006, 2007]), []) -- X6_paidByTurns
def ac_147 : List AnE := [(0, ([rF [0], tI, none], [], []), 0, [0, 0, 0])]
theorem kc_147 : chkM shP TV t_4 c_147 ac_147 = true := by decide +kernel
abbrev q_X6_paidByTurns : CE := c_147
def c_148 : CE := (79, [rF [0], tI, cst (-4), tI], [], tI, [], ([11, 12, 13, 14, 15, 16, 17, 18], [2000, 2001, 2002, 2003, 2004, 2005, 2006, 2007]), []) -- X6_outcome
def ac_148 : List AnE := [(0, ([rF [0], tI, cst (-4), tI, none, none], [], []), 22, [0, 0, 0, 0, 0, 0]),
  (9, ([rF [0], tI, cst (-4), tI, rF [10], iA 0 6], [], []), 20, [0, 0, 0, 0, 0, (-3)]),
  (38, ([rF [0], tI, cst (-4), tI, rF [10], iA 0 5], [], [(2001, 1, 6)]), 19, [0, 0, 0, 0, 0, (-3)]),
  (44, ([rF [0], tI, cst (-4), tI, rF [10], iA 0 6], [], []), 0, [0, 0, 0, 0, 0, 0])]
theorem kc_148 : chkM shP TV t_4 c_148 ac_148 = true := by decide +kernel
abbrev q_X6_outcome : CE := c_148
def c_149 : CE := (79, [rF [0], tI, iA 0 5, tI], [], iA 0 1, [], ([11, 12, 13, 14, 15, 16, 17, 18], [2000, 2001, 2002, 2003, 2004, 2005, 2006, 2007]), []) -- X6_outcome
def ac_149 : List AnE := [(0, ([rF [0], tI, iA 0 5, tI, none, none], [], []), 25, [0, 0, 0, 0, 0, 0]),
  (9, ([rF [0], tI, iA 0 5, tI, rF [10], iA 0 6], [], []), 23, [0, 0, 0, 0, 0, (-3)]),
  (38, ([rF [0], tI, iA 0 5, tI, rF [10], iA 0 5], [], [(2001, 1, 6)]), 22, [0, 0, 0, 0, 0, (-3)]),
  (44, ([rF [0], tI, iA 0 5, tI, rF [10], iA 0 6], [], []), 3, [0, 0, 0, 0, 0, 0]),
  (61, ([rF [0], tI, iA 0 5, tI, rF [10], tI], [], []), 2, [0, 0, 0, 0, 0, 0]),
  (76, ([rF [0], tI, iA 0 5, tI, rF [10], tI], [], []), 0, [0, 0, 0, 0, 0, 0]),
  (77, ([rF [0], tI, iA 0 5, tI, rF [10], tI], [cst 1], []), 1, [0, 0, 0, 0, 0, 0])]
theorem kc_149 : chkM shP TV t_4 c_149 ac_149 = true := by decide +kernel
abbrev q_X6_outcome_1 : CE := c_149
def c_150 : CE := (86, [rF [0], iA 0 5, cst 0, cst 3], [], tI, [], ([11, 12, 13, 14, 15, 16, 17, 18], [2000, 2001, 2002, 2003, 2004, 2005, 2006, 2007]), []) -- X6_asSeenBy
def ac_150 : List AnE := [(0, ([rF [0], iA 0 5, cst 0, cst 3, none, none, none], [], []), 16, [0, 0, 0, 0, 0, 0, 0]),
  (6, ([rF [0], iA 0 5, cst 0, iA 3 3, tI, iA 0 4, none], [], []), 14, [0, 0, 0, 0, 0, (-3), 0]),
  (46, ([rF [0], iA 0 5, cst 0, iA 3 3, tI, iA 0 3, rF [10]], [], []), 13, [0, 0, 0, 0, 0, (-3), 0]),
  (52, ([rF [0], iA 0 5, cst 0, iA 3 3, tI, iA 4 4, none], [], []), 0, [0, 0, 0, 0, 0, 0, 0])]
theorem kc_150 : chkM shP TV t_4 c_150 ac_150 = true := by decide +kernel
abbrev q_X6_asSeenBy : CE := c_150
def c_151 : CE := (86, [rF [0], iA 0 5, cst 2, cst 9], [], tI, [], ([11, 12, 13, 14, 15, 16, 17, 18], [2000, 2001, 2002, 2003, 2004, 2005, 2006, 2007]), []) -- X6_asSeenBy
def ac_151 : List AnE := [(0, ([rF [0], iA 0 5, cst 2, cst 9, none, none, none], [], []), 34, [0, 0, 0, 0, 0, 0, 0]),
  (6, ([rF [0], iA 0 5, cst 2, iA 9 9, tI, iA 0 10, none], [], []), 32, [0, 0, 0, 0, 0, (-3), 0]),
  (46, ([rF [0], iA 0 5, cst 2, iA 9 9, tI, iA 0 9, rF [10]], [], []), 31, [0, 0, 0, 0, 0, (-3), 0]),
  (52, ([rF [0], iA 0 5, cst 2, iA 9 9, tI, iA 10 10, none], [], []), 0, [0, 0, 0, 0, 0, 0, 0])]
theorem kc_151 : chkM shP TV t_4 c_151 ac_151 = true := by decide +kernel
abbrev q_X6_asSeenBy_1 : CE := c_151
def c_152 : CE := (91, [rF [0], tI, tI, tI], [], tI, [], ([11, 12, 13, 14, 15, 16, 17, 18], [2000, 2001, 2002, 2003, 2004, 2005, 2006, 2007]), []) -- X6_drift
def ac_152 : List AnE := [(0, ([rF [0], tI, tI, tI, none, none, none, none, none], [], []), 128, [0, 0, 0, 0, 0, 0, 0, 0, 0]),
  (19, ([rF [0], tI, tI, tI, none, none, none, none, none], [], []), 0, [0, 0, 0, 0, 0, 0, 0, 0, 0]),
  (21, ([rF [0], tI, iA 1 60, iA 0 1, none, none, none, none, none], [], []), 127, [0, 0, 0, 0, 0, 0, 0, 0, 0]),
  (34, ([rF [0], tI, iA 1 60, iA 0 1, none, none, none, none, none], [], [(200, 1, 4)]), 126, [0, 0, 0, 0, 0, 0, 0, 0, 0]),
  (49, ([rF [0], tI, iA 1 60, iA 0 1, rF [10], tI, tI, iA 0 60, none], [], [(2000, 1, 4), (200, 1, 4)]), 124, [0, 0, 0, 0, 0, 0, 0, (-2), 0]),
  (117, ([rF [0], tI, iA 1 60, iA 0 1, rF [10], tI, tI, iA 1 60, none], [], [(2000, 1, 4), (200, 1, 4)]), 3, [0, 0, 0, 0, 0, 0, 0, 0, 0]),
  (126, ([rF [0], tI, iA 1 60, iA 1 1, rF [10], tI, tI, iA 1 60, none], [], [(2000, 1, 4), (200, 1, 4)]), 1, [0, 0, 0, 0, 0, 0, 0, 0, 0]),
  (132, ([rF [0], tI, iA 1 60, iA 0 0, rF [10], tI, tI, iA 1 60, none], [some (.inl (((-2147483648), 2147483647, 1), none, 6, (0, 0), []))], [(2000, 1, 4), (200, 1, 4)]), 2, [0, 0, 0, 0, 0, 0, 0, 0, 0])]
theorem kc_152 : chkM shP TV t_4 c_152 ac_152 = true := by decide +kernel
abbrev q_X6_drift : CE := c_152
def c_153 : CE := (133, [rF [68]], [(14041, 1, 9)], none, [(14041, 1, 9)], ([70], [13617, 13618]), []) -- X7_nightGoes
def ac_153 : List AnE := [(0, ([rF [68], none], [], [(14041, 1, 9)]), 12, [0, 0]),
  (2, ([rF [68], iA 0 4], [], [(14041, 1, 9)]), 10, [0, (-2)]),
  (26, ([rF [68], iA 0 4], [], [(14041, 1, 9)]), 1, [0, 0]),
  (64, ([rF [68], iA 0 4], [], [(14041, 1, 9)]), 0, [0, 0])]
theorem kc_153 : chkM shP TV t_4 c_153 ac_153 = true := by decide +kernel
abbrev q_X7_nightGoes : CE := c_153
def b_5 : List (CE × List AnE) := [(c_138, ac_138), (c_139, ac_139), (c_140, ac_140), (c_141, ac_141), (c_142, ac_142), (c_143, ac_143), (c_144, ac_144), (c_145, ac_145), (c_146, ac_146), (c_147, ac_147), (c_148, ac_148), (c_149, ac_149), (c_150, ac_150), (c_151, ac_151), (c_152, ac_152), (c_153, ac_153)]
def t_5 : List CE := [c_138, c_139, c_140, c_141, c_142, c_143, c_144, c_145, c_146, c_147, c_148, c_149, c_150, c_151, c_152, c_153] ++ t_4
theorem h_up5 {wS : List Value → Mm → Option Rs} {k : Nat} (h : Hall TV wS k t_4) : Hall TV wS (k + 1) t_5 := by
  refine Hall_step h b_5 ?_
  unfold b_5
  simp only [List.all_cons, List.all_nil, kc_138, kc_139, kc_140, kc_141, kc_142, kc_143, kc_144, kc_145, kc_146, kc_147, kc_148, kc_149, kc_150, kc_151, kc_152, kc_153, Bool.and_self]
