/-! contracts, level 1: written by wip/gen/contracts.py -/
def c_0 : CE := (0, [rF [60, 62, 64, 66], iA 0 2, iA 0 40], [], none, [], ([61, 63, 65, 67], [12000, 12001, 12003, 12400, 12401, 12403, 12800, 12801, 12803, 13200, 13201, 13203]), []) -- X1_renew
def ac_0 : List AnE := [(0, ([rF [60, 62, 64, 66], iA 0 2, iA 0 40, none], [], []), 83, [0, 0, 0, 0]),
  (17, ([rF [60, 62, 64, 66], iA 0 2, iA 0 40, iA 0 40], [], []), 81, [0, 0, 0, (-2)]),
  (36, ([rF [60, 62, 64, 66], iA 0 2, iA 0 40, iA 40 40], [], []), 0, [0, 0, 0, 0])]
theorem kc_0 : chkM shP TV t_0 c_0 ac_0 = true := by decide +kernel
abbrev q_X1_renew : CE := c_0
def c_1 : CE := (4, [rF [19], iA 0 5, iA 0 9, iA 0 3], [], iA 0 1, [], ([20, 21, 22], [3800]), []) -- X2_add
def ac_1 : List AnE := [(0, ([rF [19], iA 0 5, iA 0 9, iA 0 3], [], []), 1, [0, 0, 0, 0]),
  (11, ([rF [19], iA 0 5, iA 0 9, iA 0 3], [], [(3800, 0, 5)]), 0, [0, 0, 0, 0])]
theorem kc_1 : chkM shP TV t_0 c_1 ac_1 = true := by decide +kernel
abbrev q_X2_add : CE := c_1
def c_2 : CE := (5, [rF [19], rF [10], tI], [], iA 0 1, [], ([], []), []) -- X2_fit
def ac_2 : List AnE := [(0, ([rF [19], rF [10], tI, none], [], []), 22, [0, 0, 0, 0]),
  (2, ([rF [19], rF [10], tI, iA 0 6], [], []), 20, [0, 0, 0, (-3)]),
  (42, ([rF [19], rF [10], tI, iA 0 5], [], [(3800, 1, 6)]), 19, [0, 0, 0, (-3)]),
  (48, ([rF [19], rF [10], tI, iA 0 6], [], []), 0, [0, 0, 0, 0])]
theorem kc_2 : chkM shP TV t_0 c_2 ac_2 = true := by decide +kernel
abbrev q_X2_fit : CE := c_2
def c_3 : CE := (6, [rF [42], rF [19]], [], none, [], ([43, 44, 45], [8400]), []) -- X2_become
def ac_3 : List AnE := [(0, ([rF [42], rF [19]], [], []), 0, [0, 0])]
theorem kc_3 : chkM shP TV t_0 c_3 ac_3 = true := by decide +kernel
abbrev q_X2_become : CE := c_3
def c_4 : CE := (6, [rF [56], rF [19]], [], none, [], ([57, 58, 59], [11200]), []) -- X2_become
def ac_4 : List AnE := [(0, ([rF [56], rF [19]], [], []), 0, [0, 0])]
theorem kc_4 : chkM shP TV t_0 c_4 ac_4 = true := by decide +kernel
abbrev q_X2_become_1 : CE := c_4
def c_5 : CE := (6, [rF [19], rF [42]], [], none, [], ([20, 21, 22], [3800]), []) -- X2_become
def ac_5 : List AnE := [(0, ([rF [19], rF [42]], [], []), 0, [0, 0])]
theorem kc_5 : chkM shP TV t_0 c_5 ac_5 = true := by decide +kernel
abbrev q_X2_become_2 : CE := c_5
def c_6 : CE := (6, [rF [19], rF [56]], [], none, [], ([20, 21, 22], [3800]), []) -- X2_become
def ac_6 : List AnE := [(0, ([rF [19], rF [56]], [], []), 0, [0, 0])]
theorem kc_6 : chkM shP TV t_0 c_6 ac_6 = true := by decide +kernel
abbrev q_X2_become_3 : CE := c_6
def c_7 : CE := (7, [rF [24], tI], [], iA 0 1, [], ([25], [4800]), []) -- X3_append
def ac_7 : List AnE := [(0, ([rF [24], tI], [], []), 1, [0, 0]),
  (12, ([rF [24], tI], [], [(4800, 0, 159)]), 0, [0, 0])]
theorem kc_7 : chkM shP TV t_0 c_7 ac_7 = true := by decide +kernel
abbrev q_X3_append : CE := c_7
def c_8 : CE := (25, [rF [10], rF [1]], [(200, 1, 4)], none, [(2000, 1, 4)], ([11, 12, 13, 14, 15, 16, 17, 18], [2000, 2001, 2002, 2003, 2004, 2005, 2006, 2007]), []) -- X5_become
def ac_8 : List AnE := [(0, ([rF [10], rF [1]], [], [(200, 1, 4)]), 0, [0, 0])]
theorem kc_8 : chkM shP TV t_0 c_8 ac_8 = true := by decide +kernel
abbrev q_X5_become : CE := c_8
def c_9 : CE := (25, [rF [10], rF [1]], [], none, [], ([11, 12, 13, 14, 15, 16, 17, 18], [2000, 2001, 2002, 2003, 2004, 2005, 2006, 2007]), []) -- X5_become
def ac_9 : List AnE := [(0, ([rF [10], rF [1]], [], []), 0, [0, 0])]
theorem kc_9 : chkM shP TV t_0 c_9 ac_9 = true := by decide +kernel
abbrev q_X5_become_1 : CE := c_9
def c_10 : CE := (25, [rF [33], rF [1]], [], none, [], ([34, 35, 36, 37, 38, 39, 40, 41], [6600, 6601, 6602, 6603, 6604, 6605, 6606, 6607]), []) -- X5_become
def ac_10 : List AnE := [(0, ([rF [33], rF [1]], [], []), 0, [0, 0])]
theorem kc_10 : chkM shP TV t_0 c_10 ac_10 = true := by decide +kernel
abbrev q_X5_become_2 : CE := c_10
def c_11 : CE := (25, [rF [47], rF [1]], [], none, [], ([48, 49, 50, 51, 52, 53, 54, 55], [9400, 9401, 9402, 9403, 9404, 9405, 9406, 9407]), []) -- X5_become
def ac_11 : List AnE := [(0, ([rF [47], rF [1]], [], []), 0, [0, 0])]
theorem kc_11 : chkM shP TV t_0 c_11 ac_11 = true := by decide +kernel
abbrev q_X5_become_3 : CE := c_11
def c_12 : CE := (25, [rF [1], rF [33]], [], none, [], ([2, 3, 4, 5, 6, 7, 8, 9], [200, 201, 202, 203, 204, 205, 206, 207]), []) -- X5_become
def ac_12 : List AnE := [(0, ([rF [1], rF [33]], [], []), 0, [0, 0])]
theorem kc_12 : chkM shP TV t_0 c_12 ac_12 = true := by decide +kernel
abbrev q_X5_become_4 : CE := c_12
def c_13 : CE := (25, [rF [1], rF [47]], [], none, [], ([2, 3, 4, 5, 6, 7, 8, 9], [200, 201, 202, 203, 204, 205, 206, 207]), []) -- X5_become
def ac_13 : List AnE := [(0, ([rF [1], rF [47]], [], []), 0, [0, 0])]
theorem kc_13 : chkM shP TV t_0 c_13 ac_13 = true := by decide +kernel
abbrev q_X5_become_5 : CE := c_13
def c_14 : CE := (29, [rF [1], iA 0 3, iA 0 3, tI, tI], [], iA 0 1, [], ([5, 6, 7, 8, 9], [201]), []) -- X5_addBody
def ac_14 : List AnE := [(0, ([rF [1], iA 0 3, iA 0 3, tI, tI], [], []), 1, [0, 0, 0, 0, 0]),
  (11, ([rF [1], iA 0 3, iA 0 3, tI, tI], [], [(201, 0, 5)]), 0, [0, 0, 0, 0, 0])]
theorem kc_14 : chkM shP TV t_0 c_14 ac_14 = true := by decide +kernel
abbrev q_X5_addBody : CE := c_14
def c_15 : CE := (30, [rF [10], cst 0], [], rF [14], [], ([], []), []) -- X5_bodyRow
def ac_15 : List AnE := [(0, ([rF [10], cst 0], [], []), 1, [0, 0]),
  (28, ([rF [10], iA 0 0], [], []), 0, [0, 0])]
theorem kc_15 : chkM shP TV t_0 c_15 ac_15 = true := by decide +kernel
abbrev q_X5_bodyRow : CE := c_15
def c_16 : CE := (30, [rF [10], cst 2], [], rF [16], [], ([], []), []) -- X5_bodyRow
def ac_16 : List AnE := [(0, ([rF [10], cst 2], [], []), 1, [0, 0]),
  (38, ([rF [10], iA 2 2], [], []), 0, [0, 0])]
theorem kc_16 : chkM shP TV t_0 c_16 ac_16 = true := by decide +kernel
abbrev q_X5_bodyRow_1 : CE := c_16
def c_17 : CE := (31, [rF [1], iA 0 5], [], iA 0 1, [], ([], []), []) -- X5_lacksOfFather
def ac_17 : List AnE := [(0, ([rF [1], iA 0 5], [], []), 2, [0, 0]),
  (23, ([rF [1], iA 0 5], [], []), 0, [0, 0]),
  (24, ([rF [1], iA 0 5], [cst 1], []), 1, [0, 0])]
theorem kc_17 : chkM shP TV t_0 c_17 ac_17 = true := by decide +kernel
abbrev q_X5_lacksOfFather : CE := c_17
def c_18 : CE := (32, [rF [1], iA 0 5], [], tI, [], ([], []), []) -- X5_lacks
def ac_18 : List AnE := [(0, ([rF [1], iA 0 5, none, none], [], []), 4, [0, 0, 0, 0]),
  (44, ([rF [1], iA 0 5, iA (-2147483648) 0, tI], [], []), 2, [0, 0, 0, 0]),
  (45, ([rF [1], iA 0 5, iA 1 2147483647, tI], [some (.inl ((1, 2147483647, 1), none, 3, (0, 0), []))], []), 3, [0, 0, 0, 0]),
  (53, ([rF [1], iA 0 5, tI, iA (-2147483648) 0], [iA 0 2147483647], []), 0, [0, 0, 0, 0]),
  (54, ([rF [1], iA 0 5, tI, iA 1 2147483647], [some (.inl ((1, 2147483647, 1), none, 4, (0, 0), [])), iA 0 2147483647], []), 1, [0, 0, 0, 0])]
theorem kc_18 : chkM shP TV t_0 c_18 ac_18 = true := by decide +kernel
abbrev q_X5_lacks : CE := c_18
def c_19 : CE := (32, [rF [10], iA 0 5], [], tI, [], ([], []), []) -- X5_lacks
def ac_19 : List AnE := [(0, ([rF [10], iA 0 5, none, none], [], []), 4, [0, 0, 0, 0]),
  (44, ([rF [10], iA 0 5, iA (-2147483648) 0, tI], [], []), 2, [0, 0, 0, 0]),
  (45, ([rF [10], iA 0 5, iA 1 2147483647, tI], [some (.inl ((1, 2147483647, 1), none, 3, (0, 0), []))], []), 3, [0, 0, 0, 0]),
  (53, ([rF [10], iA 0 5, tI, iA (-2147483648) 0], [iA 0 2147483647], []), 0, [0, 0, 0, 0]),
  (54, ([rF [10], iA 0 5, tI, iA 1 2147483647], [some (.inl ((1, 2147483647, 1), none, 4, (0, 0), [])), iA 0 2147483647], []), 1, [0, 0, 0, 0])]
theorem kc_19 : chkM shP TV t_0 c_19 ac_19 = true := by decide +kernel
abbrev q_X5_lacks_1 : CE := c_19
def c_20 : CE := (34, [rF [1], tI], [], tI, [], ([], []), []) -- X5_inWay
def ac_20 : List AnE := [(0, ([rF [1], tI, none, none], [], []), 22, [0, 0, 0, 0]),
  (4, ([rF [1], tI, tI, iA 0 6], [], []), 20, [0, 0, 0, (-3)]),
  (28, ([rF [1], tI, tI, iA 0 5], [], [(201, 1, 6)]), 19, [0, 0, 0, (-3)]),
  (34, ([rF [1], tI, tI, iA 0 6], [], []), 0, [0, 0, 0, 0])]
theorem kc_20 : chkM shP TV t_0 c_20 ac_20 = true := by decide +kernel
abbrev q_X5_inWay : CE := c_20
def c_21 : CE := (34, [rF [10], tI], [], tI, [], ([], []), []) -- X5_inWay
def ac_21 : List AnE := [(0, ([rF [10], tI, none, none], [], []), 22, [0, 0, 0, 0]),
  (4, ([rF [10], tI, tI, iA 0 6], [], []), 20, [0, 0, 0, (-3)]),
  (28, ([rF [10], tI, tI, iA 0 5], [], [(2001, 1, 6)]), 19, [0, 0, 0, (-3)]),
  (34, ([rF [10], tI, tI, iA 0 6], [], []), 0, [0, 0, 0, 0])]
theorem kc_21 : chkM shP TV t_0 c_21 ac_21 = true := by decide +kernel
abbrev q_X5_inWay_1 : CE := c_21
def c_22 : CE := (35, [rF [1], tI], [], tI, [], ([], []), []) -- X5_lyingAt
def ac_22 : List AnE := [(0, ([rF [1], tI, none, none], [], []), 22, [0, 0, 0, 0]),
  (4, ([rF [1], tI, tI, iA 0 6], [], []), 20, [0, 0, 0, (-3)]),
  (37, ([rF [1], tI, tI, iA 0 5], [], [(201, 1, 6)]), 19, [0, 0, 0, (-3)]),
  (43, ([rF [1], tI, tI, iA 0 6], [], []), 0, [0, 0, 0, 0])]
theorem kc_22 : chkM shP TV t_0 c_22 ac_22 = true := by decide +kernel
abbrev q_X5_lyingAt : CE := c_22
def c_23 : CE := (36, [rF [1]], [], tI, [], ([], []), []) -- X5_allMeans
def ac_23 : List AnE := [(0, ([rF [1], none, none], [], []), 11, [0, 0, 0]),
  (4, ([rF [1], tI, iA 0 4], [], []), 9, [0, 0, (-2)]),
  (27, ([rF [1], tI, iA 0 4], [], []), 0, [0, 0, 0])]
theorem kc_23 : chkM shP TV t_0 c_23 ac_23 = true := by decide +kernel
abbrev q_X5_allMeans : CE := c_23
def c_24 : CE := (36, [rF [10]], [], tI, [], ([], []), []) -- X5_allMeans
def ac_24 : List AnE := [(0, ([rF [10], none, none], [], []), 11, [0, 0, 0]),
  (4, ([rF [10], tI, iA 0 4], [], []), 9, [0, 0, (-2)]),
  (27, ([rF [10], tI, iA 0 4], [], []), 0, [0, 0, 0])]
theorem kc_24 : chkM shP TV t_0 c_24 ac_24 = true := by decide +kernel
abbrev q_X5_allMeans_1 : CE := c_24
def c_25 : CE := (40, [rF [1], tI], [], some (.inl ((0, 5, 1), some (-4), 0, (0, 0), [])), [], ([], []), []) -- X5_firstLyingAt
def ac_25 : List AnE := [(0, ([rF [1], tI, none], [], []), 22, [0, 0, 0]),
  (2, ([rF [1], tI, iA 0 6], [], []), 20, [0, 0, (-3)]),
  (31, ([rF [1], tI, iA 0 5], [], [(201, 1, 6)]), 19, [0, 0, (-3)]),
  (37, ([rF [1], tI, iA 0 6], [], []), 0, [0, 0, 0])]
theorem kc_25 : chkM shP TV t_0 c_25 ac_25 = true := by decide +kernel
abbrev q_X5_firstLyingAt : CE := c_25
def c_26 : CE := (40, [rF [10], tI], [], some (.inl ((0, 5, 1), some (-4), 0, (0, 0), [])), [], ([], []), []) -- X5_firstLyingAt
def ac_26 : List AnE := [(0, ([rF [10], tI, none], [], []), 22, [0, 0, 0]),
  (2, ([rF [10], tI, iA 0 6], [], []), 20, [0, 0, (-3)]),
  (31, ([rF [10], tI, iA 0 5], [], [(2001, 1, 6)]), 19, [0, 0, (-3)]),
  (37, ([rF [10], tI, iA 0 6], [], []), 0, [0, 0, 0])]
theorem kc_26 : chkM shP TV t_0 c_26 ac_26 = true := by decide +kernel
abbrev q_X5_firstLyingAt_1 : CE := c_26
def c_27 : CE := (41, [rF [1], iA 0 5, iA 0 3], [], none, [], ([3, 6], [207]), []) -- X5_handOn
def ac_27 : List AnE := [(0, ([rF [1], iA 0 5, iA 0 3, none], [], []), 5, [0, 0, 0, 0]),
  (16, ([rF [1], iA 0 5, iA 0 3, none], [], []), 3, [0, 0, 0, 0]),
  (17, ([rF [1], iA 0 5, iA 0 2, none], [iA 1 3], [(200, 2, 4)]), 4, [0, 0, 0, 0]),
  (24, ([rF [1], iA 0 5, iA 0 3, iA 0 3], [], []), 2, [0, 0, 0, 0]),
  (53, ([rF [1], iA 0 5, iA 0 3, iA 0 3], [], []), 0, [0, 0, 0, 0]),
  (63, ([rF [1], iA 0 5, iA 0 3, iA 0 3], [], []), 1, [0, 0, 0, 0])]
theorem kc_27 : chkM shP TV t_0 c_27 ac_27 = true := by decide +kernel
abbrev q_X5_handOn : CE := c_27
def c_28 : CE := (41, [rF [10], iA 0 5, iA 0 3], [], none, [], ([12, 15], [2007]), []) -- X5_handOn
def ac_28 : List AnE := [(0, ([rF [10], iA 0 5, iA 0 3, none], [], []), 5, [0, 0, 0, 0]),
  (16, ([rF [10], iA 0 5, iA 0 3, none], [], []), 3, [0, 0, 0, 0]),
  (17, ([rF [10], iA 0 5, iA 0 2, none], [iA 1 3], [(2000, 2, 4)]), 4, [0, 0, 0, 0]),
  (24, ([rF [10], iA 0 5, iA 0 3, iA 0 3], [], []), 2, [0, 0, 0, 0]),
  (53, ([rF [10], iA 0 5, iA 0 3, iA 0 3], [], []), 0, [0, 0, 0, 0]),
  (63, ([rF [10], iA 0 5, iA 0 3, iA 0 3], [], []), 1, [0, 0, 0, 0])]
theorem kc_28 : chkM shP TV t_0 c_28 ac_28 = true := by decide +kernel
abbrev q_X5_handOn_1 : CE := c_28
def c_29 : CE := (42, [rF [1]], [], none, [], ([2, 9], [206]), []) -- X5_fineAll
def ac_29 : List AnE := [(0, ([rF [1], none, none], [], []), 36, [0, 0, 0]),
  (2, ([rF [1], iA 0 6, none], [], []), 34, [0, (-5), 0]),
  (61, ([rF [1], iA 0 5, iA 0 3], [], [(201, 1, 6)]), 32, [0, (-5), 0]),
  (74, ([rF [1], iA 0 5, iA 0 3], [], [(203, (-2147483647), 2147483647), (201, 1, 6)]), 33, [0, (-5), 0]),
  (81, ([rF [1], iA 0 5, none], [], [(201, 1, 6)]), 31, [0, (-5), 0]),
  (87, ([rF [1], iA 0 6, none], [], []), 0, [0, 0, 0])]
theorem kc_29 : chkM shP TV t_0 c_29 ac_29 = true := by decide +kernel
abbrev q_X5_fineAll : CE := c_29
def c_30 : CE := (42, [rF [10]], [], none, [], ([11, 18], [2006]), []) -- X5_fineAll
def ac_30 : List AnE := [(0, ([rF [10], none, none], [], []), 36, [0, 0, 0]),
  (2, ([rF [10], iA 0 6, none], [], []), 34, [0, (-5), 0]),
  (61, ([rF [10], iA 0 5, iA 0 3], [], [(2001, 1, 6)]), 32, [0, (-5), 0]),
  (74, ([rF [10], iA 0 5, iA 0 3], [], [(2003, (-2147483647), 2147483647), (2001, 1, 6)]), 33, [0, (-5), 0]),
  (81, ([rF [10], iA 0 5, none], [], [(2001, 1, 6)]), 31, [0, (-5), 0]),
  (87, ([rF [10], iA 0 6, none], [], []), 0, [0, 0, 0])]
theorem kc_30 : chkM shP TV t_0 c_30 ac_30 = true := by decide +kernel
abbrev q_X5_fineAll_1 : CE := c_30
def c_31 : CE := (44, [rF [0], tI], [], iA (-1) 160, [], ([], [4800]), []) -- X6_end
def ac_31 : List AnE := [(0, ([rF [0], tI, none], [], []), 1, [0, 0, 0]),
  (22, ([rF [0], iA 0 160, iA 0 160], [], []), 0, [0, 0, 0])]
theorem kc_31 : chkM shP TV t_0 c_31 ac_31 = true := by decide +kernel
abbrev q_X6_end : CE := c_31
def c_32 : CE := (46, [rF [0]], [], tI, [], ([], []), []) -- X6_fault
def ac_32 : List AnE := [(0, ([rF [0]], [], []), 0, [0])]
theorem kc_32 : chkM shP TV t_0 c_32 ac_32 = true := by decide +kernel
abbrev q_X6_fault : CE := c_32
def c_33 : CE := (50, [rF [0], tI, tI, tI], [], tI, [], ([2, 3], []), []) -- X6_grant
def ac_33 : List AnE := [(0, ([rF [0], tI, tI, tI, none, none], [], []), 7, [0, 0, 0, 0, 0, 0]),
  (20, ([rF [0], tI, tI, tI, none, none], [], []), 0, [0, 0, 0, 0, 0, 0]),
  (22, ([rF [0], iA 0 3, iA 0 1, tI, none, none], [], []), 6, [0, 0, 0, 0, 0, 0]),
  (33, ([rF [0], iA 0 3, iA 1 1, tI, none, none], [cst 0, some (.inl (((-2147483648), 2147483647, 1), none, 4, (0, 0), []))], []), 4, [0, 0, 0, 0, 0, 0]),
  (35, ([rF [0], iA 0 3, iA 0 0, tI, none, none], [cst 99, cst 0, some (.inl (((-2147483648), 2147483647, 1), none, 4, (0, 0), []))], []), 5, [0, 0, 0, 0, 0, 0]),
  (43, ([rF [0], iA 0 3, iA 0 1, iA 0 99, none, none], [], []), 3, [0, 0, 0, 0, 0, 0]),
  (57, ([rF [0], iA 0 3, iA 1 1, iA 0 99, none, none], [], []), 1, [0, 0, 0, 0, 0, 0]),
  (64, ([rF [0], iA 0 3, iA 0 0, iA 0 99, none, none], [rF [2]], []), 2, [0, 0, 0, 0, 0, 0])]
theorem kc_33 : chkM shP TV t_0 c_33 ac_33 = true := by decide +kernel
abbrev q_X6_grant : CE := c_33
def c_34 : CE := (53, [rF [0], tI, tI], [], tI, [], ([], [202, 203, 204]), []) -- X6_set
def ac_34 : List AnE := [(0, ([rF [0], tI, tI, none], [], []), 4, [0, 0, 0, 0]),
  (34, ([rF [0], tI, tI, none], [], []), 3, [0, 0, 0, 0]),
  (68, ([rF [0], tI, tI, none], [], []), 2, [0, 0, 0, 0]),
  (102, ([rF [0], tI, tI, none], [], []), 0, [0, 0, 0, 0]),
  (104, ([rF [0], iA 2 4, iA 0 60, tI], [], []), 1, [0, 0, 0, 0])]
theorem kc_34 : chkM shP TV t_0 c_34 ac_34 = true := by decide +kernel
abbrev q_X6_set : CE := c_34
def c_35 : CE := (69, [rF [0], tI, iA 10 13], [(200, 0, 0)], some (.inl (((-1), (-1), 0), some (-4), 0, (0, 0), [])), [], ([], []), []) -- X6_order
def ac_35 : List AnE := [(0, ([rF [0], tI, iA 10 13, none], [], [(200, 0, 0)]), 2, [0, 0, 0, 0]),
  (20, ([rF [0], tI, iA 10 13, none], [], [(200, 0, 0)]), 0, [0, 0, 0, 0]),
  (22, ([rF [0], iA 0 20, iA 10 13, none], [], [(200, 0, 0)]), 1, [0, 0, 0, 0])]
theorem kc_35 : chkM shP TV t_0 c_35 ac_35 = true := by decide +kernel
abbrev q_X6_order : CE := c_35
def c_36 : CE := (69, [rF [0], tI, iA 1 9], [], cst (-1), [], ([], []), []) -- X6_order
def ac_36 : List AnE := [(0, ([rF [0], tI, iA 1 9, none], [], []), 1, [0, 0, 0, 0]),
  (20, ([rF [0], tI, iA 1 9, none], [], []), 0, [0, 0, 0, 0])]
theorem kc_36 : chkM shP TV t_0 c_36 ac_36 = true := by decide +kernel
abbrev q_X6_order_1 : CE := c_36
def c_37 : CE := (69, [rF [0], tI, iA (-2147483648) (-2147483639)], [], cst (-1), [], ([], []), []) -- X6_order
def ac_37 : List AnE := [(0, ([rF [0], tI, iA (-2147483648) (-2147483639), none], [], []), 1, [0, 0, 0, 0]),
  (20, ([rF [0], tI, iA (-2147483648) (-2147483639), none], [], []), 0, [0, 0, 0, 0])]
theorem kc_37 : chkM shP TV t_0 c_37 ac_37 = true := by decide +kernel
abbrev q_X6_order_2 : CE := c_37
def c_38 : CE := (69, [rF [0], tI, iA 14 2147483647], [], some (.inl (((-1), (-1), 0), some (-4), 0, (0, 0), [])), [], ([], []), []) -- X6_order
def ac_38 : List AnE := [(0, ([rF [0], tI, iA 14 2147483647, none], [], []), 2, [0, 0, 0, 0]),
  (20, ([rF [0], tI, iA 14 2147483647, none], [], []), 0, [0, 0, 0, 0]),
  (22, ([rF [0], iA 0 20, iA 14 2147483647, none], [], []), 1, [0, 0, 0, 0])]
theorem kc_38 : chkM shP TV t_0 c_38 ac_38 = true := by decide +kernel
abbrev q_X6_order_3 : CE := c_38
def c_39 : CE := (69, [rF [0], tI, iA (-2147483638) (-1)], [], cst (-1), [], ([], []), []) -- X6_order
def ac_39 : List AnE := [(0, ([rF [0], tI, iA (-2147483638) (-1), none], [], []), 1, [0, 0, 0, 0]),
  (20, ([rF [0], tI, iA (-2147483638) (-1), none], [], []), 0, [0, 0, 0, 0])]
theorem kc_39 : chkM shP TV t_0 c_39 ac_39 = true := by decide +kernel
abbrev q_X6_order_4 : CE := c_39
def c_40 : CE := (72, [rF [29], cst 0], [], cst 0, [], ([], []), []) -- X6_arrangeNext
def ac_40 : List AnE := [(0, ([rF [29], cst 0, none, none, none, none], [], []), 2, [0, 0, 0, 0, 0, 0]),
  (4, ([rF [29], cst 0, cst (-2), none, none, none], [], []), 1, [0, 0, 0, 0, 0, 0]),
  (25, ([rF [29], cst 0, iA (-2) (-2), none, none, none], [], []), 0, [0, 0, 0, 0, 0, 0])]
theorem kc_40 : chkM shP TV t_0 c_40 ac_40 = true := by decide +kernel
abbrev q_X6_arrangeNext : CE := c_40
def c_41 : CE := (72, [rF [29], cst 1], [], cst 0, [], ([], []), []) -- X6_arrangeNext
def ac_41 : List AnE := [(0, ([rF [29], cst 1, none, none, none, none], [], []), 2, [0, 0, 0, 0, 0, 0]),
  (4, ([rF [29], cst 1, cst (-1), none, none, none], [], []), 1, [0, 0, 0, 0, 0, 0]),
  (25, ([rF [29], cst 1, iA (-1) (-1), none, none, none], [], []), 0, [0, 0, 0, 0, 0, 0])]
theorem kc_41 : chkM shP TV t_0 c_41 ac_41 = true := by decide +kernel
abbrev q_X6_arrangeNext_1 : CE := c_41
def c_42 : CE := (73, [rF [29], iA 0 3, iA 0 3], [], none, [], ([29], []), []) -- X6_swap
def ac_42 : List AnE := [(0, ([rF [29], iA 0 3, iA 0 3, none], [], []), 0, [0, 0, 0, 0])]
theorem kc_42 : chkM shP TV t_0 c_42 ac_42 = true := by decide +kernel
abbrev q_X6_swap : CE := c_42
def c_43 : CE := (77, [tI, tI, tI], [], tJ, [], ([], []), []) -- X6_weightOf
def ac_43 : List AnE := [(0, ([tI, tI, tI, none, none, none], [], []), 36, [0, 0, 0, 0, 0, 0]),
  (5, ([tI, tI, tI, tJ, none, iA 0 6], [], []), 34, [0, 0, 0, 0, 0, (-5)]),
  (38, ([tI, tI, tI, tJ, none, iA 0 5], [tJ], []), 32, [0, 0, 0, 0, 0, (-5)]),
  (43, ([tI, tI, tI, tJ, none, iA 0 5], [some (.inr (.inr ((-2147483648), 2147483647, 3))), tJ], []), 33, [0, 0, 0, 0, 0, (-5)]),
  (45, ([tI, tI, tI, tJ, none, iA 0 5], [], []), 31, [0, 0, 0, 0, 0, (-5)]),
  (51, ([tI, tI, tI, tJ, none, iA 6 6], [], []), 0, [0, 0, 0, 0, 0, 0])]
theorem kc_43 : chkM shP TV t_0 c_43 ac_43 = true := by decide +kernel
abbrev q_X6_weightOf : CE := c_43
def c_44 : CE := (83, [rF [0], tI], [], iA (-1) 6, [], ([], [3800]), []) -- X6_forget
def ac_44 : List AnE := [(0, ([rF [0], tI, none], [], []), 1, [0, 0, 0]),
  (19, ([rF [0], iA 0 6, iA 0 6], [], []), 0, [0, 0, 0])]
theorem kc_44 : chkM shP TV t_0 c_44 ac_44 = true := by decide +kernel
abbrev q_X6_forget : CE := c_44
def c_45 : CE := (90, [rF [0], tI, iA 0 9], [], iA 0 2147483647, [], ([], []), []) -- X6_leftAtWorst
def ac_45 : List AnE := [(0, ([rF [0], tI, iA 0 9, none, none, none, none], [], []), 101, [0, 0, 0, 0, 0, 0, 0]),
  (5, ([rF [0], tI, iA 0 9, iA 0 2147483647, iA 0 4, none, none], [], []), 99, [0, 0, 0, 0, (-20), 0, 0]),
  (23, ([rF [0], tI, iA 0 9, iA 0 2147483647, iA 0 3, tI, iA 0 4], [], [(200, 1, 4)]), 97, [0, 0, 0, 0, (-20), 0, (-3)]),
  (59, ([rF [0], tI, iA 0 9, iA 0 2147483647, iA 0 3, tI, iA 0 3], [], [(200, 1, 4)]), 96, [0, 0, 0, 0, (-20), 0, (-3)]),
  (65, ([rF [0], tI, iA 0 9, iA 0 2147483647, iA 0 3, tI, iA 4 4], [], [(200, 1, 4)]), 83, [0, 0, 0, 0, (-20), 0, 0]),
  (76, ([rF [0], tI, iA 0 9, iA 0 2147483647, iA 0 3, tI, iA 4 4], [], [(200, 1, 4)]), 81, [0, 0, 0, 0, (-20), 0, 0]),
  (77, ([rF [0], tI, iA 0 9, iA 0 2147483646, iA 0 3, iA 1 2147483647, iA 4 4], [some (.inl ((1, 2147483647, 1), none, 6, (0, 0), []))], [(200, 1, 4)]), 82, [0, 0, 0, 0, (-20), 0, 0]),
  (84, ([rF [0], tI, iA 0 9, iA 0 2147483647, iA 0 4, none, none], [], []), 0, [0, 0, 0, 0, 0, 0, 0])]
theorem kc_45 : chkM shP TV t_0 c_45 ac_45 = true := by decide +kernel
abbrev q_X6_leftAtWorst : CE := c_45
def c_46 : CE := (92, [rF [0], iA 2 2147483647], [], cst (-1), [], ([], []), []) -- X6_keep
def ac_46 : List AnE := [(0, ([rF [0], iA 2 2147483647, none, none], [], []), 0, [0, 0, 0, 0])]
theorem kc_46 : chkM shP TV t_0 c_46 ac_46 = true := by decide +kernel
abbrev q_X6_keep : CE := c_46
def c_47 : CE := (92, [rF [0], iA (-2147483648) (-1)], [], cst (-1), [], ([], []), []) -- X6_keep
def ac_47 : List AnE := [(0, ([rF [0], iA (-2147483648) (-1), none, none], [], []), 0, [0, 0, 0, 0])]
theorem kc_47 : chkM shP TV t_0 c_47 ac_47 = true := by decide +kernel
abbrev q_X6_keep_1 : CE := c_47
def c_48 : CE := (93, [rF [0], iA 2 2147483647], [], cst (-1), [], ([], []), []) -- X6_back
def ac_48 : List AnE := [(0, ([rF [0], iA 2 2147483647, none], [], []), 0, [0, 0, 0])]
theorem kc_48 : chkM shP TV t_0 c_48 ac_48 = true := by decide +kernel
abbrev q_X6_back : CE := c_48
def c_49 : CE := (93, [rF [0], iA (-2147483648) (-1)], [], cst (-1), [], ([], []), []) -- X6_back
def ac_49 : List AnE := [(0, ([rF [0], iA (-2147483648) (-1), none], [], []), 0, [0, 0, 0])]
theorem kc_49 : chkM shP TV t_0 c_49 ac_49 = true := by decide +kernel
abbrev q_X6_back_1 : CE := c_49
def c_50 : CE := (97, [rF [0]], [], tI, [], ([], []), []) -- X6_torn
def ac_50 : List AnE := [(0, ([rF [0]], [], []), 0, [0])]
theorem kc_50 : chkM shP TV t_0 c_50 ac_50 = true := by decide +kernel
abbrev q_X6_torn : CE := c_50
def c_51 : CE := (102, [tI], [], iA 0 1, [], ([], []), []) -- X7_flag
def ac_51 : List AnE := [(0, ([tI], [], []), 2, [0]),
  (8, ([iA 0 0], [], []), 0, [0]),
  (9, ([tI], [cst 1], []), 1, [0])]
theorem kc_51 : chkM shP TV t_0 c_51 ac_51 = true := by decide +kernel
abbrev q_X7_flag : CE := c_51
def c_52 : CE := (105, [rF [68], tI], [], iA (-3) 160, [], ([73], [13609]), []) -- X7_feed
def ac_52 : List AnE := [(0, ([rF [68], tI], [], []), 2, [0, 0]),
  (14, ([rF [68], iA 0 127], [], []), 1, [0, 0]),
  (27, ([rF [68], iA 0 127], [], [(13609, 0, 159)]), 0, [0, 0])]
theorem kc_52 : chkM shP TV t_0 c_52 ac_52 = true := by decide +kernel
abbrev q_X7_feed : CE := c_52
def c_53 : CE := (106, [rF [68], tI], [], iA (-1) 160, [], ([], [13609]), []) -- X7_end
def ac_53 : List AnE := [(0, ([rF [68], tI, none], [], []), 1, [0, 0, 0]),
  (16, ([rF [68], iA 0 160, none], [], []), 0, [0, 0, 0])]
theorem kc_53 : chkM shP TV t_0 c_53 ac_53 = true := by decide +kernel
abbrev q_X7_end : CE := c_53
def c_54 : CE := (119, [rF [68]], [], iA 0 6, [], ([], []), []) -- X7_fault
def ac_54 : List AnE := [(0, ([rF [68]], [], []), 0, [0])]
theorem kc_54 : chkM shP TV t_0 c_54 ac_54 = true := by decide +kernel
abbrev q_X7_fault : CE := c_54
def c_55 : CE := (125, [rF [68], iA 0 5, cst 4], [], tI, [], ([], []), []) -- X7_of
def ac_55 : List AnE := [(0, ([rF [68], iA 0 5, cst 4], [], []), 0, [0, 0, 0])]
theorem kc_55 : chkM shP TV t_0 c_55 ac_55 = true := by decide +kernel
abbrev q_X7_of : CE := c_55
def c_56 : CE := (125, [rF [68], iA 0 5, cst 1], [], iA 0 3, [], ([], []), []) -- X7_of
def ac_56 : List AnE := [(0, ([rF [68], iA 0 5, cst 1], [], []), 0, [0, 0, 0])]
theorem kc_56 : chkM shP TV t_0 c_56 ac_56 = true := by decide +kernel
abbrev q_X7_of_1 : CE := c_56
def c_57 : CE := (125, [rF [68], iA 0 5, cst 0], [], iA 0 3, [], ([], []), []) -- X7_of
def ac_57 : List AnE := [(0, ([rF [68], iA 0 5, cst 0], [], []), 0, [0, 0, 0])]
theorem kc_57 : chkM shP TV t_0 c_57 ac_57 = true := by decide +kernel
abbrev q_X7_of_2 : CE := c_57
def c_58 : CE := (125, [rF [68], iA 0 5, cst 3], [], tI, [], ([], []), []) -- X7_of
def ac_58 : List AnE := [(0, ([rF [68], iA 0 5, cst 3], [], []), 0, [0, 0, 0])]
theorem kc_58 : chkM shP TV t_0 c_58 ac_58 = true := by decide +kernel
abbrev q_X7_of_3 : CE := c_58
def c_59 : CE := (125, [rF [68], iA 0 5, cst 2], [], tI, [], ([], []), []) -- X7_of
def ac_59 : List AnE := [(0, ([rF [68], iA 0 5, cst 2], [], []), 0, [0, 0, 0])]
theorem kc_59 : chkM shP TV t_0 c_59 ac_59 = true := by decide +kernel
abbrev q_X7_of_4 : CE := c_59
def c_60 : CE := (125, [rF [68], iA 0 5, iA 0 4], [], tI, [], ([], []), []) -- X7_of
def ac_60 : List AnE := [(0, ([rF [68], iA 0 5, iA 0 4], [], []), 0, [0, 0, 0])]
theorem kc_60 : chkM shP TV t_0 c_60 ac_60 = true := by decide +kernel
abbrev q_X7_of_5 : CE := c_60
def c_61 : CE := (126, [rF [68], iA 0 5, cst 1, iA 0 3], [(14041, 1, 9)], none, [(14041, 1, 9)], ([70], []), []) -- X7_becomesOf
def ac_61 : List AnE := [(0, ([rF [68], iA 0 5, cst 1, iA 0 3], [], [(14041, 1, 9)]), 0, [0, 0, 0, 0])]
theorem kc_61 : chkM shP TV t_0 c_61 ac_61 = true := by decide +kernel
abbrev q_X7_becomesOf : CE := c_61
def c_62 : CE := (126, [rF [68], iA 0 5, cst 4, tI], [(14041, 1, 9)], none, [(14041, 1, 9)], ([70], []), []) -- X7_becomesOf
def ac_62 : List AnE := [(0, ([rF [68], iA 0 5, cst 4, tI], [], [(14041, 1, 9)]), 0, [0, 0, 0, 0])]
theorem kc_62 : chkM shP TV t_0 c_62 ac_62 = true := by decide +kernel
abbrev q_X7_becomesOf_1 : CE := c_62
def c_63 : CE := (127, [iA 0 3, iA 0 1], [], iA 0 4, [], ([], []), []) -- X7_needOf
def ac_63 : List AnE := [(0, ([iA 0 3, iA 0 1], [], []), 7, [0, 0]),
  (12, ([iA 1 3, iA 1 1], [], []), 6, [0, 0]),
  (21, ([iA 1 2, iA 1 1], [], []), 4, [0, 0]),
  (22, ([iA 0 3, iA 1 1], [some (.inl ((2, 4, 2), none, 0, (0, 0), []))], []), 5, [0, 0]),
  (23, ([iA 0 3, iA 0 0], [], []), 3, [0, 0]),
  (32, ([iA 0 3, iA 0 0], [], []), 2, [0, 0]),
  (41, ([iA 0 2, iA 0 0], [], []), 0, [0, 0]),
  (42, ([iA 2 3, iA 0 0], [some (.inl ((0, 2, 2), none, 0, (0, 0), []))], []), 1, [0, 0])]
theorem kc_63 : chkM shP TV t_0 c_63 ac_63 = true := by decide +kernel
abbrev q_X7_needOf : CE := c_63
def c_64 : CE := (134, [rF [68]], [], tI, [], ([], []), []) -- X7_allMeans
def ac_64 : List AnE := [(0, ([rF [68], none, none], [], []), 11, [0, 0, 0]),
  (4, ([rF [68], tI, iA 0 4], [], []), 9, [0, 0, (-2)]),
  (31, ([rF [68], tI, iA 0 4], [], []), 0, [0, 0, 0])]
theorem kc_64 : chkM shP TV t_0 c_64 ac_64 = true := by decide +kernel
abbrev q_X7_allMeans : CE := c_64
def c_65 : CE := (137, [tI], [], tI, [], ([], []), []) -- X7_bitsOf
def ac_65 : List AnE := [(0, ([tI, none, none], [], []), 15, [0, 0, 0]),
  (4, ([tI, tI, iA 0 6], [], []), 13, [0, 0, (-2)]),
  (24, ([tI, tI, iA 6 6], [], []), 0, [0, 0, 0])]
theorem kc_65 : chkM shP TV t_0 c_65 ac_65 = true := by decide +kernel
abbrev q_X7_bitsOf : CE := c_65
def c_66 : CE := (138, [tI, tI], [], tI, [], ([], []), []) -- X7_lesser
def ac_66 : List AnE := [(0, ([tI, tI], [], []), 2, [0, 0]),
  (9, ([tI, tI], [], []), 0, [0, 0]),
  (10, ([iA (-2147483648) 2147483646, iA (-2147483647) 2147483647], [some (.inl (((-2147483648), 2147483646, 1), none, 1, (0, 0), []))], []), 1, [0, 0])]
theorem kc_66 : chkM shP TV t_0 c_66 ac_66 = true := by decide +kernel
abbrev q_X7_lesser : CE := c_66
def c_67 : CE := (142, [rF [68], cst 44, iA 0 6], [], iA 0 6, [], ([], [13844]), []) -- X7_becomes
def ac_67 : List AnE := [(0, ([rF [68], cst 44, iA 0 6, none], [], []), 0, [0, 0, 0, 0])]
theorem kc_67 : chkM shP TV t_0 c_67 ac_67 = true := by decide +kernel
abbrev q_X7_becomes : CE := c_67
def c_68 : CE := (142, [rF [68], iA 0 7, tI], [], tI, [], ([], [13800, 13801, 13802, 13803, 13804, 13805, 13806, 13807]), []) -- X7_becomes
def ac_68 : List AnE := [(0, ([rF [68], iA 0 7, tI, none], [], []), 0, [0, 0, 0, 0])]
theorem kc_68 : chkM shP TV t_0 c_68 ac_68 = true := by decide +kernel
abbrev q_X7_becomes_1 : CE := c_68
def c_69 : CE := (144, [rF [68], iA 0 5], [], iA 0 1, [], ([], []), []) -- X7_liesStill
def ac_69 : List AnE := [(0, ([rF [68], iA 0 5], [], []), 2, [0, 0]),
  (20, ([rF [68], iA 0 5], [], []), 0, [0, 0]),
  (21, ([rF [68], iA 0 5], [cst 1], []), 1, [0, 0])]
theorem kc_69 : chkM shP TV t_0 c_69 ac_69 = true := by decide +kernel
abbrev q_X7_liesStill : CE := c_69
def c_70 : CE := (147, [rF [68], tI, tI, tI, tI], [], iA (-3) 5, [], ([], [13808, 13809, 13810, 13811, 13812, 13813, 13814, 13815, 13816, 13817, 13818, 13819, 13820, 13821, 13822, 13823, 13824, 13825, 13826, 13827, 13828, 13829, 13830, 13831, 13832, 13833, 13834, 13835, 13836, 13837, 13838]), []) -- X7_find
def ac_70 : List AnE := [(0, ([rF [68], tI, tI, tI, tI, none], [], []), 3, [0, 0, 0, 0, 0, 0]),
  (45, ([rF [68], tI, tI, tI, tI, none], [], []), 0, [0, 0, 0, 0, 0, 0]),
  (47, ([rF [68], iA 0 3, iA 0 3, iA 0 9, iA 0 9, none], [], []), 2, [0, 0, 0, 0, 0, 0]),
  (62, ([rF [68], iA 0 3, iA 0 3, iA 0 9, iA 0 9, none], [], [(13838, 0, 5)]), 1, [0, 0, 0, 0, 0, 0])]
theorem kc_70 : chkM shP TV t_0 c_70 ac_70 = true := by decide +kernel
abbrev q_X7_find : CE := c_70
def c_71 : CE := (161, [rF [68], iA 0 2147483647], [(13603, 1, 4)], iA 0 1, [], ([74], []), []) -- X7_isOrder
def ac_71 : List AnE := [(0, ([rF [68], iA 0 2147483647, none, none, none], [], [(13603, 1, 4)]), 13, [0, 0, 0, 0, 0]),
  (12, ([rF [68], iA 0 2147483647, iA 0 2147483647, tI, iA (-1) 3], [], [(13603, 1, 4)]), 5, [0, 0, 0, 0, 2]),
  (55, ([rF [68], iA 0 2147483647, iA 0 2147483647, tI, iA (-1) (-1)], [], [(13603, 1, 4)]), 2, [0, 0, 0, 0, 0]),
  (71, ([rF [68], iA 0 2147483647, iA 0 2147483647, tI, iA (-1) (-1)], [], [(13603, 1, 4)]), 0, [0, 0, 0, 0, 0]),
  (72, ([rF [68], iA 0 2147483647, iA 0 2147483647, iA 0 15, iA (-1) (-1)], [cst 1], [(13603, 1, 4)]), 1, [0, 0, 0, 0, 0])]
theorem kc_71 : chkM shP TV t_0 c_71 ac_71 = true := by decide +kernel
abbrev q_X7_isOrder : CE := c_71
def c_72 : CE := (161, [rF [68], iA 0 2147483647], [(13603, 0, 0)], cst 1, [], ([], []), []) -- X7_isOrder
def ac_72 : List AnE := [(0, ([rF [68], iA 0 2147483647, none, none, none], [], [(13603, 0, 0)]), 3, [0, 0, 0, 0, 0]),
  (12, ([rF [68], iA 0 2147483647, iA 0 2147483647, cst 0, iA (-1) (-1)], [], [(13603, 0, 0)]), 2, [0, 0, 0, 0, 0]),
  (55, ([rF [68], iA 0 2147483647, iA 0 2147483647, cst 0, iA (-1) (-1)], [], [(13603, 0, 0)]), 1, [0, 0, 0, 0, 0]),
  (72, ([rF [68], iA 0 2147483647, iA 0 2147483647, iA 0 0, iA (-1) (-1)], [cst 1], [(13603, 0, 0)]), 0, [0, 0, 0, 0, 0])]
theorem kc_72 : chkM shP TV t_0 c_72 ac_72 = true := by decide +kernel
abbrev q_X7_isOrder_1 : CE := c_72
def c_73 : CE := (162, [rF [68], tI, iA 1 9], [(13603, 1, 4)], cst (-1), [], ([], []), []) -- X7_order
def ac_73 : List AnE := [(0, ([rF [68], tI, iA 1 9, none, none, none, none, none], [], [(13603, 1, 4)]), 1, [0, 0, 0, 0, 0, 0, 0, 0]),
  (26, ([rF [68], tI, iA 1 9, none, none, none, none, none], [], [(13603, 1, 4)]), 0, [0, 0, 0, 0, 0, 0, 0, 0])]
theorem kc_73 : chkM shP TV t_0 c_73 ac_73 = true := by decide +kernel
abbrev q_X7_order : CE := c_73
def c_74 : CE := (162, [rF [68], tI, iA 1 9], [(13603, 0, 0)], cst (-1), [], ([], []), []) -- X7_order
def ac_74 : List AnE := [(0, ([rF [68], tI, iA 1 9, none, none, none, none, none], [], [(13603, 0, 0)]), 1, [0, 0, 0, 0, 0, 0, 0, 0]),
  (26, ([rF [68], tI, iA 1 9, none, none, none, none, none], [], [(13603, 0, 0)]), 0, [0, 0, 0, 0, 0, 0, 0, 0])]
theorem kc_74 : chkM shP TV t_0 c_74 ac_74 = true := by decide +kernel
abbrev q_X7_order_1 : CE := c_74
def c_75 : CE := (162, [rF [68], tI, iA (-2147483648) (-2147483639)], [(13603, 1, 4)], cst (-1), [], ([], []), []) -- X7_order
def ac_75 : List AnE := [(0, ([rF [68], tI, iA (-2147483648) (-2147483639), none, none, none, none, none], [], [(13603, 1, 4)]), 1, [0, 0, 0, 0, 0, 0, 0, 0]),
  (26, ([rF [68], tI, iA (-2147483648) (-2147483639), none, none, none, none, none], [], [(13603, 1, 4)]), 0, [0, 0, 0, 0, 0, 0, 0, 0])]
theorem kc_75 : chkM shP TV t_0 c_75 ac_75 = true := by decide +kernel
abbrev q_X7_order_2 : CE := c_75
def c_76 : CE := (162, [rF [68], tI, iA (-2147483648) (-2147483639)], [(13603, 0, 0)], cst (-1), [], ([], []), []) -- X7_order
def ac_76 : List AnE := [(0, ([rF [68], tI, iA (-2147483648) (-2147483639), none, none, none, none, none], [], [(13603, 0, 0)]), 1, [0, 0, 0, 0, 0, 0, 0, 0]),
  (26, ([rF [68], tI, iA (-2147483648) (-2147483639), none, none, none, none, none], [], [(13603, 0, 0)]), 0, [0, 0, 0, 0, 0, 0, 0, 0])]
theorem kc_76 : chkM shP TV t_0 c_76 ac_76 = true := by decide +kernel
abbrev q_X7_order_3 : CE := c_76
def c_77 : CE := (162, [rF [68], tI, iA 14 2147483647], [(13603, 1, 4)], cst (-1), [], ([], []), []) -- X7_order
def ac_77 : List AnE := [(0, ([rF [68], tI, iA 14 2147483647, none, none, none, none, none], [], [(13603, 1, 4)]), 1, [0, 0, 0, 0, 0, 0, 0, 0]),
  (26, ([rF [68], tI, iA 14 2147483647, none, none, none, none, none], [], [(13603, 1, 4)]), 0, [0, 0, 0, 0, 0, 0, 0, 0])]
theorem kc_77 : chkM shP TV t_0 c_77 ac_77 = true := by decide +kernel
abbrev q_X7_order_4 : CE := c_77
def c_78 : CE := (162, [rF [68], tI, iA 14 2147483647], [(13603, 0, 0)], cst (-1), [], ([], []), []) -- X7_order
def ac_78 : List AnE := [(0, ([rF [68], tI, iA 14 2147483647, none, none, none, none, none], [], [(13603, 0, 0)]), 1, [0, 0, 0, 0, 0, 0, 0, 0]),
  (26, ([rF [68], tI, iA 14 2147483647, none, none, none, none, none], [], [(13603, 0, 0)]), 0, [0, 0, 0, 0, 0, 0, 0, 0])]
theorem kc_78 : chkM shP TV t_0 c_78 ac_78 = true := by decide +kernel
abbrev q_X7_order_5 : CE := c_78
def c_79 : CE := (162, [rF [68], tI, iA (-2147483638) (-1)], [(13603, 1, 4)], cst (-1), [], ([], []), []) -- X7_order
def ac_79 : List AnE := [(0, ([rF [68], tI, iA (-2147483638) (-1), none, none, none, none, none], [], [(13603, 1, 4)]), 1, [0, 0, 0, 0, 0, 0, 0, 0]),
  (26, ([rF [68], tI, iA (-2147483638) (-1), none, none, none, none, none], [], [(13603, 1, 4)]), 0, [0, 0, 0, 0, 0, 0, 0, 0])]
theorem kc_79 : chkM shP TV t_0 c_79 ac_79 = true := by decide +kernel
abbrev q_X7_order_6 : CE := c_79
def c_80 : CE := (162, [rF [68], tI, iA (-2147483638) (-1)], [(13603, 0, 0)], cst (-1), [], ([], []), []) -- X7_order
def ac_80 : List AnE := [(0, ([rF [68], tI, iA (-2147483638) (-1), none, none, none, none, none], [], [(13603, 0, 0)]), 1, [0, 0, 0, 0, 0, 0, 0, 0]),
  (26, ([rF [68], tI, iA (-2147483638) (-1), none, none, none, none, none], [], [(13603, 0, 0)]), 0, [0, 0, 0, 0, 0, 0, 0, 0])]
theorem kc_80 : chkM shP TV t_0 c_80 ac_80 = true := by decide +kernel
abbrev q_X7_order_7 : CE := c_80
def c_81 : CE := (168, [rF [68], tI, tI, tI], [], iA (-3) 6, [], ([], [13844, 13845, 13846, 13847, 13848, 13849, 13850, 13851, 13852, 13853, 13854, 13855, 13856, 13857, 13858, 13859, 13860, 13861, 13862]), []) -- X7_see
def ac_81 : List AnE := [(0, ([rF [68], tI, tI, tI, none], [], []), 3, [0, 0, 0, 0, 0]),
  (28, ([rF [68], tI, tI, tI, none], [], []), 0, [0, 0, 0, 0, 0]),
  (30, ([rF [68], iA 0 5, iA 0 9, iA 0 3, none], [], []), 2, [0, 0, 0, 0, 0]),
  (45, ([rF [68], iA 0 5, iA 0 9, iA 0 3, none], [], [(13844, 0, 5)]), 1, [0, 0, 0, 0, 0])]
theorem kc_81 : chkM shP TV t_0 c_81 ac_81 = true := by decide +kernel
abbrev q_X7_see : CE := c_81
def c_82 : CE := (177, [rF [68], iA 2 2147483647], [], cst (-1), [], ([], []), []) -- X7_keep
def ac_82 : List AnE := [(0, ([rF [68], iA 2 2147483647, none], [], []), 0, [0, 0, 0])]
theorem kc_82 : chkM shP TV t_0 c_82 ac_82 = true := by decide +kernel
abbrev q_X7_keep : CE := c_82
def c_83 : CE := (177, [rF [68], iA (-2147483648) (-1)], [], cst (-1), [], ([], []), []) -- X7_keep
def ac_83 : List AnE := [(0, ([rF [68], iA (-2147483648) (-1), none], [], []), 0, [0, 0, 0])]
theorem kc_83 : chkM shP TV t_0 c_83 ac_83 = true := by decide +kernel
abbrev q_X7_keep_1 : CE := c_83
def c_84 : CE := (178, [rF [68], cst 0], [(13904, 1, 9)], tI, [], ([], [13800, 13801, 13802, 13803, 13804, 13805, 13806, 13807, 13808, 13809, 13810, 13811, 13812, 13813, 13814, 13815, 13816, 13817, 13818, 13819, 13820, 13821, 13822, 13823, 13824, 13825, 13826, 13827, 13828, 13829, 13830, 13831, 13832, 13833, 13834, 13835, 13836, 13837, 13838, 13839, 13840, 13841, 13842, 13843, 13844, 13845, 13846, 13847, 13848, 13849, 13850, 13851, 13852, 13853, 13854, 13855, 13856, 13857, 13858, 13859, 13860, 13861, 13862]), []) -- X7_back
def ac_84 : List AnE := [(0, ([rF [68], cst 0], [], [(13904, 1, 9)]), 2, [0, 0]),
  (12, ([rF [68], iA 0 0], [], [(13904, 1, 9)]), 1, [0, 0]),
  (24, ([rF [68], iA 0 0], [], [(14200, 1, 1), (13904, 1, 9)]), 0, [0, 0])]
theorem kc_84 : chkM shP TV t_0 c_84 ac_84 = true := by decide +kernel
abbrev q_X7_back : CE := c_84
def c_85 : CE := (178, [rF [68], cst 0], [(14200, 0, 0)], iA (-2) (-1), [], ([], []), []) -- X7_back
def ac_85 : List AnE := [(0, ([rF [68], cst 0], [], [(14200, 0, 0)]), 1, [0, 0]),
  (12, ([rF [68], iA 0 0], [], [(14200, 0, 0)]), 0, [0, 0])]
theorem kc_85 : chkM shP TV t_0 c_85 ac_85 = true := by decide +kernel
abbrev q_X7_back_1 : CE := c_85
def c_86 : CE := (178, [rF [68], cst 1], [(13967, 1, 9)], tI, [], ([], [13800, 13801, 13802, 13803, 13804, 13805, 13806, 13807, 13808, 13809, 13810, 13811, 13812, 13813, 13814, 13815, 13816, 13817, 13818, 13819, 13820, 13821, 13822, 13823, 13824, 13825, 13826, 13827, 13828, 13829, 13830, 13831, 13832, 13833, 13834, 13835, 13836, 13837, 13838, 13839, 13840, 13841, 13842, 13843, 13844, 13845, 13846, 13847, 13848, 13849, 13850, 13851, 13852, 13853, 13854, 13855, 13856, 13857, 13858, 13859, 13860, 13861, 13862]), []) -- X7_back
def ac_86 : List AnE := [(0, ([rF [68], cst 1], [], [(13967, 1, 9)]), 2, [0, 0]),
  (12, ([rF [68], iA 1 1], [], [(13967, 1, 9)]), 1, [0, 0]),
  (24, ([rF [68], iA 1 1], [], [(14201, 1, 1), (13967, 1, 9)]), 0, [0, 0])]
theorem kc_86 : chkM shP TV t_0 c_86 ac_86 = true := by decide +kernel
abbrev q_X7_back_2 : CE := c_86
def c_87 : CE := (178, [rF [68], cst 1], [(14201, 0, 0)], iA (-2) (-1), [], ([], []), []) -- X7_back
def ac_87 : List AnE := [(0, ([rF [68], cst 1], [], [(14201, 0, 0)]), 1, [0, 0]),
  (12, ([rF [68], iA 1 1], [], [(14201, 0, 0)]), 0, [0, 0])]
theorem kc_87 : chkM shP TV t_0 c_87 ac_87 = true := by decide +kernel
abbrev q_X7_back_3 : CE := c_87
def c_88 : CE := (178, [rF [68], iA 2 2147483647], [], cst (-1), [], ([], []), []) -- X7_back
def ac_88 : List AnE := [(0, ([rF [68], iA 2 2147483647], [], []), 0, [0, 0])]
theorem kc_88 : chkM shP TV t_0 c_88 ac_88 = true := by decide +kernel
abbrev q_X7_back_4 : CE := c_88
def c_89 : CE := (178, [rF [68], iA (-2147483648) (-1)], [], cst (-1), [], ([], []), []) -- X7_back
def ac_89 : List AnE := [(0, ([rF [68], iA (-2147483648) (-1)], [], []), 0, [0, 0])]
theorem kc_89 : chkM shP TV t_0 c_89 ac_89 = true := by decide +kernel
abbrev q_X7_back_5 : CE := c_89
def c_90 : CE := (180, [rF [68], tI, tI, tI], [], iA (-14) 1, [], ([77, 78, 79], []), []) -- X7_sheet
def ac_90 : List AnE := [(0, ([rF [68], tI, tI, tI, none], [], []), 86, [0, 0, 0, 0, 0]),
  (14, ([rF [68], tI, tI, tI, none], [], []), 0, [0, 0, 0, 0, 0]),
  (16, ([rF [68], iA 0 3, iA 0 2, iA (-2147483648) 40, none], [], []), 85, [0, 0, 0, 0, 0]),
  (23, ([rF [68], iA 0 3, iA 0 2, iA 0 40, none], [], []), 84, [0, 0, 0, 0, 0]),
  (40, ([rF [68], iA 0 3, iA 0 2, iA 0 40, iA 0 40], [], []), 82, [0, 0, 0, 0, (-2)]),
  (66, ([rF [68], iA 0 3, iA 0 2, iA 0 40, iA 40 40], [], []), 1, [0, 0, 0, 0, 0])]
theorem kc_90 : chkM shP TV t_0 c_90 ac_90 = true := by decide +kernel
abbrev q_X7_sheet : CE := c_90
def c_91 : CE := (181, [rF [68], tI, tI, tI], [], iA (-12) 1, [], ([79], []), []) -- X7_lay
def ac_91 : List AnE := [(0, ([rF [68], tI, tI, tI], [], []), 6, [0, 0, 0, 0]),
  (10, ([rF [68], iA 0 3, tI, tI], [], []), 5, [0, 0, 0, 0]),
  (24, ([rF [68], iA 0 3, tI, tI], [], []), 4, [0, 0, 0, 0]),
  (45, ([rF [68], iA 0 3, iA 0 39, tI], [], []), 3, [0, 0, 0, 0]),
  (69, ([rF [68], iA 0 3, iA 0 39, tI], [iA 0 159, rF [79]], []), 2, [0, 0, 0, 0]),
  (84, ([rF [68], iA 0 3, iA 0 39, tI], [iA 0 159, rF [79]], []), 0, [0, 0, 0, 0]),
  (85, ([rF [68], iA 0 3, iA 0 39, tI], [tI, iA 0 159, rF [79]], []), 1, [0, 0, 0, 0])]
theorem kc_91 : chkM shP TV t_0 c_91 ac_91 = true := by decide +kernel
abbrev q_X7_lay : CE := c_91
def c_92 : CE := (183, [rF [68]], [], tI, [], ([], []), []) -- X7_torn
def ac_92 : List AnE := [(0, ([rF [68]], [], []), 0, [0])]
theorem kc_92 : chkM shP TV t_0 c_92 ac_92 = true := by decide +kernel
abbrev q_X7_torn : CE := c_92
def c_93 : CE := (185, [tI], [], iA 0 63, [], ([], []), []) -- J6_bitCount_0f7a4
def ac_93 : List AnE := [(0, ([tI], [], []), 0, [0])]
theorem kc_93 : chkM shP TV t_0 c_93 ac_93 = true := by decide +kernel
abbrev q_J6_bitCount_0f7a4 : CE := c_93
def b_1 : List (CE × List AnE) := [(c_0, ac_0), (c_1, ac_1), (c_2, ac_2), (c_3, ac_3), (c_4, ac_4), (c_5, ac_5), (c_6, ac_6), (c_7, ac_7), (c_8, ac_8), (c_9, ac_9), (c_10, ac_10), (c_11, ac_11), (c_12, ac_12), (c_13, ac_13), (c_14, ac_14), (c_15, ac_15), (c_16, ac_16), (c_17, ac_17), (c_18, ac_18), (c_19, ac_19), (c_20, ac_20), (c_21, ac_21), (c_22, ac_22), (c_23, ac_23), (c_24, ac_24), (c_25, ac_25), (c_26, ac_26), (c_27, ac_27), (c_28, ac_28), (c_29, ac_29), (c_30, ac_30), (c_31, ac_31), (c_32, ac_32), (c_33, ac_33), (c_34, ac_34), (c_35, ac_35), (c_36, ac_36), (c_37, ac_37), (c_38, ac_38), (c_39, ac_39), (c_40, ac_40), (c_41, ac_41), (c_42, ac_42), (c_43, ac_43), (c_44, ac_44), (c_45, ac_45), (c_46, ac_46), (c_47, ac_47), (c_48, ac_48), (c_49, ac_49), (c_50, ac_50), (c_51, ac_51), (c_52, ac_52), (c_53, ac_53), (c_54, ac_54), (c_55, ac_55), (c_56, ac_56), (c_57, ac_57), (c_58, ac_58), (c_59, ac_59), (c_60, ac_60), (c_61, ac_61), (c_62, ac_62), (c_63, ac_63), (c_64, ac_64), (c_65, ac_65), (c_66, ac_66), (c_67, ac_67), (c_68, ac_68), (c_69, ac_69), (c_70, ac_70), (c_71, ac_71), (c_72, ac_72), (c_73, ac_73), (c_74, ac_74), (c_75, ac_75), (c_76, ac_76), (c_77, ac_77), (c_78, ac_78), (c_79, ac_79), (c_80, ac_80), (c_81, ac_81), (c_82, ac_82), (c_83, ac_83), (c_84, ac_84), (c_85, ac_85), (c_86, ac_86), (c_87, ac_87), (c_88, ac_88), (c_89, ac_89), (c_90, ac_90), (c_91, ac_91), (c_92, ac_92), (c_93, ac_93)]
def t_1 : List CE := [c_0, c_1, c_2, c_3, c_4, c_5, c_6, c_7, c_8, c_9, c_10, c_11, c_12, c_13, c_14, c_15, c_16, c_17, c_18, c_19, c_20, c_21, c_22, c_23, c_24, c_25, c_26, c_27, c_28, c_29, c_30, c_31, c_32, c_33, c_34, c_35, c_36, c_37, c_38, c_39, c_40, c_41, c_42, c_43, c_44, c_45, c_46, c_47, c_48, c_49, c_50, c_51, c_52, c_53, c_54, c_55, c_56, c_57, c_58, c_59, c_60, c_61, c_62, c_63, c_64, c_65, c_66, c_67, c_68, c_69, c_70, c_71, c_72, c_73, c_74, c_75, c_76, c_77, c_78, c_79, c_80, c_81, c_82, c_83, c_84, c_85, c_86, c_87, c_88, c_89, c_90, c_91, c_92, c_93] ++ t_0
theorem h_up1 {wS : List Value → Mm → Option Rs} {k : Nat} (h : Hall TV wS k t_0) : Hall TV wS (k + 1) t_1 := by
  refine Hall_step h b_1 ?_
  unfold b_1
  simp only [List.all_cons, List.all_nil, kc_0, kc_1, kc_2, kc_3, kc_4, kc_5, kc_6, kc_7, kc_8, kc_9, kc_10, kc_11, kc_12, kc_13, kc_14, kc_15, kc_16, kc_17, kc_18, kc_19, kc_20, kc_21, kc_22, kc_23, kc_24, kc_25, kc_26, kc_27, kc_28, kc_29, kc_30, kc_31, kc_32, kc_33, kc_34, kc_35, kc_36, kc_37, kc_38, kc_39, kc_40, kc_41, kc_42, kc_43, kc_44, kc_45, kc_46, kc_47, kc_48, kc_49, kc_50, kc_51, kc_52, kc_53, kc_54, kc_55, kc_56, kc_57, kc_58, kc_59, kc_60, kc_61, kc_62, kc_63, kc_64, kc_65, kc_66, kc_67, kc_68, kc_69, kc_70, kc_71, kc_72, kc_73, kc_74, kc_75, kc_76, kc_77, kc_78, kc_79, kc_80, kc_81, kc_82, kc_83, kc_84, kc_85, kc_86, kc_87, kc_88, kc_89, kc_90, kc_91, kc_92, kc_93, Bool.and_self]
