/-! contracts of the text: written by wip/gen/contracts3.py -/
def h4_0 : CE := (15, [rF [23], iA 1 4], [], iA 0 1, [], ([26], [4601, 4602, 4801, 4802]), [(6200, 0, 3)]) -- X4_takeNumbers
def t_16 : List CE := [h4_0] ++ t_15
def h_tl : CE := (13, [rF [23], tI, rF [10]], [], none, [], ([11, 12, 14, 15, 16, 17, 18, 26], [2000, 2001, 2002, 2003, 2004, 4601, 4602, 4604, 4801, 4802]), []) -- X4_takeLine
def a_tl0 : List AnE := [(36, ([rF [23], tI, rF [10], cst 0], [], []), 3, [0, 0, 0, 0]),
  (63, ([rF [23], tI, rF [10], cst 0], [], []), 2, [0, 0, 0, 0]),
  (87, ([rF [23], tI, rF [10], cst 0], [], []), 1, [0, 0, 0, 0]),
  (116, ([rF [23], tI, rF [10], cst 0], [], []), 0, [0, 0, 0, 0])]
theorem k_tl0 : a_tl0.all (blkOK shP TV t_16 (mT 13) h_tl (codeZ 13) a_tl0) = true := by decide +kernel
def a_tl1 : List AnE := [(36, ([rF [23], tI, rF [10], iA 1 4], [], []), 3, [0, 0, 0, 0]),
  (63, ([rF [23], tI, rF [10], iA 1 4], [], []), 2, [0, 0, 0, 0]),
  (87, ([rF [23], tI, rF [10], iA 1 4], [], []), 1, [0, 0, 0, 0]),
  (116, ([rF [23], tI, rF [10], iA 1 4], [], []), 0, [0, 0, 0, 0])]
theorem k_tl1 : a_tl1.all (blkOK shP TV t_16 (mT 13) h_tl (codeZ 13) a_tl1) = true := by decide +kernel
def a_tl5 : List AnE := [(36, ([rF [23], tI, rF [10], iA 5 7], [], []), 3, [0, 0, 0, 0]),
  (63, ([rF [23], tI, rF [10], iA 5 7], [], []), 2, [0, 0, 0, 0]),
  (87, ([rF [23], tI, rF [10], iA 5 7], [], []), 1, [0, 0, 0, 0]),
  (116, ([rF [23], tI, rF [10], iA 5 7], [], []), 0, [0, 0, 0, 0])]
theorem k_tl5 : a_tl5.all (blkOK shP TV t_16 (mT 13) h_tl (codeZ 13) a_tl5) = true := by decide +kernel
