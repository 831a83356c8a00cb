/-! more contracts by hand: written by wip/gen/contracts2.py -/
def h2_0 : CE := (1, [rF [60, 62, 64, 66], some (.inr (.inr (40, 2147483647, 0)))], [], iA 1 2, [], ([], []), []) -- X1_faultAt
def h2_1 : CE := (1, [rF [60, 62, 64, 66], some (.inr (.inr ((-2147483648), (-1), 0)))], [], iA 1 2, [], ([], []), []) -- X1_faultAt
def h2_2 : CE := (52, [rF [0], cst 0, tI], [], iA 0 1, [], ([], []), [(2, 0, 3)]) -- X6_mayBecome
def h2_3 : CE := (52, [rF [0], cst 1, tI], [], iA 0 1, [], ([], []), [(2, 0, 3)]) -- X6_mayBecome
def h2_4 : CE := (52, [rF [0], iA 2 3, tI], [], iA 0 1, [], ([], []), []) -- X6_mayBecome
def h2_5 : CE := (99, [iA 4 2147483647, iA 0 0, iA 3 3], [], cst 0, [], ([], []), []) -- X6_within
def h2_6 : CE := (99, [iA (-2147483648) (-1), iA 0 0, iA 3 3], [], cst 0, [], ([], []), []) -- X6_within
def h2_7 : CE := (101, [some (.inr (.inr (4, 2147483647, 0))), some (.inr (.inr (2, 2, 0))), some (.inr (.inr (3, 3, 0)))], [], cst 0, [], ([], []), []) -- X7_in
def h2_8 : CE := (101, [some (.inr (.inr ((-2147483648), (-1), 0))), some (.inr (.inr (2, 2, 0))), some (.inr (.inr (3, 3, 0)))], [], cst 0, [], ([], []), []) -- X7_in
def h2_9 : CE := (101, [tJ, some (.inr (.inr (0, 0, 0))), some (.inr (.inr (20, 20, 0)))], [], iA 0 1, [], ([], []), [(0, 0, 20)]) -- X7_in
def h2_10 : CE := (101, [tJ, some (.inr (.inr (0, 0, 0))), some (.inr (.inr (60, 60, 0)))], [], iA 0 1, [], ([], []), [(0, 0, 60)]) -- X7_in
def h2_11 : CE := (101, [tJ, some (.inr (.inr (1, 1, 0))), some (.inr (.inr (9, 9, 0)))], [], iA 0 1, [], ([], []), [(0, 1, 9)]) -- X7_in
def h2_12 : CE := (101, [tJ, some (.inr (.inr (2, 2, 0))), some (.inr (.inr (3, 3, 0)))], [], iA 0 1, [], ([], []), [(0, 2, 3)]) -- X7_in
def h2_13 : CE := (126, [rF [68], iA 0 5, iA 2 3, tI], [(14041, 1, 9)], none, [(14041, 1, 9)], ([70], []), []) -- X7_becomesOf
def t_9 : List CE := [h2_0, h2_1, h2_2, h2_3, h2_4, h2_5, h2_6, h2_7, h2_8, h2_9, h2_10, h2_11, h2_12, h2_13] ++ t_8
