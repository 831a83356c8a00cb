/-! contracts of the text: written by wip/gen/contracts3.py -/
def h3_0 : CE := (8, [rF [24]], [], iA 0 4, [], ([], [4801, 4802]), []) -- X3_take
def h3_1 : CE := (11, [rF [24], rF [2000, 2001, 2002, 2003, 2004, 2005, 2006, 2007]], [], iA 0 1, [], ([], []), []) -- X3_isWord
def t_12 : List CE := [h3_0, h3_1] ++ t_11
