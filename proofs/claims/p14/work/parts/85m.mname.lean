/-! THE MODEL'S NAMES: written by wip/gen/mname.py -/
def isB (B : Nat → Int32) (s e n : Nat) (a b c : Int32) : Bool := decide (e = s + n) && (decide (B s = a) && (decide (B (s + 1) = b) && decide (B (s + 2) = c)))
def enB (B : Nat → Int32) (s : Nat) (a b c f : Int32) : Bool := decide (B (s + 3) = a) && ((decide (b = 0) || decide (B (s + 4) = b)) && ((decide (c = 0) || decide (B (s + 5) = c)) && (decide (f = 0) || decide (B (s + 6) = f))))
def mdl (k : Nat) : Int32 := ([4, 0, 1, 2, 3, 5, 6, 7] : List Int32).getD k (-4)
theorem nm_0 (B : Nat → Int32) (s e : Nat) : (isB B s e 7 118 105 108 && enB B s 108 97 103 101) = nmX B s e 0 := by
  have e : nmX B s e 0 = (decide (e = s + 7) && (decide (B (s + 0) = 118) && (decide (B (s + 1) = 105) && (decide (B (s + 2) = 108) && (decide (B (s + 3) = 108) && (decide (B (s + 4) = 97) && (decide (B (s + 5) = 103) && (decide (B (s + 6) = 101) && true)))))))) := rfl
  rw [e]
  unfold isB enB
  simp only [show decide ((97 : Int32) = 0) = false from by decide, show decide ((101 : Int32) = 0) = false from by decide, show decide ((103 : Int32) = 0) = false from by decide, decide_true, Bool.true_or, Bool.false_or, Bool.and_true, Bool.and_self, Bool.and_assoc, Nat.add_zero]
theorem nm_1 (B : Nat → Int32) (s e : Nat) : (isB B s e 5 112 108 97 && enB B s 105 110 0 0) = nmX B s e 1 := by
  have e : nmX B s e 1 = (decide (e = s + 5) && (decide (B (s + 0) = 112) && (decide (B (s + 1) = 108) && (decide (B (s + 2) = 97) && (decide (B (s + 3) = 105) && (decide (B (s + 4) = 110) && true)))))) := rfl
  rw [e]
  unfold isB enB
  simp only [show decide ((0 : Int32) = 0) = true from by decide, show decide ((110 : Int32) = 0) = false from by decide, decide_true, Bool.true_or, Bool.false_or, Bool.and_true, Bool.and_self, Bool.and_assoc, Nat.add_zero]
theorem nm_2 (B : Nat → Int32) (s e : Nat) : (isB B s e 5 114 105 118 && enB B s 101 114 0 0) = nmX B s e 2 := by
  have e : nmX B s e 2 = (decide (e = s + 5) && (decide (B (s + 0) = 114) && (decide (B (s + 1) = 105) && (decide (B (s + 2) = 118) && (decide (B (s + 3) = 101) && (decide (B (s + 4) = 114) && true)))))) := rfl
  rw [e]
  unfold isB enB
  simp only [show decide ((0 : Int32) = 0) = true from by decide, show decide ((114 : Int32) = 0) = false from by decide, decide_true, Bool.true_or, Bool.false_or, Bool.and_true, Bool.and_self, Bool.and_assoc, Nat.add_zero]
theorem nm_3 (B : Nat → Int32) (s e : Nat) : (isB B s e 7 97 100 111 && enB B s 112 116 101 100) = nmX B s e 3 := by
  have e : nmX B s e 3 = (decide (e = s + 7) && (decide (B (s + 0) = 97) && (decide (B (s + 1) = 100) && (decide (B (s + 2) = 111) && (decide (B (s + 3) = 112) && (decide (B (s + 4) = 116) && (decide (B (s + 5) = 101) && (decide (B (s + 6) = 100) && true)))))))) := rfl
  rw [e]
  unfold isB enB
  simp only [show decide ((100 : Int32) = 0) = false from by decide, show decide ((101 : Int32) = 0) = false from by decide, show decide ((116 : Int32) = 0) = false from by decide, decide_true, Bool.true_or, Bool.false_or, Bool.and_true, Bool.and_self, Bool.and_assoc, Nat.add_zero]
theorem nm_4 (B : Nat → Int32) (s e : Nat) : (isB B s e 5 109 105 120 && enB B s 101 100 0 0) = nmX B s e 4 := by
  have e : nmX B s e 4 = (decide (e = s + 5) && (decide (B (s + 0) = 109) && (decide (B (s + 1) = 105) && (decide (B (s + 2) = 120) && (decide (B (s + 3) = 101) && (decide (B (s + 4) = 100) && true)))))) := rfl
  rw [e]
  unfold isB enB
  simp only [show decide ((0 : Int32) = 0) = true from by decide, show decide ((100 : Int32) = 0) = false from by decide, decide_true, Bool.true_or, Bool.false_or, Bool.and_true, Bool.and_self, Bool.and_assoc, Nat.add_zero]
theorem nm_5 (B : Nat → Int32) (s e : Nat) : (isB B s e 5 112 114 105 && enB B s 99 101 0 0) = nmX B s e 5 := by
  have e : nmX B s e 5 = (decide (e = s + 5) && (decide (B (s + 0) = 112) && (decide (B (s + 1) = 114) && (decide (B (s + 2) = 105) && (decide (B (s + 3) = 99) && (decide (B (s + 4) = 101) && true)))))) := rfl
  rw [e]
  unfold isB enB
  simp only [show decide ((0 : Int32) = 0) = true from by decide, show decide ((101 : Int32) = 0) = false from by decide, decide_true, Bool.true_or, Bool.false_or, Bool.and_true, Bool.and_self, Bool.and_assoc, Nat.add_zero]
theorem nm_6 (B : Nat → Int32) (s e : Nat) : (isB B s e 4 102 105 110 && enB B s 101 0 0 0) = nmX B s e 6 := by
  have e : nmX B s e 6 = (decide (e = s + 4) && (decide (B (s + 0) = 102) && (decide (B (s + 1) = 105) && (decide (B (s + 2) = 110) && (decide (B (s + 3) = 101) && true))))) := rfl
  rw [e]
  unfold isB enB
  simp only [show decide ((0 : Int32) = 0) = true from by decide, decide_true, Bool.true_or, Bool.false_or, Bool.and_true, Bool.and_self, Bool.and_assoc, Nat.add_zero]
theorem nm_7 (B : Nat → Int32) (s e : Nat) : (isB B s e 5 114 111 117 && enB B s 110 100 0 0) = nmX B s e 7 := by
  have e : nmX B s e 7 = (decide (e = s + 5) && (decide (B (s + 0) = 114) && (decide (B (s + 1) = 111) && (decide (B (s + 2) = 117) && (decide (B (s + 3) = 110) && (decide (B (s + 4) = 100) && true)))))) := rfl
  rw [e]
  unfold isB enB
  simp only [show decide ((0 : Int32) = 0) = true from by decide, show decide ((100 : Int32) = 0) = false from by decide, decide_true, Bool.true_or, Bool.false_or, Bool.and_true, Bool.and_self, Bool.and_assoc, Nat.add_zero]
section Mn
variable {B : Nat → Int32} {n : Nat} (wS : List Value → Mm → Option Rs) (d : Nat) {m : Mm}
theorem t_isX (hB : Tp B n) (hm : TM B n m) {s e : Nat} (hse : s ≤ e) (he : e ≤ n) (so va fa wr : Int32) {q : Nat} (hq : q < 8) (a b c : Int32) : semZ shP wS (d + 2) 109 [.ref 68, .int (nI q), .int a, .int b, .int c] (pm m e s so va fa wr) = some (some (.int (bI (isB B s e q a b c))), pm m e s so va fa wr) := by
  have h160 := hB.1
  have es := nI_sub (a := e) (b := s) hse
  have eq : (nI (e - s) = nI q) = (e = s + q) := by
    apply propext
    rw [nI_eq (by omega) (by omega)]
    omega
  have y0 := byX wS d hB hm s so va fa wr (show s < 2 ^ 31 by omega) e
  have y1 := byX wS d hB hm s so va fa wr (show s + 1 < 2 ^ 31 by omega) e
  have y2 := byX wS d hB hm s so va fa wr (show s + 2 < 2 ^ 31 by omega) e
  have p1 : nI s + 1 = nI (s + 1) := nI_1 s
  have p2 : nI s + 2 = nI (s + 2) := nI_add s 2
  rw [se_X7_is, r_X7_is_0]
  unfold isB
  by_cases h0 : e = s + q
  · have c0 : nI (e - s) = nI q := by rw [eq]; exact h0
    rw [decide_eq_true h0]
    by_cases h1 : B s = a
    · by_cases h2 : B (s + 1) = b
      · by_cases h3 : B (s + 2) = c
        · simp only [EV, LV, CB, OI, OL, NP, CZ, popN, CT, OZ, List.map_nil, List.map_cons, List.sum_nil, List.sum_cons, Option.toList, List.nil_append, List.cons_append, Int.reduceToNat, Nat.reduceAdd, Nat.reduceLT, Nat.reduceLeDiff, List.length_cons, List.length_nil, Nat.zero_add, if_true, if_false, reduceIte, and_self, and_true, true_and, eq_self, reduceCtorEq, C68, G68, es, c0, y0, y1, y2, p1, p2, h1, h2, h3, not_true_eq_false, r_X7_is_59, decide_true, Bool.and_self, bI_t]
        · simp only [EV, LV, CB, OI, OL, NP, CZ, popN, CT, OZ, List.map_nil, List.map_cons, List.sum_nil, List.sum_cons, Option.toList, List.nil_append, List.cons_append, Int.reduceToNat, Nat.reduceAdd, Nat.reduceLT, Nat.reduceLeDiff, List.length_cons, List.length_nil, Nat.zero_add, if_true, if_false, reduceIte, and_self, and_true, true_and, eq_self, reduceCtorEq, C68, G68, es, c0, y0, y1, y2, p1, p2, h1, h2, h3, not_true_eq_false, not_false_eq_true, r_X7_is_58, decide_true, decide_false, Bool.and_false, bI_f]
      · simp only [EV, LV, CB, OI, OL, NP, CZ, popN, CT, OZ, List.map_nil, List.map_cons, List.sum_nil, List.sum_cons, Option.toList, List.nil_append, List.cons_append, Int.reduceToNat, Nat.reduceAdd, Nat.reduceLT, Nat.reduceLeDiff, List.length_cons, List.length_nil, Nat.zero_add, if_true, if_false, reduceIte, and_self, and_true, true_and, eq_self, reduceCtorEq, C68, G68, es, c0, y0, y1, p1, h1, h2, not_true_eq_false, not_false_eq_true, r_X7_is_58, decide_true, decide_false, Bool.false_and, Bool.and_false, bI_f]
    · simp only [EV, LV, CB, OI, OL, NP, CZ, popN, CT, OZ, List.map_nil, List.map_cons, List.sum_nil, List.sum_cons, Option.toList, List.nil_append, List.cons_append, Int.reduceToNat, Nat.reduceAdd, Nat.reduceLT, Nat.reduceLeDiff, List.length_cons, List.length_nil, Nat.zero_add, if_true, if_false, reduceIte, and_self, and_true, true_and, eq_self, reduceCtorEq, C68, G68, es, c0, y0, h1, not_true_eq_false, not_false_eq_true, r_X7_is_58, decide_false, Bool.false_and, Bool.and_false, bI_f]
  · have c0 : ¬ nI (e - s) = nI q := by rw [eq]; exact h0
    rw [decide_eq_false h0]
    simp only [EV, LV, CB, OI, OL, NP, CZ, popN, CT, OZ, List.map_nil, List.map_cons, List.sum_nil, List.sum_cons, Option.toList, List.nil_append, List.cons_append, Int.reduceToNat, Nat.reduceAdd, Nat.reduceLT, Nat.reduceLeDiff, List.length_cons, List.length_nil, Nat.zero_add, if_true, if_false, reduceIte, and_self, and_true, true_and, eq_self, reduceCtorEq, G68, es, c0, not_false_eq_true, r_X7_is_58, Bool.false_and, bI_f]
theorem t_enX (hB : Tp B n) (hm : TM B n m) {s e : Nat} (hs : s ≤ n) (so va fa wr : Int32) (a b c f : Int32) : semZ shP wS (d + 2) 110 [.ref 68, .int a, .int b, .int c, .int f] (pm m e s so va fa wr) = some (some (.int (bI (enB B s a b c f))), pm m e s so va fa wr) := by
  have h160 := hB.1
  have y3 := byX wS d hB hm s so va fa wr (show s + 3 < 2 ^ 31 by omega) e
  have y4 := byX wS d hB hm s so va fa wr (show s + 4 < 2 ^ 31 by omega) e
  have y5 := byX wS d hB hm s so va fa wr (show s + 5 < 2 ^ 31 by omega) e
  have y6 := byX wS d hB hm s so va fa wr (show s + 6 < 2 ^ 31 by omega) e
  have p3 : nI s + 3 = nI (s + 3) := nI_add s 3
  have p4 : nI s + 4 = nI (s + 4) := nI_add s 4
  have p5 : nI s + 5 = nI (s + 5) := nI_add s 5
  have p6 : nI s + 6 = nI (s + 6) := nI_add s 6
  rw [se_X7_ends, r_X7_ends_0]
  unfold enB
  by_cases h3 : B (s + 3) = a
  · skip
    by_cases zb : b = 0
    · skip
      by_cases zc : c = 0
      · skip
        by_cases zf : f = 0
        · skip
          simp only [EV, LV, CB, OI, OL, NP, CZ, popN, CT, OZ, List.map_nil, List.map_cons, List.sum_nil, List.sum_cons, Option.toList, List.nil_append, List.cons_append, Int.reduceToNat, Nat.reduceAdd, Nat.reduceLT, Nat.reduceLeDiff, List.length_cons, List.length_nil, Nat.zero_add, if_true, if_false, reduceIte, and_self, and_true, true_and, eq_self, reduceCtorEq, C68, G68, y3, y4, y5, y6, p3, p4, p5, p6, not_true_eq_false, not_false_eq_true, r_X7_ends_32, r_X7_ends_50, r_X7_ends_71, r_X7_ends_75, r_X7_ends_76, decide_true, decide_false, Bool.true_or, Bool.false_or, Bool.or_true, Bool.or_false, Bool.or_self, Bool.and_true, Bool.true_and, Bool.and_false, Bool.false_and, Bool.and_self, bI_t, bI_f, h3, zb, zc, zf]
        · by_cases hf : B (s + 6) = f
          · skip
            simp only [EV, LV, CB, OI, OL, NP, CZ, popN, CT, OZ, List.map_nil, List.map_cons, List.sum_nil, List.sum_cons, Option.toList, List.nil_append, List.cons_append, Int.reduceToNat, Nat.reduceAdd, Nat.reduceLT, Nat.reduceLeDiff, List.length_cons, List.length_nil, Nat.zero_add, if_true, if_false, reduceIte, and_self, and_true, true_and, eq_self, reduceCtorEq, C68, G68, y3, y4, y5, y6, p3, p4, p5, p6, not_true_eq_false, not_false_eq_true, r_X7_ends_32, r_X7_ends_50, r_X7_ends_71, r_X7_ends_75, r_X7_ends_76, decide_true, decide_false, Bool.true_or, Bool.false_or, Bool.or_true, Bool.or_false, Bool.or_self, Bool.and_true, Bool.true_and, Bool.and_false, Bool.false_and, Bool.and_self, bI_t, bI_f, h3, zb, zc, zf, hf]
          · skip
            simp only [EV, LV, CB, OI, OL, NP, CZ, popN, CT, OZ, List.map_nil, List.map_cons, List.sum_nil, List.sum_cons, Option.toList, List.nil_append, List.cons_append, Int.reduceToNat, Nat.reduceAdd, Nat.reduceLT, Nat.reduceLeDiff, List.length_cons, List.length_nil, Nat.zero_add, if_true, if_false, reduceIte, and_self, and_true, true_and, eq_self, reduceCtorEq, C68, G68, y3, y4, y5, y6, p3, p4, p5, p6, not_true_eq_false, not_false_eq_true, r_X7_ends_32, r_X7_ends_50, r_X7_ends_71, r_X7_ends_75, r_X7_ends_76, decide_true, decide_false, Bool.true_or, Bool.false_or, Bool.or_true, Bool.or_false, Bool.or_self, Bool.and_true, Bool.true_and, Bool.and_false, Bool.false_and, Bool.and_self, bI_t, bI_f, h3, zb, zc, zf, hf]
      · by_cases hc : B (s + 5) = c
        · skip
          by_cases zf : f = 0
          · skip
            simp only [EV, LV, CB, OI, OL, NP, CZ, popN, CT, OZ, List.map_nil, List.map_cons, List.sum_nil, List.sum_cons, Option.toList, List.nil_append, List.cons_append, Int.reduceToNat, Nat.reduceAdd, Nat.reduceLT, Nat.reduceLeDiff, List.length_cons, List.length_nil, Nat.zero_add, if_true, if_false, reduceIte, and_self, and_true, true_and, eq_self, reduceCtorEq, C68, G68, y3, y4, y5, y6, p3, p4, p5, p6, not_true_eq_false, not_false_eq_true, r_X7_ends_32, r_X7_ends_50, r_X7_ends_71, r_X7_ends_75, r_X7_ends_76, decide_true, decide_false, Bool.true_or, Bool.false_or, Bool.or_true, Bool.or_false, Bool.or_self, Bool.and_true, Bool.true_and, Bool.and_false, Bool.false_and, Bool.and_self, bI_t, bI_f, h3, zb, zc, hc, zf]
          · by_cases hf : B (s + 6) = f
            · skip
              simp only [EV, LV, CB, OI, OL, NP, CZ, popN, CT, OZ, List.map_nil, List.map_cons, List.sum_nil, List.sum_cons, Option.toList, List.nil_append, List.cons_append, Int.reduceToNat, Nat.reduceAdd, Nat.reduceLT, Nat.reduceLeDiff, List.length_cons, List.length_nil, Nat.zero_add, if_true, if_false, reduceIte, and_self, and_true, true_and, eq_self, reduceCtorEq, C68, G68, y3, y4, y5, y6, p3, p4, p5, p6, not_true_eq_false, not_false_eq_true, r_X7_ends_32, r_X7_ends_50, r_X7_ends_71, r_X7_ends_75, r_X7_ends_76, decide_true, decide_false, Bool.true_or, Bool.false_or, Bool.or_true, Bool.or_false, Bool.or_self, Bool.and_true, Bool.true_and, Bool.and_false, Bool.false_and, Bool.and_self, bI_t, bI_f, h3, zb, zc, hc, zf, hf]
            · skip
              simp only [EV, LV, CB, OI, OL, NP, CZ, popN, CT, OZ, List.map_nil, List.map_cons, List.sum_nil, List.sum_cons, Option.toList, List.nil_append, List.cons_append, Int.reduceToNat, Nat.reduceAdd, Nat.reduceLT, Nat.reduceLeDiff, List.length_cons, List.length_nil, Nat.zero_add, if_true, if_false, reduceIte, and_self, and_true, true_and, eq_self, reduceCtorEq, C68, G68, y3, y4, y5, y6, p3, p4, p5, p6, not_true_eq_false, not_false_eq_true, r_X7_ends_32, r_X7_ends_50, r_X7_ends_71, r_X7_ends_75, r_X7_ends_76, decide_true, decide_false, Bool.true_or, Bool.false_or, Bool.or_true, Bool.or_false, Bool.or_self, Bool.and_true, Bool.true_and, Bool.and_false, Bool.false_and, Bool.and_self, bI_t, bI_f, h3, zb, zc, hc, zf, hf]
        · skip
          simp only [EV, LV, CB, OI, OL, NP, CZ, popN, CT, OZ, List.map_nil, List.map_cons, List.sum_nil, List.sum_cons, Option.toList, List.nil_append, List.cons_append, Int.reduceToNat, Nat.reduceAdd, Nat.reduceLT, Nat.reduceLeDiff, List.length_cons, List.length_nil, Nat.zero_add, if_true, if_false, reduceIte, and_self, and_true, true_and, eq_self, reduceCtorEq, C68, G68, y3, y4, y5, y6, p3, p4, p5, p6, not_true_eq_false, not_false_eq_true, r_X7_ends_32, r_X7_ends_50, r_X7_ends_71, r_X7_ends_75, r_X7_ends_76, decide_true, decide_false, Bool.true_or, Bool.false_or, Bool.or_true, Bool.or_false, Bool.or_self, Bool.and_true, Bool.true_and, Bool.and_false, Bool.false_and, Bool.and_self, bI_t, bI_f, h3, zb, zc, hc]
    · by_cases hb : B (s + 4) = b
      · skip
        by_cases zc : c = 0
        · skip
          by_cases zf : f = 0
          · skip
            simp only [EV, LV, CB, OI, OL, NP, CZ, popN, CT, OZ, List.map_nil, List.map_cons, List.sum_nil, List.sum_cons, Option.toList, List.nil_append, List.cons_append, Int.reduceToNat, Nat.reduceAdd, Nat.reduceLT, Nat.reduceLeDiff, List.length_cons, List.length_nil, Nat.zero_add, if_true, if_false, reduceIte, and_self, and_true, true_and, eq_self, reduceCtorEq, C68, G68, y3, y4, y5, y6, p3, p4, p5, p6, not_true_eq_false, not_false_eq_true, r_X7_ends_32, r_X7_ends_50, r_X7_ends_71, r_X7_ends_75, r_X7_ends_76, decide_true, decide_false, Bool.true_or, Bool.false_or, Bool.or_true, Bool.or_false, Bool.or_self, Bool.and_true, Bool.true_and, Bool.and_false, Bool.false_and, Bool.and_self, bI_t, bI_f, h3, zb, hb, zc, zf]
          · by_cases hf : B (s + 6) = f
            · skip
              simp only [EV, LV, CB, OI, OL, NP, CZ, popN, CT, OZ, List.map_nil, List.map_cons, List.sum_nil, List.sum_cons, Option.toList, List.nil_append, List.cons_append, Int.reduceToNat, Nat.reduceAdd, Nat.reduceLT, Nat.reduceLeDiff, List.length_cons, List.length_nil, Nat.zero_add, if_true, if_false, reduceIte, and_self, and_true, true_and, eq_self, reduceCtorEq, C68, G68, y3, y4, y5, y6, p3, p4, p5, p6, not_true_eq_false, not_false_eq_true, r_X7_ends_32, r_X7_ends_50, r_X7_ends_71, r_X7_ends_75, r_X7_ends_76, decide_true, decide_false, Bool.true_or, Bool.false_or, Bool.or_true, Bool.or_false, Bool.or_self, Bool.and_true, Bool.true_and, Bool.and_false, Bool.false_and, Bool.and_self, bI_t, bI_f, h3, zb, hb, zc, zf, hf]
            · skip
              simp only [EV, LV, CB, OI, OL, NP, CZ, popN, CT, OZ, List.map_nil, List.map_cons, List.sum_nil, List.sum_cons, Option.toList, List.nil_append, List.cons_append, Int.reduceToNat, Nat.reduceAdd, Nat.reduceLT, Nat.reduceLeDiff, List.length_cons, List.length_nil, Nat.zero_add, if_true, if_false, reduceIte, and_self, and_true, true_and, eq_self, reduceCtorEq, C68, G68, y3, y4, y5, y6, p3, p4, p5, p6, not_true_eq_false, not_false_eq_true, r_X7_ends_32, r_X7_ends_50, r_X7_ends_71, r_X7_ends_75, r_X7_ends_76, decide_true, decide_false, Bool.true_or, Bool.false_or, Bool.or_true, Bool.or_false, Bool.or_self, Bool.and_true, Bool.true_and, Bool.and_false, Bool.false_and, Bool.and_self, bI_t, bI_f, h3, zb, hb, zc, zf, hf]
        · by_cases hc : B (s + 5) = c
          · skip
            by_cases zf : f = 0
            · skip
              simp only [EV, LV, CB, OI, OL, NP, CZ, popN, CT, OZ, List.map_nil, List.map_cons, List.sum_nil, List.sum_cons, Option.toList, List.nil_append, List.cons_append, Int.reduceToNat, Nat.reduceAdd, Nat.reduceLT, Nat.reduceLeDiff, List.length_cons, List.length_nil, Nat.zero_add, if_true, if_false, reduceIte, and_self, and_true, true_and, eq_self, reduceCtorEq, C68, G68, y3, y4, y5, y6, p3, p4, p5, p6, not_true_eq_false, not_false_eq_true, r_X7_ends_32, r_X7_ends_50, r_X7_ends_71, r_X7_ends_75, r_X7_ends_76, decide_true, decide_false, Bool.true_or, Bool.false_or, Bool.or_true, Bool.or_false, Bool.or_self, Bool.and_true, Bool.true_and, Bool.and_false, Bool.false_and, Bool.and_self, bI_t, bI_f, h3, zb, hb, zc, hc, zf]
            · by_cases hf : B (s + 6) = f
              · skip
                simp only [EV, LV, CB, OI, OL, NP, CZ, popN, CT, OZ, List.map_nil, List.map_cons, List.sum_nil, List.sum_cons, Option.toList, List.nil_append, List.cons_append, Int.reduceToNat, Nat.reduceAdd, Nat.reduceLT, Nat.reduceLeDiff, List.length_cons, List.length_nil, Nat.zero_add, if_true, if_false, reduceIte, and_self, and_true, true_and, eq_self, reduceCtorEq, C68, G68, y3, y4, y5, y6, p3, p4, p5, p6, not_true_eq_false, not_false_eq_true, r_X7_ends_32, r_X7_ends_50, r_X7_ends_71, r_X7_ends_75, r_X7_ends_76, decide_true, decide_false, Bool.true_or, Bool.false_or, Bool.or_true, Bool.or_false, Bool.or_self, Bool.and_true, Bool.true_and, Bool.and_false, Bool.false_and, Bool.and_self, bI_t, bI_f, h3, zb, hb, zc, hc, zf, hf]
              · skip
                simp only [EV, LV, CB, OI, OL, NP, CZ, popN, CT, OZ, List.map_nil, List.map_cons, List.sum_nil, List.sum_cons, Option.toList, List.nil_append, List.cons_append, Int.reduceToNat, Nat.reduceAdd, Nat.reduceLT, Nat.reduceLeDiff, List.length_cons, List.length_nil, Nat.zero_add, if_true, if_false, reduceIte, and_self, and_true, true_and, eq_self, reduceCtorEq, C68, G68, y3, y4, y5, y6, p3, p4, p5, p6, not_true_eq_false, not_false_eq_true, r_X7_ends_32, r_X7_ends_50, r_X7_ends_71, r_X7_ends_75, r_X7_ends_76, decide_true, decide_false, Bool.true_or, Bool.false_or, Bool.or_true, Bool.or_false, Bool.or_self, Bool.and_true, Bool.true_and, Bool.and_false, Bool.false_and, Bool.and_self, bI_t, bI_f, h3, zb, hb, zc, hc, zf, hf]
          · skip
            simp only [EV, LV, CB, OI, OL, NP, CZ, popN, CT, OZ, List.map_nil, List.map_cons, List.sum_nil, List.sum_cons, Option.toList, List.nil_append, List.cons_append, Int.reduceToNat, Nat.reduceAdd, Nat.reduceLT, Nat.reduceLeDiff, List.length_cons, List.length_nil, Nat.zero_add, if_true, if_false, reduceIte, and_self, and_true, true_and, eq_self, reduceCtorEq, C68, G68, y3, y4, y5, y6, p3, p4, p5, p6, not_true_eq_false, not_false_eq_true, r_X7_ends_32, r_X7_ends_50, r_X7_ends_71, r_X7_ends_75, r_X7_ends_76, decide_true, decide_false, Bool.true_or, Bool.false_or, Bool.or_true, Bool.or_false, Bool.or_self, Bool.and_true, Bool.true_and, Bool.and_false, Bool.false_and, Bool.and_self, bI_t, bI_f, h3, zb, hb, zc, hc]
      · skip
        simp only [EV, LV, CB, OI, OL, NP, CZ, popN, CT, OZ, List.map_nil, List.map_cons, List.sum_nil, List.sum_cons, Option.toList, List.nil_append, List.cons_append, Int.reduceToNat, Nat.reduceAdd, Nat.reduceLT, Nat.reduceLeDiff, List.length_cons, List.length_nil, Nat.zero_add, if_true, if_false, reduceIte, and_self, and_true, true_and, eq_self, reduceCtorEq, C68, G68, y3, y4, y5, y6, p3, p4, p5, p6, not_true_eq_false, not_false_eq_true, r_X7_ends_32, r_X7_ends_50, r_X7_ends_71, r_X7_ends_75, r_X7_ends_76, decide_true, decide_false, Bool.true_or, Bool.false_or, Bool.or_true, Bool.or_false, Bool.or_self, Bool.and_true, Bool.true_and, Bool.and_false, Bool.false_and, Bool.and_self, bI_t, bI_f, h3, zb, hb]
  · skip
    simp only [EV, LV, CB, OI, OL, NP, CZ, popN, CT, OZ, List.map_nil, List.map_cons, List.sum_nil, List.sum_cons, Option.toList, List.nil_append, List.cons_append, Int.reduceToNat, Nat.reduceAdd, Nat.reduceLT, Nat.reduceLeDiff, List.length_cons, List.length_nil, Nat.zero_add, if_true, if_false, reduceIte, and_self, and_true, true_and, eq_self, reduceCtorEq, C68, G68, y3, y4, y5, y6, p3, p4, p5, p6, not_true_eq_false, not_false_eq_true, r_X7_ends_32, r_X7_ends_50, r_X7_ends_71, r_X7_ends_75, r_X7_ends_76, decide_true, decide_false, Bool.true_or, Bool.false_or, Bool.or_true, Bool.or_false, Bool.or_self, Bool.and_true, Bool.true_and, Bool.and_false, Bool.false_and, Bool.and_self, bI_t, bI_f, h3]
theorem w_0 (hB : Tp B n) (hm : TM B n m) {s e : Nat} (hse : s ≤ e) (he : e ≤ n) (so va fa wr : Int32) : rn shP tb0 mN mO (semZ shP wS (d + 2)) (some .int) (codeZ 112) 0 [.ref 68] [] (pm m e s so va fa wr) = if nmX B s e 0 = true then some (some (.int 4), pm m e s so va fa wr) else rn shP tb0 mN mO (semZ shP wS (d + 2)) (some .int) (codeZ 112) 32 [.ref 68] [] (pm m e s so va fa wr) := by
  have e10 : ¬ (1 : Int32) = 0 := by decide
  have i := t_isX wS d hB hm hse he so va fa wr (q := 7) (by omega) 118 105 108
  have i : semZ shP wS (d + 2) 109 [.ref 68, .int 7, .int 118, .int 105, .int 108] (pm m e s so va fa wr) = _ := i
  have u := t_enX wS d hB hm (show s ≤ n by omega) so va fa wr (e := e) 108 97 103 101
  rw [← nm_0 B s e, r_X7_lineNow_0]
  cases h1 : isB B s e 7 118 105 108 with
  | false =>
    rw [h1] at i
    simp only [EV, LV, CB, OI, OL, NP, CZ, popN, CT, OZ, List.map_nil, List.map_cons, List.sum_nil, List.sum_cons, Option.toList, List.nil_append, List.cons_append, Int.reduceToNat, Nat.reduceAdd, Nat.reduceLT, Nat.reduceLeDiff, List.length_cons, List.length_nil, Nat.zero_add, if_true, if_false, reduceIte, and_self, and_true, true_and, eq_self, reduceCtorEq, C68, i, bI_f, Bool.false_and, Bool.false_eq_true]
  | true =>
    rw [h1] at i
    cases h2 : enB B s 108 97 103 101 with
    | false =>
      rw [h2] at u
      simp only [EV, LV, CB, OI, OL, NP, CZ, popN, CT, OZ, List.map_nil, List.map_cons, List.sum_nil, List.sum_cons, Option.toList, List.nil_append, List.cons_append, Int.reduceToNat, Nat.reduceAdd, Nat.reduceLT, Nat.reduceLeDiff, List.length_cons, List.length_nil, Nat.zero_add, if_true, if_false, reduceIte, and_self, and_true, true_and, eq_self, reduceCtorEq, C68, i, u, bI_t, bI_f, e10, Bool.and_false, Bool.false_eq_true]
    | true =>
      rw [h2] at u
      simp only [EV, LV, CB, OI, OL, NP, CZ, popN, CT, OZ, List.map_nil, List.map_cons, List.sum_nil, List.sum_cons, Option.toList, List.nil_append, List.cons_append, Int.reduceToNat, Nat.reduceAdd, Nat.reduceLT, Nat.reduceLeDiff, List.length_cons, List.length_nil, Nat.zero_add, if_true, if_false, reduceIte, and_self, and_true, true_and, eq_self, reduceCtorEq, C68, i, u, bI_t, e10, Bool.and_self]
theorem w_5 (hB : Tp B n) (hm : TM B n m) {s e : Nat} (hse : s ≤ e) (he : e ≤ n) (so va fa wr : Int32) : rn shP tb0 mN mO (semZ shP wS (d + 2)) (some .int) (codeZ 112) 32 [.ref 68] [] (pm m e s so va fa wr) = if nmX B s e 5 = true then some (some (.int 5), pm m e s so va fa wr) else rn shP tb0 mN mO (semZ shP wS (d + 2)) (some .int) (codeZ 112) 61 [.ref 68] [] (pm m e s so va fa wr) := by
  have e10 : ¬ (1 : Int32) = 0 := by decide
  have i := t_isX wS d hB hm hse he so va fa wr (q := 5) (by omega) 112 114 105
  have i : semZ shP wS (d + 2) 109 [.ref 68, .int 5, .int 112, .int 114, .int 105] (pm m e s so va fa wr) = _ := i
  have u := t_enX wS d hB hm (show s ≤ n by omega) so va fa wr (e := e) 99 101 0 0
  rw [← nm_5 B s e, r_X7_lineNow_32]
  cases h1 : isB B s e 5 112 114 105 with
  | false =>
    rw [h1] at i
    simp only [EV, LV, CB, OI, OL, NP, CZ, popN, CT, OZ, List.map_nil, List.map_cons, List.sum_nil, List.sum_cons, Option.toList, List.nil_append, List.cons_append, Int.reduceToNat, Nat.reduceAdd, Nat.reduceLT, Nat.reduceLeDiff, List.length_cons, List.length_nil, Nat.zero_add, if_true, if_false, reduceIte, and_self, and_true, true_and, eq_self, reduceCtorEq, C68, i, bI_f, Bool.false_and, Bool.false_eq_true]
  | true =>
    rw [h1] at i
    cases h2 : enB B s 99 101 0 0 with
    | false =>
      rw [h2] at u
      simp only [EV, LV, CB, OI, OL, NP, CZ, popN, CT, OZ, List.map_nil, List.map_cons, List.sum_nil, List.sum_cons, Option.toList, List.nil_append, List.cons_append, Int.reduceToNat, Nat.reduceAdd, Nat.reduceLT, Nat.reduceLeDiff, List.length_cons, List.length_nil, Nat.zero_add, if_true, if_false, reduceIte, and_self, and_true, true_and, eq_self, reduceCtorEq, C68, i, u, bI_t, bI_f, e10, Bool.and_false, Bool.false_eq_true]
    | true =>
      rw [h2] at u
      simp only [EV, LV, CB, OI, OL, NP, CZ, popN, CT, OZ, List.map_nil, List.map_cons, List.sum_nil, List.sum_cons, Option.toList, List.nil_append, List.cons_append, Int.reduceToNat, Nat.reduceAdd, Nat.reduceLT, Nat.reduceLeDiff, List.length_cons, List.length_nil, Nat.zero_add, if_true, if_false, reduceIte, and_self, and_true, true_and, eq_self, reduceCtorEq, C68, i, u, bI_t, e10, Bool.and_self]
theorem w_6 (hB : Tp B n) (hm : TM B n m) {s e : Nat} (hse : s ≤ e) (he : e ≤ n) (so va fa wr : Int32) : rn shP tb0 mN mO (semZ shP wS (d + 2)) (some .int) (codeZ 112) 61 [.ref 68] [] (pm m e s so va fa wr) = if nmX B s e 6 = true then some (some (.int 6), pm m e s so va fa wr) else rn shP tb0 mN mO (semZ shP wS (d + 2)) (some .int) (codeZ 112) 92 [.ref 68] [] (pm m e s so va fa wr) := by
  have e10 : ¬ (1 : Int32) = 0 := by decide
  have i := t_isX wS d hB hm hse he so va fa wr (q := 4) (by omega) 102 105 110
  have i : semZ shP wS (d + 2) 109 [.ref 68, .int 4, .int 102, .int 105, .int 110] (pm m e s so va fa wr) = _ := i
  have u := t_enX wS d hB hm (show s ≤ n by omega) so va fa wr (e := e) 101 0 0 0
  rw [← nm_6 B s e, r_X7_lineNow_61]
  cases h1 : isB B s e 4 102 105 110 with
  | false =>
    rw [h1] at i
    simp only [EV, LV, CB, OI, OL, NP, CZ, popN, CT, OZ, List.map_nil, List.map_cons, List.sum_nil, List.sum_cons, Option.toList, List.nil_append, List.cons_append, Int.reduceToNat, Nat.reduceAdd, Nat.reduceLT, Nat.reduceLeDiff, List.length_cons, List.length_nil, Nat.zero_add, if_true, if_false, reduceIte, and_self, and_true, true_and, eq_self, reduceCtorEq, C68, i, bI_f, Bool.false_and, Bool.false_eq_true]
  | true =>
    rw [h1] at i
    cases h2 : enB B s 101 0 0 0 with
    | false =>
      rw [h2] at u
      simp only [EV, LV, CB, OI, OL, NP, CZ, popN, CT, OZ, List.map_nil, List.map_cons, List.sum_nil, List.sum_cons, Option.toList, List.nil_append, List.cons_append, Int.reduceToNat, Nat.reduceAdd, Nat.reduceLT, Nat.reduceLeDiff, List.length_cons, List.length_nil, Nat.zero_add, if_true, if_false, reduceIte, and_self, and_true, true_and, eq_self, reduceCtorEq, C68, i, u, bI_t, bI_f, e10, Bool.and_false, Bool.false_eq_true]
    | true =>
      rw [h2] at u
      simp only [EV, LV, CB, OI, OL, NP, CZ, popN, CT, OZ, List.map_nil, List.map_cons, List.sum_nil, List.sum_cons, Option.toList, List.nil_append, List.cons_append, Int.reduceToNat, Nat.reduceAdd, Nat.reduceLT, Nat.reduceLeDiff, List.length_cons, List.length_nil, Nat.zero_add, if_true, if_false, reduceIte, and_self, and_true, true_and, eq_self, reduceCtorEq, C68, i, u, bI_t, e10, Bool.and_self, r_X7_lineNow_128]
theorem w_7 (hB : Tp B n) (hm : TM B n m) {s e : Nat} (hse : s ≤ e) (he : e ≤ n) (so va fa wr : Int32) : rn shP tb0 mN mO (semZ shP wS (d + 2)) (some .int) (codeZ 112) 92 [.ref 68] [] (pm m e s so va fa wr) = if nmX B s e 7 = true then some (some (.int 7), pm m e s so va fa wr) else rn shP tb0 mN mO (semZ shP wS (d + 2)) (some .int) (codeZ 112) 124 [.ref 68] [] (pm m e s so va fa wr) := by
  have e10 : ¬ (1 : Int32) = 0 := by decide
  have i := t_isX wS d hB hm hse he so va fa wr (q := 5) (by omega) 114 111 117
  have i : semZ shP wS (d + 2) 109 [.ref 68, .int 5, .int 114, .int 111, .int 117] (pm m e s so va fa wr) = _ := i
  have u := t_enX wS d hB hm (show s ≤ n by omega) so va fa wr (e := e) 110 100 0 0
  rw [← nm_7 B s e, r_X7_lineNow_92]
  cases h1 : isB B s e 5 114 111 117 with
  | false =>
    rw [h1] at i
    simp only [EV, LV, CB, OI, OL, NP, CZ, popN, CT, OZ, List.map_nil, List.map_cons, List.sum_nil, List.sum_cons, Option.toList, List.nil_append, List.cons_append, Int.reduceToNat, Nat.reduceAdd, Nat.reduceLT, Nat.reduceLeDiff, List.length_cons, List.length_nil, Nat.zero_add, if_true, if_false, reduceIte, and_self, and_true, true_and, eq_self, reduceCtorEq, C68, i, bI_f, Bool.false_and, Bool.false_eq_true]
  | true =>
    rw [h1] at i
    cases h2 : enB B s 110 100 0 0 with
    | false =>
      rw [h2] at u
      simp only [EV, LV, CB, OI, OL, NP, CZ, popN, CT, OZ, List.map_nil, List.map_cons, List.sum_nil, List.sum_cons, Option.toList, List.nil_append, List.cons_append, Int.reduceToNat, Nat.reduceAdd, Nat.reduceLT, Nat.reduceLeDiff, List.length_cons, List.length_nil, Nat.zero_add, if_true, if_false, reduceIte, and_self, and_true, true_and, eq_self, reduceCtorEq, C68, i, u, bI_t, bI_f, e10, Bool.and_false, Bool.false_eq_true]
    | true =>
      rw [h2] at u
      simp only [EV, LV, CB, OI, OL, NP, CZ, popN, CT, OZ, List.map_nil, List.map_cons, List.sum_nil, List.sum_cons, Option.toList, List.nil_append, List.cons_append, Int.reduceToNat, Nat.reduceAdd, Nat.reduceLT, Nat.reduceLeDiff, List.length_cons, List.length_nil, Nat.zero_add, if_true, if_false, reduceIte, and_self, and_true, true_and, eq_self, reduceCtorEq, C68, i, u, bI_t, e10, Bool.and_self, r_X7_lineNow_128]
theorem w_1 (hB : Tp B n) (hm : TM B n m) {s e : Nat} (hse : s ≤ e) (he : e ≤ n) (so va fa wr : Int32) : rn shP tb0 mN mO (semZ shP wS (d + 2)) (some .int) (codeZ 111) 0 [.ref 68] [] (pm m e s so va fa wr) = if nmX B s e 1 = true then some (some (.int 0), pm m e s so va fa wr) else rn shP tb0 mN mO (semZ shP wS (d + 2)) (some .int) (codeZ 111) 29 [.ref 68] [] (pm m e s so va fa wr) := by
  have e10 : ¬ (1 : Int32) = 0 := by decide
  have i := t_isX wS d hB hm hse he so va fa wr (q := 5) (by omega) 112 108 97
  have i : semZ shP wS (d + 2) 109 [.ref 68, .int 5, .int 112, .int 108, .int 97] (pm m e s so va fa wr) = _ := i
  have u := t_enX wS d hB hm (show s ≤ n by omega) so va fa wr (e := e) 105 110 0 0
  rw [← nm_1 B s e, r_X7_kindNow_0]
  cases h1 : isB B s e 5 112 108 97 with
  | false =>
    rw [h1] at i
    simp only [EV, LV, CB, OI, OL, NP, CZ, popN, CT, OZ, List.map_nil, List.map_cons, List.sum_nil, List.sum_cons, Option.toList, List.nil_append, List.cons_append, Int.reduceToNat, Nat.reduceAdd, Nat.reduceLT, Nat.reduceLeDiff, List.length_cons, List.length_nil, Nat.zero_add, if_true, if_false, reduceIte, and_self, and_true, true_and, eq_self, reduceCtorEq, C68, i, bI_f, Bool.false_and, Bool.false_eq_true]
  | true =>
    rw [h1] at i
    cases h2 : enB B s 105 110 0 0 with
    | false =>
      rw [h2] at u
      simp only [EV, LV, CB, OI, OL, NP, CZ, popN, CT, OZ, List.map_nil, List.map_cons, List.sum_nil, List.sum_cons, Option.toList, List.nil_append, List.cons_append, Int.reduceToNat, Nat.reduceAdd, Nat.reduceLT, Nat.reduceLeDiff, List.length_cons, List.length_nil, Nat.zero_add, if_true, if_false, reduceIte, and_self, and_true, true_and, eq_self, reduceCtorEq, C68, i, u, bI_t, bI_f, e10, Bool.and_false, Bool.false_eq_true]
    | true =>
      rw [h2] at u
      simp only [EV, LV, CB, OI, OL, NP, CZ, popN, CT, OZ, List.map_nil, List.map_cons, List.sum_nil, List.sum_cons, Option.toList, List.nil_append, List.cons_append, Int.reduceToNat, Nat.reduceAdd, Nat.reduceLT, Nat.reduceLeDiff, List.length_cons, List.length_nil, Nat.zero_add, if_true, if_false, reduceIte, and_self, and_true, true_and, eq_self, reduceCtorEq, C68, i, u, bI_t, e10, Bool.and_self]
theorem w_2 (hB : Tp B n) (hm : TM B n m) {s e : Nat} (hse : s ≤ e) (he : e ≤ n) (so va fa wr : Int32) : rn shP tb0 mN mO (semZ shP wS (d + 2)) (some .int) (codeZ 111) 29 [.ref 68] [] (pm m e s so va fa wr) = if nmX B s e 2 = true then some (some (.int 1), pm m e s so va fa wr) else rn shP tb0 mN mO (semZ shP wS (d + 2)) (some .int) (codeZ 111) 58 [.ref 68] [] (pm m e s so va fa wr) := by
  have e10 : ¬ (1 : Int32) = 0 := by decide
  have i := t_isX wS d hB hm hse he so va fa wr (q := 5) (by omega) 114 105 118
  have i : semZ shP wS (d + 2) 109 [.ref 68, .int 5, .int 114, .int 105, .int 118] (pm m e s so va fa wr) = _ := i
  have u := t_enX wS d hB hm (show s ≤ n by omega) so va fa wr (e := e) 101 114 0 0
  rw [← nm_2 B s e, r_X7_kindNow_29]
  cases h1 : isB B s e 5 114 105 118 with
  | false =>
    rw [h1] at i
    simp only [EV, LV, CB, OI, OL, NP, CZ, popN, CT, OZ, List.map_nil, List.map_cons, List.sum_nil, List.sum_cons, Option.toList, List.nil_append, List.cons_append, Int.reduceToNat, Nat.reduceAdd, Nat.reduceLT, Nat.reduceLeDiff, List.length_cons, List.length_nil, Nat.zero_add, if_true, if_false, reduceIte, and_self, and_true, true_and, eq_self, reduceCtorEq, C68, i, bI_f, Bool.false_and, Bool.false_eq_true]
  | true =>
    rw [h1] at i
    cases h2 : enB B s 101 114 0 0 with
    | false =>
      rw [h2] at u
      simp only [EV, LV, CB, OI, OL, NP, CZ, popN, CT, OZ, List.map_nil, List.map_cons, List.sum_nil, List.sum_cons, Option.toList, List.nil_append, List.cons_append, Int.reduceToNat, Nat.reduceAdd, Nat.reduceLT, Nat.reduceLeDiff, List.length_cons, List.length_nil, Nat.zero_add, if_true, if_false, reduceIte, and_self, and_true, true_and, eq_self, reduceCtorEq, C68, i, u, bI_t, bI_f, e10, Bool.and_false, Bool.false_eq_true]
    | true =>
      rw [h2] at u
      simp only [EV, LV, CB, OI, OL, NP, CZ, popN, CT, OZ, List.map_nil, List.map_cons, List.sum_nil, List.sum_cons, Option.toList, List.nil_append, List.cons_append, Int.reduceToNat, Nat.reduceAdd, Nat.reduceLT, Nat.reduceLeDiff, List.length_cons, List.length_nil, Nat.zero_add, if_true, if_false, reduceIte, and_self, and_true, true_and, eq_self, reduceCtorEq, C68, i, u, bI_t, e10, Bool.and_self]
theorem w_3 (hB : Tp B n) (hm : TM B n m) {s e : Nat} (hse : s ≤ e) (he : e ≤ n) (so va fa wr : Int32) : rn shP tb0 mN mO (semZ shP wS (d + 2)) (some .int) (codeZ 111) 58 [.ref 68] [] (pm m e s so va fa wr) = if nmX B s e 3 = true then some (some (.int 2), pm m e s so va fa wr) else rn shP tb0 mN mO (semZ shP wS (d + 2)) (some .int) (codeZ 111) 92 [.ref 68] [] (pm m e s so va fa wr) := by
  have e10 : ¬ (1 : Int32) = 0 := by decide
  have i := t_isX wS d hB hm hse he so va fa wr (q := 7) (by omega) 97 100 111
  have i : semZ shP wS (d + 2) 109 [.ref 68, .int 7, .int 97, .int 100, .int 111] (pm m e s so va fa wr) = _ := i
  have u := t_enX wS d hB hm (show s ≤ n by omega) so va fa wr (e := e) 112 116 101 100
  rw [← nm_3 B s e, r_X7_kindNow_58]
  cases h1 : isB B s e 7 97 100 111 with
  | false =>
    rw [h1] at i
    simp only [EV, LV, CB, OI, OL, NP, CZ, popN, CT, OZ, List.map_nil, List.map_cons, List.sum_nil, List.sum_cons, Option.toList, List.nil_append, List.cons_append, Int.reduceToNat, Nat.reduceAdd, Nat.reduceLT, Nat.reduceLeDiff, List.length_cons, List.length_nil, Nat.zero_add, if_true, if_false, reduceIte, and_self, and_true, true_and, eq_self, reduceCtorEq, C68, i, bI_f, Bool.false_and, Bool.false_eq_true]
  | true =>
    rw [h1] at i
    cases h2 : enB B s 112 116 101 100 with
    | false =>
      rw [h2] at u
      simp only [EV, LV, CB, OI, OL, NP, CZ, popN, CT, OZ, List.map_nil, List.map_cons, List.sum_nil, List.sum_cons, Option.toList, List.nil_append, List.cons_append, Int.reduceToNat, Nat.reduceAdd, Nat.reduceLT, Nat.reduceLeDiff, List.length_cons, List.length_nil, Nat.zero_add, if_true, if_false, reduceIte, and_self, and_true, true_and, eq_self, reduceCtorEq, C68, i, u, bI_t, bI_f, e10, Bool.and_false, Bool.false_eq_true]
    | true =>
      rw [h2] at u
      simp only [EV, LV, CB, OI, OL, NP, CZ, popN, CT, OZ, List.map_nil, List.map_cons, List.sum_nil, List.sum_cons, Option.toList, List.nil_append, List.cons_append, Int.reduceToNat, Nat.reduceAdd, Nat.reduceLT, Nat.reduceLeDiff, List.length_cons, List.length_nil, Nat.zero_add, if_true, if_false, reduceIte, and_self, and_true, true_and, eq_self, reduceCtorEq, C68, i, u, bI_t, e10, Bool.and_self, r_X7_kindNow_125]
theorem w_4 (hB : Tp B n) (hm : TM B n m) {s e : Nat} (hse : s ≤ e) (he : e ≤ n) (so va fa wr : Int32) : rn shP tb0 mN mO (semZ shP wS (d + 2)) (some .int) (codeZ 111) 92 [.ref 68] [] (pm m e s so va fa wr) = if nmX B s e 4 = true then some (some (.int 3), pm m e s so va fa wr) else rn shP tb0 mN mO (semZ shP wS (d + 2)) (some .int) (codeZ 111) 123 [.ref 68] [] (pm m e s so va fa wr) := by
  have e10 : ¬ (1 : Int32) = 0 := by decide
  have i := t_isX wS d hB hm hse he so va fa wr (q := 5) (by omega) 109 105 120
  have i : semZ shP wS (d + 2) 109 [.ref 68, .int 5, .int 109, .int 105, .int 120] (pm m e s so va fa wr) = _ := i
  have u := t_enX wS d hB hm (show s ≤ n by omega) so va fa wr (e := e) 101 100 0 0
  rw [← nm_4 B s e, r_X7_kindNow_92]
  cases h1 : isB B s e 5 109 105 120 with
  | false =>
    rw [h1] at i
    simp only [EV, LV, CB, OI, OL, NP, CZ, popN, CT, OZ, List.map_nil, List.map_cons, List.sum_nil, List.sum_cons, Option.toList, List.nil_append, List.cons_append, Int.reduceToNat, Nat.reduceAdd, Nat.reduceLT, Nat.reduceLeDiff, List.length_cons, List.length_nil, Nat.zero_add, if_true, if_false, reduceIte, and_self, and_true, true_and, eq_self, reduceCtorEq, C68, i, bI_f, Bool.false_and, Bool.false_eq_true]
  | true =>
    rw [h1] at i
    cases h2 : enB B s 101 100 0 0 with
    | false =>
      rw [h2] at u
      simp only [EV, LV, CB, OI, OL, NP, CZ, popN, CT, OZ, List.map_nil, List.map_cons, List.sum_nil, List.sum_cons, Option.toList, List.nil_append, List.cons_append, Int.reduceToNat, Nat.reduceAdd, Nat.reduceLT, Nat.reduceLeDiff, List.length_cons, List.length_nil, Nat.zero_add, if_true, if_false, reduceIte, and_self, and_true, true_and, eq_self, reduceCtorEq, C68, i, u, bI_t, bI_f, e10, Bool.and_false, Bool.false_eq_true]
    | true =>
      rw [h2] at u
      simp only [EV, LV, CB, OI, OL, NP, CZ, popN, CT, OZ, List.map_nil, List.map_cons, List.sum_nil, List.sum_cons, Option.toList, List.nil_append, List.cons_append, Int.reduceToNat, Nat.reduceAdd, Nat.reduceLT, Nat.reduceLeDiff, List.length_cons, List.length_nil, Nat.zero_add, if_true, if_false, reduceIte, and_self, and_true, true_and, eq_self, reduceCtorEq, C68, i, u, bI_t, e10, Bool.and_self, r_X7_kindNow_125]
theorem t_lineNow (hB : Tp B n) (hm : TM B n m) {s e : Nat} (hse : s ≤ e) (he : e ≤ n) (so va fa wr : Int32) : semZ shP wS (d + 4) 112 [.ref 68] (pm m e s so va fa wr) = some (some (.int (mdl (lnX B s e))), pm m e s so va fa wr) := by
  have kn : semZ shP wS (d + 3) 111 [.ref 68] (pm m e s so va fa wr) = some (some (.int (if nmX B s e 1 = true then 0 else if nmX B s e 2 = true then 1 else if nmX B s e 3 = true then 2 else if nmX B s e 4 = true then 3 else -4)), pm m e s so va fa wr) := by
    rw [se_X7_kindNow, w_1 wS d hB hm hse he so va fa wr, w_2 wS d hB hm hse he so va fa wr, w_3 wS d hB hm hse he so va fa wr, w_4 wS d hB hm hse he so va fa wr, r_X7_kindNow_123]
    simp only [EV, LV, CB, OI, OL, NP, CZ, popN, CT, OZ, List.map_nil, List.map_cons, List.sum_nil, List.sum_cons, Option.toList, List.nil_append, List.cons_append, Int.reduceToNat, Nat.reduceAdd, Nat.reduceLT, Nat.reduceLeDiff, List.length_cons, List.length_nil, Nat.zero_add, if_true, if_false, reduceIte, and_self, and_true, true_and, eq_self, reduceCtorEq]
    (repeat' split) <;> rfl
  rw [se_X7_lineNow, w_0 wS (d + 1) hB hm hse he so va fa wr, w_5 wS (d + 1) hB hm hse he so va fa wr, w_6 wS (d + 1) hB hm hse he so va fa wr, w_7 wS (d + 1) hB hm hse he so va fa wr, r_X7_lineNow_124]
  simp only [EV, LV, CB, OI, OL, NP, CZ, popN, CT, OZ, List.map_nil, List.map_cons, List.sum_nil, List.sum_cons, Option.toList, List.nil_append, List.cons_append, Int.reduceToNat, Nat.reduceAdd, Nat.reduceLT, Nat.reduceLeDiff, List.length_cons, List.length_nil, Nat.zero_add, if_true, if_false, reduceIte, and_self, and_true, true_and, eq_self, reduceCtorEq, C68, kn]
  have h8 := lnX_le B s e
  have no : ∀ j, j < 8 → lnX B s e ≠ j → nmX B s e j = false := fun j hj h => lnX_no hj h
  generalize hk : lnX B s e = k at h8 no
  match k, h8 with
  | 0, _ => simp only [no 1 (by omega) (by omega), no 2 (by omega) (by omega), no 3 (by omega) (by omega), no 4 (by omega) (by omega), no 5 (by omega) (by omega), no 6 (by omega) (by omega), no 7 (by omega) (by omega), lnX_yes (show 0 < 8 by omega) hk, if_true, if_false, Bool.false_eq_true, reduceIte]; rfl
  | 1, _ => simp only [no 0 (by omega) (by omega), no 2 (by omega) (by omega), no 3 (by omega) (by omega), no 4 (by omega) (by omega), no 5 (by omega) (by omega), no 6 (by omega) (by omega), no 7 (by omega) (by omega), lnX_yes (show 1 < 8 by omega) hk, if_true, if_false, Bool.false_eq_true, reduceIte]; rfl
  | 2, _ => simp only [no 0 (by omega) (by omega), no 1 (by omega) (by omega), no 3 (by omega) (by omega), no 4 (by omega) (by omega), no 5 (by omega) (by omega), no 6 (by omega) (by omega), no 7 (by omega) (by omega), lnX_yes (show 2 < 8 by omega) hk, if_true, if_false, Bool.false_eq_true, reduceIte]; rfl
  | 3, _ => simp only [no 0 (by omega) (by omega), no 1 (by omega) (by omega), no 2 (by omega) (by omega), no 4 (by omega) (by omega), no 5 (by omega) (by omega), no 6 (by omega) (by omega), no 7 (by omega) (by omega), lnX_yes (show 3 < 8 by omega) hk, if_true, if_false, Bool.false_eq_true, reduceIte]; rfl
  | 4, _ => simp only [no 0 (by omega) (by omega), no 1 (by omega) (by omega), no 2 (by omega) (by omega), no 3 (by omega) (by omega), no 5 (by omega) (by omega), no 6 (by omega) (by omega), no 7 (by omega) (by omega), lnX_yes (show 4 < 8 by omega) hk, if_true, if_false, Bool.false_eq_true, reduceIte]; rfl
  | 5, _ => simp only [no 0 (by omega) (by omega), no 1 (by omega) (by omega), no 2 (by omega) (by omega), no 3 (by omega) (by omega), no 4 (by omega) (by omega), no 6 (by omega) (by omega), no 7 (by omega) (by omega), lnX_yes (show 5 < 8 by omega) hk, if_true, if_false, Bool.false_eq_true, reduceIte]; rfl
  | 6, _ => simp only [no 0 (by omega) (by omega), no 1 (by omega) (by omega), no 2 (by omega) (by omega), no 3 (by omega) (by omega), no 4 (by omega) (by omega), no 5 (by omega) (by omega), no 7 (by omega) (by omega), lnX_yes (show 6 < 8 by omega) hk, if_true, if_false, Bool.false_eq_true, reduceIte]; rfl
  | 7, _ => simp only [no 0 (by omega) (by omega), no 1 (by omega) (by omega), no 2 (by omega) (by omega), no 3 (by omega) (by omega), no 4 (by omega) (by omega), no 5 (by omega) (by omega), no 6 (by omega) (by omega), lnX_yes (show 7 < 8 by omega) hk, if_true, if_false, Bool.false_eq_true, reduceIte]; rfl
  | 8, _ => simp only [no 0 (by omega) (by omega), no 1 (by omega) (by omega), no 2 (by omega) (by omega), no 3 (by omega) (by omega), no 4 (by omega) (by omega), no 5 (by omega) (by omega), no 6 (by omega) (by omega), no 7 (by omega) (by omega), if_true, if_false, Bool.false_eq_true, reduceIte]; rfl
end Mn
