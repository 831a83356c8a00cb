/-! BY HAND: small methods, exactly -/
def bI (b : Bool) : Int32 := if b = true then 1 else 0
theorem bI_t : bI true = 1 := rfl
theorem bI_f : bI false = 0 := rfl
theorem bI_r (b : Bool) : bI b = 0 ∨ bI b = 1 := by cases b <;> simp [bI]
theorem okb (b : Bool) : okZ (some .boolean) (bI b) = true := by cases b <;> decide
theorem lc_lt (x y : Int64) : (lg_cmp x y < 0) = (x < y) := by
  apply propext
  rw [← Int32.not_le, lg_cmp_ge, Int64.not_le]
theorem lc_gt (x y : Int64) : (0 < lg_cmp x y) = (y < x) := by
  apply propext
  unfold lg_cmp
  by_cases h : x > y
  · rw [if_pos h]
    exact ⟨fun _ => h, fun _ => by decide⟩
  · rw [if_neg h]
    refine ⟨fun z => absurd z ?_, fun z => absurd z h⟩
    split <;> decide
section H1
variable {sh : List ShE} {w : Nat} (wS : List Value → Mm → Option Rs) (d : Nat)
theorem t_within (x a b : Int32) (m : Mm) : semZ sh wS (d + 1) 99 [.int x, .int a, .int b] m = some (some (.int (bI (decide (a ≤ x) && decide (x ≤ b)))), m) := by
  rw [se_X6_within, rn_eq, b_X6_within_0]
  by_cases h1 : x < a
  · have h2 : ¬ a ≤ x := Int32.not_le.mpr h1
    simp only [h1, h2, EV, LV, CB, OI, OL, NP, CZ, popN, CT, OZ, List.map_nil, List.map_cons, List.sum_nil, List.sum_cons, Option.toList, List.nil_append, List.cons_append, Int.reduceToNat, Nat.reduceAdd, Nat.reduceLT, Nat.reduceLeDiff, List.length_cons, List.length_nil, Nat.zero_add, if_true, if_false, reduceIte, and_self, and_true, true_and, eq_self, reduceCtorEq]
    rw [rn_eq, b_X6_within_14]
    simp only [EV, LV, CB, OI, OL, NP, CZ, popN, CT, OZ, List.map_nil, List.map_cons, List.sum_nil, List.sum_cons, Option.toList, List.nil_append, List.cons_append, Int.reduceToNat, Nat.reduceAdd, Nat.reduceLT, Nat.reduceLeDiff, List.length_cons, List.length_nil, Nat.zero_add, if_true, if_false, reduceIte, and_self, and_true, true_and, eq_self, reduceCtorEq, decide_false, Bool.false_and, bI_f]
  · have h2 : a ≤ x := Int32.not_lt.mp h1
    by_cases h3 : b < x
    · have h4 : ¬ x ≤ b := Int32.not_le.mpr h3
      simp only [h1, h2, h3, h4, EV, LV, CB, OI, OL, NP, CZ, popN, CT, OZ, List.map_nil, List.map_cons, List.sum_nil, List.sum_cons, Option.toList, List.nil_append, List.cons_append, Int.reduceToNat, Nat.reduceAdd, Nat.reduceLT, Nat.reduceLeDiff, List.length_cons, List.length_nil, Nat.zero_add, if_true, if_false, reduceIte, and_self, and_true, true_and, eq_self, reduceCtorEq]
      rw [rn_eq, b_X6_within_14]
      simp only [EV, LV, CB, OI, OL, NP, CZ, popN, CT, OZ, List.map_nil, List.map_cons, List.sum_nil, List.sum_cons, Option.toList, List.nil_append, List.cons_append, Int.reduceToNat, Nat.reduceAdd, Nat.reduceLT, Nat.reduceLeDiff, List.length_cons, List.length_nil, Nat.zero_add, if_true, if_false, reduceIte, and_self, and_true, true_and, eq_self, reduceCtorEq, decide_false, Bool.and_false, bI_f]
    · have h4 : x ≤ b := Int32.not_lt.mp h3
      simp only [h1, h2, h3, h4, EV, LV, CB, OI, OL, NP, CZ, popN, CT, OZ, List.map_nil, List.map_cons, List.sum_nil, List.sum_cons, Option.toList, List.nil_append, List.cons_append, Int.reduceToNat, Nat.reduceAdd, Nat.reduceLT, Nat.reduceLeDiff, List.length_cons, List.length_nil, Nat.zero_add, if_true, if_false, reduceIte, and_self, and_true, true_and, eq_self, reduceCtorEq]
      rw [rn_eq, b_X6_within_15]
      simp only [EV, LV, CB, OI, OL, NP, CZ, popN, CT, OZ, List.map_nil, List.map_cons, List.sum_nil, List.sum_cons, Option.toList, List.nil_append, List.cons_append, Int.reduceToNat, Nat.reduceAdd, Nat.reduceLT, Nat.reduceLeDiff, List.length_cons, List.length_nil, Nat.zero_add, if_true, if_false, reduceIte, and_self, and_true, true_and, eq_self, reduceCtorEq, decide_true, Bool.and_self, bI_t]
theorem t_in (x a b : Int64) (m : Mm) : semZ sh wS (d + 1) 101 [.long x, .long a, .long b] m = some (some (.int (bI (decide (a ≤ x) && decide (x ≤ b)))), m) := by
  rw [se_X7_in, rn_eq, b_X7_in_0]
  by_cases h1 : x < a
  · have h2 : ¬ a ≤ x := Int64.not_le.mpr h1
    simp only [EV, LV, CB, OI, OL, NP, CZ, popN, CT, OZ, List.map_nil, List.map_cons, List.sum_nil, List.sum_cons, Option.toList, List.nil_append, List.cons_append, Int.reduceToNat, Nat.reduceAdd, Nat.reduceLT, Nat.reduceLeDiff, List.length_cons, List.length_nil, Nat.zero_add, if_true, if_false, reduceIte, and_self, and_true, true_and, eq_self, reduceCtorEq, lc_lt, lc_gt, h1, h2]
    rw [rn_eq, b_X7_in_17]
    simp only [EV, LV, CB, OI, OL, NP, CZ, popN, CT, OZ, List.map_nil, List.map_cons, List.sum_nil, List.sum_cons, Option.toList, List.nil_append, List.cons_append, Int.reduceToNat, Nat.reduceAdd, Nat.reduceLT, Nat.reduceLeDiff, List.length_cons, List.length_nil, Nat.zero_add, if_true, if_false, reduceIte, and_self, and_true, true_and, eq_self, reduceCtorEq, decide_false, Bool.false_and, bI_f]
  · have h2 : a ≤ x := Int64.not_lt.mp h1
    by_cases h3 : b < x
    · have h4 : ¬ x ≤ b := Int64.not_le.mpr h3
      simp only [EV, LV, CB, OI, OL, NP, CZ, popN, CT, OZ, List.map_nil, List.map_cons, List.sum_nil, List.sum_cons, Option.toList, List.nil_append, List.cons_append, Int.reduceToNat, Nat.reduceAdd, Nat.reduceLT, Nat.reduceLeDiff, List.length_cons, List.length_nil, Nat.zero_add, if_true, if_false, reduceIte, and_self, and_true, true_and, eq_self, reduceCtorEq, lc_lt, lc_gt, h1, h2, h3, h4]
      rw [rn_eq, b_X7_in_17]
      simp only [EV, LV, CB, OI, OL, NP, CZ, popN, CT, OZ, List.map_nil, List.map_cons, List.sum_nil, List.sum_cons, Option.toList, List.nil_append, List.cons_append, Int.reduceToNat, Nat.reduceAdd, Nat.reduceLT, Nat.reduceLeDiff, List.length_cons, List.length_nil, Nat.zero_add, if_true, if_false, reduceIte, and_self, and_true, true_and, eq_self, reduceCtorEq, decide_false, Bool.and_false, bI_f]
    · have h4 : x ≤ b := Int64.not_lt.mp h3
      simp only [EV, LV, CB, OI, OL, NP, CZ, popN, CT, OZ, List.map_nil, List.map_cons, List.sum_nil, List.sum_cons, Option.toList, List.nil_append, List.cons_append, Int.reduceToNat, Nat.reduceAdd, Nat.reduceLT, Nat.reduceLeDiff, List.length_cons, List.length_nil, Nat.zero_add, if_true, if_false, reduceIte, and_self, and_true, true_and, eq_self, reduceCtorEq, lc_lt, lc_gt, h1, h2, h3, h4]
      rw [rn_eq, b_X7_in_18]
      simp only [EV, LV, CB, OI, OL, NP, CZ, popN, CT, OZ, List.map_nil, List.map_cons, List.sum_nil, List.sum_cons, Option.toList, List.nil_append, List.cons_append, Int.reduceToNat, Nat.reduceAdd, Nat.reduceLT, Nat.reduceLeDiff, List.length_cons, List.length_nil, Nat.zero_add, if_true, if_false, reduceIte, and_self, and_true, true_and, eq_self, reduceCtorEq, decide_true, Bool.and_self, bI_t]
theorem t_hasVillage (hw : WSh sh w) (v : Int32) (m : Mm) : semZ sh wS (d + 1) 26 [.ref w, .int v] m = some (some (.int (bI (decide (0 ≤ v) && decide (v < m.1 w 0)))), m) := by
  rw [se_X5_hasVillage, rn_eq, b_X5_hasVillage_0]
  by_cases h1 : v < 0
  · have h2 : ¬ (0 : Int32) ≤ v := Int32.not_le.mpr h1
    simp only [EV, LV, CB, OI, OL, NP, CZ, popN, CT, OZ, List.map_nil, List.map_cons, List.sum_nil, List.sum_cons, Option.toList, List.nil_append, List.cons_append, Int.reduceToNat, Nat.reduceAdd, Nat.reduceLT, Nat.reduceLeDiff, List.length_cons, List.length_nil, Nat.zero_add, if_true, if_false, reduceIte, and_self, and_true, true_and, eq_self, reduceCtorEq, gW hw, h1, h2]
    rw [rn_eq, b_X5_hasVillage_16]
    simp only [EV, LV, CB, OI, OL, NP, CZ, popN, CT, OZ, List.map_nil, List.map_cons, List.sum_nil, List.sum_cons, Option.toList, List.nil_append, List.cons_append, Int.reduceToNat, Nat.reduceAdd, Nat.reduceLT, Nat.reduceLeDiff, List.length_cons, List.length_nil, Nat.zero_add, if_true, if_false, reduceIte, and_self, and_true, true_and, eq_self, reduceCtorEq, decide_false, Bool.false_and, bI_f]
  · have h2 : (0 : Int32) ≤ v := Int32.not_lt.mp h1
    by_cases h3 : m.1 w 0 ≤ v
    · have h4 : ¬ v < m.1 w 0 := Int32.not_lt.mpr h3
      simp only [EV, LV, CB, OI, OL, NP, CZ, popN, CT, OZ, List.map_nil, List.map_cons, List.sum_nil, List.sum_cons, Option.toList, List.nil_append, List.cons_append, Int.reduceToNat, Nat.reduceAdd, Nat.reduceLT, Nat.reduceLeDiff, List.length_cons, List.length_nil, Nat.zero_add, if_true, if_false, reduceIte, and_self, and_true, true_and, eq_self, reduceCtorEq, gW hw, h1, h2, h3, h4]
      rw [rn_eq, b_X5_hasVillage_16]
      simp only [EV, LV, CB, OI, OL, NP, CZ, popN, CT, OZ, List.map_nil, List.map_cons, List.sum_nil, List.sum_cons, Option.toList, List.nil_append, List.cons_append, Int.reduceToNat, Nat.reduceAdd, Nat.reduceLT, Nat.reduceLeDiff, List.length_cons, List.length_nil, Nat.zero_add, if_true, if_false, reduceIte, and_self, and_true, true_and, eq_self, reduceCtorEq, decide_false, Bool.and_false, bI_f]
    · have h4 : v < m.1 w 0 := Int32.not_le.mp h3
      simp only [EV, LV, CB, OI, OL, NP, CZ, popN, CT, OZ, List.map_nil, List.map_cons, List.sum_nil, List.sum_cons, Option.toList, List.nil_append, List.cons_append, Int.reduceToNat, Nat.reduceAdd, Nat.reduceLT, Nat.reduceLeDiff, List.length_cons, List.length_nil, Nat.zero_add, if_true, if_false, reduceIte, and_self, and_true, true_and, eq_self, reduceCtorEq, gW hw, h1, h2, h3, h4]
      rw [rn_eq, b_X5_hasVillage_17]
      simp only [EV, LV, CB, OI, OL, NP, CZ, popN, CT, OZ, List.map_nil, List.map_cons, List.sum_nil, List.sum_cons, Option.toList, List.nil_append, List.cons_append, Int.reduceToNat, Nat.reduceAdd, Nat.reduceLT, Nat.reduceLeDiff, List.length_cons, List.length_nil, Nat.zero_add, if_true, if_false, reduceIte, and_self, and_true, true_and, eq_self, reduceCtorEq, decide_true, Bool.and_self, bI_t]
theorem t_hasBody (hw : WSh sh w) (v : Int32) (m : Mm) : semZ sh wS (d + 1) 27 [.ref w, .int v] m = some (some (.int (bI (decide (0 ≤ v) && decide (v < m.1 w 1)))), m) := by
  rw [se_X5_hasBody, rn_eq, b_X5_hasBody_0]
  by_cases h1 : v < 0
  · have h2 : ¬ (0 : Int32) ≤ v := Int32.not_le.mpr h1
    simp only [EV, LV, CB, OI, OL, NP, CZ, popN, CT, OZ, List.map_nil, List.map_cons, List.sum_nil, List.sum_cons, Option.toList, List.nil_append, List.cons_append, Int.reduceToNat, Nat.reduceAdd, Nat.reduceLT, Nat.reduceLeDiff, List.length_cons, List.length_nil, Nat.zero_add, if_true, if_false, reduceIte, and_self, and_true, true_and, eq_self, reduceCtorEq, gW hw, h1, h2]
    rw [rn_eq, b_X5_hasBody_16]
    simp only [EV, LV, CB, OI, OL, NP, CZ, popN, CT, OZ, List.map_nil, List.map_cons, List.sum_nil, List.sum_cons, Option.toList, List.nil_append, List.cons_append, Int.reduceToNat, Nat.reduceAdd, Nat.reduceLT, Nat.reduceLeDiff, List.length_cons, List.length_nil, Nat.zero_add, if_true, if_false, reduceIte, and_self, and_true, true_and, eq_self, reduceCtorEq, decide_false, Bool.false_and, bI_f]
  · have h2 : (0 : Int32) ≤ v := Int32.not_lt.mp h1
    by_cases h3 : m.1 w 1 ≤ v
    · have h4 : ¬ v < m.1 w 1 := Int32.not_lt.mpr h3
      simp only [EV, LV, CB, OI, OL, NP, CZ, popN, CT, OZ, List.map_nil, List.map_cons, List.sum_nil, List.sum_cons, Option.toList, List.nil_append, List.cons_append, Int.reduceToNat, Nat.reduceAdd, Nat.reduceLT, Nat.reduceLeDiff, List.length_cons, List.length_nil, Nat.zero_add, if_true, if_false, reduceIte, and_self, and_true, true_and, eq_self, reduceCtorEq, gW hw, h1, h2, h3, h4]
      rw [rn_eq, b_X5_hasBody_16]
      simp only [EV, LV, CB, OI, OL, NP, CZ, popN, CT, OZ, List.map_nil, List.map_cons, List.sum_nil, List.sum_cons, Option.toList, List.nil_append, List.cons_append, Int.reduceToNat, Nat.reduceAdd, Nat.reduceLT, Nat.reduceLeDiff, List.length_cons, List.length_nil, Nat.zero_add, if_true, if_false, reduceIte, and_self, and_true, true_and, eq_self, reduceCtorEq, decide_false, Bool.and_false, bI_f]
    · have h4 : v < m.1 w 1 := Int32.not_le.mp h3
      simp only [EV, LV, CB, OI, OL, NP, CZ, popN, CT, OZ, List.map_nil, List.map_cons, List.sum_nil, List.sum_cons, Option.toList, List.nil_append, List.cons_append, Int.reduceToNat, Nat.reduceAdd, Nat.reduceLT, Nat.reduceLeDiff, List.length_cons, List.length_nil, Nat.zero_add, if_true, if_false, reduceIte, and_self, and_true, true_and, eq_self, reduceCtorEq, gW hw, h1, h2, h3, h4]
      rw [rn_eq, b_X5_hasBody_17]
      simp only [EV, LV, CB, OI, OL, NP, CZ, popN, CT, OZ, List.map_nil, List.map_cons, List.sum_nil, List.sum_cons, Option.toList, List.nil_append, List.cons_append, Int.reduceToNat, Nat.reduceAdd, Nat.reduceLT, Nat.reduceLeDiff, List.length_cons, List.length_nil, Nat.zero_add, if_true, if_false, reduceIte, and_self, and_true, true_and, eq_self, reduceCtorEq, decide_true, Bool.and_self, bI_t]
theorem t_isVillage (hw : MSh sh w) (v : Int32) (m : Mm) : semZ sh wS (d + 2) 120 [.ref w, .int v] m = some (some (.int (bI (decide (0 ≤ v.toInt64) && decide (v.toInt64 ≤ (m.1 w 3 - 1).toInt64)))), m) := by
  rw [se_X7_isVillage, rn_eq, b_X7_isVillage_0]
  simp only [EV, LV, CB, OI, OL, NP, CZ, popN, CT, OZ, List.map_nil, List.map_cons, List.sum_nil, List.sum_cons, Option.toList, List.nil_append, List.cons_append, Int.reduceToNat, Nat.reduceAdd, Nat.reduceLT, Nat.reduceLeDiff, List.length_cons, List.length_nil, Nat.zero_add, if_true, if_false, reduceIte, and_self, and_true, true_and, eq_self, reduceCtorEq, gM hw, t_in wS d, okb]
theorem in_38 : inR 38 189 = true ∧ (38 : Int32).toNatClampNeg = 38 := by decide +kernel
theorem t_isBody (hw : MSh sh w) (v : Int32) (m : Mm) : semZ sh wS (d + 2) 121 [.ref w, .int v] m = some (some (.int (bI (decide (0 ≤ v.toInt64) && decide (v.toInt64 ≤ (m.1 (w + 1) 38 - 1).toInt64)))), m) := by
  rw [se_X7_isBody, rn_eq, b_X7_isBody_0]
  simp only [EV, LV, CB, OI, OL, NP, CZ, popN, CT, OZ, List.map_nil, List.map_cons, List.sum_nil, List.sum_cons, Option.toList, List.nil_append, List.cons_append, Int.reduceToNat, Nat.reduceAdd, Nat.reduceLT, Nat.reduceLeDiff, List.length_cons, List.length_nil, Nat.zero_add, if_true, if_false, reduceIte, and_self, and_true, true_and, eq_self, reduceCtorEq, gM hw, aM hw, in_38, t_in wS d, okb]
theorem t_isPart (v : Int32) (m : Mm) : semZ sh wS (d + 2) 122 [.int v] m = some (some (.int (bI (decide (0 ≤ v.toInt64) && decide (v.toInt64 ≤ 1)))), m) := by
  rw [se_X7_isPart, rn_eq, b_X7_isPart_0]
  simp only [EV, LV, CB, OI, OL, NP, CZ, popN, CT, OZ, List.map_nil, List.map_cons, List.sum_nil, List.sum_cons, Option.toList, List.nil_append, List.cons_append, Int.reduceToNat, Nat.reduceAdd, Nat.reduceLT, Nat.reduceLeDiff, List.length_cons, List.length_nil, Nat.zero_add, if_true, if_false, reduceIte, and_self, and_true, true_and, eq_self, reduceCtorEq, t_in wS d, okb]
theorem t_isJudged (v : Int32) (m : Mm) : semZ sh wS (d + 2) 153 [.int v] m = some (some (.int (bI (decide (0 ≤ v.toInt64) && decide (v.toInt64 ≤ 20)))), m) := by
  rw [se_X7_isJudged, rn_eq, b_X7_isJudged_0]
  simp only [EV, LV, CB, OI, OL, NP, CZ, popN, CT, OZ, List.map_nil, List.map_cons, List.sum_nil, List.sum_cons, Option.toList, List.nil_append, List.cons_append, Int.reduceToNat, Nat.reduceAdd, Nat.reduceLT, Nat.reduceLeDiff, List.length_cons, List.length_nil, Nat.zero_add, if_true, if_false, reduceIte, and_self, and_true, true_and, eq_self, reduceCtorEq, t_in wS d, okb]
theorem bI_0 (b : Bool) : (bI b = 0) = (b = false) := by cases b <;> simp [bI]
theorem t_isSheet (k l : Int32) (m : Mm) : semZ sh wS (d + 2) 179 [.int k, .int l] m = some (some (.int (bI ((decide (0 ≤ k.toInt64) && decide (k.toInt64 ≤ 3)) && (decide (0 ≤ l.toInt64) && decide (l.toInt64 ≤ 2))))), m) := by
  rw [se_X7_isSheet, rn_eq, b_X7_isSheet_0]
  simp only [EV, LV, CB, OI, OL, NP, CZ, popN, CT, OZ, List.map_nil, List.map_cons, List.sum_nil, List.sum_cons, Option.toList, List.nil_append, List.cons_append, Int.reduceToNat, Nat.reduceAdd, Nat.reduceLT, Nat.reduceLeDiff, List.length_cons, List.length_nil, Nat.zero_add, if_true, if_false, reduceIte, and_self, and_true, true_and, eq_self, reduceCtorEq, t_in wS d, bI_0]
  cases h1 : (decide (0 ≤ k.toInt64) && decide (k.toInt64 ≤ 3)) with
  | false =>
    simp only [EV, LV, CB, OI, OL, NP, CZ, popN, CT, OZ, List.map_nil, List.map_cons, List.sum_nil, List.sum_cons, Option.toList, List.nil_append, List.cons_append, Int.reduceToNat, Nat.reduceAdd, Nat.reduceLT, Nat.reduceLeDiff, List.length_cons, List.length_nil, Nat.zero_add, if_true, if_false, reduceIte, and_self, and_true, true_and, eq_self, reduceCtorEq]
    rw [rn_eq, b_X7_isSheet_28]
    simp only [EV, LV, CB, OI, OL, NP, CZ, popN, CT, OZ, List.map_nil, List.map_cons, List.sum_nil, List.sum_cons, Option.toList, List.nil_append, List.cons_append, Int.reduceToNat, Nat.reduceAdd, Nat.reduceLT, Nat.reduceLeDiff, List.length_cons, List.length_nil, Nat.zero_add, if_true, if_false, reduceIte, and_self, and_true, true_and, eq_self, reduceCtorEq, Bool.false_and, bI_f]
  | true =>
    simp only [EV, LV, CB, OI, OL, NP, CZ, popN, CT, OZ, List.map_nil, List.map_cons, List.sum_nil, List.sum_cons, Option.toList, List.nil_append, List.cons_append, Int.reduceToNat, Nat.reduceAdd, Nat.reduceLT, Nat.reduceLeDiff, List.length_cons, List.length_nil, Nat.zero_add, if_true, if_false, reduceIte, and_self, and_true, true_and, eq_self, reduceCtorEq, t_in wS d, bI_0, Bool.true_eq_false]
    cases h2 : (decide (0 ≤ l.toInt64) && decide (l.toInt64 ≤ 2)) with
    | false =>
      simp only [EV, LV, CB, OI, OL, NP, CZ, popN, CT, OZ, List.map_nil, List.map_cons, List.sum_nil, List.sum_cons, Option.toList, List.nil_append, List.cons_append, Int.reduceToNat, Nat.reduceAdd, Nat.reduceLT, Nat.reduceLeDiff, List.length_cons, List.length_nil, Nat.zero_add, if_true, if_false, reduceIte, and_self, and_true, true_and, eq_self, reduceCtorEq]
      rw [rn_eq, b_X7_isSheet_28]
      simp only [EV, LV, CB, OI, OL, NP, CZ, popN, CT, OZ, List.map_nil, List.map_cons, List.sum_nil, List.sum_cons, Option.toList, List.nil_append, List.cons_append, Int.reduceToNat, Nat.reduceAdd, Nat.reduceLT, Nat.reduceLeDiff, List.length_cons, List.length_nil, Nat.zero_add, if_true, if_false, reduceIte, and_self, and_true, true_and, eq_self, reduceCtorEq, Bool.and_false, bI_f]
    | true =>
      simp only [EV, LV, CB, OI, OL, NP, CZ, popN, CT, OZ, List.map_nil, List.map_cons, List.sum_nil, List.sum_cons, Option.toList, List.nil_append, List.cons_append, Int.reduceToNat, Nat.reduceAdd, Nat.reduceLT, Nat.reduceLeDiff, List.length_cons, List.length_nil, Nat.zero_add, if_true, if_false, reduceIte, and_self, and_true, true_and, eq_self, reduceCtorEq, Bool.true_eq_false]
      rw [rn_eq, b_X7_isSheet_29]
      simp only [EV, LV, CB, OI, OL, NP, CZ, popN, CT, OZ, List.map_nil, List.map_cons, List.sum_nil, List.sum_cons, Option.toList, List.nil_append, List.cons_append, Int.reduceToNat, Nat.reduceAdd, Nat.reduceLT, Nat.reduceLeDiff, List.length_cons, List.length_nil, Nat.zero_add, if_true, if_false, reduceIte, and_self, and_true, true_and, eq_self, reduceCtorEq, Bool.and_self, bI_t]
theorem t_starts_l (hw : MSh sh w) (m : Mm) (g : Nat → Int32) : ∀ (k i : Nat), i + k = 63 → rn sh tb0 mN mO (semZ sh wS d) none (codeZ 123) 2 [.ref w, .int (nI i)] [] (setR m (w + 2) (fillR (m.1 (w + 1)) g i)) = rn sh tb0 mN mO (semZ sh wS d) none (codeZ 123) 26 [.ref w, .int 63] [] (setR m (w + 2) (fillR (m.1 (w + 1)) g 63)) := by
  intro k
  induction k with
  | zero =>
    intro i hi
    have e0 : i = 63 := by omega
    subst e0
    rw [rn_eq, b_X7_starts_2]
    have e1 : (63 : Int32) ≤ nI 63 := by decide +kernel
    simp only [e1, EV, LV, CB, OI, OL, NP, CZ, popN, CT, OZ, List.map_nil, List.map_cons, List.sum_nil, List.sum_cons, Option.toList, List.nil_append, List.cons_append, Int.reduceToNat, Nat.reduceAdd, Nat.reduceLT, Nat.reduceLeDiff, List.length_cons, List.length_nil, Nat.zero_add, if_true, if_false, reduceIte, and_self, and_true, true_and, eq_self, reduceCtorEq]
    rfl
  | succ k ih =>
    intro i hi
    have e1 : ¬ (63 : Int32) ≤ nI i := nI_ge (a := i) (b := 63) (by omega) (by omega)
    have e2 : inR (nI i) 63 = true := inR_nI (by omega) (by omega)
    have e5 : inR (nI i) 189 = true := inR_nI (by omega) (by omega)
    have e3 : (nI i).toNatClampNeg = i := nI_clamp (by omega)
    have e4 := fillR_s (m.1 (w + 1)) g i
    have e : w + 1 ≠ w + 2 := by omega
    rw [rn_eq, b_X7_starts_2]
    simp only [EV, LV, CB, OI, OL, NP, CZ, popN, CT, OZ, List.map_nil, List.map_cons, List.sum_nil, List.sum_cons, Option.toList, List.nil_append, List.cons_append, Int.reduceToNat, Nat.reduceAdd, Nat.reduceLT, Nat.reduceLeDiff, List.length_cons, List.length_nil, Nat.zero_add, if_true, if_false, reduceIte, and_self, and_true, true_and, eq_self, reduceCtorEq, gM hw, sM hw, aM hw, e1, e2, e3, e5, wI_R, setR_s, setR_n _ _ e, setR_R, e4, nI_1]
    exact ih (i + 1) (by omega)
theorem t_starts_m (hw : MSh sh w) (m : Mm) (g : Nat → Int32) : ∀ (k i : Nat), i + k = 4 → rn sh tb0 mN mO (semZ sh wS d) none (codeZ 123) 28 [.ref w, .int (nI i)] [] (setR m (w + 6) (fillR nI g i)) = some (none, setR m (w + 6) (fillR nI g 4)) := by
  intro k
  induction k with
  | zero =>
    intro i hi
    have e0 : i = 4 := by omega
    subst e0
    rw [rn_eq, b_X7_starts_28]
    have e1 : (4 : Int32) ≤ nI 4 := by decide +kernel
    simp only [e1, EV, LV, CB, OI, OL, NP, CZ, popN, CT, OZ, List.map_nil, List.map_cons, List.sum_nil, List.sum_cons, Option.toList, List.nil_append, List.cons_append, Int.reduceToNat, Nat.reduceAdd, Nat.reduceLT, Nat.reduceLeDiff, List.length_cons, List.length_nil, Nat.zero_add, if_true, if_false, reduceIte, and_self, and_true, true_and, eq_self, reduceCtorEq]
    rw [rn_eq, b_X7_starts_46]
    simp only [EV, LV, CB, OI, OL, NP, CZ, popN, CT, OZ, List.map_nil, List.map_cons, List.sum_nil, List.sum_cons, Option.toList, List.nil_append, List.cons_append, Int.reduceToNat, Nat.reduceAdd, Nat.reduceLT, Nat.reduceLeDiff, List.length_cons, List.length_nil, Nat.zero_add, if_true, if_false, reduceIte, and_self, and_true, true_and, eq_self, reduceCtorEq]
  | succ k ih =>
    intro i hi
    have e1 : ¬ (4 : Int32) ≤ nI i := nI_ge (a := i) (b := 4) (by omega) (by omega)
    have e2 : inR (nI i) 4 = true := inR_nI (by omega) (by omega)
    have e3 : (nI i).toNatClampNeg = i := nI_clamp (by omega)
    rw [rn_eq, b_X7_starts_28]
    simp only [EV, LV, CB, OI, OL, NP, CZ, popN, CT, OZ, List.map_nil, List.map_cons, List.sum_nil, List.sum_cons, Option.toList, List.nil_append, List.cons_append, Int.reduceToNat, Nat.reduceAdd, Nat.reduceLT, Nat.reduceLeDiff, List.length_cons, List.length_nil, Nat.zero_add, if_true, if_false, reduceIte, and_self, and_true, true_and, eq_self, reduceCtorEq, gM hw, sM hw, e1, e2, e3, wI_R, setR_s, setR_R, fillR_s, nI_1]
    exact ih (i + 1) (by omega)
theorem t_starts (hw : MSh sh w) (m : Mm) : semZ sh wS (d + 1) 123 [.ref w] m = some (none, setR (setR m (w + 2) (fillR (m.1 (w + 1)) (m.1 (w + 2)) 63)) (w + 6) (fillR nI (m.1 (w + 6)) 4)) := by
  rw [se_X7_starts, rn_eq, b_X7_starts_0]
  simp only [EV, LV, CB, OI, OL, NP, CZ, popN, CT, OZ, List.map_nil, List.map_cons, List.sum_nil, List.sum_cons, Option.toList, List.nil_append, List.cons_append, Int.reduceToNat, Nat.reduceAdd, Nat.reduceLT, Nat.reduceLeDiff, List.length_cons, List.length_nil, Nat.zero_add, if_true, if_false, reduceIte, and_self, and_true, true_and, eq_self, reduceCtorEq]
  have h := t_starts_l wS d hw m (m.1 (w + 2)) 63 0 rfl
  rw [fillR_0, setR_id] at h
  refine Eq.trans h ?_
  rw [rn_eq, b_X7_starts_26]
  simp only [EV, LV, CB, OI, OL, NP, CZ, popN, CT, OZ, List.map_nil, List.map_cons, List.sum_nil, List.sum_cons, Option.toList, List.nil_append, List.cons_append, Int.reduceToNat, Nat.reduceAdd, Nat.reduceLT, Nat.reduceLeDiff, List.length_cons, List.length_nil, Nat.zero_add, if_true, if_false, reduceIte, and_self, and_true, true_and, eq_self, reduceCtorEq]
  have h2 := t_starts_m wS d hw (setR m (w + 2) (fillR (m.1 (w + 1)) (m.1 (w + 2)) 63)) (m.1 (w + 6)) 4 0 rfl
  have e : w + 6 ≠ w + 2 := by omega
  rw [fillR_0, ← setR_n m (fillR (m.1 (w + 1)) (m.1 (w + 2)) 63) e, setR_id] at h2
  rw [setR_n _ _ e] at h2
  exact h2
theorem t_settles_l (hw : MSh sh w) (m : Mm) (g : Nat → Int32) : ∀ (k i : Nat), i + k = 63 → rn sh tb0 mN mO (semZ sh wS d) none (codeZ 124) 2 [.ref w, .int (nI i)] [] (setR m (w + 1) (fillR (m.1 (w + 2)) g i)) = some (none, setR m (w + 1) (fillR (m.1 (w + 2)) g 63)) := by
  intro k
  induction k with
  | zero =>
    intro i hi
    have e0 : i = 63 := by omega
    subst e0
    rw [rn_eq, b_X7_settles_2]
    have e1 : (63 : Int32) ≤ nI 63 := by decide +kernel
    simp only [e1, EV, LV, CB, OI, OL, NP, CZ, popN, CT, OZ, List.map_nil, List.map_cons, List.sum_nil, List.sum_cons, Option.toList, List.nil_append, List.cons_append, Int.reduceToNat, Nat.reduceAdd, Nat.reduceLT, Nat.reduceLeDiff, List.length_cons, List.length_nil, Nat.zero_add, if_true, if_false, reduceIte, and_self, and_true, true_and, eq_self, reduceCtorEq]
    rw [rn_eq, b_X7_settles_26]
    simp only [EV, LV, CB, OI, OL, NP, CZ, popN, CT, OZ, List.map_nil, List.map_cons, List.sum_nil, List.sum_cons, Option.toList, List.nil_append, List.cons_append, Int.reduceToNat, Nat.reduceAdd, Nat.reduceLT, Nat.reduceLeDiff, List.length_cons, List.length_nil, Nat.zero_add, if_true, if_false, reduceIte, and_self, and_true, true_and, eq_self, reduceCtorEq]
  | succ k ih =>
    intro i hi
    have e1 : ¬ (63 : Int32) ≤ nI i := nI_ge (a := i) (b := 63) (by omega) (by omega)
    have e2 : inR (nI i) 63 = true := inR_nI (by omega) (by omega)
    have e5 : inR (nI i) 189 = true := inR_nI (by omega) (by omega)
    have e3 : (nI i).toNatClampNeg = i := nI_clamp (by omega)
    have e4 := fillR_s (m.1 (w + 2)) g i
    have e : w + 2 ≠ w + 1 := by omega
    rw [rn_eq, b_X7_settles_2]
    simp only [EV, LV, CB, OI, OL, NP, CZ, popN, CT, OZ, List.map_nil, List.map_cons, List.sum_nil, List.sum_cons, Option.toList, List.nil_append, List.cons_append, Int.reduceToNat, Nat.reduceAdd, Nat.reduceLT, Nat.reduceLeDiff, List.length_cons, List.length_nil, Nat.zero_add, if_true, if_false, reduceIte, and_self, and_true, true_and, eq_self, reduceCtorEq, gM hw, sM hw, aM hw, e1, e2, e3, e5, wI_R, setR_s, setR_n _ _ e, setR_R, e4, nI_1]
    exact ih (i + 1) (by omega)
theorem t_settles (hw : MSh sh w) (m : Mm) : semZ sh wS (d + 1) 124 [.ref w] m = some (none, setR m (w + 1) (fillR (m.1 (w + 2)) (m.1 (w + 1)) 63)) := by
  rw [se_X7_settles, rn_eq, b_X7_settles_0]
  simp only [EV, LV, CB, OI, OL, NP, CZ, popN, CT, OZ, List.map_nil, List.map_cons, List.sum_nil, List.sum_cons, Option.toList, List.nil_append, List.cons_append, Int.reduceToNat, Nat.reduceAdd, Nat.reduceLT, Nat.reduceLeDiff, List.length_cons, List.length_nil, Nat.zero_add, if_true, if_false, reduceIte, and_self, and_true, true_and, eq_self, reduceCtorEq]
  have h := t_settles_l wS d hw m (m.1 (w + 1)) 63 0 rfl
  rw [fillR_0, setR_id] at h
  exact h
/-- a stretch of 63 copied within a row -/
def cpR (f : Nat → Int32) (t s i : Nat) : Nat → Int32 := fun j => if t ≤ j ∧ j < t + i then f (s + (j - t)) else f j
theorem cpR_0 (f : Nat → Int32) (t s : Nat) : cpR f t s 0 = f := by
  funext j
  unfold cpR
  rw [if_neg (by omega)]
theorem cpR_s (f : Nat → Int32) (t s i : Nat) (h : s + i < t ∨ t + i ≤ s + i) : upd (cpR f t s i) (t + i) (cpR f t s i (s + i)) = cpR f t s (i + 1) := by
  funext j
  have e : cpR f t s i (s + i) = f (s + i) := by
    unfold cpR
    rw [if_neg (by omega)]
  rw [e]
  simp only [upd, cpR]
  by_cases h1 : j = t + i
  · subst h1
    rw [if_pos rfl, if_pos (by omega), show s + (t + i - t) = s + i by omega]
  · rw [if_neg h1]
    by_cases h2 : t ≤ j ∧ j < t + i
    · rw [if_pos h2, if_pos (by omega)]
    · rw [if_neg h2, if_neg (by omega)]
theorem t_copies_l (hw : MSh sh w) (m : Mm) (t s : Nat) (ht : t ≤ 126) (hs : s ≤ 126) (hd : s + 63 ≤ t ∨ t ≤ s) : ∀ (k i : Nat), i + k = 63 → rn sh tb0 mN mO (semZ sh wS d) none (codeZ 176) 2 [.ref w, .int (nI t), .int (nI s), .int (nI i)] [] (setR m (w + 1) (cpR (m.1 (w + 1)) t s i)) = some (none, setR m (w + 1) (cpR (m.1 (w + 1)) t s 63)) := by
  intro k
  induction k with
  | zero =>
    intro i hi
    have e0 : i = 63 := by omega
    subst e0
    rw [rn_eq, b_X7_copies_2]
    have e1 : (63 : Int32) ≤ nI 63 := by decide +kernel
    simp only [e1, EV, LV, CB, OI, OL, NP, CZ, popN, CT, OZ, List.map_nil, List.map_cons, List.sum_nil, List.sum_cons, Option.toList, List.nil_append, List.cons_append, Int.reduceToNat, Nat.reduceAdd, Nat.reduceLT, Nat.reduceLeDiff, List.length_cons, List.length_nil, Nat.zero_add, if_true, if_false, reduceIte, and_self, and_true, true_and, eq_self, reduceCtorEq]
    rw [rn_eq, b_X7_copies_30]
    simp only [EV, LV, CB, OI, OL, NP, CZ, popN, CT, OZ, List.map_nil, List.map_cons, List.sum_nil, List.sum_cons, Option.toList, List.nil_append, List.cons_append, Int.reduceToNat, Nat.reduceAdd, Nat.reduceLT, Nat.reduceLeDiff, List.length_cons, List.length_nil, Nat.zero_add, if_true, if_false, reduceIte, and_self, and_true, true_and, eq_self, reduceCtorEq]
  | succ k ih =>
    intro i hi
    have e1 : ¬ (63 : Int32) ≤ nI i := nI_ge (a := i) (b := 63) (by omega) (by omega)
    have e2 : inR (nI (t + i)) 189 = true := inR_nI (by omega) (by omega)
    have e5 : inR (nI (s + i)) 189 = true := inR_nI (by omega) (by omega)
    have e3 : (nI (t + i)).toNatClampNeg = t + i := nI_clamp (by omega)
    have e6 : (nI (s + i)).toNatClampNeg = s + i := nI_clamp (by omega)
    have e4 := cpR_s (m.1 (w + 1)) t s i (by omega)
    rw [rn_eq, b_X7_copies_2]
    simp only [EV, LV, CB, OI, OL, NP, CZ, popN, CT, OZ, List.map_nil, List.map_cons, List.sum_nil, List.sum_cons, Option.toList, List.nil_append, List.cons_append, Int.reduceToNat, Nat.reduceAdd, Nat.reduceLT, Nat.reduceLeDiff, List.length_cons, List.length_nil, Nat.zero_add, if_true, if_false, reduceIte, and_self, and_true, true_and, eq_self, reduceCtorEq, gM hw, sM hw, aM hw, e1, e2, e3, e5, e6, nI_add, wI_R, setR_s, setR_R, e4, nI_1]
    exact ih (i + 1) (by omega)
theorem t_copies (hw : MSh sh w) (m : Mm) (t s : Nat) (ht : t ≤ 126) (hs : s ≤ 126) (hd : s + 63 ≤ t ∨ t ≤ s) : semZ sh wS (d + 1) 176 [.ref w, .int (nI t), .int (nI s)] m = some (none, setR m (w + 1) (cpR (m.1 (w + 1)) t s 63)) := by
  rw [se_X7_copies, rn_eq, b_X7_copies_0]
  simp only [EV, LV, CB, OI, OL, NP, CZ, popN, CT, OZ, List.map_nil, List.map_cons, List.sum_nil, List.sum_cons, Option.toList, List.nil_append, List.cons_append, Int.reduceToNat, Nat.reduceAdd, Nat.reduceLT, Nat.reduceLeDiff, List.length_cons, List.length_nil, Nat.zero_add, if_true, if_false, reduceIte, and_self, and_true, true_and, eq_self, reduceCtorEq]
  have h := t_copies_l wS d hw m t s ht hs hd 63 0 rfl
  rw [cpR_0, setR_id] at h
  exact h
/-! the greatest divisor: at most 1000 steps -/
theorem t_gd_l (m : Mm) : ∀ (k i : Nat) (a b : Int64) (v : Value), i + k = 1000 → v = noV ∨ (∃ y : Int64, v = .long y) → ∃ r, rn sh tb0 mN mO (semZ sh wS d) (some .long) (codeZ 81) 3 [.long a, noV, .long b, noV, .int (nI i), v, noV] [] m = some (some (.long r), m) := by
  intro k
  induction k with
  | zero =>
    intro i a b v hi hv
    have e0 : i = 1000 := by omega
    subst e0
    refine ⟨a, ?_⟩
    rw [rn_eq, b_X6_greatestDivisor_3]
    have e1 : (1000 : Int32) ≤ nI 1000 := by decide +kernel
    simp only [e1, EV, LV, CB, OI, OL, NP, CZ, popN, CT, OZ, List.map_nil, List.map_cons, List.sum_nil, List.sum_cons, Option.toList, List.nil_append, List.cons_append, Int.reduceToNat, Nat.reduceAdd, Nat.reduceLT, Nat.reduceLeDiff, List.length_cons, List.length_nil, Nat.zero_add, if_true, if_false, reduceIte, and_self, and_true, true_and, eq_self, reduceCtorEq]
    rw [rn_eq, b_X6_greatestDivisor_33]
    simp only [EV, LV, CB, OI, OL, NP, CZ, popN, CT, OZ, List.map_nil, List.map_cons, List.sum_nil, List.sum_cons, Option.toList, List.nil_append, List.cons_append, Int.reduceToNat, Nat.reduceAdd, Nat.reduceLT, Nat.reduceLeDiff, List.length_cons, List.length_nil, Nat.zero_add, if_true, if_false, reduceIte, and_self, and_true, true_and, eq_self, reduceCtorEq]
  | succ k ih =>
    intro i a b v hi hv
    have e1 : ¬ (1000 : Int32) ≤ nI i := nI_ge (a := i) (b := 1000) (by omega) (by omega)
    by_cases hb : b = 0
    · refine ⟨a, ?_⟩
      have e2 : lg_cmp b 0 = 0 := by rw [hb]; decide
      rw [rn_eq, b_X6_greatestDivisor_3]
      simp only [e1, e2, EV, LV, CB, OI, OL, NP, CZ, popN, CT, OZ, List.map_nil, List.map_cons, List.sum_nil, List.sum_cons, Option.toList, List.nil_append, List.cons_append, Int.reduceToNat, Nat.reduceAdd, Nat.reduceLT, Nat.reduceLeDiff, List.length_cons, List.length_nil, Nat.zero_add, if_true, if_false, reduceIte, and_self, and_true, true_and, eq_self, reduceCtorEq]
      rw [rn_eq, b_X6_greatestDivisor_33]
      simp only [EV, LV, CB, OI, OL, NP, CZ, popN, CT, OZ, List.map_nil, List.map_cons, List.sum_nil, List.sum_cons, Option.toList, List.nil_append, List.cons_append, Int.reduceToNat, Nat.reduceAdd, Nat.reduceLT, Nat.reduceLeDiff, List.length_cons, List.length_nil, Nat.zero_add, if_true, if_false, reduceIte, and_self, and_true, true_and, eq_self, reduceCtorEq]
    · have e2 : ¬ lg_cmp b 0 = 0 := by
        unfold lg_cmp
        (repeat' split) <;> first | decide | exact absurd ‹_› hb
      obtain ⟨r, hr⟩ := ih (i + 1) b (a - a / b * b) (.long (a - a / b * b)) (by omega) (Or.inr ⟨_, rfl⟩)
      refine ⟨r, ?_⟩
      rw [rn_eq, b_X6_greatestDivisor_3]
      rcases hv with rfl | ⟨y, rfl⟩
      · simp only [e1, e2, hb, EV, LV, CB, OI, OL, NP, CZ, popN, CT, OZ, List.map_nil, List.map_cons, List.sum_nil, List.sum_cons, Option.toList, List.nil_append, List.cons_append, Int.reduceToNat, Nat.reduceAdd, Nat.reduceLT, Nat.reduceLeDiff, List.length_cons, List.length_nil, Nat.zero_add, if_true, if_false, reduceIte, and_self, and_true, true_and, eq_self, reduceCtorEq, nI_1]
        exact hr
      · simp only [e1, e2, hb, EV, LV, CB, OI, OL, NP, CZ, popN, CT, OZ, List.map_nil, List.map_cons, List.sum_nil, List.sum_cons, Option.toList, List.nil_append, List.cons_append, Int.reduceToNat, Nat.reduceAdd, Nat.reduceLT, Nat.reduceLeDiff, List.length_cons, List.length_nil, Nat.zero_add, if_true, if_false, reduceIte, and_self, and_true, true_and, eq_self, reduceCtorEq, nI_1]
        exact hr
end H1
