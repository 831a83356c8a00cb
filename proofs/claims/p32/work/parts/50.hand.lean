section
/-! BY HAND: small methods, exactly -/
def bI (b : Bool) : Int32 := if b = true then 1 else 0
theorem bI_t : bI true = 1 := rfl
theorem bI_f : bI false = 0 := rfl
theorem bI_r (b : Bool) : bI b = 0 ∨ bI b = 1 := by cases b <;> simp [bI]
theorem okb (b : Bool) : okZ (some .boolean) (bI b) = true := by cases b <;> decide
theorem lc_lt (x y : Int64) : (lg_cmp x y < 0) = (x < y) := by
  apply propext
  rw [← Int32.not_le, lg_cmp_ge, Int64.not_le]
theorem lc_gt (x y : Int64) : (0 < lg_cmp x y) = (y < x) := by
  apply propext
  unfold lg_cmp
  by_cases h : x > y
  · rw [if_pos h]
    exact ⟨fun _ => h, fun _ => by decide⟩
  · rw [if_neg h]
    refine ⟨fun z => absurd z ?_, fun z => absurd z h⟩
    split <;> decide
section H1
variable {sh : List ShE} {w : Nat} (wS : List Value → Mm → Option Rs) (d : Nat)
theorem t_within (x a b : Int32) (m : Mm) : semZ sh wS (d + 1) 99 [.int x, .int a, .int b] m = some (some (.int (bI (decide (a ≤ x) && decide (x ≤ b)))), m) := by
  rw [se_X6_within, rn_eq, b_X6_within_0]
  by_cases h1 : x < a
  · have h2 : ¬ a ≤ x := Int32.not_le.mpr h1
    simp only [h1, h2, EV, LV, CB, OI, OL, NP, CZ, popN, CT, OZ, List.map_nil, List.map_cons, List.sum_nil, List.sum_cons, Option.toList, List.nil_append, List.cons_append, Int.reduceToNat, Nat.reduceAdd, Nat.reduceLT, Nat.reduceLeDiff, List.length_cons, List.length_nil, Nat.zero_add, if_true, if_false, reduceIte, and_self, and_true, true_and, eq_self, reduceCtorEq]
    rw [rn_eq, b_X6_within_14]
    simp only [EV, LV, CB, OI, OL, NP, CZ, popN, CT, OZ, List.map_nil, List.map_cons, List.sum_nil, List.sum_cons, Option.toList, List.nil_append, List.cons_append, Int.reduceToNat, Nat.reduceAdd, Nat.reduceLT, Nat.reduceLeDiff, List.length_cons, List.length_nil, Nat.zero_add, if_true, if_false, reduceIte, and_self, and_true, true_and, eq_self, reduceCtorEq, decide_false, Bool.false_and, bI_f]
  · have h2 : a ≤ x := Int32.not_lt.mp h1
    by_cases h3 : b < x
    · have h4 : ¬ x ≤ b := Int32.not_le.mpr h3
      simp only [h1, h2, h3, h4, EV, LV, CB, OI, OL, NP, CZ, popN, CT, OZ, List.map_nil, List.map_cons, List.sum_nil, List.sum_cons, Option.toList, List.nil_append, List.cons_append, Int.reduceToNat, Nat.reduceAdd, Nat.reduceLT, Nat.reduceLeDiff, List.length_cons, List.length_nil, Nat.zero_add, if_true, if_false, reduceIte, and_self, and_true, true_and, eq_self, reduceCtorEq]
      rw [rn_eq, b_X6_within_14]
      simp only [EV, LV, CB, OI, OL, NP, CZ, popN, CT, OZ, List.map_nil, List.map_cons, List.sum_nil, List.sum_cons, Option.toList, List.nil_append, List.cons_append, Int.reduceToNat, Nat.reduceAdd, Nat.reduceLT, Nat.reduceLeDiff, List.length_cons, List.length_nil, Nat.zero_add, if_true, if_false, reduceIte, and_self, and_true, true_and, eq_self, reduceCtorEq, decide_false, Bool.and_false, bI_f]
    · have h4 : x ≤ b := Int32.not_lt.mp h3
      simp only [h1, h2, h3, h4, EV, LV, CB, OI, OL, NP, CZ, popN, CT, OZ, List.map_nil, List.map_cons, List.sum_nil, List.sum_cons, Option.toList, List.nil_append, List.cons_append, Int.reduceToNat, Nat.reduceAdd, Nat.reduceLT, Nat.reduceLeDiff, List.length_cons, List.length_nil, Nat.zero_add, if_true, if_false, reduceIte, and_self, and_true, true_and, eq_self, reduceCtorEq]
      rw [rn_eq, b_X6_within_15]
      simp only [EV, LV, CB, OI, OL, NP, CZ, popN, CT, OZ, List.map_nil, List.map_cons, List.sum_nil, List.sum_cons, Option.toList, List.nil_append, List.cons_append, Int.reduceToNat, Nat.reduceAdd, Nat.reduceLT, Nat.reduceLeDiff, List.length_cons, List.length_nil, Nat.zero_add, if_true, if_false, reduceIte, and_self, and_true, true_and, eq_self, reduceCtorEq, decide_true, Bool.and_self, bI_t]
theorem t_in (x a b : Int64) (m : Mm) : semZ sh wS (d + 1) 101 [.long x, .long a, .long b] m = some (some (.int (bI (decide (a ≤ x) && decide (x ≤ b)))), m) := by
  rw [se_X7_in, rn_eq, b_X7_in_0]
  by_cases h1 : x < a
  · have h2 : ¬ a ≤ x := Int64.not_le.mpr h1
    simp only [EV, LV, CB, OI, OL, NP, CZ, popN, CT, OZ, List.map_nil, List.map_cons, List.sum_nil, List.sum_cons, Option.toList, List.nil_append, List.cons_append, Int.reduceToNat, Nat.reduceAdd, Nat.reduceLT, Nat.reduceLeDiff, List.length_cons, List.length_nil, Nat.zero_add, if_true, if_false, reduceIte, and_self, and_true, true_and, eq_self, reduceCtorEq, lc_lt, lc_gt, h1, h2]
    rw [rn_eq, b_X7_in_17]
    simp only [EV, LV, CB, OI, OL, NP, CZ, popN, CT, OZ, List.map_nil, List.map_cons, List.sum_nil, List.sum_cons, Option.toList, List.nil_append, List.cons_append, Int.reduceToNat, Nat.reduceAdd, Nat.reduceLT, Nat.reduceLeDiff, List.length_cons, List.length_nil, Nat.zero_add, if_true, if_false, reduceIte, and_self, and_true, true_and, eq_self, reduceCtorEq, decide_false, Bool.false_and, bI_f]
  · have h2 : a ≤ x := Int64.not_lt.mp h1
    by_cases h3 : b < x
    · have h4 : ¬ x ≤ b := Int64.not_le.mpr h3
      simp only [EV, LV, CB, OI, OL, NP, CZ, popN, CT, OZ, List.map_nil, List.map_cons, List.sum_nil, List.sum_cons, Option.toList, List.nil_append, List.cons_append, Int.reduceToNat, Nat.reduceAdd, Nat.reduceLT, Nat.reduceLeDiff, List.length_cons, List.length_nil, Nat.zero_add, if_true, if_false, reduceIte, and_self, and_true, true_and, eq_self, reduceCtorEq, lc_lt, lc_gt, h1, h2, h3, h4]
      rw [rn_eq, b_X7_in_17]
      simp only [EV, LV, CB, OI, OL, NP, CZ, popN, CT, OZ, List.map_nil, List.map_cons, List.sum_nil, List.sum_cons, Option.toList, List.nil_append, List.cons_append, Int.reduceToNat, Nat.reduceAdd, Nat.reduceLT, Nat.reduceLeDiff, List.length_cons, List.length_nil, Nat.zero_add, if_true, if_false, reduceIte, and_self, and_true, true_and, eq_self, reduceCtorEq, decide_false, Bool.and_false, bI_f]
    · have h4 : x ≤ b := Int64.not_lt.mp h3
      simp only [EV, LV, CB, OI, OL, NP, CZ, popN, CT, OZ, List.map_nil, List.map_cons, List.sum_nil, List.sum_cons, Option.toList, List.nil_append, List.cons_append, Int.reduceToNat, Nat.reduceAdd, Nat.reduceLT, Nat.reduceLeDiff, List.length_cons, List.length_nil, Nat.zero_add, if_true, if_false, reduceIte, and_self, and_true, true_and, eq_self, reduceCtorEq, lc_lt, lc_gt, h1, h2, h3, h4]
      rw [rn_eq, b_X7_in_18]
      simp only [EV, LV, CB, OI, OL, NP, CZ, popN, CT, OZ, List.map_nil, List.map_cons, List.sum_nil, List.sum_cons, Option.toList, List.nil_append, List.cons_append, Int.reduceToNat, Nat.reduceAdd, Nat.reduceLT, Nat.reduceLeDiff, List.length_cons, List.length_nil, Nat.zero_add, if_true, if_false, reduceIte, and_self, and_true, true_and, eq_self, reduceCtorEq, decide_true, Bool.and_self, bI_t]
theorem t_hasVillage (hw : WSh sh w) (v : Int32) (m : Mm) : semZ sh wS (d + 1) 26 [.ref w, .int v] m = some (some (.int (bI (decide (0 ≤ v) && decide (v < m.1 w 0)))), m) := by
  rw [se_X5_hasVillage, rn_eq, b_X5_hasVillage_0]
  by_cases h1 : v < 0
  · have h2 : ¬ (0 : Int32) ≤ v := Int32.not_le.mpr h1
    simp only [EV, LV, CB, OI, OL, NP, CZ, popN, CT, OZ, List.map_nil, List.map_cons, List.sum_nil, List.sum_cons, Option.toList, List.nil_append, List.cons_append, Int.reduceToNat, Nat.reduceAdd, Nat.reduceLT, Nat.reduceLeDiff, List.length_cons, List.length_nil, Nat.zero_add, if_true, if_false, reduceIte, and_self, and_true, true_and, eq_self, reduceCtorEq, gW hw, h1, h2]
    rw [rn_eq, b_X5_hasVillage_16]
    simp only [EV, LV, CB, OI, OL, NP, CZ, popN, CT, OZ, List.map_nil, List.map_cons, List.sum_nil, List.sum_cons, Option.toList, List.nil_append, List.cons_append, Int.reduceToNat, Nat.reduceAdd, Nat.reduceLT, Nat.reduceLeDiff, List.length_cons, List.length_nil, Nat.zero_add, if_true, if_false, reduceIte, and_self, and_true, true_and, eq_self, reduceCtorEq, decide_false, Bool.false_and, bI_f]
  · have h2 : (0 : Int32) ≤ v := Int32.not_lt.mp h1
    by_cases h3 : m.1 w 0 ≤ v
    · have h4 : ¬ v < m.1 w 0 := Int32.not_lt.mpr h3
      simp only [EV, LV, CB, OI, OL, NP, CZ, popN, CT, OZ, List.map_nil, List.map_cons, List.sum_nil, List.sum_cons, Option.toList, List.nil_append, List.cons_append, Int.reduceToNat, Nat.reduceAdd, Nat.reduceLT, Nat.reduceLeDiff, List.length_cons, List.length_nil, Nat.zero_add, if_true, if_false, reduceIte, and_self, and_true, true_and, eq_self, reduceCtorEq, gW hw, h1, h2, h3, h4]
      rw [rn_eq, b_X5_hasVillage_16]
      simp only [EV, LV, CB, OI, OL, NP, CZ, popN, CT, OZ, List.map_nil, List.map_cons, List.sum_nil, List.sum_cons, Option.toList, List.nil_append, List.cons_append, Int.reduceToNat, Nat.reduceAdd, Nat.reduceLT, Nat.reduceLeDiff, List.length_cons, List.length_nil, Nat.zero_add, if_true, if_false, reduceIte, and_self, and_true, true_and, eq_self, reduceCtorEq, decide_false, Bool.and_false, bI_f]
    · have h4 : v < m.1 w 0 := Int32.not_le.mp h3
      simp only [EV, LV, CB, OI, OL, NP, CZ, popN, CT, OZ, List.map_nil, List.map_cons, List.sum_nil, List.sum_cons, Option.toList, List.nil_append, List.cons_append, Int.reduceToNat, Nat.reduceAdd, Nat.reduceLT, Nat.reduceLeDiff, List.length_cons, List.length_nil, Nat.zero_add, if_true, if_false, reduceIte, and_self, and_true, true_and, eq_self, reduceCtorEq, gW hw, h1, h2, h3, h4]
      rw [rn_eq, b_X5_hasVillage_17]
      simp only [EV, LV, CB, OI, OL, NP, CZ, popN, CT, OZ, List.map_nil, List.map_cons, List.sum_nil, List.sum_cons, Option.toList, List.nil_append, List.cons_append, Int.reduceToNat, Nat.reduceAdd, Nat.reduceLT, Nat.reduceLeDiff, List.length_cons, List.length_nil, Nat.zero_add, if_true, if_false, reduceIte, and_self, and_true, true_and, eq_self, reduceCtorEq, decide_true, Bool.and_self, bI_t]
theorem t_hasBody (hw : WSh sh w) (v : Int32) (m : Mm) : semZ sh wS (d + 1) 27 [.ref w, .int v] m = some (some (.int (bI (decide (0 ≤ v) && decide (v < m.1 w 1)))), m) := by
  rw [se_X5_hasBody, rn_eq, b_X5_hasBody_0]
  by_cases h1 : v < 0
  · have h2 : ¬ (0 : Int32) ≤ v := Int32.not_le.mpr h1
    simp only [EV, LV, CB, OI, OL, NP, CZ, popN, CT, OZ, List.map_nil, List.map_cons, List.sum_nil, List.sum_cons, Option.toList, List.nil_append, List.cons_append, Int.reduceToNat, Nat.reduceAdd, Nat.reduceLT, Nat.reduceLeDiff, List.length_cons, List.length_nil, Nat.zero_add, if_true, if_false, reduceIte, and_self, and_true, true_and, eq_self, reduceCtorEq, gW hw, h1, h2]
    rw [rn_eq, b_X5_hasBody_16]
    simp only [EV, LV, CB, OI, OL, NP, CZ, popN, CT, OZ, List.map_nil, List.map_cons, List.sum_nil, List.sum_cons, Option.toList, List.nil_append, List.cons_append, Int.reduceToNat, Nat.reduceAdd, Nat.reduceLT, Nat.reduceLeDiff, List.length_cons, List.length_nil, Nat.zero_add, if_true, if_false, reduceIte, and_self, and_true, true_and, eq_self, reduceCtorEq, decide_false, Bool.false_and, bI_f]
  · have h2 : (0 : Int32) ≤ v := Int32.not_lt.mp h1
    by_cases h3 : m.1 w 1 ≤ v
    · have h4 : ¬ v < m.1 w 1 := Int32.not_lt.mpr h3
      simp only [EV, LV, CB, OI, OL, NP, CZ, popN, CT, OZ, List.map_nil, List.map_cons, List.sum_nil, List.sum_cons, Option.toList, List.nil_append, List.cons_append, Int.reduceToNat, Nat.reduceAdd, Nat.reduceLT, Nat.reduceLeDiff, List.length_cons, List.length_nil, Nat.zero_add, if_true, if_false, reduceIte, and_self, and_true, true_and, eq_self, reduceCtorEq, gW hw, h1, h2, h3, h4]
      rw [rn_eq, b_X5_hasBody_16]
      simp only [EV, LV, CB, OI, OL, NP, CZ, popN, CT, OZ, List.map_nil, List.map_cons, List.sum_nil, List.sum_cons, Option.toList, List.nil_append, List.cons_append, Int.reduceToNat, Nat.reduceAdd, Nat.reduceLT, Nat.reduceLeDiff, List.length_cons, List.length_nil, Nat.zero_add, if_true, if_false, reduceIte, and_self, and_true, true_and, eq_self, reduceCtorEq, decide_false, Bool.and_false, bI_f]
    · have h4 : v < m.1 w 1 := Int32.not_le.mp h3
      simp only [EV, LV, CB, OI, OL, NP, CZ, popN, CT, OZ, List.map_nil, List.map_cons, List.sum_nil, List.sum_cons, Option.toList, List.nil_append, List.cons_append, Int.reduceToNat, Nat.reduceAdd, Nat.reduceLT, Nat.reduceLeDiff, List.length_cons, List.length_nil, Nat.zero_add, if_true, if_false, reduceIte, and_self, and_true, true_and, eq_self, reduceCtorEq, gW hw, h1, h2, h3, h4]
      rw [rn_eq, b_X5_hasBody_17]
      simp only [EV, LV, CB, OI, OL, NP, CZ, popN, CT, OZ, List.map_nil, List.map_cons, List.sum_nil, List.sum_cons, Option.toList, List.nil_append, List.cons_append, Int.reduceToNat, Nat.reduceAdd, Nat.reduceLT, Nat.reduceLeDiff, List.length_cons, List.length_nil, Nat.zero_add, if_true, if_false, reduceIte, and_self, and_true, true_and, eq_self, reduceCtorEq, decide_true, Bool.and_self, bI_t]
theorem t_isVillage (hw : MSh sh w) (v : Int32) (m : Mm) : semZ sh wS (d + 2) 120 [.ref w, .int v] m = some (some (.int (bI (decide (0 ≤ v.toInt64) && decide (v.toInt64 ≤ (m.1 w 3 - 1).toInt64)))), m) := by
  rw [se_X7_isVillage, rn_eq, b_X7_isVillage_0]
  simp only [EV, LV, CB, OI, OL, NP, CZ, popN, CT, OZ, List.map_nil, List.map_cons, List.sum_nil, List.sum_cons, Option.toList, List.nil_append, List.cons_append, Int.reduceToNat, Nat.reduceAdd, Nat.reduceLT, Nat.reduceLeDiff, List.length_cons, List.length_nil, Nat.zero_add, if_true, if_false, reduceIte, and_self, and_true, true_and, eq_self, reduceCtorEq, gM hw, t_in wS d, okb]
theorem in_38 : inR 38 189 = true ∧ (38 : Int32).toNatClampNeg = 38 := by decide +kernel
theorem t_isBody (hw : MSh sh w) (v : Int32) (m : Mm) : semZ sh wS (d + 2) 121 [.ref w, .int v] m = some (some (.int (bI (decide (0 ≤ v.toInt64) && decide (v.toInt64 ≤ (m.1 (w + 1) 38 - 1).toInt64)))), m) := by
  rw [se_X7_isBody, rn_eq, b_X7_isBody_0]
  simp only [EV, LV, CB, OI, OL, NP, CZ, popN, CT, OZ, List.map_nil, List.map_cons, List.sum_nil, List.sum_cons, Option.toList, List.nil_append, List.cons_append, Int.reduceToNat, Nat.reduceAdd, Nat.reduceLT, Nat.reduceLeDiff, List.length_cons, List.length_nil, Nat.zero_add, if_true, if_false, reduceIte, and_self, and_true, true_and, eq_self, reduceCtorEq, gM hw, aM hw, in_38, t_in wS d, okb]
theorem t_isPart (v : Int32) (m : Mm) : semZ sh wS (d + 2) 122 [.int v] m = some (some (.int (bI (decide (0 ≤ v.toInt64) && decide (v.toInt64 ≤ 1)))), m) := by
  rw [se_X7_isPart, rn_eq, b_X7_isPart_0]
  simp only [EV, LV, CB, OI, OL, NP, CZ, popN, CT, OZ, List.map_nil, List.map_cons, List.sum_nil, List.sum_cons, Option.toList, List.nil_append, List.cons_append, Int.reduceToNat, Nat.reduceAdd, Nat.reduceLT, Nat.reduceLeDiff, List.length_cons, List.length_nil, Nat.zero_add, if_true, if_false, reduceIte, and_self, and_true, true_and, eq_self, reduceCtorEq, t_in wS d, okb]
theorem t_isJudged (v : Int32) (m : Mm) : semZ sh wS (d + 2) 153 [.int v] m = some (some (.int (bI (decide (0 ≤ v.toInt64) && decide (v.toInt64 ≤ 20)))), m) := by
  rw [se_X7_isJudged, rn_eq, b_X7_isJudged_0]
  simp only [EV, LV, CB, OI, OL, NP, CZ, popN, CT, OZ, List.map_nil, List.map_cons, List.sum_nil, List.sum_cons, Option.toList, List.nil_append, List.cons_append, Int.reduceToNat, Nat.reduceAdd, Nat.reduceLT, Nat.reduceLeDiff, List.length_cons, List.length_nil, Nat.zero_add, if_true, if_false, reduceIte, and_self, and_true, true_and, eq_self, reduceCtorEq, t_in wS d, okb]
theorem bI_0 (b : Bool) : (bI b = 0) = (b = false) := by cases b <;> simp [bI]
theorem t_isSheet (k l : Int32) (m : Mm) : semZ sh wS (d + 2) 179 [.int k, .int l] m = some (some (.int (bI ((decide (0 ≤ k.toInt64) && decide (k.toInt64 ≤ 3)) && (decide (0 ≤ l.toInt64) && decide (l.toInt64 ≤ 2))))), m) := by
  rw [se_X7_isSheet, rn_eq, b_X7_isSheet_0]
  simp only [EV, LV, CB, OI, OL, NP, CZ, popN, CT, OZ, List.map_nil, List.map_cons, List.sum_nil, List.sum_cons, Option.toList, List.nil_append, List.cons_append, Int.reduceToNat, Nat.reduceAdd, Nat.reduceLT, Nat.reduceLeDiff, List.length_cons, List.length_nil, Nat.zero_add, if_true, if_false, reduceIte, and_self, and_true, true_and, eq_self, reduceCtorEq, t_in wS d, bI_0]
  cases h1 : (decide (0 ≤ k.toInt64) && decide (k.toInt64 ≤ 3)) with
  | false =>
    simp only [EV, LV, CB, OI, OL, NP, CZ, popN, CT, OZ, List.map_nil, List.map_cons, List.sum_nil, List.sum_cons, Option.toList, List.nil_append, List.cons_append, Int.reduceToNat, Nat.reduceAdd, Nat.reduceLT, Nat.reduceLeDiff, List.length_cons, List.length_nil, Nat.zero_add, if_true, if_false, reduceIte, and_self, and_true, true_and, eq_self, reduceCtorEq]
    rw [rn_eq, b_X7_isSheet_28]
    simp only [EV, LV, CB, OI, OL, NP, CZ, popN, CT, OZ, List.map_nil, List.map_cons, List.sum_nil, List.sum_cons, Option.toList, List.nil_append, List.cons_append, Int.reduceToNat, Nat.reduceAdd, Nat.reduceLT, Nat.reduceLeDiff, List.length_cons, List.length_nil, Nat.zero_add, if_true, if_false, reduceIte, and_self, and_true, true_and, eq_self, reduceCtorEq, Bool.false_and, bI_f]
  | true =>
    simp only [EV, LV, CB, OI, OL, NP, CZ, popN, CT, OZ, List.map_nil, List.map_cons, List.sum_nil, List.sum_cons, Option.toList, List.nil_append, List.cons_append, Int.reduceToNat, Nat.reduceAdd, Nat.reduceLT, Nat.reduceLeDiff, List.length_cons, List.length_nil, Nat.zero_add, if_true, if_false, reduceIte, and_self, and_true, true_and, eq_self, reduceCtorEq, t_in wS d, bI_0, Bool.true_eq_false]
    cases h2 : (decide (0 ≤ l.toInt64) && decide (l.toInt64 ≤ 2)) with
    | false =>
      simp only [EV, LV, CB, OI, OL, NP, CZ, popN, CT, OZ, List.map_nil, List.map_cons, List.sum_nil, List.sum_cons, Option.toList, List.nil_append, List.cons_append, Int.reduceToNat, Nat.reduceAdd, Nat.reduceLT, Nat.reduceLeDiff, List.length_cons, List.length_nil, Nat.zero_add, if_true, if_false, reduceIte, and_self, and_true, true_and, eq_self, reduceCtorEq]
      rw [rn_eq, b_X7_isSheet_28]
      simp only [EV, LV, CB, OI, OL, NP, CZ, popN, CT, OZ, List.map_nil, List.map_cons, List.sum_nil, List.sum_cons, Option.toList, List.nil_append, List.cons_append, Int.reduceToNat, Nat.reduceAdd, Nat.reduceLT, Nat.reduceLeDiff, List.length_cons, List.length_nil, Nat.zero_add, if_true, if_false, reduceIte, and_self, and_true, true_and, eq_self, reduceCtorEq, Bool.and_false, bI_f]
    | true =>
      simp only [EV, LV, CB, OI, OL, NP, CZ, popN, CT, OZ, List.map_nil, List.map_cons, List.sum_nil, List.sum_cons, Option.toList, List.nil_append, List.cons_append, Int.reduceToNat, Nat.reduceAdd, Nat.reduceLT, Nat.reduceLeDiff, List.length_cons, List.length_nil, Nat.zero_add, if_true, if_false, reduceIte, and_self, and_true, true_and, eq_self, reduceCtorEq, Bool.true_eq_false]
      rw [rn_eq, b_X7_isSheet_29]
      simp only [EV, LV, CB, OI, OL, NP, CZ, popN, CT, OZ, List.map_nil, List.map_cons, List.sum_nil, List.sum_cons, Option.toList, List.nil_append, List.cons_append, Int.reduceToNat, Nat.reduceAdd, Nat.reduceLT, Nat.reduceLeDiff, List.length_cons, List.length_nil, Nat.zero_add, if_true, if_false, reduceIte, and_self, and_true, true_and, eq_self, reduceCtorEq, Bool.and_self, bI_t]
theorem t_starts_l (hw : MSh sh w) (m : Mm) (g : Nat → Int32) : ∀ (k i : Nat), i + k = 63 → rn sh tb0 mN mO (semZ sh wS d) none (codeZ 123) 2 [.ref w, .int (nI i)] [] (setR m (w + 2) (fillR (m.1 (w + 1)) g i)) = rn sh tb0 mN mO (semZ sh wS d) none (codeZ 123) 26 [.ref w, .int 63] [] (setR m (w + 2) (fillR (m.1 (w + 1)) g 63)) := by
  intro k
  induction k with
  | zero =>
    intro i hi
    have e0 : i = 63 := by omega
    subst e0
    rw [rn_eq, b_X7_starts_2]
    have e1 : (63 : Int32) ≤ nI 63 := by decide +kernel
    simp only [e1, EV, LV, CB, OI, OL, NP, CZ, popN, CT, OZ, List.map_nil, List.map_cons, List.sum_nil, List.sum_cons, Option.toList, List.nil_append, List.cons_append, Int.reduceToNat, Nat.reduceAdd, Nat.reduceLT, Nat.reduceLeDiff, List.length_cons, List.length_nil, Nat.zero_add, if_true, if_false, reduceIte, and_self, and_true, true_and, eq_self, reduceCtorEq]
    rfl
  | succ k ih =>
    intro i hi
    have e1 : ¬ (63 : Int32) ≤ nI i := nI_ge (a := i) (b := 63) (by omega) (by omega)
    have e2 : inR (nI i) 63 = true := inR_nI (by omega) (by omega)
    have e5 : inR (nI i) 189 = true := inR_nI (by omega) (by omega)
    have e3 : (nI i).toNatClampNeg = i := nI_clamp (by omega)
    have e4 := fillR_s (m.1 (w + 1)) g i
    have e : w + 1 ≠ w + 2 := by omega
    rw [rn_eq, b_X7_starts_2]
    simp only [EV, LV, CB, OI, OL, NP, CZ, popN, CT, OZ, List.map_nil, List.map_cons, List.sum_nil, List.sum_cons, Option.toList, List.nil_append, List.cons_append, Int.reduceToNat, Nat.reduceAdd, Nat.reduceLT, Nat.reduceLeDiff, List.length_cons, List.length_nil, Nat.zero_add, if_true, if_false, reduceIte, and_self, and_true, true_and, eq_self, reduceCtorEq, gM hw, sM hw, aM hw, e1, e2, e3, e5, wI_R, setR_s, setR_n _ _ e, setR_R, e4, nI_1]
    exact ih (i + 1) (by omega)
theorem t_starts_m (hw : MSh sh w) (m : Mm) (g : Nat → Int32) : ∀ (k i : Nat), i + k = 4 → rn sh tb0 mN mO (semZ sh wS d) none (codeZ 123) 28 [.ref w, .int (nI i)] [] (setR m (w + 6) (fillR nI g i)) = some (none, setR m (w + 6) (fillR nI g 4)) := by
  intro k
  induction k with
  | zero =>
    intro i hi
    have e0 : i = 4 := by omega
    subst e0
    rw [rn_eq, b_X7_starts_28]
    have e1 : (4 : Int32) ≤ nI 4 := by decide +kernel
    simp only [e1, EV, LV, CB, OI, OL, NP, CZ, popN, CT, OZ, List.map_nil, List.map_cons, List.sum_nil, List.sum_cons, Option.toList, List.nil_append, List.cons_append, Int.reduceToNat, Nat.reduceAdd, Nat.reduceLT, Nat.reduceLeDiff, List.length_cons, List.length_nil, Nat.zero_add, if_true, if_false, reduceIte, and_self, and_true, true_and, eq_self, reduceCtorEq]
    rw [rn_eq, b_X7_starts_46]
    simp only [EV, LV, CB, OI, OL, NP, CZ, popN, CT, OZ, List.map_nil, List.map_cons, List.sum_nil, List.sum_cons, Option.toList, List.nil_append, List.cons_append, Int.reduceToNat, Nat.reduceAdd, Nat.reduceLT, Nat.reduceLeDiff, List.length_cons, List.length_nil, Nat.zero_add, if_true, if_false, reduceIte, and_self, and_true, true_and, eq_self, reduceCtorEq]
  | succ k ih =>
    intro i hi
    have e1 : ¬ (4 : Int32) ≤ nI i := nI_ge (a := i) (b := 4) (by omega) (by omega)
    have e2 : inR (nI i) 4 = true := inR_nI (by omega) (by omega)
    have e3 : (nI i).toNatClampNeg = i := nI_clamp (by omega)
    rw [rn_eq, b_X7_starts_28]
    simp only [EV, LV, CB, OI, OL, NP, CZ, popN, CT, OZ, List.map_nil, List.map_cons, List.sum_nil, List.sum_cons, Option.toList, List.nil_append, List.cons_append, Int.reduceToNat, Nat.reduceAdd, Nat.reduceLT, Nat.reduceLeDiff, List.length_cons, List.length_nil, Nat.zero_add, if_true, if_false, reduceIte, and_self, and_true, true_and, eq_self, reduceCtorEq, gM hw, sM hw, e1, e2, e3, wI_R, setR_s, setR_R, fillR_s, nI_1]
    exact ih (i + 1) (by omega)
theorem t_starts (hw : MSh sh w) (m : Mm) : semZ sh wS (d + 1) 123 [.ref w] m = some (none, setR (setR m (w + 2) (fillR (m.1 (w + 1)) (m.1 (w + 2)) 63)) (w + 6) (fillR nI (m.1 (w + 6)) 4)) := by
  rw [se_X7_starts, rn_eq, b_X7_starts_0]
  simp only [EV, LV, CB, OI, OL, NP, CZ, popN, CT, OZ, List.map_nil, List.map_cons, List.sum_nil, List.sum_cons, Option.toList, List.nil_append, List.cons_append, Int.reduceToNat, Nat.reduceAdd, Nat.reduceLT, Nat.reduceLeDiff, List.length_cons, List.length_nil, Nat.zero_add, if_true, if_false, reduceIte, and_self, and_true, true_and, eq_self, reduceCtorEq]
  have h := t_starts_l wS d hw m (m.1 (w + 2)) 63 0 rfl
  rw [fillR_0, setR_id] at h
  refine Eq.trans h ?_
  rw [rn_eq, b_X7_starts_26]
  simp only [EV, LV, CB, OI, OL, NP, CZ, popN, CT, OZ, List.map_nil, List.map_cons, List.sum_nil, List.sum_cons, Option.toList, List.nil_append, List.cons_append, Int.reduceToNat, Nat.reduceAdd, Nat.reduceLT, Nat.reduceLeDiff, List.length_cons, List.length_nil, Nat.zero_add, if_true, if_false, reduceIte, and_self, and_true, true_and, eq_self, reduceCtorEq]
  have h2 := t_starts_m wS d hw (setR m (w + 2) (fillR (m.1 (w + 1)) (m.1 (w + 2)) 63)) (m.1 (w + 6)) 4 0 rfl
  have e : w + 6 ≠ w + 2 := by omega
  rw [fillR_0, ← setR_n m (fillR (m.1 (w + 1)) (m.1 (w + 2)) 63) e, setR_id] at h2
  rw [setR_n _ _ e] at h2
  exact h2
theorem t_settles_l (hw : MSh sh w) (m : Mm) (g : Nat → Int32) : ∀ (k i : Nat), i + k = 63 → rn sh tb0 mN mO (semZ sh wS d) none (codeZ 124) 2 [.ref w, .int (nI i)] [] (setR m (w + 1) (fillR (m.1 (w + 2)) g i)) = some (none, setR m (w + 1) (fillR (m.1 (w + 2)) g 63)) := by
  intro k
  induction k with
  | zero =>
    intro i hi
    have e0 : i = 63 := by omega
    subst e0
    rw [rn_eq, b_X7_settles_2]
    have e1 : (63 : Int32) ≤ nI 63 := by decide +kernel
    simp only [e1, EV, LV, CB, OI, OL, NP, CZ, popN, CT, OZ, List.map_nil, List.map_cons, List.sum_nil, List.sum_cons, Option.toList, List.nil_append, List.cons_append, Int.reduceToNat, Nat.reduceAdd, Nat.reduceLT, Nat.reduceLeDiff, List.length_cons, List.length_nil, Nat.zero_add, if_true, if_false, reduceIte, and_self, and_true, true_and, eq_self, reduceCtorEq]
    rw [rn_eq, b_X7_settles_26]
    simp only [EV, LV, CB, OI, OL, NP, CZ, popN, CT, OZ, List.map_nil, List.map_cons, List.sum_nil, List.sum_cons, Option.toList, List.nil_append, List.cons_append, Int.reduceToNat, Nat.reduceAdd, Nat.reduceLT, Nat.reduceLeDiff, List.length_cons, List.length_nil, Nat.zero_add, if_true, if_false, reduceIte, and_self, and_true, true_and, eq_self, reduceCtorEq]
  | succ k ih =>
    intro i hi
    have e1 : ¬ (63 : Int32) ≤ nI i := nI_ge (a := i) (b := 63) (by omega) (by omega)
    have e2 : inR (nI i) 63 = true := inR_nI (by omega) (by omega)
    have e5 : inR (nI i) 189 = true := inR_nI (by omega) (by omega)
    have e3 : (nI i).toNatClampNeg = i := nI_clamp (by omega)
    have e4 := fillR_s (m.1 (w + 2)) g i
    have e : w + 2 ≠ w + 1 := by omega
    rw [rn_eq, b_X7_settles_2]
    simp only [EV, LV, CB, OI, OL, NP, CZ, popN, CT, OZ, List.map_nil, List.map_cons, List.sum_nil, List.sum_cons, Option.toList, List.nil_append, List.cons_append, Int.reduceToNat, Nat.reduceAdd, Nat.reduceLT, Nat.reduceLeDiff, List.length_cons, List.length_nil, Nat.zero_add, if_true, if_false, reduceIte, and_self, and_true, true_and, eq_self, reduceCtorEq, gM hw, sM hw, aM hw, e1, e2, e3, e5, wI_R, setR_s, setR_n _ _ e, setR_R, e4, nI_1]
    exact ih (i + 1) (by omega)
theorem t_settles (hw : MSh sh w) (m : Mm) : semZ sh wS (d + 1) 124 [.ref w] m = some (none, setR m (w + 1) (fillR (m.1 (w + 2)) (m.1 (w + 1)) 63)) := by
  rw [se_X7_settles, rn_eq, b_X7_settles_0]
  simp only [EV, LV, CB, OI, OL, NP, CZ, popN, CT, OZ, List.map_nil, List.map_cons, List.sum_nil, List.sum_cons, Option.toList, List.nil_append, List.cons_append, Int.reduceToNat, Nat.reduceAdd, Nat.reduceLT, Nat.reduceLeDiff, List.length_cons, List.length_nil, Nat.zero_add, if_true, if_false, reduceIte, and_self, and_true, true_and, eq_self, reduceCtorEq]
  have h := t_settles_l wS d hw m (m.1 (w + 1)) 63 0 rfl
  rw [fillR_0, setR_id] at h
  exact h
/-- a stretch of 63 copied within a row -/
def cpR (f : Nat → Int32) (t s i : Nat) : Nat → Int32 := fun j => if t ≤ j ∧ j < t + i then f (s + (j - t)) else f j
theorem cpR_0 (f : Nat → Int32) (t s : Nat) : cpR f t s 0 = f := by
  funext j
  unfold cpR
  rw [if_neg (by omega)]
theorem cpR_s (f : Nat → Int32) (t s i : Nat) (h : s + i < t ∨ t + i ≤ s + i) : upd (cpR f t s i) (t + i) (cpR f t s i (s + i)) = cpR f t s (i + 1) := by
  funext j
  have e : cpR f t s i (s + i) = f (s + i) := by
    unfold cpR
    rw [if_neg (by omega)]
  rw [e]
  simp only [upd, cpR]
  by_cases h1 : j = t + i
  · subst h1
    rw [if_pos rfl, if_pos (by omega), show s + (t + i - t) = s + i by omega]
  · rw [if_neg h1]
    by_cases h2 : t ≤ j ∧ j < t + i
    · rw [if_pos h2, if_pos (by omega)]
    · rw [if_neg h2, if_neg (by omega)]
theorem t_copies_l (hw : MSh sh w) (m : Mm) (t s : Nat) (ht : t ≤ 126) (hs : s ≤ 126) (hd : s + 63 ≤ t ∨ t ≤ s) : ∀ (k i : Nat), i + k = 63 → rn sh tb0 mN mO (semZ sh wS d) none (codeZ 176) 2 [.ref w, .int (nI t), .int (nI s), .int (nI i)] [] (setR m (w + 1) (cpR (m.1 (w + 1)) t s i)) = some (none, setR m (w + 1) (cpR (m.1 (w + 1)) t s 63)) := by
  intro k
  induction k with
  | zero =>
    intro i hi
    have e0 : i = 63 := by omega
    subst e0
    rw [rn_eq, b_X7_copies_2]
    have e1 : (63 : Int32) ≤ nI 63 := by decide +kernel
    simp only [e1, EV, LV, CB, OI, OL, NP, CZ, popN, CT, OZ, List.map_nil, List.map_cons, List.sum_nil, List.sum_cons, Option.toList, List.nil_append, List.cons_append, Int.reduceToNat, Nat.reduceAdd, Nat.reduceLT, Nat.reduceLeDiff, List.length_cons, List.length_nil, Nat.zero_add, if_true, if_false, reduceIte, and_self, and_true, true_and, eq_self, reduceCtorEq]
    rw [rn_eq, b_X7_copies_30]
    simp only [EV, LV, CB, OI, OL, NP, CZ, popN, CT, OZ, List.map_nil, List.map_cons, List.sum_nil, List.sum_cons, Option.toList, List.nil_append, List.cons_append, Int.reduceToNat, Nat.reduceAdd, Nat.reduceLT, Nat.reduceLeDiff, List.length_cons, List.length_nil, Nat.zero_add, if_true, if_false, reduceIte, and_self, and_true, true_and, eq_self, reduceCtorEq]
  | succ k ih =>
    intro i hi
    have e1 : ¬ (63 : Int32) ≤ nI i := nI_ge (a := i) (b := 63) (by omega) (by omega)
    have e2 : inR (nI (t + i)) 189 = true := inR_nI (by omega) (by omega)
    have e5 : inR (nI (s + i)) 189 = true := inR_nI (by omega) (by omega)
    have e3 : (nI (t + i)).toNatClampNeg = t + i := nI_clamp (by omega)
    have e6 : (nI (s + i)).toNatClampNeg = s + i := nI_clamp (by omega)
    have e4 := cpR_s (m.1 (w + 1)) t s i (by omega)
    rw [rn_eq, b_X7_copies_2]
    simp only [EV, LV, CB, OI, OL, NP, CZ, popN, CT, OZ, List.map_nil, List.map_cons, List.sum_nil, List.sum_cons, Option.toList, List.nil_append, List.cons_append, Int.reduceToNat, Nat.reduceAdd, Nat.reduceLT, Nat.reduceLeDiff, List.length_cons, List.length_nil, Nat.zero_add, if_true, if_false, reduceIte, and_self, and_true, true_and, eq_self, reduceCtorEq, gM hw, sM hw, aM hw, e1, e2, e3, e5, e6, nI_add, wI_R, setR_s, setR_R, e4, nI_1]
    exact ih (i + 1) (by omega)
theorem t_copies (hw : MSh sh w) (m : Mm) (t s : Nat) (ht : t ≤ 126) (hs : s ≤ 126) (hd : s + 63 ≤ t ∨ t ≤ s) : semZ sh wS (d + 1) 176 [.ref w, .int (nI t), .int (nI s)] m = some (none, setR m (w + 1) (cpR (m.1 (w + 1)) t s 63)) := by
  rw [se_X7_copies, rn_eq, b_X7_copies_0]
  simp only [EV, LV, CB, OI, OL, NP, CZ, popN, CT, OZ, List.map_nil, List.map_cons, List.sum_nil, List.sum_cons, Option.toList, List.nil_append, List.cons_append, Int.reduceToNat, Nat.reduceAdd, Nat.reduceLT, Nat.reduceLeDiff, List.length_cons, List.length_nil, Nat.zero_add, if_true, if_false, reduceIte, and_self, and_true, true_and, eq_self, reduceCtorEq]
  have h := t_copies_l wS d hw m t s ht hs hd 63 0 rfl
  rw [cpR_0, setR_id] at h
  exact h
/-! the greatest divisor: at most 1000 steps -/
theorem t_gd_l (m : Mm) : ∀ (k i : Nat) (a b : Int64) (v : Value), i + k = 1000 → v = noV ∨ (∃ y : Int64, v = .long y) → ∃ r, rn sh tb0 mN mO (semZ sh wS d) (some .long) (codeZ 81) 3 [.long a, noV, .long b, noV, .int (nI i), v, noV] [] m = some (some (.long r), m) := by
  intro k
  induction k with
  | zero =>
    intro i a b v hi hv
    have e0 : i = 1000 := by omega
    subst e0
    refine ⟨a, ?_⟩
    rw [rn_eq, b_X6_greatestDivisor_3]
    have e1 : (1000 : Int32) ≤ nI 1000 := by decide +kernel
    simp only [e1, EV, LV, CB, OI, OL, NP, CZ, popN, CT, OZ, List.map_nil, List.map_cons, List.sum_nil, List.sum_cons, Option.toList, List.nil_append, List.cons_append, Int.reduceToNat, Nat.reduceAdd, Nat.reduceLT, Nat.reduceLeDiff, List.length_cons, List.length_nil, Nat.zero_add, if_true, if_false, reduceIte, and_self, and_true, true_and, eq_self, reduceCtorEq]
    rw [rn_eq, b_X6_greatestDivisor_33]
    simp only [EV, LV, CB, OI, OL, NP, CZ, popN, CT, OZ, List.map_nil, List.map_cons, List.sum_nil, List.sum_cons, Option.toList, List.nil_append, List.cons_append, Int.reduceToNat, Nat.reduceAdd, Nat.reduceLT, Nat.reduceLeDiff, List.length_cons, List.length_nil, Nat.zero_add, if_true, if_false, reduceIte, and_self, and_true, true_and, eq_self, reduceCtorEq]
  | succ k ih =>
    intro i a b v hi hv
    have e1 : ¬ (1000 : Int32) ≤ nI i := nI_ge (a := i) (b := 1000) (by omega) (by omega)
    by_cases hb : b = 0
    · refine ⟨a, ?_⟩
      have e2 : lg_cmp b 0 = 0 := by rw [hb]; decide
      rw [rn_eq, b_X6_greatestDivisor_3]
      simp only [e1, e2, EV, LV, CB, OI, OL, NP, CZ, popN, CT, OZ, List.map_nil, List.map_cons, List.sum_nil, List.sum_cons, Option.toList, List.nil_append, List.cons_append, Int.reduceToNat, Nat.reduceAdd, Nat.reduceLT, Nat.reduceLeDiff, List.length_cons, List.length_nil, Nat.zero_add, if_true, if_false, reduceIte, and_self, and_true, true_and, eq_self, reduceCtorEq]
      rw [rn_eq, b_X6_greatestDivisor_33]
      simp only [EV, LV, CB, OI, OL, NP, CZ, popN, CT, OZ, List.map_nil, List.map_cons, List.sum_nil, List.sum_cons, Option.toList, List.nil_append, List.cons_append, Int.reduceToNat, Nat.reduceAdd, Nat.reduceLT, Nat.reduceLeDiff, List.length_cons, List.length_nil, Nat.zero_add, if_true, if_false, reduceIte, and_self, and_true, true_and, eq_self, reduceCtorEq]
    · have e2 : ¬ lg_cmp b 0 = 0 := by
        unfold lg_cmp
        (repeat' split) <;> first | decide | exact absurd ‹_› hb
      obtain ⟨r, hr⟩ := ih (i + 1) b (a - a / b * b) (.long (a - a / b * b)) (by omega) (Or.inr ⟨_, rfl⟩)
      refine ⟨r, ?_⟩
      rw [rn_eq, b_X6_greatestDivisor_3]
      rcases hv with rfl | ⟨y, rfl⟩
      · simp only [e1, e2, hb, EV, LV, CB, OI, OL, NP, CZ, popN, CT, OZ, List.map_nil, List.map_cons, List.sum_nil, List.sum_cons, Option.toList, List.nil_append, List.cons_append, Int.reduceToNat, Nat.reduceAdd, Nat.reduceLT, Nat.reduceLeDiff, List.length_cons, List.length_nil, Nat.zero_add, if_true, if_false, reduceIte, and_self, and_true, true_and, eq_self, reduceCtorEq, nI_1]
        exact hr
      · simp only [e1, e2, hb, EV, LV, CB, OI, OL, NP, CZ, popN, CT, OZ, List.map_nil, List.map_cons, List.sum_nil, List.sum_cons, Option.toList, List.nil_append, List.cons_append, Int.reduceToNat, Nat.reduceAdd, Nat.reduceLT, Nat.reduceLeDiff, List.length_cons, List.length_nil, Nat.zero_add, if_true, if_false, reduceIte, and_self, and_true, true_and, eq_self, reduceCtorEq, nI_1]
        exact hr
end H1
end
section
/-! BY HAND: contracts of the small methods -/
theorem ret01 (b : Bool) : retG (iA 0 1) (some (.int (bI b))) := by
  refine ⟨bI b, rfl, gN_i ?_ ?_, Or.inl rfl, Or.inl rfl, fun _ q hq => by cases hq⟩ <;> cases b <;> decide
theorem retc0 : retG (cst 0) (some (.int 0)) := ⟨0, rfl, Or.inr ⟨by decide, by decide, ⟨0, by decide⟩⟩, Or.inl rfl, Or.inl rfl, fun _ q hq => by cases hq⟩
theorem retJ (x : Int64) : retG tJ (some (.long x)) := ⟨x, rfl, (r64 x).1, (r64 x).2, Or.inl rfl⟩
theorem frm_rf {W : Wr} {m : Mm} : frm W m m := fun _ _ _ _ _ => ⟨rfl, rfl⟩
theorem bI_nz {b : Bool} (h : (bI b).toInt ≠ 0) : b = true := by
  cases b with
  | true => rfl
  | false => exact absurd (by decide) h
def jA (lo hi : Int) : AV := some (.inr (.inr (lo, hi, 0)))
section Hh
variable {T : List (List (Int × Int))} {sh : List ShE} {wS : List Value → Mm → Option Rs} (d : Nat)
theorem hd_within (lo hi a a' b b' : Int) : Hd T (semZ sh wS (d + 1)) (99, [iA lo hi, iA a a', iA b b'], [], iA 0 1, [], ([], []), [(0, a, b')]) := by
  intro As m g hI hR
  obtain ⟨v1, vs, rfl, k1, g⟩ := gT_cons g
  obtain ⟨v2, vs, rfl, k2, g⟩ := gT_cons g
  obtain ⟨v3, vs, rfl, k3, g⟩ := gT_cons g
  cases gT_nil g
  obtain ⟨x, rfl, x1, -⟩ := k1
  obtain ⟨p, rfl, p1, -⟩ := k2
  obtain ⟨q, rfl, q1, -⟩ := k3
  have p2 : a ≤ p.toInt := (gN_hul p1).1
  have q2 : q.toInt ≤ b' := (gN_hul q1).2.1
  refine ⟨_, m, t_within wS d x p q m, ret01 _, hI, rho_nil, frm_rf, ?_⟩
  intro y hy h0 z hz
  cases hy
  rw [List.mem_singleton] at hz
  subst hz
  have h1 := bI_nz h0
  simp only [Bool.and_eq_true, decide_eq_true_eq, Int32.le_iff_toInt_le] at h1
  exact Or.inl ⟨by first | decide | (show (0 : Nat) < 1000; decide) | (show (1 : Nat) < 1000; decide), .int x, x.toInt, rfl, rfl, by show a ≤ _; omega, by show _ ≤ b'; omega⟩
theorem hd_within0 (lo hi a a' b b' : Int) (hh : hi < a ∨ b' < lo) : Hd T (semZ sh wS (d + 1)) (99, [iA lo hi, iA a a', iA b b'], [], cst 0, [], ([], []), []) := by
  intro As m g hI hR
  obtain ⟨v1, vs, rfl, k1, g⟩ := gT_cons g
  obtain ⟨v2, vs, rfl, k2, g⟩ := gT_cons g
  obtain ⟨v3, vs, rfl, k3, g⟩ := gT_cons g
  cases gT_nil g
  obtain ⟨x, rfl, x1, -⟩ := k1
  obtain ⟨p, rfl, p1, -⟩ := k2
  obtain ⟨q, rfl, q1, -⟩ := k3
  have p2 : a ≤ p.toInt := (gN_hul p1).1
  have q2 : q.toInt ≤ b' := (gN_hul q1).2.1
  have x2 : lo ≤ x.toInt := (gN_hul x1).1
  have x3 : x.toInt ≤ hi := (gN_hul x1).2.1
  have e : (decide (p ≤ x) && decide (x ≤ q)) = false := by
    cases h : (decide (p ≤ x) && decide (x ≤ q)) with
    | false => rfl
    | true =>
      simp only [Bool.and_eq_true, decide_eq_true_eq, Int32.le_iff_toInt_le] at h
      omega
  have t := t_within (sh := sh) wS d x p q m
  rw [e] at t
  exact ⟨_, m, t, retc0, hI, rho_nil, frm_rf, fun _ _ _ q hq => by cases hq⟩
theorem hd_in (lo hi a a' b b' : Int) : Hd T (semZ sh wS (d + 1)) (101, [jA lo hi, jA a a', jA b b'], [], iA 0 1, [], ([], []), [(0, a, b')]) := by
  intro As m g hI hR
  obtain ⟨v1, vs, rfl, k1, g⟩ := gT_cons g
  obtain ⟨v2, vs, rfl, k2, g⟩ := gT_cons g
  obtain ⟨v3, vs, rfl, k3, g⟩ := gT_cons g
  cases gT_nil g
  obtain ⟨x, rfl, x1, -⟩ := k1
  obtain ⟨p, rfl, p1, -⟩ := k2
  obtain ⟨q, rfl, q1, q2, -⟩ := k3
  refine ⟨_, m, t_in wS d x p q m, ret01 _, hI, rho_nil, frm_rf, ?_⟩
  intro y hy h0 z hz
  cases hy
  rw [List.mem_singleton] at hz
  subst hz
  have h1 := bI_nz h0
  simp only [Bool.and_eq_true, decide_eq_true_eq, Int64.le_iff_toInt_le] at h1
  exact Or.inl ⟨by first | decide | (show (0 : Nat) < 1000; decide) | (show (1 : Nat) < 1000; decide), .long x, x.toInt, rfl, rfl, by show a ≤ _; omega, by show _ ≤ b'; omega⟩
theorem hd_in0 (lo hi a a' b b' : Int) (hh : hi < a ∨ b' < lo) : Hd T (semZ sh wS (d + 1)) (101, [jA lo hi, jA a a', jA b b'], [], cst 0, [], ([], []), []) := by
  intro As m g hI hR
  obtain ⟨v1, vs, rfl, k1, g⟩ := gT_cons g
  obtain ⟨v2, vs, rfl, k2, g⟩ := gT_cons g
  obtain ⟨v3, vs, rfl, k3, g⟩ := gT_cons g
  cases gT_nil g
  obtain ⟨x, rfl, x1, x2, -⟩ := k1
  obtain ⟨p, rfl, p1, -⟩ := k2
  obtain ⟨q, rfl, q1, q2, -⟩ := k3
  have e : (decide (p ≤ x) && decide (x ≤ q)) = false := by
    cases h : (decide (p ≤ x) && decide (x ≤ q)) with
    | false => rfl
    | true =>
      simp only [Bool.and_eq_true, decide_eq_true_eq, Int64.le_iff_toInt_le] at h
      omega
  have t := t_in (sh := sh) wS d x p q m
  rw [e] at t
  exact ⟨_, m, t, retc0, hI, rho_nil, frm_rf, fun _ _ _ q hq => by cases hq⟩
/-- a question about one whole number, asked of an object or of none -/
theorem hd_q1 {z r : Nat} {f : Int32 → Mm → Bool} {hi : Int} {k : Nat} (ht : ∀ (v : Int32) (m : Mm), semZ sh wS k z [.ref r, .int v] m = some (some (.int (bI (f v m))), m)) (hb : ∀ (v : Int32) (m : Mm), InvT T m → f v m = true → 0 ≤ v.toInt ∧ v.toInt ≤ hi) : Hd T (semZ sh wS k) (z, [some (.inr (.inl [r])), tI], [], iA 0 1, [], ([], []), [(1, 0, hi)]) := by
  intro As m g hI hR
  obtain ⟨v1, vs, rfl, k1, g⟩ := gT_cons g
  obtain ⟨v2, vs, rfl, k2, g⟩ := gT_cons g
  cases gT_nil g
  obtain ⟨r', rfl, hr⟩ := k1
  rw [List.mem_singleton] at hr
  subst hr
  obtain ⟨x, rfl, -⟩ := k2
  refine ⟨_, m, ht x m, ret01 _, hI, rho_nil, frm_rf, ?_⟩
  intro y hy h0 z hz
  cases hy
  rw [List.mem_singleton] at hz
  subst hz
  have h1 := hb x m hI (bI_nz h0)
  exact Or.inl ⟨by first | decide | (show (0 : Nat) < 1000; decide) | (show (1 : Nat) < 1000; decide), .int x, x.toInt, rfl, rfl, h1.1, h1.2⟩
theorem hd_q0 {z : Nat} {f : Int32 → Mm → Bool} {hi : Int} {k : Nat} (ht : ∀ (v : Int32) (m : Mm), semZ sh wS k z [.int v] m = some (some (.int (bI (f v m))), m)) (hb : ∀ (v : Int32) (m : Mm), InvT T m → f v m = true → 0 ≤ v.toInt ∧ v.toInt ≤ hi) : Hd T (semZ sh wS k) (z, [tI], [], iA 0 1, [], ([], []), [(0, 0, hi)]) := by
  intro As m g hI hR
  obtain ⟨v2, vs, rfl, k2, g⟩ := gT_cons g
  cases gT_nil g
  obtain ⟨x, rfl, -⟩ := k2
  refine ⟨_, m, ht x m, ret01 _, hI, rho_nil, frm_rf, ?_⟩
  intro y hy h0 z hz
  cases hy
  rw [List.mem_singleton] at hz
  subst hz
  have h1 := hb x m hI (bI_nz h0)
  exact Or.inl ⟨by first | decide | (show (0 : Nat) < 1000; decide) | (show (1 : Nat) < 1000; decide), .int x, x.toInt, rfl, rfl, h1.1, h1.2⟩
theorem t_gd (a b : Int64) (m : Mm) : ∃ r, semZ sh wS (d + 1) 81 [.long a, .long b] m = some (some (.long r), m) := by
  obtain ⟨r, hr⟩ := t_gd_l (sh := sh) wS d m 1000 0 a b noV rfl (Or.inl rfl)
  refine ⟨r, ?_⟩
  rw [se_X6_greatestDivisor, rn_eq, b_X6_greatestDivisor_0]
  simp only [EV, LV, CB, OI, OL, NP, CZ, popN, CT, OZ, List.map_nil, List.map_cons, List.sum_nil, List.sum_cons, Option.toList, List.nil_append, List.cons_append, Int.reduceToNat, Nat.reduceAdd, Nat.reduceLT, Nat.reduceLeDiff, List.length_cons, List.length_nil, Nat.zero_add, if_true, if_false, reduceIte, and_self, and_true, true_and, eq_self, reduceCtorEq]
  exact hr
theorem hd_pf : Hd T (semZ sh wS (d + 2)) (80, [tJ, tJ, tI], [], tJ, [], ([], []), []) := by
  intro As m g hI hR
  obtain ⟨v1, vs, rfl, k1, g⟩ := gT_cons g
  obtain ⟨v2, vs, rfl, k2, g⟩ := gT_cons g
  obtain ⟨v3, vs, rfl, k3, g⟩ := gT_cons g
  cases gT_nil g
  obtain ⟨a, rfl, -⟩ := k1
  obtain ⟨b, rfl, -⟩ := k2
  obtain ⟨x, rfl, -⟩ := k3
  obtain ⟨r, hr⟩ := t_gd (sh := sh) (wS := wS) d a b m
  have key : ∃ y, semZ sh wS (d + 2) 80 [.long a, .long b, .int x] m = some (some (.long y), m) := by
    by_cases h0 : r = 0
    · refine ⟨0, ?_⟩
      have e2 : lg_cmp r 0 = 0 := by rw [h0]; decide
      rw [se_X6_partOfFraction, rn_eq, b_X6_partOfFraction_0]
      simp only [EV, LV, CB, OI, OL, NP, CZ, popN, CT, OZ, List.map_nil, List.map_cons, List.sum_nil, List.sum_cons, Option.toList, List.nil_append, List.cons_append, Int.reduceToNat, Nat.reduceAdd, Nat.reduceLT, Nat.reduceLeDiff, List.length_cons, List.length_nil, Nat.zero_add, if_true, if_false, reduceIte, and_self, and_true, true_and, eq_self, reduceCtorEq, hr, e2, not_true_eq_false]
    · have e2 : ¬ lg_cmp r 0 = 0 := by
        unfold lg_cmp
        (repeat' split) <;> first | decide | exact absurd ‹_› h0
      by_cases hx : x = 0
      · refine ⟨a / r, ?_⟩
        rw [se_X6_partOfFraction, rn_eq, b_X6_partOfFraction_0]
        simp only [EV, LV, CB, OI, OL, NP, CZ, popN, CT, OZ, List.map_nil, List.map_cons, List.sum_nil, List.sum_cons, Option.toList, List.nil_append, List.cons_append, Int.reduceToNat, Nat.reduceAdd, Nat.reduceLT, Nat.reduceLeDiff, List.length_cons, List.length_nil, Nat.zero_add, if_true, if_false, reduceIte, and_self, and_true, true_and, eq_self, reduceCtorEq, hr, e2, not_false_eq_true]
        rw [rn_eq, b_X6_partOfFraction_16]
        simp only [EV, LV, CB, OI, OL, NP, CZ, popN, CT, OZ, List.map_nil, List.map_cons, List.sum_nil, List.sum_cons, Option.toList, List.nil_append, List.cons_append, Int.reduceToNat, Nat.reduceAdd, Nat.reduceLT, Nat.reduceLeDiff, List.length_cons, List.length_nil, Nat.zero_add, if_true, if_false, reduceIte, and_self, and_true, true_and, eq_self, reduceCtorEq, hx, h0, not_true_eq_false]
        rw [rn_eq, b_X6_partOfFraction_32]
        simp only [EV, LV, CB, OI, OL, NP, CZ, popN, CT, OZ, List.map_nil, List.map_cons, List.sum_nil, List.sum_cons, Option.toList, List.nil_append, List.cons_append, Int.reduceToNat, Nat.reduceAdd, Nat.reduceLT, Nat.reduceLeDiff, List.length_cons, List.length_nil, Nat.zero_add, if_true, if_false, reduceIte, and_self, and_true, true_and, eq_self, reduceCtorEq]
      · refine ⟨b / r, ?_⟩
        rw [se_X6_partOfFraction, rn_eq, b_X6_partOfFraction_0]
        simp only [EV, LV, CB, OI, OL, NP, CZ, popN, CT, OZ, List.map_nil, List.map_cons, List.sum_nil, List.sum_cons, Option.toList, List.nil_append, List.cons_append, Int.reduceToNat, Nat.reduceAdd, Nat.reduceLT, Nat.reduceLeDiff, List.length_cons, List.length_nil, Nat.zero_add, if_true, if_false, reduceIte, and_self, and_true, true_and, eq_self, reduceCtorEq, hr, e2, not_false_eq_true]
        rw [rn_eq, b_X6_partOfFraction_16]
        simp only [EV, LV, CB, OI, OL, NP, CZ, popN, CT, OZ, List.map_nil, List.map_cons, List.sum_nil, List.sum_cons, Option.toList, List.nil_append, List.cons_append, Int.reduceToNat, Nat.reduceAdd, Nat.reduceLT, Nat.reduceLeDiff, List.length_cons, List.length_nil, Nat.zero_add, if_true, if_false, reduceIte, and_self, and_true, true_and, eq_self, reduceCtorEq, hx, h0, not_false_eq_true]
        rw [rn_eq, b_X6_partOfFraction_28]
        simp only [EV, LV, CB, OI, OL, NP, CZ, popN, CT, OZ, List.map_nil, List.map_cons, List.sum_nil, List.sum_cons, Option.toList, List.nil_append, List.cons_append, Int.reduceToNat, Nat.reduceAdd, Nat.reduceLT, Nat.reduceLeDiff, List.length_cons, List.length_nil, Nat.zero_add, if_true, if_false, reduceIte, and_self, and_true, true_and, eq_self, reduceCtorEq, h0]
  obtain ⟨y, hy⟩ := key
  exact ⟨_, m, hy, retJ y, hI, rho_nil, frm_rf, fun _ _ _ q hq => by cases hq⟩
end Hh
/-! rows written anew -/
section Hr
variable {T : List (List (Int × Int))} {m mE : Mm} {W : Wr}
theorem Inv_setR {o : Nat} {f : Nat → Int32} (h : InvT T m) (hf : ∀ j, (ivO T o j).1 ≤ (f j).toInt ∧ (f j).toInt ≤ (ivO T o j).2) : InvT T (setR m o f) := by
  intro o' j
  rw [setR_at]
  split
  · rename_i e
    rw [e]
    exact hf j
  · exact h o' j
theorem frm_setR {o : Nat} {f : Nat → Int32} (h : frm W mE m) (ho : o ∈ W.1) : frm W mE (setR m o f) := by
  intro o' j h1 h2 h3
  refine ⟨?_, (h o' j h1 h2 h3).2⟩
  rw [setR_at, if_neg (fun e => h2 (by rw [e]; exact ho))]
  exact (h o' j h1 h2 h3).1
theorem cel_setR {o : Nat} {f : Nat → Int32} {c : Nat} : cel (setR m o f) c = if c / 200 = o then (f (c % 200)).toInt else cel m c := by
  unfold cel
  rw [setR_at]
  split <;> rfl
theorem fill_bd {f g : Nat → Int32} {n o p : Nat} (hf : ∀ j, (ivO T p j).1 ≤ (f j).toInt ∧ (f j).toInt ≤ (ivO T p j).2) (hg : ∀ j, (ivO T o j).1 ≤ (g j).toInt ∧ (g j).toInt ≤ (ivO T o j).2) (hc : (List.range n).all (fun j => decide ((ivO T o j).1 ≤ (ivO T p j).1) && decide ((ivO T p j).2 ≤ (ivO T o j).2)) = true) : ∀ j, (ivO T o j).1 ≤ (fillR f g n j).toInt ∧ (fillR f g n j).toInt ≤ (ivO T o j).2 := by
  intro j
  unfold fillR
  split
  · rename_i h
    have k := List.all_eq_true.mp hc j (List.mem_range.mpr h)
    simp only [Bool.and_eq_true, decide_eq_true_eq] at k
    have := hf j
    omega
  · exact hg j
end Hr
theorem frm_row {mE m : Mm} {W : Wr} {o : Nat} {f : Nat → Int32} (h : frm W mE m) (hf : ∀ j, j < 200 → f j ≠ m.1 o j → inW W o j = true) : frm W mE (setR m o f) := by
  intro o' j h1 h2 h3
  refine ⟨?_, (h o' j h1 h2 h3).2⟩
  rw [setR_at]
  split
  · rename_i e
    subst e
    by_cases q : f j = m.1 o' j
    · rw [q]
      exact (h o' j h1 h2 h3).1
    · have := hf j h1 q
      unfold inW at this
      simp only [Bool.or_eq_true, List.contains_iff_mem] at this
      rcases this with t | t
      · exact absurd t h2
      · exact absurd t h3
  · exact (h o' j h1 h2 h3).1
theorem row_in {W : Wr} {o a j : Nat} (hc : (List.range 63).all (fun i => inW W o (a + i)) = true) (h1 : j < a + 63) (h0 : a ≤ j := by omega) : inW W o j = true := by
  have := List.all_eq_true.mp hc (j - a) (List.mem_range.mpr (by omega))
  rwa [show a + (j - a) = j by omega] at this
theorem tv_70 : (List.range 63).all (fun j => decide ((ivO TV 70 j).1 ≤ (ivO TV 69 j).1) && decide ((ivO TV 69 j).2 ≤ (ivO TV 70 j).2)) = true := by decide +kernel
theorem tv_74 : ∀ j, ivO TV 74 j = (0, 3) := fun j => by
  rw [iv_1 (by decide)]
  decide
theorem iv_6941 : ivO TV 69 41 = (1, 9) := by decide +kernel
theorem hd_starts (wS : List Value → Mm → Option Rs) (d : Nat) : Hd TV (semZ shP wS (d + 1)) h_44 := by
  intro As m g hI hR
  obtain ⟨v1, vs, rfl, k1, g⟩ := gT_cons g
  cases gT_nil g
  obtain ⟨r', rfl, hr⟩ := k1
  have hr : r' = 68 := List.mem_singleton.mp hr
  subst hr
  refine ⟨_, _, t_starts wS d MP68 m, trivial, ?_, ?_, frm_setR (frm_setR frm_rf (by decide)) (by decide), fun _ _ _ q hq => by cases hq⟩
  · refine Inv_setR (Inv_setR hI (fill_bd (fun j => hI 69 j) (fun j => hI 70 j) tv_70)) (fun j => ?_)
    rw [tv_74]
    unfold fillR
    split
    · rename_i h
      rw [nI_toInt (by omega)]
      exact ⟨by show (0 : Int) ≤ _; omega, by show _ ≤ (3 : Int); omega⟩
    · have := hI 74 j
      rw [tv_74] at this
      exact this
  · have b := hI 69 41
    rw [iv_6941] at b
    have e : fillR (m.1 (68 + 1)) (m.1 (68 + 2)) 63 (14041 % 200) = m.1 69 41 := by
      unfold fillR
      rw [if_pos (by decide)]
    refine rho_one ?_ ?_
    · rw [cel_setR, if_neg (by decide), cel_setR, if_pos (by decide), e]
      exact b.1
    · rw [cel_setR, if_neg (by decide), cel_setR, if_pos (by decide), e]
      exact b.2
theorem tv_69 : (List.range 63).all (fun j => decide (j = 41) || (decide ((ivO TV 69 j).1 ≤ (ivO TV 70 j).1) && decide ((ivO TV 70 j).2 ≤ (ivO TV 69 j).2))) = true := by decide +kernel
theorem hd_settles (wS : List Value → Mm → Option Rs) (d : Nat) : Hd TV (semZ shP wS (d + 1)) h_45 := by
  intro As m g hI hR
  obtain ⟨v1, vs, rfl, k1, g⟩ := gT_cons g
  cases gT_nil g
  obtain ⟨r', rfl, hr⟩ := k1
  have hr : r' = 68 := List.mem_singleton.mp hr
  subst hr
  refine ⟨_, _, t_settles wS d MP68 m, trivial, Inv_setR hI (fun j => ?_), rho_nil, frm_row frm_rf (fun j hj hne => row_in (a := 0) (by decide +kernel) (by unfold fillR at hne; split at hne; omega; exact absurd rfl hne)), fun _ _ _ q hq => by cases hq⟩
  unfold fillR
  split
  · rename_i h
    have k := List.all_eq_true.mp tv_69 j (List.mem_range.mpr h)
    simp only [Bool.and_eq_true, Bool.or_eq_true, decide_eq_true_eq] at k
    rcases k with k | k
    · subst k
      have := hR (14041, 1, 9) (List.mem_singleton.mpr rfl)
      rw [iv_6941]
      exact this
    · have := hI 70 j
      show (ivO TV 69 j).1 ≤ (m.1 70 j).toInt ∧ (m.1 70 j).toInt ≤ (ivO TV 69 j).2
      omega
  · exact hI 69 j
theorem tv_cp : (List.range 63).all (fun j => (decide ((ivO TV 69 (63 + j)).1 ≤ (ivO TV 69 j).1) && decide ((ivO TV 69 j).2 ≤ (ivO TV 69 (63 + j)).2)) && (decide ((ivO TV 69 (126 + j)).1 ≤ (ivO TV 69 j).1) && decide ((ivO TV 69 j).2 ≤ (ivO TV 69 (126 + j)).2)) && (decide (j = 41) || ((decide ((ivO TV 69 j).1 ≤ (ivO TV 69 (63 + j)).1) && decide ((ivO TV 69 (63 + j)).2 ≤ (ivO TV 69 j).2)) && (decide ((ivO TV 69 j).1 ≤ (ivO TV 69 (126 + j)).1) && decide ((ivO TV 69 (126 + j)).2 ≤ (ivO TV 69 j).2))))) = true := by decide +kernel
theorem cp_bd {m : Mm} (hI : InvT TV m) {t s : Nat} (h : ∀ j, j < 63 → (ivO TV 69 (t + j)).1 ≤ (m.1 69 (s + j)).toInt ∧ (m.1 69 (s + j)).toInt ≤ (ivO TV 69 (t + j)).2) : InvT TV (setR m 69 (cpR (m.1 69) t s 63)) := by
  refine Inv_setR hI (fun j => ?_)
  unfold cpR
  split
  · rename_i hj
    have := h (j - t) (by omega)
    rw [show t + (j - t) = j by omega] at this
    exact this
  · exact hI 69 j
theorem hd_copies0 (wS : List Value → Mm → Option Rs) (d : Nat) : Hd TV (semZ shP wS (d + 1)) h_49 := by
  intro As m g hI hR
  obtain ⟨v1, vs, rfl, k1, g⟩ := gT_cons g
  obtain ⟨v2, vs, rfl, k2, g⟩ := gT_cons g
  obtain ⟨v3, vs, rfl, k3, g⟩ := gT_cons g
  cases gT_nil g
  obtain ⟨r', rfl, hr⟩ := k1
  have hr : r' = 68 := List.mem_singleton.mp hr
  subst hr
  obtain ⟨x, rfl, x1, -⟩ := k2
  obtain ⟨y, rfl, y1, -⟩ := k3
  have ex : x.toInt = 63 := gN_1 x1 rfl
  have ey : y.toInt = 0 := gN_1 y1 rfl
  have fx := i_nI (y := x) (by omega)
  have fy := i_nI (y := y) (by omega)
  rw [ex] at fx
  rw [ey] at fy
  rw [fx, fy]
  refine ⟨_, _, t_copies wS d MP68 m 63 0 (by omega) (by omega) (by omega), trivial, cp_bd hI (fun j hj => ?_), ?_, frm_row frm_rf (fun j hj hne => row_in (a := 63) (by decide +kernel) (by unfold cpR at hne; split at hne; omega; exact absurd rfl hne) (by unfold cpR at hne; split at hne; omega; exact absurd rfl hne)), fun _ _ _ q hq => by cases hq⟩
  · have k := List.all_eq_true.mp tv_cp j (List.mem_range.mpr hj)
    simp only [Bool.and_eq_true, decide_eq_true_eq] at k
    obtain ⟨⟨k1, k2⟩, -⟩ := k
    have b := hI 69 j
    rw [Nat.zero_add]
    omega
  · have b := hI 69 41
    rw [iv_6941] at b
    have e : cel (setR m 69 (cpR (m.1 69) 63 0 63)) 13904 = (m.1 69 41).toInt := by
      rw [cel_setR, if_pos (by decide)]
      unfold cpR
      rw [if_pos (by decide)]
    refine rho_one ?_ ?_
    · show _ ≤ cel (setR m 69 (cpR (m.1 69) 63 0 63)) 13904
      rw [e]; exact b.1
    · show cel (setR m 69 (cpR (m.1 69) 63 0 63)) 13904 ≤ _
      rw [e]; exact b.2
theorem hd_copies1 (wS : List Value → Mm → Option Rs) (d : Nat) : Hd TV (semZ shP wS (d + 1)) h_50 := by
  intro As m g hI hR
  obtain ⟨v1, vs, rfl, k1, g⟩ := gT_cons g
  obtain ⟨v2, vs, rfl, k2, g⟩ := gT_cons g
  obtain ⟨v3, vs, rfl, k3, g⟩ := gT_cons g
  cases gT_nil g
  obtain ⟨r', rfl, hr⟩ := k1
  have hr : r' = 68 := List.mem_singleton.mp hr
  subst hr
  obtain ⟨x, rfl, x1, -⟩ := k2
  obtain ⟨y, rfl, y1, -⟩ := k3
  have ex : x.toInt = 126 := gN_1 x1 rfl
  have ey : y.toInt = 0 := gN_1 y1 rfl
  have fx := i_nI (y := x) (by omega)
  have fy := i_nI (y := y) (by omega)
  rw [ex] at fx
  rw [ey] at fy
  rw [fx, fy]
  refine ⟨_, _, t_copies wS d MP68 m 126 0 (by omega) (by omega) (by omega), trivial, cp_bd hI (fun j hj => ?_), ?_, frm_row frm_rf (fun j hj hne => row_in (a := 126) (by decide +kernel) (by unfold cpR at hne; split at hne; omega; exact absurd rfl hne) (by unfold cpR at hne; split at hne; omega; exact absurd rfl hne)), fun _ _ _ q hq => by cases hq⟩
  · have k := List.all_eq_true.mp tv_cp j (List.mem_range.mpr hj)
    simp only [Bool.and_eq_true, decide_eq_true_eq] at k
    obtain ⟨⟨k1, k2⟩, -⟩ := k
    have b := hI 69 j
    rw [Nat.zero_add]
    omega
  · have b := hI 69 41
    rw [iv_6941] at b
    have e : cel (setR m 69 (cpR (m.1 69) 126 0 63)) 13967 = (m.1 69 41).toInt := by
      rw [cel_setR, if_pos (by decide)]
      unfold cpR
      rw [if_pos (by decide)]
    refine rho_one ?_ ?_
    · show _ ≤ cel (setR m 69 (cpR (m.1 69) 126 0 63)) 13967
      rw [e]; exact b.1
    · show cel (setR m 69 (cpR (m.1 69) 126 0 63)) 13967 ≤ _
      rw [e]; exact b.2
theorem hd_copies2 (wS : List Value → Mm → Option Rs) (d : Nat) : Hd TV (semZ shP wS (d + 1)) h_47 := by
  intro As m g hI hR
  obtain ⟨v1, vs, rfl, k1, g⟩ := gT_cons g
  obtain ⟨v2, vs, rfl, k2, g⟩ := gT_cons g
  obtain ⟨v3, vs, rfl, k3, g⟩ := gT_cons g
  cases gT_nil g
  obtain ⟨r', rfl, hr⟩ := k1
  have hr : r' = 68 := List.mem_singleton.mp hr
  subst hr
  obtain ⟨x, rfl, x1, -⟩ := k2
  obtain ⟨y, rfl, y1, -⟩ := k3
  have ex : x.toInt = 0 := gN_1 x1 rfl
  have ey : y.toInt = 63 := gN_1 y1 rfl
  have fx := i_nI (y := x) (by omega)
  have fy := i_nI (y := y) (by omega)
  rw [ex] at fx
  rw [ey] at fy
  rw [fx, fy]
  refine ⟨_, _, t_copies wS d MP68 m 0 63 (by omega) (by omega) (by omega), trivial, cp_bd hI (fun j hj => ?_), rho_nil, frm_row frm_rf (fun j hj hne => row_in (a := 0) (by decide +kernel) (by unfold cpR at hne; split at hne; omega; exact absurd rfl hne)), fun _ _ _ q hq => by cases hq⟩
  have k := List.all_eq_true.mp tv_cp j (List.mem_range.mpr hj)
  simp only [Bool.and_eq_true, Bool.or_eq_true, decide_eq_true_eq] at k
  rw [Nat.zero_add]
  rcases k.2 with k | k
  · subst k
    have := hR (13904, 1, 9) (List.mem_singleton.mpr rfl)
    rw [iv_6941]
    exact this
  · have b := hI 69 (63 + j)
    omega
theorem hd_copies3 (wS : List Value → Mm → Option Rs) (d : Nat) : Hd TV (semZ shP wS (d + 1)) h_48 := by
  intro As m g hI hR
  obtain ⟨v1, vs, rfl, k1, g⟩ := gT_cons g
  obtain ⟨v2, vs, rfl, k2, g⟩ := gT_cons g
  obtain ⟨v3, vs, rfl, k3, g⟩ := gT_cons g
  cases gT_nil g
  obtain ⟨r', rfl, hr⟩ := k1
  have hr : r' = 68 := List.mem_singleton.mp hr
  subst hr
  obtain ⟨x, rfl, x1, -⟩ := k2
  obtain ⟨y, rfl, y1, -⟩ := k3
  have ex : x.toInt = 0 := gN_1 x1 rfl
  have ey : y.toInt = 126 := gN_1 y1 rfl
  have fx := i_nI (y := x) (by omega)
  have fy := i_nI (y := y) (by omega)
  rw [ex] at fx
  rw [ey] at fy
  rw [fx, fy]
  refine ⟨_, _, t_copies wS d MP68 m 0 126 (by omega) (by omega) (by omega), trivial, cp_bd hI (fun j hj => ?_), rho_nil, frm_row frm_rf (fun j hj hne => row_in (a := 0) (by decide +kernel) (by unfold cpR at hne; split at hne; omega; exact absurd rfl hne)), fun _ _ _ q hq => by cases hq⟩
  have k := List.all_eq_true.mp tv_cp j (List.mem_range.mpr hj)
  simp only [Bool.and_eq_true, Bool.or_eq_true, decide_eq_true_eq] at k
  rw [Nat.zero_add]
  rcases k.2 with k | k
  · subst k
    have := hR (13967, 1, 9) (List.mem_singleton.mpr rfl)
    rw [iv_6941]
    exact this
  · have b := hI 69 (126 + j)
    omega
theorem pw_v {m : Mm} (hI : InvT TV m) {w : Nat} (hw : ivO TV w 0 = (0, 4)) {v : Int32} (h : (decide (0 ≤ v) && decide (v < m.1 w 0)) = true) : 0 ≤ v.toInt ∧ v.toInt ≤ 3 := by
  simp only [Bool.and_eq_true, decide_eq_true_eq, Int32.le_iff_toInt_le, Int32.lt_iff_toInt_lt] at h
  have b := (hI w 0).2
  rw [hw] at b
  have h0 : (0 : Int32).toInt = 0 := by decide
  have b2 : (m.1 w 0).toInt ≤ 4 := b
  omega
theorem pw_b {m : Mm} (hI : InvT TV m) {w : Nat} (hw : ivO TV w 1 = (0, 6)) {v : Int32} (h : (decide (0 ≤ v) && decide (v < m.1 w 1)) = true) : 0 ≤ v.toInt ∧ v.toInt ≤ 5 := by
  simp only [Bool.and_eq_true, decide_eq_true_eq, Int32.le_iff_toInt_le, Int32.lt_iff_toInt_lt] at h
  have b := (hI w 1).2
  rw [hw] at b
  have h0 : (0 : Int32).toInt = 0 := by decide
  have b2 : (m.1 w 1).toInt ≤ 6 := b
  omega
theorem sub1_i {x : Int32} (h : 0 ≤ x.toInt) : (x - 1).toInt = x.toInt - 1 := by
  have r := r32 x
  rw [Int32.toInt_sub, show (1 : Int32).toInt = 1 from by decide]
  exact bm32 (by omega) (by omega)
theorem pm_v {m : Mm} (hI : InvT TV m) {v : Int32} (h : (decide (0 ≤ v.toInt64) && decide (v.toInt64 ≤ (m.1 68 3 - 1).toInt64)) = true) : 0 ≤ v.toInt ∧ v.toInt ≤ 3 := by
  simp only [Bool.and_eq_true, decide_eq_true_eq, Int64.le_iff_toInt_le, Int32.toInt_toInt64] at h
  have b := hI 68 3
  rw [show ivO TV 68 3 = (0, 4) from by decide +kernel] at b
  have b1 : 0 ≤ (m.1 68 3).toInt := b.1
  have b2 : (m.1 68 3).toInt ≤ 4 := b.2
  have h0 : (0 : Int64).toInt = 0 := by decide
  rw [sub1_i b1] at h
  omega
theorem pm_b {m : Mm} (hI : InvT TV m) {v : Int32} (h : (decide (0 ≤ v.toInt64) && decide (v.toInt64 ≤ (m.1 69 38 - 1).toInt64)) = true) : 0 ≤ v.toInt ∧ v.toInt ≤ 5 := by
  simp only [Bool.and_eq_true, decide_eq_true_eq, Int64.le_iff_toInt_le, Int32.toInt_toInt64] at h
  have b := hI 69 38
  rw [show ivO TV 69 38 = (0, 6) from by decide +kernel] at b
  have b1 : 0 ≤ (m.1 69 38).toInt := b.1
  have b2 : (m.1 69 38).toInt ≤ 6 := b.2
  have h0 : (0 : Int64).toInt = 0 := by decide
  rw [sub1_i b1] at h
  omega
theorem pm_n {n : Int64} {N : Int} (hn : n.toInt = N) {v : Int32} (h : (decide (0 ≤ v.toInt64) && decide (v.toInt64 ≤ n)) = true) : 0 ≤ v.toInt ∧ v.toInt ≤ N := by
  simp only [Bool.and_eq_true, decide_eq_true_eq, Int64.le_iff_toInt_le, Int32.toInt_toInt64] at h
  have h0 : (0 : Int64).toInt = 0 := by decide
  omega
theorem hd_sheet (wS : List Value → Mm → Option Rs) (d : Nat) : Hd TV (semZ shP wS (d + 2)) h_51 := by
  intro As m g hI hR
  obtain ⟨v1, vs, rfl, k1, g⟩ := gT_cons g
  obtain ⟨v2, vs, rfl, k2, g⟩ := gT_cons g
  cases gT_nil g
  obtain ⟨x, rfl, -⟩ := k1
  obtain ⟨y, rfl, -⟩ := k2
  refine ⟨_, m, t_isSheet wS d x y m, ret01 _, hI, rho_nil, frm_rf, ?_⟩
  intro y' hy h0 z hz
  cases hy
  have h1 := bI_nz h0
  rw [Bool.and_eq_true] at h1
  have a1 := pm_n (N := 3) (by decide) h1.1
  have a2 := pm_n (N := 2) (by decide) h1.2
  rcases List.mem_cons.mp hz with rfl | hz
  · exact Or.inl ⟨by first | decide | (show (0 : Nat) < 1000; decide) | (show (1 : Nat) < 1000; decide), .int x, x.toInt, rfl, rfl, a1.1, a1.2⟩
  · rw [List.mem_singleton] at hz
    subst hz
    exact Or.inl ⟨by first | decide | (show (0 : Nat) < 1000; decide) | (show (1 : Nat) < 1000; decide), .int y, y.toInt, rfl, rfl, a2.1, a2.2⟩
theorem hh_h_0 (wS : List Value → Mm → Option Rs) (d : Nat) : Hd TV (semZ shP wS (d + 5)) h_0 := hd_q1 (k := d + 5) (fun v m => t_hasVillage wS (d + 4) WP1 v m) (fun v m hI h => pw_v hI (w := 1) (by decide +kernel) h)
theorem hh_h_1 (wS : List Value → Mm → Option Rs) (d : Nat) : Hd TV (semZ shP wS (d + 5)) h_1 := hd_q1 (k := d + 5) (fun v m => t_hasVillage wS (d + 4) WP10 v m) (fun v m hI h => pw_v hI (w := 10) (by decide +kernel) h)
theorem hh_h_2 (wS : List Value → Mm → Option Rs) (d : Nat) : Hd TV (semZ shP wS (d + 5)) h_2 := hd_q1 (k := d + 5) (fun v m => t_hasBody wS (d + 4) WP1 v m) (fun v m hI h => pw_b hI (w := 1) (by decide +kernel) h)
theorem hh_h_3 (wS : List Value → Mm → Option Rs) (d : Nat) : Hd TV (semZ shP wS (d + 5)) h_3 := hd_q1 (k := d + 5) (fun v m => t_hasBody wS (d + 4) WP10 v m) (fun v m hI h => pw_b hI (w := 10) (by decide +kernel) h)
theorem hh_h_4 (wS : List Value → Mm → Option Rs) (d : Nat) : Hd TV (semZ shP wS (d + 5)) h_4 := hd_pf (d + 3)
theorem hh_h_5 (wS : List Value → Mm → Option Rs) (d : Nat) : Hd TV (semZ shP wS (d + 5)) h_5 := hd_within0 (d + 4) _ _ _ _ _ _ (by decide)
theorem hh_h_6 (wS : List Value → Mm → Option Rs) (d : Nat) : Hd TV (semZ shP wS (d + 5)) h_6 := hd_within0 (d + 4) _ _ _ _ _ _ (by decide)
theorem hh_h_7 (wS : List Value → Mm → Option Rs) (d : Nat) : Hd TV (semZ shP wS (d + 5)) h_7 := hd_within (d + 4) _ _ _ _ _ _
theorem hh_h_8 (wS : List Value → Mm → Option Rs) (d : Nat) : Hd TV (semZ shP wS (d + 5)) h_8 := hd_within (d + 4) _ _ _ _ _ _
theorem hh_h_9 (wS : List Value → Mm → Option Rs) (d : Nat) : Hd TV (semZ shP wS (d + 5)) h_9 := hd_within (d + 4) _ _ _ _ _ _
theorem hh_h_10 (wS : List Value → Mm → Option Rs) (d : Nat) : Hd TV (semZ shP wS (d + 5)) h_10 := hd_within (d + 4) _ _ _ _ _ _
theorem hh_h_11 (wS : List Value → Mm → Option Rs) (d : Nat) : Hd TV (semZ shP wS (d + 5)) h_11 := hd_within (d + 4) _ _ _ _ _ _
theorem hh_h_12 (wS : List Value → Mm → Option Rs) (d : Nat) : Hd TV (semZ shP wS (d + 5)) h_12 := hd_within (d + 4) _ _ _ _ _ _
theorem hh_h_13 (wS : List Value → Mm → Option Rs) (d : Nat) : Hd TV (semZ shP wS (d + 5)) h_13 := hd_within (d + 4) _ _ _ _ _ _
theorem hh_h_14 (wS : List Value → Mm → Option Rs) (d : Nat) : Hd TV (semZ shP wS (d + 5)) h_14 := hd_within (d + 4) _ _ _ _ _ _
theorem hh_h_15 (wS : List Value → Mm → Option Rs) (d : Nat) : Hd TV (semZ shP wS (d + 5)) h_15 := hd_within (d + 4) _ _ _ _ _ _
theorem hh_h_16 (wS : List Value → Mm → Option Rs) (d : Nat) : Hd TV (semZ shP wS (d + 5)) h_16 := hd_within (d + 4) _ _ _ _ _ _
theorem hh_h_17 (wS : List Value → Mm → Option Rs) (d : Nat) : Hd TV (semZ shP wS (d + 5)) h_17 := hd_within (d + 4) _ _ _ _ _ _
theorem hh_h_18 (wS : List Value → Mm → Option Rs) (d : Nat) : Hd TV (semZ shP wS (d + 5)) h_18 := hd_within (d + 4) _ _ _ _ _ _
theorem hh_h_19 (wS : List Value → Mm → Option Rs) (d : Nat) : Hd TV (semZ shP wS (d + 5)) h_19 := hd_within (d + 4) _ _ _ _ _ _
theorem hh_h_20 (wS : List Value → Mm → Option Rs) (d : Nat) : Hd TV (semZ shP wS (d + 5)) h_20 := hd_within (d + 4) _ _ _ _ _ _
theorem hh_h_21 (wS : List Value → Mm → Option Rs) (d : Nat) : Hd TV (semZ shP wS (d + 5)) h_21 := hd_within (d + 4) _ _ _ _ _ _
theorem hh_h_22 (wS : List Value → Mm → Option Rs) (d : Nat) : Hd TV (semZ shP wS (d + 5)) h_22 := hd_in0 (d + 4) _ _ _ _ _ _ (by decide)
theorem hh_h_23 (wS : List Value → Mm → Option Rs) (d : Nat) : Hd TV (semZ shP wS (d + 5)) h_23 := hd_in0 (d + 4) _ _ _ _ _ _ (by decide)
theorem hh_h_24 (wS : List Value → Mm → Option Rs) (d : Nat) : Hd TV (semZ shP wS (d + 5)) h_24 := hd_in0 (d + 4) _ _ _ _ _ _ (by decide)
theorem hh_h_25 (wS : List Value → Mm → Option Rs) (d : Nat) : Hd TV (semZ shP wS (d + 5)) h_25 := hd_in0 (d + 4) _ _ _ _ _ _ (by decide)
theorem hh_h_26 (wS : List Value → Mm → Option Rs) (d : Nat) : Hd TV (semZ shP wS (d + 5)) h_26 := hd_in0 (d + 4) _ _ _ _ _ _ (by decide)
theorem hh_h_27 (wS : List Value → Mm → Option Rs) (d : Nat) : Hd TV (semZ shP wS (d + 5)) h_27 := hd_in0 (d + 4) _ _ _ _ _ _ (by decide)
theorem hh_h_28 (wS : List Value → Mm → Option Rs) (d : Nat) : Hd TV (semZ shP wS (d + 5)) h_28 := hd_in (d + 4) _ _ _ _ _ _
theorem hh_h_29 (wS : List Value → Mm → Option Rs) (d : Nat) : Hd TV (semZ shP wS (d + 5)) h_29 := hd_in (d + 4) _ _ _ _ _ _
theorem hh_h_30 (wS : List Value → Mm → Option Rs) (d : Nat) : Hd TV (semZ shP wS (d + 5)) h_30 := hd_in (d + 4) _ _ _ _ _ _
theorem hh_h_31 (wS : List Value → Mm → Option Rs) (d : Nat) : Hd TV (semZ shP wS (d + 5)) h_31 := hd_in (d + 4) _ _ _ _ _ _
theorem hh_h_32 (wS : List Value → Mm → Option Rs) (d : Nat) : Hd TV (semZ shP wS (d + 5)) h_32 := hd_in (d + 4) _ _ _ _ _ _
theorem hh_h_33 (wS : List Value → Mm → Option Rs) (d : Nat) : Hd TV (semZ shP wS (d + 5)) h_33 := hd_in (d + 4) _ _ _ _ _ _
theorem hh_h_34 (wS : List Value → Mm → Option Rs) (d : Nat) : Hd TV (semZ shP wS (d + 5)) h_34 := hd_in (d + 4) _ _ _ _ _ _
theorem hh_h_35 (wS : List Value → Mm → Option Rs) (d : Nat) : Hd TV (semZ shP wS (d + 5)) h_35 := hd_in (d + 4) _ _ _ _ _ _
theorem hh_h_36 (wS : List Value → Mm → Option Rs) (d : Nat) : Hd TV (semZ shP wS (d + 5)) h_36 := hd_in (d + 4) _ _ _ _ _ _
theorem hh_h_37 (wS : List Value → Mm → Option Rs) (d : Nat) : Hd TV (semZ shP wS (d + 5)) h_37 := hd_in (d + 4) _ _ _ _ _ _
theorem hh_h_38 (wS : List Value → Mm → Option Rs) (d : Nat) : Hd TV (semZ shP wS (d + 5)) h_38 := hd_in (d + 4) _ _ _ _ _ _
theorem hh_h_39 (wS : List Value → Mm → Option Rs) (d : Nat) : Hd TV (semZ shP wS (d + 5)) h_39 := hd_in (d + 4) _ _ _ _ _ _
theorem hh_h_40 (wS : List Value → Mm → Option Rs) (d : Nat) : Hd TV (semZ shP wS (d + 5)) h_40 := hd_in (d + 4) _ _ _ _ _ _
theorem hh_h_41 (wS : List Value → Mm → Option Rs) (d : Nat) : Hd TV (semZ shP wS (d + 5)) h_41 := hd_q1 (k := d + 5) (fun v m => t_isVillage wS (d + 3) MP68 v m) (fun v m hI h => pm_v hI h)
theorem hh_h_42 (wS : List Value → Mm → Option Rs) (d : Nat) : Hd TV (semZ shP wS (d + 5)) h_42 := hd_q1 (k := d + 5) (fun v m => t_isBody wS (d + 3) MP68 v m) (fun v m hI h => pm_b hI h)
theorem hh_h_43 (wS : List Value → Mm → Option Rs) (d : Nat) : Hd TV (semZ shP wS (d + 5)) h_43 := hd_q0 (k := d + 5) (fun v m => t_isPart wS (d + 3) v m) (fun v m _ h => pm_n (n := 1) (by decide) h)
theorem hh_h_44 (wS : List Value → Mm → Option Rs) (d : Nat) : Hd TV (semZ shP wS (d + 5)) h_44 := hd_starts wS (d + 4)
theorem hh_h_45 (wS : List Value → Mm → Option Rs) (d : Nat) : Hd TV (semZ shP wS (d + 5)) h_45 := hd_settles wS (d + 4)
theorem hh_h_46 (wS : List Value → Mm → Option Rs) (d : Nat) : Hd TV (semZ shP wS (d + 5)) h_46 := hd_q0 (k := d + 5) (fun v m => t_isJudged wS (d + 3) v m) (fun v m _ h => pm_n (n := 20) (by decide) h)
theorem hh_h_47 (wS : List Value → Mm → Option Rs) (d : Nat) : Hd TV (semZ shP wS (d + 5)) h_47 := hd_copies2 wS (d + 4)
theorem hh_h_48 (wS : List Value → Mm → Option Rs) (d : Nat) : Hd TV (semZ shP wS (d + 5)) h_48 := hd_copies3 wS (d + 4)
theorem hh_h_49 (wS : List Value → Mm → Option Rs) (d : Nat) : Hd TV (semZ shP wS (d + 5)) h_49 := hd_copies0 wS (d + 4)
theorem hh_h_50 (wS : List Value → Mm → Option Rs) (d : Nat) : Hd TV (semZ shP wS (d + 5)) h_50 := hd_copies1 wS (d + 4)
theorem hh_h_51 (wS : List Value → Mm → Option Rs) (d : Nat) : Hd TV (semZ shP wS (d + 5)) h_51 := hd_sheet wS (d + 3)
theorem hall_0 (wS : List Value → Mm → Option Rs) : Hall TV wS 5 t_0 := by
  intro d c hc
  unfold t_0 at hc
  rcases List.mem_cons.mp hc with rfl | hc
  · exact hh_h_0 wS d
  rcases List.mem_cons.mp hc with rfl | hc
  · exact hh_h_1 wS d
  rcases List.mem_cons.mp hc with rfl | hc
  · exact hh_h_2 wS d
  rcases List.mem_cons.mp hc with rfl | hc
  · exact hh_h_3 wS d
  rcases List.mem_cons.mp hc with rfl | hc
  · exact hh_h_4 wS d
  rcases List.mem_cons.mp hc with rfl | hc
  · exact hh_h_5 wS d
  rcases List.mem_cons.mp hc with rfl | hc
  · exact hh_h_6 wS d
  rcases List.mem_cons.mp hc with rfl | hc
  · exact hh_h_7 wS d
  rcases List.mem_cons.mp hc with rfl | hc
  · exact hh_h_8 wS d
  rcases List.mem_cons.mp hc with rfl | hc
  · exact hh_h_9 wS d
  rcases List.mem_cons.mp hc with rfl | hc
  · exact hh_h_10 wS d
  rcases List.mem_cons.mp hc with rfl | hc
  · exact hh_h_11 wS d
  rcases List.mem_cons.mp hc with rfl | hc
  · exact hh_h_12 wS d
  rcases List.mem_cons.mp hc with rfl | hc
  · exact hh_h_13 wS d
  rcases List.mem_cons.mp hc with rfl | hc
  · exact hh_h_14 wS d
  rcases List.mem_cons.mp hc with rfl | hc
  · exact hh_h_15 wS d
  rcases List.mem_cons.mp hc with rfl | hc
  · exact hh_h_16 wS d
  rcases List.mem_cons.mp hc with rfl | hc
  · exact hh_h_17 wS d
  rcases List.mem_cons.mp hc with rfl | hc
  · exact hh_h_18 wS d
  rcases List.mem_cons.mp hc with rfl | hc
  · exact hh_h_19 wS d
  rcases List.mem_cons.mp hc with rfl | hc
  · exact hh_h_20 wS d
  rcases List.mem_cons.mp hc with rfl | hc
  · exact hh_h_21 wS d
  rcases List.mem_cons.mp hc with rfl | hc
  · exact hh_h_22 wS d
  rcases List.mem_cons.mp hc with rfl | hc
  · exact hh_h_23 wS d
  rcases List.mem_cons.mp hc with rfl | hc
  · exact hh_h_24 wS d
  rcases List.mem_cons.mp hc with rfl | hc
  · exact hh_h_25 wS d
  rcases List.mem_cons.mp hc with rfl | hc
  · exact hh_h_26 wS d
  rcases List.mem_cons.mp hc with rfl | hc
  · exact hh_h_27 wS d
  rcases List.mem_cons.mp hc with rfl | hc
  · exact hh_h_28 wS d
  rcases List.mem_cons.mp hc with rfl | hc
  · exact hh_h_29 wS d
  rcases List.mem_cons.mp hc with rfl | hc
  · exact hh_h_30 wS d
  rcases List.mem_cons.mp hc with rfl | hc
  · exact hh_h_31 wS d
  rcases List.mem_cons.mp hc with rfl | hc
  · exact hh_h_32 wS d
  rcases List.mem_cons.mp hc with rfl | hc
  · exact hh_h_33 wS d
  rcases List.mem_cons.mp hc with rfl | hc
  · exact hh_h_34 wS d
  rcases List.mem_cons.mp hc with rfl | hc
  · exact hh_h_35 wS d
  rcases List.mem_cons.mp hc with rfl | hc
  · exact hh_h_36 wS d
  rcases List.mem_cons.mp hc with rfl | hc
  · exact hh_h_37 wS d
  rcases List.mem_cons.mp hc with rfl | hc
  · exact hh_h_38 wS d
  rcases List.mem_cons.mp hc with rfl | hc
  · exact hh_h_39 wS d
  rcases List.mem_cons.mp hc with rfl | hc
  · exact hh_h_40 wS d
  rcases List.mem_cons.mp hc with rfl | hc
  · exact hh_h_41 wS d
  rcases List.mem_cons.mp hc with rfl | hc
  · exact hh_h_42 wS d
  rcases List.mem_cons.mp hc with rfl | hc
  · exact hh_h_43 wS d
  rcases List.mem_cons.mp hc with rfl | hc
  · exact hh_h_44 wS d
  rcases List.mem_cons.mp hc with rfl | hc
  · exact hh_h_45 wS d
  rcases List.mem_cons.mp hc with rfl | hc
  · exact hh_h_46 wS d
  rcases List.mem_cons.mp hc with rfl | hc
  · exact hh_h_47 wS d
  rcases List.mem_cons.mp hc with rfl | hc
  · exact hh_h_48 wS d
  rcases List.mem_cons.mp hc with rfl | hc
  · exact hh_h_49 wS d
  rcases List.mem_cons.mp hc with rfl | hc
  · exact hh_h_50 wS d
  rcases List.mem_cons.mp hc with rfl | hc
  · exact hh_h_51 wS d
  cases hc
theorem hall_1 (wS : List Value → Mm → Option Rs) : Hall TV wS 6 t_1 := h_up1 (hall_0 wS)
theorem hall_2 (wS : List Value → Mm → Option Rs) : Hall TV wS 7 t_2 := h_up2 (hall_1 wS)
theorem hall_3 (wS : List Value → Mm → Option Rs) : Hall TV wS 8 t_3 := h_up3 (hall_2 wS)
theorem hall_4 (wS : List Value → Mm → Option Rs) : Hall TV wS 9 t_4 := h_up4 (hall_3 wS)
theorem hall_5 (wS : List Value → Mm → Option Rs) : Hall TV wS 10 t_5 := h_up5 (hall_4 wS)
theorem hall_6 (wS : List Value → Mm → Option Rs) : Hall TV wS 11 t_6 := h_up6 (hall_5 wS)
theorem hall_7 (wS : List Value → Mm → Option Rs) : Hall TV wS 12 t_7 := h_up7 (hall_6 wS)
theorem hall_8 (wS : List Value → Mm → Option Rs) : Hall TV wS 13 t_8 := h_up8 (hall_7 wS)
end
section
/-! more contracts by hand: written by wip/gen/contracts2.py -/
def h2_0 : CE := (1, [rF [60, 62, 64, 66], some (.inr (.inr (40, 2147483647, 0)))], [], iA 1 2, [], ([], []), []) -- X1_faultAt
def h2_1 : CE := (1, [rF [60, 62, 64, 66], some (.inr (.inr ((-2147483648), (-1), 0)))], [], iA 1 2, [], ([], []), []) -- X1_faultAt
def h2_2 : CE := (52, [rF [0], cst 0, tI], [], iA 0 1, [], ([], []), [(2, 0, 3)]) -- X6_mayBecome
def h2_3 : CE := (52, [rF [0], cst 1, tI], [], iA 0 1, [], ([], []), [(2, 0, 3)]) -- X6_mayBecome
def h2_4 : CE := (52, [rF [0], iA 2 3, tI], [], iA 0 1, [], ([], []), []) -- X6_mayBecome
def h2_5 : CE := (99, [iA 4 2147483647, iA 0 0, iA 3 3], [], cst 0, [], ([], []), []) -- X6_within
def h2_6 : CE := (99, [iA (-2147483648) (-1), iA 0 0, iA 3 3], [], cst 0, [], ([], []), []) -- X6_within
def h2_7 : CE := (101, [some (.inr (.inr (4, 2147483647, 0))), some (.inr (.inr (2, 2, 0))), some (.inr (.inr (3, 3, 0)))], [], cst 0, [], ([], []), []) -- X7_in
def h2_8 : CE := (101, [some (.inr (.inr ((-2147483648), (-1), 0))), some (.inr (.inr (2, 2, 0))), some (.inr (.inr (3, 3, 0)))], [], cst 0, [], ([], []), []) -- X7_in
def h2_9 : CE := (101, [tJ, some (.inr (.inr (0, 0, 0))), some (.inr (.inr (20, 20, 0)))], [], iA 0 1, [], ([], []), [(0, 0, 20)]) -- X7_in
def h2_10 : CE := (101, [tJ, some (.inr (.inr (0, 0, 0))), some (.inr (.inr (60, 60, 0)))], [], iA 0 1, [], ([], []), [(0, 0, 60)]) -- X7_in
def h2_11 : CE := (101, [tJ, some (.inr (.inr (1, 1, 0))), some (.inr (.inr (9, 9, 0)))], [], iA 0 1, [], ([], []), [(0, 1, 9)]) -- X7_in
def h2_12 : CE := (101, [tJ, some (.inr (.inr (2, 2, 0))), some (.inr (.inr (3, 3, 0)))], [], iA 0 1, [], ([], []), [(0, 2, 3)]) -- X7_in
def h2_13 : CE := (126, [rF [68], iA 0 5, iA 2 3, tI], [(14041, 1, 9)], none, [(14041, 1, 9)], ([70], []), []) -- X7_becomesOf
def t_9 : List CE := [h2_0, h2_1, h2_2, h2_3, h2_4, h2_5, h2_6, h2_7, h2_8, h2_9, h2_10, h2_11, h2_12, h2_13] ++ t_8
end
section
/-! BY HAND: more contracts -/
section H3
variable {sh : List ShE} {w : Nat} (wS : List Value → Mm → Option Rs) (d : Nat)
theorem t_faultAt (hw : HSh sh w) (i : Int64) (m : Mm) : semZ sh wS (d + 1) 1 [.ref w, .long i] m = some (some (.int (if m.1 w 0 = 0 then 1 else if i < 0 then 2 else if i < (m.1 w 1).toInt64 then 0 else 2)), m) := by
  rw [se_X1_faultAt, rn_eq, b_X1_faultAt_0]
  by_cases h0 : m.1 w 0 = 0
  · simp only [EV, LV, CB, OI, OL, NP, CZ, popN, CT, OZ, List.map_nil, List.map_cons, List.sum_nil, List.sum_cons, Option.toList, List.nil_append, List.cons_append, Int.reduceToNat, Nat.reduceAdd, Nat.reduceLT, Nat.reduceLeDiff, List.length_cons, List.length_nil, Nat.zero_add, if_true, if_false, reduceIte, and_self, and_true, true_and, eq_self, reduceCtorEq, gH hw, h0, not_true_eq_false]
  · simp only [EV, LV, CB, OI, OL, NP, CZ, popN, CT, OZ, List.map_nil, List.map_cons, List.sum_nil, List.sum_cons, Option.toList, List.nil_append, List.cons_append, Int.reduceToNat, Nat.reduceAdd, Nat.reduceLT, Nat.reduceLeDiff, List.length_cons, List.length_nil, Nat.zero_add, if_true, if_false, reduceIte, and_self, and_true, true_and, eq_self, reduceCtorEq, gH hw, h0, not_false_eq_true]
    rw [rn_eq, b_X1_faultAt_9]
    by_cases h1 : i < 0
    · simp only [EV, LV, CB, OI, OL, NP, CZ, popN, CT, OZ, List.map_nil, List.map_cons, List.sum_nil, List.sum_cons, Option.toList, List.nil_append, List.cons_append, Int.reduceToNat, Nat.reduceAdd, Nat.reduceLT, Nat.reduceLeDiff, List.length_cons, List.length_nil, Nat.zero_add, if_true, if_false, reduceIte, and_self, and_true, true_and, eq_self, reduceCtorEq, gH hw, lc_lt, h1]
      rw [rn_eq, b_X1_faultAt_25]
      simp only [EV, LV, CB, OI, OL, NP, CZ, popN, CT, OZ, List.map_nil, List.map_cons, List.sum_nil, List.sum_cons, Option.toList, List.nil_append, List.cons_append, Int.reduceToNat, Nat.reduceAdd, Nat.reduceLT, Nat.reduceLeDiff, List.length_cons, List.length_nil, Nat.zero_add, if_true, if_false, reduceIte, and_self, and_true, true_and, eq_self, reduceCtorEq]
      rw [rn_eq, b_X1_faultAt_30]
      simp only [EV, LV, CB, OI, OL, NP, CZ, popN, CT, OZ, List.map_nil, List.map_cons, List.sum_nil, List.sum_cons, Option.toList, List.nil_append, List.cons_append, Int.reduceToNat, Nat.reduceAdd, Nat.reduceLT, Nat.reduceLeDiff, List.length_cons, List.length_nil, Nat.zero_add, if_true, if_false, reduceIte, and_self, and_true, true_and, eq_self, reduceCtorEq]
    · by_cases h2 : i < (m.1 w 1).toInt64
      · simp only [EV, LV, CB, OI, OL, NP, CZ, popN, CT, OZ, List.map_nil, List.map_cons, List.sum_nil, List.sum_cons, Option.toList, List.nil_append, List.cons_append, Int.reduceToNat, Nat.reduceAdd, Nat.reduceLT, Nat.reduceLeDiff, List.length_cons, List.length_nil, Nat.zero_add, if_true, if_false, reduceIte, and_self, and_true, true_and, eq_self, reduceCtorEq, gH hw, lc_lt, h1, h2]
        rw [rn_eq, b_X1_faultAt_29]
        simp only [EV, LV, CB, OI, OL, NP, CZ, popN, CT, OZ, List.map_nil, List.map_cons, List.sum_nil, List.sum_cons, Option.toList, List.nil_append, List.cons_append, Int.reduceToNat, Nat.reduceAdd, Nat.reduceLT, Nat.reduceLeDiff, List.length_cons, List.length_nil, Nat.zero_add, if_true, if_false, reduceIte, and_self, and_true, true_and, eq_self, reduceCtorEq]
      · simp only [EV, LV, CB, OI, OL, NP, CZ, popN, CT, OZ, List.map_nil, List.map_cons, List.sum_nil, List.sum_cons, Option.toList, List.nil_append, List.cons_append, Int.reduceToNat, Nat.reduceAdd, Nat.reduceLT, Nat.reduceLeDiff, List.length_cons, List.length_nil, Nat.zero_add, if_true, if_false, reduceIte, and_self, and_true, true_and, eq_self, reduceCtorEq, gH hw, lc_lt, h1, h2]
        rw [rn_eq, b_X1_faultAt_30]
        simp only [EV, LV, CB, OI, OL, NP, CZ, popN, CT, OZ, List.map_nil, List.map_cons, List.sum_nil, List.sum_cons, Option.toList, List.nil_append, List.cons_append, Int.reduceToNat, Nat.reduceAdd, Nat.reduceLT, Nat.reduceLeDiff, List.length_cons, List.length_nil, Nat.zero_add, if_true, if_false, reduceIte, and_self, and_true, true_and, eq_self, reduceCtorEq]
theorem ix_85 : ∀ B, B < 6 → ∀ K, K < 5 → (8 : Int32) + 5 * nI B + nI K = nI (8 + 5 * B + K) := by decide +kernel
theorem t_becomesOf (hw : MSh sh w) {B K : Nat} (hB : B < 6) (hK : K < 5) (v : Int32) (m : Mm) : semZ sh wS (d + 1) 126 [.ref w, .int (nI B), .int (nI K), .int v] m = some (none, setR m (w + 2) (upd (m.1 (w + 2)) (8 + 5 * B + K) v)) := by
  rw [se_X7_becomesOf, rn_eq, b_X7_becomesOf_0]
  have e := ix_85 B hB K hK
  have e2 : inR (nI (8 + 5 * B + K)) 63 = true := inR_nI (by omega) (by omega)
  have e3 : (nI (8 + 5 * B + K)).toNatClampNeg = 8 + 5 * B + K := nI_clamp (by omega)
  simp only [EV, LV, CB, OI, OL, NP, CZ, popN, CT, OZ, List.map_nil, List.map_cons, List.sum_nil, List.sum_cons, Option.toList, List.nil_append, List.cons_append, Int.reduceToNat, Nat.reduceAdd, Nat.reduceLT, Nat.reduceLeDiff, List.length_cons, List.length_nil, Nat.zero_add, if_true, if_false, reduceIte, and_self, and_true, true_and, eq_self, reduceCtorEq, gM hw, sM hw, e, e2, e3, wI_R]
end H3
theorem gP0 : clO shP 0 = some 6 ∧ (∀ m : Mm, gfI shP 600 0 m = some (.ref 1) ∧ gfI shP 601 0 m = some (.ref 10) ∧ gfI shP 602 0 m = some (.ref 19) ∧ gfI shP 603 0 m = some (.ref 23) ∧ gfI shP 604 0 m = some (.ref 27) ∧ gfI shP 605 0 m = some (.ref 28) ∧ gfI shP 606 0 m = some (.ref 29) ∧ gfI shP 607 0 m = some (.ref 30) ∧ gfI shP 608 0 m = some (.ref 31) ∧ gfI shP 609 0 m = some (.int (m.1 0 9))) := ⟨rfl, fun _ => ⟨rfl, rfl, rfl, rfl, rfl, rfl, rfl, rfl, rfl, rfl⟩⟩
theorem hs_of {w : Nat} (h : w ∈ ([60, 62, 64, 66] : List Nat)) : HSh shP w := by
  simp only [List.mem_cons, List.not_mem_nil, or_false] at h
  rcases h with rfl | rfl | rfl | rfl
  · exact HP60
  · exact HP62
  · exact HP64
  · exact HP66
theorem iv_sz {w : Nat} (h : w ∈ ([60, 62, 64, 66] : List Nat)) : ivO TV w 0 = (0, 1) ∧ ivO TV w 1 = (0, 40) := by
  simp only [List.mem_cons, List.not_mem_nil, or_false] at h
  rcases h with rfl | rfl | rfl | rfl <;> exact ⟨by decide +kernel, by decide +kernel⟩
theorem ret_i {lo hi : Int} {x : Int32} (h1 : lo ≤ x.toInt) (h2 : x.toInt ≤ hi) : retG (iA lo hi) (some (.int x)) := ⟨x, rfl, gN_i h1 h2, Or.inl rfl, Or.inl rfl, fun _ q hq => by cases hq⟩
theorem hd_faultAt (wS : List Value → Mm → Option Rs) (d : Nat) (lo hi : Int) (h : hi < 0 ∨ 40 ≤ lo) : Hd TV (semZ shP wS (d + 1)) (1, [rF [60, 62, 64, 66], some (.inr (.inr (lo, hi, 0)))], [], iA 1 2, [], ([], []), []) := by
  intro As m g hI hR
  obtain ⟨v1, vs, rfl, k1, g⟩ := gT_cons g
  obtain ⟨v2, vs, rfl, k2, g⟩ := gT_cons g
  cases gT_nil g
  obtain ⟨w, rfl, hr⟩ := k1
  have hr : w ∈ ([60, 62, 64, 66] : List Nat) := hr
  obtain ⟨i, rfl, i1, i2, -⟩ := k2
  refine ⟨_, m, t_faultAt wS d (hs_of hr) i m, ?_, hI, rho_nil, frm_rf, fun _ _ _ q hq => by cases hq⟩
  have b := hI w 1
  rw [(iv_sz hr).2] at b
  have b2 : (m.1 w 1).toInt ≤ 40 := b.2
  by_cases h0 : m.1 w 0 = 0
  · rw [if_pos h0]
    exact ret_i (by decide) (by decide)
  · rw [if_neg h0]
    by_cases h1 : i < 0
    · rw [if_pos h1]
      exact ret_i (by decide) (by decide)
    · rw [if_neg h1]
      have h2 : ¬ i < (m.1 w 1).toInt64 := by
        rw [Int64.lt_iff_toInt_lt] at h1 ⊢
        rw [Int32.toInt_toInt64]
        have h0 : (0 : Int64).toInt = 0 := by decide
        omega
      rw [if_neg h2]
      exact ret_i (by decide) (by decide)
theorem sw_mb : swL 44 ([(0, 28), (1, 35)] : List (Int × Int)) 0 = 28 ∧ swL 44 ([(0, 28), (1, 35)] : List (Int × Int)) 1 = 35 ∧ swL 44 ([(0, 28), (1, 35)] : List (Int × Int)) 2 = 44 ∧ swL 44 ([(0, 28), (1, 35)] : List (Int × Int)) 3 = 44 := by decide +kernel
theorem t_mb0 (wS : List Value → Mm → Option Rs) (d : Nat) (v : Int32) (m : Mm) : semZ shP wS (d + 2) 52 [.ref 0, .int 0, .int v] m = some (some (.int (bI (decide (0 ≤ v) && decide (v ≤ 3)))), m) := by
  rw [se_X6_mayBecome, rn_eq, b_X6_mayBecome_0]
  simp only [EV, LV, CB, OI, OL, NP, CZ, popN, CT, OZ, List.map_nil, List.map_cons, List.sum_nil, List.sum_cons, Option.toList, List.nil_append, List.cons_append, Int.reduceToNat, Nat.reduceAdd, Nat.reduceLT, Nat.reduceLeDiff, List.length_cons, List.length_nil, Nat.zero_add, if_true, if_false, reduceIte, and_self, and_true, true_and, eq_self, reduceCtorEq, sw_mb]
  rw [rn_eq, b_X6_mayBecome_28]
  simp only [EV, LV, CB, OI, OL, NP, CZ, popN, CT, OZ, List.map_nil, List.map_cons, List.sum_nil, List.sum_cons, Option.toList, List.nil_append, List.cons_append, Int.reduceToNat, Nat.reduceAdd, Nat.reduceLT, Nat.reduceLeDiff, List.length_cons, List.length_nil, Nat.zero_add, if_true, if_false, reduceIte, and_self, and_true, true_and, eq_self, reduceCtorEq, t_within wS d, okb]
theorem t_mb1 (wS : List Value → Mm → Option Rs) (d : Nat) (v : Int32) (m : Mm) : semZ shP wS (d + 2) 52 [.ref 0, .int 1, .int v] m = some (some (.int (bI (decide (0 ≤ v) && decide (v < m.1 1 0)))), m) := by
  rw [se_X6_mayBecome, rn_eq, b_X6_mayBecome_0]
  simp only [EV, LV, CB, OI, OL, NP, CZ, popN, CT, OZ, List.map_nil, List.map_cons, List.sum_nil, List.sum_cons, Option.toList, List.nil_append, List.cons_append, Int.reduceToNat, Nat.reduceAdd, Nat.reduceLT, Nat.reduceLeDiff, List.length_cons, List.length_nil, Nat.zero_add, if_true, if_false, reduceIte, and_self, and_true, true_and, eq_self, reduceCtorEq, sw_mb]
  rw [rn_eq, b_X6_mayBecome_35]
  simp only [EV, LV, CB, OI, OL, NP, CZ, popN, CT, OZ, List.map_nil, List.map_cons, List.sum_nil, List.sum_cons, Option.toList, List.nil_append, List.cons_append, Int.reduceToNat, Nat.reduceAdd, Nat.reduceLT, Nat.reduceLeDiff, List.length_cons, List.length_nil, Nat.zero_add, if_true, if_false, reduceIte, and_self, and_true, true_and, eq_self, reduceCtorEq, gP0, gW WP1, t_hasVillage wS d WP1, okb]
theorem t_mb2 (wS : List Value → Mm → Option Rs) (d : Nat) (k v : Int32) (hk : k = 2 ∨ k = 3) (m : Mm) : semZ shP wS (d + 2) 52 [.ref 0, .int k, .int v] m = some (some (.int (bI (decide (0 ≤ v) && decide (v ≤ 9)))), m) := by
  rw [se_X6_mayBecome, rn_eq, b_X6_mayBecome_0]
  rcases hk with rfl | rfl
  · simp only [EV, LV, CB, OI, OL, NP, CZ, popN, CT, OZ, List.map_nil, List.map_cons, List.sum_nil, List.sum_cons, Option.toList, List.nil_append, List.cons_append, Int.reduceToNat, Nat.reduceAdd, Nat.reduceLT, Nat.reduceLeDiff, List.length_cons, List.length_nil, Nat.zero_add, if_true, if_false, reduceIte, and_self, and_true, true_and, eq_self, reduceCtorEq, sw_mb]
    rw [rn_eq, b_X6_mayBecome_44]
    simp only [EV, LV, CB, OI, OL, NP, CZ, popN, CT, OZ, List.map_nil, List.map_cons, List.sum_nil, List.sum_cons, Option.toList, List.nil_append, List.cons_append, Int.reduceToNat, Nat.reduceAdd, Nat.reduceLT, Nat.reduceLeDiff, List.length_cons, List.length_nil, Nat.zero_add, if_true, if_false, reduceIte, and_self, and_true, true_and, eq_self, reduceCtorEq, t_within wS d, okb]
  · simp only [EV, LV, CB, OI, OL, NP, CZ, popN, CT, OZ, List.map_nil, List.map_cons, List.sum_nil, List.sum_cons, Option.toList, List.nil_append, List.cons_append, Int.reduceToNat, Nat.reduceAdd, Nat.reduceLT, Nat.reduceLeDiff, List.length_cons, List.length_nil, Nat.zero_add, if_true, if_false, reduceIte, and_self, and_true, true_and, eq_self, reduceCtorEq, sw_mb]
    rw [rn_eq, b_X6_mayBecome_44]
    simp only [EV, LV, CB, OI, OL, NP, CZ, popN, CT, OZ, List.map_nil, List.map_cons, List.sum_nil, List.sum_cons, Option.toList, List.nil_append, List.cons_append, Int.reduceToNat, Nat.reduceAdd, Nat.reduceLT, Nat.reduceLeDiff, List.length_cons, List.length_nil, Nat.zero_add, if_true, if_false, reduceIte, and_self, and_true, true_and, eq_self, reduceCtorEq, t_within wS d, okb]
theorem i_cst {n : Int} {x : Int32} (y : Int32) (h : gN (n, n, 0) none x.toInt) (hy : y.toInt = n) : x = y := Int32.toInt_inj.mp (by
  have := gN_1 h rfl
  rw [hy]
  exact this)
theorem hd_mb0 (wS : List Value → Mm → Option Rs) (d : Nat) : Hd TV (semZ shP wS (d + 2)) h2_2 := by
  intro As m g hI hR
  obtain ⟨v1, vs, rfl, k1, g⟩ := gT_cons g
  obtain ⟨v2, vs, rfl, k2, g⟩ := gT_cons g
  obtain ⟨v3, vs, rfl, k3, g⟩ := gT_cons g
  cases gT_nil g
  obtain ⟨r', rfl, hr⟩ := k1
  have hr : r' = 0 := List.mem_singleton.mp hr
  subst hr
  obtain ⟨x, rfl, x1, -⟩ := k2
  obtain ⟨v, rfl, -⟩ := k3
  have ex := i_cst 0 x1 (by decide)
  subst ex
  refine ⟨_, m, t_mb0 wS d v m, ret01 _, hI, rho_nil, frm_rf, ?_⟩
  intro y hy h0 z hz
  cases hy
  have hz : z = (2, 0, 3) := List.mem_singleton.mp hz
  subst hz
  have h1 := bI_nz h0
  simp only [Bool.and_eq_true, decide_eq_true_eq, Int32.le_iff_toInt_le] at h1
  exact Or.inl ⟨by first | decide | (show (0 : Nat) < 1000; decide) | (show (1 : Nat) < 1000; decide), .int v, v.toInt, rfl, rfl, h1.1, h1.2⟩
theorem hd_mb1 (wS : List Value → Mm → Option Rs) (d : Nat) : Hd TV (semZ shP wS (d + 2)) h2_3 := by
  intro As m g hI hR
  obtain ⟨v1, vs, rfl, k1, g⟩ := gT_cons g
  obtain ⟨v2, vs, rfl, k2, g⟩ := gT_cons g
  obtain ⟨v3, vs, rfl, k3, g⟩ := gT_cons g
  cases gT_nil g
  obtain ⟨r', rfl, hr⟩ := k1
  have hr : r' = 0 := List.mem_singleton.mp hr
  subst hr
  obtain ⟨x, rfl, x1, -⟩ := k2
  obtain ⟨v, rfl, -⟩ := k3
  have ex := i_cst 1 x1 (by decide)
  subst ex
  refine ⟨_, m, t_mb1 wS d v m, ret01 _, hI, rho_nil, frm_rf, ?_⟩
  intro y hy h0 z hz
  cases hy
  have hz : z = (2, 0, 3) := List.mem_singleton.mp hz
  subst hz
  have h1 := pw_v hI (w := 1) (by decide +kernel) (bI_nz h0)
  exact Or.inl ⟨by first | decide | (show (0 : Nat) < 1000; decide) | (show (1 : Nat) < 1000; decide), .int v, v.toInt, rfl, rfl, h1.1, h1.2⟩
theorem hd_mb2 (wS : List Value → Mm → Option Rs) (d : Nat) : Hd TV (semZ shP wS (d + 2)) h2_4 := by
  intro As m g hI hR
  obtain ⟨v1, vs, rfl, k1, g⟩ := gT_cons g
  obtain ⟨v2, vs, rfl, k2, g⟩ := gT_cons g
  obtain ⟨v3, vs, rfl, k3, g⟩ := gT_cons g
  cases gT_nil g
  obtain ⟨r', rfl, hr⟩ := k1
  have hr : r' = 0 := List.mem_singleton.mp hr
  subst hr
  obtain ⟨x, rfl, x1, -⟩ := k2
  obtain ⟨v, rfl, -⟩ := k3
  have X := gN_hul x1
  have X1 : 2 ≤ x.toInt := X.1
  have X2 : x.toInt ≤ 3 := X.2.1
  have hx : x = 2 ∨ x = 3 := by
    by_cases h : x.toInt = 2
    · exact Or.inl (Int32.toInt_inj.mp (by rw [h]; decide))
    · exact Or.inr (Int32.toInt_inj.mp (by have e : x.toInt = 3 := by omega
                                           rw [e]; decide))
  exact ⟨_, m, t_mb2 wS d x v hx m, ret01 _, hI, rho_nil, frm_rf, fun _ _ _ q hq => by cases hq⟩
theorem iv_fm : ∀ B, B < 6 → ∀ K, K < 4 → 2 ≤ K → ivO TV 70 (8 + 5 * B + K) = (-2147483648, 2147483647) := by decide +kernel
theorem hd_bo (wS : List Value → Mm → Option Rs) (d : Nat) : Hd TV (semZ shP wS (d + 1)) h2_13 := by
  intro As m g hI hR
  obtain ⟨v1, vs, rfl, k1, g⟩ := gT_cons g
  obtain ⟨v2, vs, rfl, k2, g⟩ := gT_cons g
  obtain ⟨v3, vs, rfl, k3, g⟩ := gT_cons g
  obtain ⟨v4, vs, rfl, k4, g⟩ := gT_cons g
  cases gT_nil g
  obtain ⟨r', rfl, hr⟩ := k1
  have hr : r' = 68 := List.mem_singleton.mp hr
  subst hr
  obtain ⟨b, rfl, b1, -⟩ := k2
  obtain ⟨k, rfl, k1, -⟩ := k3
  obtain ⟨v, rfl, -⟩ := k4
  have X := gN_hul b1
  have X1 : 0 ≤ b.toInt := X.1
  have X2 : b.toInt ≤ 5 := X.2.1
  have Y := gN_hul k1
  have Y1 : 2 ≤ k.toInt := Y.1
  have Y2 : k.toInt ≤ 3 := Y.2.1
  have eb := i_nI (y := b) X1
  have ek := i_nI (y := k) (by omega)
  have hB : b.toInt.toNat < 6 := by omega
  have hK : k.toInt.toNat < 4 := by omega
  have hK2 : 2 ≤ k.toInt.toNat := by omega
  rw [eb, ek]
  generalize b.toInt.toNat = Bn at hB ⊢
  generalize k.toInt.toNat = Kn at hK hK2 ⊢
  refine ⟨_, _, t_becomesOf wS d MP68 hB (by omega) v m, trivial, Inv_setR hI (fun j => ?_), ?_, frm_setR frm_rf (by decide), fun _ _ _ q hq => by cases hq⟩
  · unfold upd
    split
    · rename_i hj
      rw [hj]
      show (ivO TV 70 (8 + 5 * Bn + Kn)).1 ≤ _ ∧ _ ≤ (ivO TV 70 (8 + 5 * Bn + Kn)).2
      rw [iv_fm Bn hB Kn hK hK2]
      exact r32 v
    · exact hI 70 j
  · have h41 := hR (14041, 1, 9) (List.mem_singleton.mpr rfl)
    have e : cel (setR m (68 + 2) (upd (m.1 (68 + 2)) (8 + 5 * Bn + Kn) v)) 14041 = cel m 14041 := by
      rw [cel_setR, if_pos (by decide)]
      unfold upd
      rw [if_neg (by omega)]
      rfl
    refine rho_one ?_ ?_
    · rw [e]; exact h41.1
    · rw [e]; exact h41.2
theorem hall_9 (wS : List Value → Mm → Option Rs) : Hall TV wS 14 t_9 := by
  intro d c hc
  unfold t_9 at hc
  rcases List.mem_append.mp hc with hc | hc
  · rcases List.mem_cons.mp hc with rfl | hc
    · exact hd_faultAt wS (d + 13) _ _ (by decide)
    rcases List.mem_cons.mp hc with rfl | hc
    · exact hd_faultAt wS (d + 13) _ _ (by decide)
    rcases List.mem_cons.mp hc with rfl | hc
    · exact hd_mb0 wS (d + 12)
    rcases List.mem_cons.mp hc with rfl | hc
    · exact hd_mb1 wS (d + 12)
    rcases List.mem_cons.mp hc with rfl | hc
    · exact hd_mb2 wS (d + 12)
    rcases List.mem_cons.mp hc with rfl | hc
    · exact hd_within0 (d + 13) _ _ _ _ _ _ (by decide)
    rcases List.mem_cons.mp hc with rfl | hc
    · exact hd_within0 (d + 13) _ _ _ _ _ _ (by decide)
    rcases List.mem_cons.mp hc with rfl | hc
    · exact hd_in0 (d + 13) _ _ _ _ _ _ (by decide)
    rcases List.mem_cons.mp hc with rfl | hc
    · exact hd_in0 (d + 13) _ _ _ _ _ _ (by decide)
    rcases List.mem_cons.mp hc with rfl | hc
    · exact hd_in (d + 13) _ _ _ _ _ _
    rcases List.mem_cons.mp hc with rfl | hc
    · exact hd_in (d + 13) _ _ _ _ _ _
    rcases List.mem_cons.mp hc with rfl | hc
    · exact hd_in (d + 13) _ _ _ _ _ _
    rcases List.mem_cons.mp hc with rfl | hc
    · exact hd_in (d + 13) _ _ _ _ _ _
    rcases List.mem_cons.mp hc with rfl | hc
    · exact hd_bo wS (d + 13)
    cases hc
  · exact Hall_up (hall_8 wS) 1 d c hc
end
section
/-! more contracts, checked: written by wip/gen/contracts2.py -/
def c_204 : CE := (1, [rF [60, 62, 64, 66], some (.inr (.inr (0, 39, 0)))], [], iA 0 2, [], ([], []), []) -- X1_faultAt
def ac_204 : List AnE := [(0, ([rF [60, 62, 64, 66], some (.inr (.inr (0, 39, 0))), none], [], []), 4, [0, 0, 0]),
  (9, ([rF [60, 62, 64, 66], some (.inr (.inr (0, 39, 0))), none], [], []), 3, [0, 0, 0]),
  (25, ([rF [60, 62, 64, 66], some (.inr (.inr (0, 39, 0))), none], [], []), 1, [0, 0, 0]),
  (29, ([rF [60, 62, 64, 66], some (.inr (.inr (0, 39, 0))), none], [], []), 2, [0, 0, 0]),
  (30, ([rF [60, 62, 64, 66], some (.inr (.inr (0, 39, 0))), none], [cst 2], []), 0, [0, 0, 0])]
theorem kc_204 : chkM shP TV t_9 c_204 ac_204 = true := by decide +kernel
abbrev q_X1_faultAt : CE := c_204
def c_205 : CE := (3, [rF [60, 62, 64, 66], iA 0 39, tI], [], none, [], ([61, 63, 65, 67], []), []) -- X1_put
def ac_205 : List AnE := [(0, ([rF [60, 62, 64, 66], iA 0 39, tI], [], []), 3, [0, 0, 0]),
  (18, ([rF [60, 62, 64, 66], iA 0 39, tI], [], []), 2, [0, 0, 0]),
  (37, ([rF [60, 62, 64, 66], iA 0 39, tI], [], []), 0, [0, 0, 0]),
  (44, ([rF [60, 62, 64, 66], iA 0 39, tI], [], []), 1, [0, 0, 0])]
theorem kc_205 : chkM shP TV t_9 c_205 ac_205 = true := by decide +kernel
abbrev q_X1_put : CE := c_205
def c_206 : CE := (30, [rF [1], cst 0], [], rF [5], [], ([], []), []) -- X5_bodyRow
def ac_206 : List AnE := [(0, ([rF [1], cst 0], [], []), 1, [0, 0]),
  (28, ([rF [1], iA 0 0], [], []), 0, [0, 0])]
theorem kc_206 : chkM shP TV t_9 c_206 ac_206 = true := by decide +kernel
abbrev q_X5_bodyRow_2 : CE := c_206
def c_207 : CE := (30, [rF [1], cst 1], [], rF [6], [], ([], []), []) -- X5_bodyRow
def ac_207 : List AnE := [(0, ([rF [1], cst 1], [], []), 1, [0, 0]),
  (33, ([rF [1], iA 1 1], [], []), 0, [0, 0])]
theorem kc_207 : chkM shP TV t_9 c_207 ac_207 = true := by decide +kernel
abbrev q_X5_bodyRow_3 : CE := c_207
def c_208 : CE := (30, [rF [1], cst 2], [], rF [7], [], ([], []), []) -- X5_bodyRow
def ac_208 : List AnE := [(0, ([rF [1], cst 2], [], []), 1, [0, 0]),
  (38, ([rF [1], iA 2 2], [], []), 0, [0, 0])]
theorem kc_208 : chkM shP TV t_9 c_208 ac_208 = true := by decide +kernel
abbrev q_X5_bodyRow_4 : CE := c_208
def c_209 : CE := (30, [rF [1], cst 3], [], rF [8], [], ([], []), []) -- X5_bodyRow
def ac_209 : List AnE := [(0, ([rF [1], cst 3], [], []), 1, [0, 0]),
  (43, ([rF [1], iA 3 3], [], []), 0, [0, 0])]
theorem kc_209 : chkM shP TV t_9 c_209 ac_209 = true := by decide +kernel
abbrev q_X5_bodyRow_5 : CE := c_209
def c_210 : CE := (51, [rF [0], tI, iA 4 2147483647, tI], [], cst (-1), [], ([], []), []) -- X6_alter
def ac_210 : List AnE := [(0, ([rF [0], tI, iA 4 2147483647, tI, none, none], [], []), 1, [0, 0, 0, 0, 0, 0]),
  (29, ([rF [0], tI, iA 4 2147483647, tI, none, none], [], []), 0, [0, 0, 0, 0, 0, 0])]
theorem kc_210 : chkM shP TV t_9 c_210 ac_210 = true := by decide +kernel
abbrev q_X6_alter : CE := c_210
def c_211 : CE := (51, [rF [0], tI, iA (-2147483648) (-1), tI], [], cst (-1), [], ([], []), []) -- X6_alter
def ac_211 : List AnE := [(0, ([rF [0], tI, iA (-2147483648) (-1), tI, none, none], [], []), 1, [0, 0, 0, 0, 0, 0]),
  (29, ([rF [0], tI, iA (-2147483648) (-1), tI, none, none], [], []), 0, [0, 0, 0, 0, 0, 0])]
theorem kc_211 : chkM shP TV t_9 c_211 ac_211 = true := by decide +kernel
abbrev q_X6_alter_1 : CE := c_211
def c_212 : CE := (95, [rF [0], tI, iA 40 2147483647, tI], [], iA (-12) (-1), [], ([], []), []) -- X6_lay
def ac_212 : List AnE := [(0, ([rF [0], tI, iA 40 2147483647, tI, none], [], []), 1, [0, 0, 0, 0, 0]),
  (11, ([rF [0], iA 0 3, iA 40 2147483647, tI, none], [], []), 0, [0, 0, 0, 0, 0])]
theorem kc_212 : chkM shP TV t_9 c_212 ac_212 = true := by decide +kernel
abbrev q_X6_lay : CE := c_212
def c_213 : CE := (95, [rF [0], tI, iA (-2147483648) (-1), tI], [], iA (-12) (-1), [], ([], []), []) -- X6_lay
def ac_213 : List AnE := [(0, ([rF [0], tI, iA (-2147483648) (-1), tI, none], [], []), 1, [0, 0, 0, 0, 0]),
  (11, ([rF [0], iA 0 3, iA (-2147483648) (-1), tI, none], [], []), 0, [0, 0, 0, 0, 0])]
theorem kc_213 : chkM shP TV t_9 c_213 ac_213 = true := by decide +kernel
abbrev q_X6_lay_1 : CE := c_213
def c_214 : CE := (125, [rF [68], iA 0 5, iA 2 3], [], tI, [], ([], []), []) -- X7_of
def ac_214 : List AnE := [(0, ([rF [68], iA 0 5, iA 2 3], [], []), 0, [0, 0, 0])]
theorem kc_214 : chkM shP TV t_9 c_214 ac_214 = true := by decide +kernel
abbrev q_X7_of_6 : CE := c_214
def c_215 : CE := (126, [rF [68], iA 0 5, cst 0, iA 0 3], [(14041, 1, 9)], none, [(14041, 1, 9)], ([70], []), []) -- X7_becomesOf
def ac_215 : List AnE := [(0, ([rF [68], iA 0 5, cst 0, iA 0 3], [], [(14041, 1, 9)]), 0, [0, 0, 0, 0])]
theorem kc_215 : chkM shP TV t_9 c_215 ac_215 = true := by decide +kernel
abbrev q_X7_becomesOf_2 : CE := c_215
def c_216 : CE := (142, [rF [68], cst 41, iA 1 9], [], iA 1 9, [], ([], [13841]), []) -- X7_becomes
def ac_216 : List AnE := [(0, ([rF [68], cst 41, iA 1 9, none], [], []), 0, [0, 0, 0, 0])]
theorem kc_216 : chkM shP TV t_9 c_216 ac_216 = true := by decide +kernel
abbrev q_X7_becomes_2 : CE := c_216
def c_217 : CE := (142, [rF [68], some (.inl ((8, 33, 5), none, 0, (0, 0), [])), iA 0 3], [], iA 0 3, [], ([], [13808, 13813, 13818, 13823, 13828, 13833]), []) -- X7_becomes
def ac_217 : List AnE := [(0, ([rF [68], some (.inl ((8, 33, 5), none, 0, (0, 0), [])), iA 0 3, none], [], []), 0, [0, 0, 0, 0])]
theorem kc_217 : chkM shP TV t_9 c_217 ac_217 = true := by decide +kernel
abbrev q_X7_becomes_3 : CE := c_217
def c_218 : CE := (142, [rF [68], some (.inl ((9, 34, 5), none, 0, (0, 0), [])), iA 0 3], [], iA 0 3, [], ([], [13809, 13814, 13819, 13824, 13829, 13834]), []) -- X7_becomes
def ac_218 : List AnE := [(0, ([rF [68], some (.inl ((9, 34, 5), none, 0, (0, 0), [])), iA 0 3, none], [], []), 0, [0, 0, 0, 0])]
theorem kc_218 : chkM shP TV t_9 c_218 ac_218 = true := by decide +kernel
abbrev q_X7_becomes_4 : CE := c_218
def c_219 : CE := (142, [rF [68], iA 39 40, tI], [], tI, [], ([], [13839, 13840]), []) -- X7_becomes
def ac_219 : List AnE := [(0, ([rF [68], iA 39 40, tI, none], [], []), 0, [0, 0, 0, 0])]
theorem kc_219 : chkM shP TV t_9 c_219 ac_219 = true := by decide +kernel
abbrev q_X7_becomes_5 : CE := c_219
def c_220 : CE := (142, [rF [68], some (.inl ((10, 35, 5), none, 0, (0, 0), [])), tI], [], tI, [], ([], [13810, 13815, 13820, 13825, 13830, 13835]), []) -- X7_becomes
def ac_220 : List AnE := [(0, ([rF [68], some (.inl ((10, 35, 5), none, 0, (0, 0), [])), tI, none], [], []), 0, [0, 0, 0, 0])]
theorem kc_220 : chkM shP TV t_9 c_220 ac_220 = true := by decide +kernel
abbrev q_X7_becomes_6 : CE := c_220
def c_221 : CE := (142, [rF [68], some (.inl ((11, 36, 5), none, 0, (0, 0), [])), tI], [], tI, [], ([], [13811, 13816, 13821, 13826, 13831, 13836]), []) -- X7_becomes
def ac_221 : List AnE := [(0, ([rF [68], some (.inl ((11, 36, 5), none, 0, (0, 0), [])), tI, none], [], []), 0, [0, 0, 0, 0])]
theorem kc_221 : chkM shP TV t_9 c_221 ac_221 = true := by decide +kernel
abbrev q_X7_becomes_7 : CE := c_221
def c_222 : CE := (145, [rF [68], tI, iA 4 2147483647, tI], [], cst (-1), [], ([], []), []) -- X7_alter
def ac_222 : List AnE := [(0, ([rF [68], tI, iA 4 2147483647, tI, none], [], []), 4, [0, 0, 0, 0, 0]),
  (16, ([rF [68], tI, iA 4 2147483647, tI, none], [], []), 3, [0, 0, 0, 0, 0]),
  (29, ([rF [68], tI, iA 4 2147483647, tI, none], [], []), 2, [0, 0, 0, 0, 0]),
  (59, ([rF [68], tI, iA 4 2147483647, tI, none], [], []), 1, [0, 0, 0, 0, 0]),
  (75, ([rF [68], tI, iA 4 2147483647, tI, cst 0], [], []), 0, [0, 0, 0, 0, 0])]
theorem kc_222 : chkM shP TV t_9 c_222 ac_222 = true := by decide +kernel
abbrev q_X7_alter : CE := c_222
def c_223 : CE := (145, [rF [68], tI, iA (-2147483648) (-1), tI], [], cst (-1), [], ([], []), []) -- X7_alter
def ac_223 : List AnE := [(0, ([rF [68], tI, iA (-2147483648) (-1), tI, none], [], []), 4, [0, 0, 0, 0, 0]),
  (16, ([rF [68], tI, iA (-2147483648) (-1), tI, none], [], []), 3, [0, 0, 0, 0, 0]),
  (29, ([rF [68], tI, iA (-2147483648) (-1), tI, none], [], []), 2, [0, 0, 0, 0, 0]),
  (59, ([rF [68], tI, iA (-2147483648) (-1), tI, none], [], []), 1, [0, 0, 0, 0, 0]),
  (75, ([rF [68], tI, iA (-2147483648) (-1), tI, cst 0], [], []), 0, [0, 0, 0, 0, 0])]
theorem kc_223 : chkM shP TV t_9 c_223 ac_223 = true := by decide +kernel
abbrev q_X7_alter_1 : CE := c_223
def c_224 : CE := (146, [rF [68], iA 5 2147483647, tI], [], cst (-1), [], ([], []), []) -- X7_set
def ac_224 : List AnE := [(0, ([rF [68], iA 5 2147483647, tI, none], [], []), 4, [0, 0, 0, 0]),
  (17, ([rF [68], iA 5 2147483647, tI, none], [], []), 3, [0, 0, 0, 0]),
  (34, ([rF [68], iA 5 2147483647, tI, none], [], []), 2, [0, 0, 0, 0]),
  (55, ([rF [68], iA 5 2147483647, tI, none], [], []), 1, [0, 0, 0, 0]),
  (75, ([rF [68], iA 5 2147483647, tI, iA 0 0], [], []), 0, [0, 0, 0, 0])]
theorem kc_224 : chkM shP TV t_9 c_224 ac_224 = true := by decide +kernel
abbrev q_X7_set : CE := c_224
def c_225 : CE := (146, [rF [68], iA (-2147483648) 1, tI], [], cst (-1), [], ([], []), []) -- X7_set
def ac_225 : List AnE := [(0, ([rF [68], iA (-2147483648) 1, tI, none], [], []), 4, [0, 0, 0, 0]),
  (17, ([rF [68], iA (-2147483648) 1, tI, none], [], []), 3, [0, 0, 0, 0]),
  (34, ([rF [68], iA (-2147483648) 1, tI, none], [], []), 2, [0, 0, 0, 0]),
  (55, ([rF [68], iA (-2147483648) 1, tI, none], [], []), 1, [0, 0, 0, 0]),
  (75, ([rF [68], iA (-2147483648) 1, tI, iA 0 0], [], []), 0, [0, 0, 0, 0])]
theorem kc_225 : chkM shP TV t_9 c_225 ac_225 = true := by decide +kernel
abbrev q_X7_set_1 : CE := c_225
def b_10 : List (CE × List AnE) := [(c_204, ac_204), (c_205, ac_205), (c_206, ac_206), (c_207, ac_207), (c_208, ac_208), (c_209, ac_209), (c_210, ac_210), (c_211, ac_211), (c_212, ac_212), (c_213, ac_213), (c_214, ac_214), (c_215, ac_215), (c_216, ac_216), (c_217, ac_217), (c_218, ac_218), (c_219, ac_219), (c_220, ac_220), (c_221, ac_221), (c_222, ac_222), (c_223, ac_223), (c_224, ac_224), (c_225, ac_225)]
def t_10 : List CE := [c_204, c_205, c_206, c_207, c_208, c_209, c_210, c_211, c_212, c_213, c_214, c_215, c_216, c_217, c_218, c_219, c_220, c_221, c_222, c_223, c_224, c_225] ++ t_9
theorem h_up10 {wS : List Value → Mm → Option Rs} {k : Nat} (h : Hall TV wS k t_9) : Hall TV wS (k + 1) t_10 := by
  refine Hall_step h b_10 ?_
  unfold b_10
  simp only [List.all_cons, List.all_nil, kc_204, kc_205, kc_206, kc_207, kc_208, kc_209, kc_210, kc_211, kc_212, kc_213, kc_214, kc_215, kc_216, kc_217, kc_218, kc_219, kc_220, kc_221, kc_222, kc_223, kc_224, kc_225, Bool.and_self]
def c_226 : CE := (51, [rF [0], tI, cst 0, tI], [], iA (-2) 3, [], ([5], []), []) -- X6_alter
def ac_226 : List AnE := [(0, ([rF [0], tI, cst 0, tI, none, none], [], []), 3, [0, 0, 0, 0, 0, 0]),
  (29, ([rF [0], tI, cst 0, tI, none, none], [], []), 0, [0, 0, 0, 0, 0, 0]),
  (31, ([rF [0], iA 0 5, iA 0 0, iA 0 3, none, none], [], []), 2, [0, 0, 0, 0, 0, 0]),
  (46, ([rF [0], iA 0 5, iA 0 0, iA 0 3, none, none], [], []), 1, [0, 0, 0, 0, 0, 0])]
theorem kc_226 : chkM shP TV t_10 c_226 ac_226 = true := by decide +kernel
abbrev q_X6_alter_2 : CE := c_226
def c_227 : CE := (51, [rF [0], tI, cst 1, tI], [], iA (-2) 3, [], ([6], []), []) -- X6_alter
def ac_227 : List AnE := [(0, ([rF [0], tI, cst 1, tI, none, none], [], []), 3, [0, 0, 0, 0, 0, 0]),
  (29, ([rF [0], tI, cst 1, tI, none, none], [], []), 0, [0, 0, 0, 0, 0, 0]),
  (31, ([rF [0], iA 0 5, iA 1 1, iA 0 3, none, none], [], []), 2, [0, 0, 0, 0, 0, 0]),
  (46, ([rF [0], iA 0 5, iA 1 1, iA 0 3, none, none], [], []), 1, [0, 0, 0, 0, 0, 0])]
theorem kc_227 : chkM shP TV t_10 c_227 ac_227 = true := by decide +kernel
abbrev q_X6_alter_3 : CE := c_227
def c_228 : CE := (51, [rF [0], tI, cst 2, tI], [], tI, [], ([7], []), []) -- X6_alter
def ac_228 : List AnE := [(0, ([rF [0], tI, cst 2, tI, none, none], [], []), 3, [0, 0, 0, 0, 0, 0]),
  (29, ([rF [0], tI, cst 2, tI, none, none], [], []), 0, [0, 0, 0, 0, 0, 0]),
  (31, ([rF [0], iA 0 5, iA 2 2, tI, none, none], [], []), 2, [0, 0, 0, 0, 0, 0]),
  (46, ([rF [0], iA 0 5, iA 2 2, tI, none, none], [], []), 1, [0, 0, 0, 0, 0, 0])]
theorem kc_228 : chkM shP TV t_10 c_228 ac_228 = true := by decide +kernel
abbrev q_X6_alter_4 : CE := c_228
def c_229 : CE := (51, [rF [0], tI, cst 3, tI], [], tI, [], ([8], []), []) -- X6_alter
def ac_229 : List AnE := [(0, ([rF [0], tI, cst 3, tI, none, none], [], []), 3, [0, 0, 0, 0, 0, 0]),
  (29, ([rF [0], tI, cst 3, tI, none, none], [], []), 0, [0, 0, 0, 0, 0, 0]),
  (31, ([rF [0], iA 0 5, iA 3 3, tI, none, none], [], []), 2, [0, 0, 0, 0, 0, 0]),
  (46, ([rF [0], iA 0 5, iA 3 3, tI, none, none], [], []), 1, [0, 0, 0, 0, 0, 0])]
theorem kc_229 : chkM shP TV t_10 c_229 ac_229 = true := by decide +kernel
abbrev q_X6_alter_5 : CE := c_229
def c_230 : CE := (95, [rF [0], tI, iA 0 39, tI], [], iA (-12) 1, [], ([61, 63, 65, 67], []), []) -- X6_lay
def ac_230 : List AnE := [(0, ([rF [0], tI, iA 0 39, tI, none], [], []), 2, [0, 0, 0, 0, 0]),
  (11, ([rF [0], iA 0 3, iA 0 39, tI, none], [], []), 1, [0, 0, 0, 0, 0]),
  (35, ([rF [0], iA 0 3, iA 0 39, tI, iA 0 0], [], []), 0, [0, 0, 0, 0, 0])]
theorem kc_230 : chkM shP TV t_10 c_230 ac_230 = true := by decide +kernel
abbrev q_X6_lay_2 : CE := c_230
def c_231 : CE := (145, [rF [68], tI, cst 2, tI], [], tI, [], ([], [13810, 13815, 13820, 13825, 13830, 13835]), []) -- X7_alter
def ac_231 : List AnE := [(0, ([rF [68], tI, cst 2, tI, none], [], []), 8, [0, 0, 0, 0, 0]),
  (16, ([rF [68], tI, iA 2 2, tI, none], [], []), 7, [0, 0, 0, 0, 0]),
  (29, ([rF [68], tI, iA 2 2, tI, none], [], []), 6, [0, 0, 0, 0, 0]),
  (59, ([rF [68], tI, iA 2 2, tI, none], [], []), 1, [0, 0, 0, 0, 0]),
  (60, ([rF [68], tI, iA 2 2, iA 0 9, none], [cst 1], []), 5, [0, 0, 0, 0, 0]),
  (75, ([rF [68], tI, iA 2 2, tI, iA 0 1], [], []), 0, [0, 0, 0, 0, 0]),
  (77, ([rF [68], iA 0 5, iA 2 2, iA 0 9, iA 1 1], [], []), 4, [0, 0, 0, 0, 0]),
  (101, ([rF [68], iA 0 5, iA 2 2, iA 0 9, iA 1 1], [], []), 2, [0, 0, 0, 0, 0]),
  (103, ([rF [68], iA 0 5, iA 2 2, iA 0 9, iA 1 1], [tI], []), 3, [0, 0, 0, 0, 0])]
theorem kc_231 : chkM shP TV t_10 c_231 ac_231 = true := by decide +kernel
abbrev q_X7_alter_2 : CE := c_231
def c_232 : CE := (145, [rF [68], tI, cst 3, tI], [], tI, [], ([], [13811, 13816, 13821, 13826, 13831, 13836]), []) -- X7_alter
def ac_232 : List AnE := [(0, ([rF [68], tI, cst 3, tI, none], [], []), 8, [0, 0, 0, 0, 0]),
  (16, ([rF [68], tI, iA 3 3, tI, none], [], []), 7, [0, 0, 0, 0, 0]),
  (29, ([rF [68], tI, iA 3 3, tI, none], [], []), 6, [0, 0, 0, 0, 0]),
  (59, ([rF [68], tI, iA 3 3, tI, none], [], []), 1, [0, 0, 0, 0, 0]),
  (60, ([rF [68], tI, iA 3 3, iA 0 9, none], [cst 1], []), 5, [0, 0, 0, 0, 0]),
  (75, ([rF [68], tI, iA 3 3, tI, iA 0 1], [], []), 0, [0, 0, 0, 0, 0]),
  (77, ([rF [68], iA 0 5, iA 3 3, iA 0 9, iA 1 1], [], []), 4, [0, 0, 0, 0, 0]),
  (101, ([rF [68], iA 0 5, iA 3 3, iA 0 9, iA 1 1], [], []), 2, [0, 0, 0, 0, 0]),
  (103, ([rF [68], iA 0 5, iA 3 3, iA 0 9, iA 1 1], [tI], []), 3, [0, 0, 0, 0, 0])]
theorem kc_232 : chkM shP TV t_10 c_232 ac_232 = true := by decide +kernel
abbrev q_X7_alter_3 : CE := c_232
def c_233 : CE := (146, [rF [68], cst 2, tI], [], tI, [], ([], [13839, 13840]), []) -- X7_set
def ac_233 : List AnE := [(0, ([rF [68], cst 2, tI, none], [], []), 3, [0, 0, 0, 0]),
  (56, ([rF [68], iA 2 2, tI, none], [some (.inl ((0, 1, 1), none, 0, (0, 0), [(3, 0, 20)]))], []), 2, [0, 0, 0, 0]),
  (75, ([rF [68], iA 2 2, tI, iA 0 0], [], []), 0, [0, 0, 0, 0]),
  (76, ([rF [68], iA 2 2, tI, iA 1 1], [tI], []), 1, [0, 0, 0, 0])]
theorem kc_233 : chkM shP TV t_10 c_233 ac_233 = true := by decide +kernel
abbrev q_X7_set_2 : CE := c_233
def c_234 : CE := (146, [rF [68], cst 3, tI], [], tI, [], ([], [13839, 13840]), []) -- X7_set
def ac_234 : List AnE := [(0, ([rF [68], cst 3, tI, none], [], []), 4, [0, 0, 0, 0]),
  (17, ([rF [68], iA 3 3, tI, none], [], []), 3, [0, 0, 0, 0]),
  (56, ([rF [68], iA 3 3, tI, none], [some (.inl ((0, 1, 1), none, 0, (0, 0), [(3, 0, 60)]))], []), 2, [0, 0, 0, 0]),
  (75, ([rF [68], iA 3 3, tI, iA 0 0], [], []), 0, [0, 0, 0, 0]),
  (76, ([rF [68], iA 3 3, tI, iA 1 1], [tI], []), 1, [0, 0, 0, 0])]
theorem kc_234 : chkM shP TV t_10 c_234 ac_234 = true := by decide +kernel
abbrev q_X7_set_3 : CE := c_234
def c_235 : CE := (146, [rF [68], cst 4, tI], [], iA (-1) 9, [], ([], [13841]), []) -- X7_set
def ac_235 : List AnE := [(0, ([rF [68], cst 4, tI, none], [], []), 6, [0, 0, 0, 0]),
  (17, ([rF [68], iA 4 4, tI, none], [], []), 5, [0, 0, 0, 0]),
  (34, ([rF [68], iA 4 4, tI, none], [], []), 4, [0, 0, 0, 0]),
  (55, ([rF [68], iA 4 4, tI, none], [], []), 1, [0, 0, 0, 0]),
  (56, ([rF [68], iA 4 4, iA 1 9, none], [cst 1], []), 3, [0, 0, 0, 0]),
  (75, ([rF [68], iA 4 4, tI, iA 0 0], [], []), 0, [0, 0, 0, 0]),
  (76, ([rF [68], iA 4 4, iA 1 9, iA 1 1], [iA 1 9], []), 2, [0, 0, 0, 0])]
theorem kc_235 : chkM shP TV t_10 c_235 ac_235 = true := by decide +kernel
abbrev q_X7_set_4 : CE := c_235
def c_236 : CE := (148, [rF [68], tI], [], tI, [], ([70, 74], [13800, 13801, 13802, 13803, 13804, 13805, 13806, 13807, 13808, 13809, 13810, 13811, 13812, 13813, 13814, 13815, 13816, 13817, 13818, 13819, 13820, 13821, 13822, 13823, 13824, 13825, 13826, 13827, 13828, 13829, 13830, 13831, 13832, 13833, 13834, 13835, 13836, 13837, 13838, 13839, 13840, 13841, 13842, 13843, 13844, 13845, 13846, 13847, 13848, 13849, 13850, 13851, 13852, 13853, 13854, 13855, 13856, 13857, 13858, 13859, 13860, 13861, 13862]), []) -- X7_hire
def ac_236 : List AnE := [(0, ([rF [68], tI, none, none], [], []), 5, [0, 0, 0, 0]),
  (10, ([rF [68], iA 0 5, none, none], [], []), 4, [0, 0, 0, 0]),
  (57, ([rF [68], iA 0 5, iA 0 3, none], [], [(14041, 1, 9)]), 0, [0, 0, 0, 0]),
  (60, ([rF [68], iA 0 5, iA 0 3, none], [], [(14041, 1, 9)]), 3, [0, 0, 0, 0]),
  (73, ([rF [68], iA 0 5, iA 0 3, none], [], [(14041, 1, 9)]), 1, [0, 0, 0, 0]),
  (74, ([rF [68], iA 0 5, iA 0 3, none], [cst 2], [(14041, 1, 9)]), 2, [0, 0, 0, 0])]
theorem kc_236 : chkM shP TV t_10 c_236 ac_236 = true := by decide +kernel
abbrev q_X7_hire : CE := c_236
def b_11 : List (CE × List AnE) := [(c_226, ac_226), (c_227, ac_227), (c_228, ac_228), (c_229, ac_229), (c_230, ac_230), (c_231, ac_231), (c_232, ac_232), (c_233, ac_233), (c_234, ac_234), (c_235, ac_235), (c_236, ac_236)]
def t_11 : List CE := [c_226, c_227, c_228, c_229, c_230, c_231, c_232, c_233, c_234, c_235, c_236] ++ t_10
theorem h_up11 {wS : List Value → Mm → Option Rs} {k : Nat} (h : Hall TV wS k t_10) : Hall TV wS (k + 1) t_11 := by
  refine Hall_step h b_11 ?_
  unfold b_11
  simp only [List.all_cons, List.all_nil, kc_226, kc_227, kc_228, kc_229, kc_230, kc_231, kc_232, kc_233, kc_234, kc_235, kc_236, Bool.and_self]
def h_al0t : CE := (145, [rF [68], tI, cst 0, tI], [], iA (-2) 3, [], ([], [13808, 13813, 13818, 13823, 13828, 13833]), []) -- X7_alter
def a_al0t : List AnE := [(60, ([rF [68], tI, cst 0, iA 0 3, none], [cst 1], []), 4, [0, 0, 0, 0, 0]),
  (75, ([rF [68], tI, cst 0, iA 0 3, cst 1], [], []), 0, [0, 0, 0, 0, 0]),
  (77, ([rF [68], iA 0 5, cst 0, iA 0 3, iA 1 1], [], []), 3, [0, 0, 0, 0, 0]),
  (101, ([rF [68], iA 0 5, cst 0, iA 0 3, iA 1 1], [], []), 1, [0, 0, 0, 0, 0]),
  (103, ([rF [68], iA 0 5, cst 0, iA 0 3, iA 1 1], [iA 0 3], []), 2, [0, 0, 0, 0, 0])]
theorem k_al0t : a_al0t.all (blkOK shP TV t_11 (mT 145) h_al0t (codeZ 145) a_al0t) = true := by decide +kernel
def h_al0f : CE := (145, [rF [68], tI, cst 0, tI], [], cst (-1), [], ([], []), []) -- X7_alter
def a_al0f : List AnE := [(60, ([rF [68], tI, cst 0, tI, none], [cst 0], []), 1, [0, 0, 0, 0, 0]),
  (75, ([rF [68], tI, cst 0, tI, cst 0], [], []), 0, [0, 0, 0, 0, 0])]
theorem k_al0f : a_al0f.all (blkOK shP TV t_11 (mT 145) h_al0t (codeZ 145) a_al0f) = true := by decide +kernel
def h_al1t : CE := (145, [rF [68], tI, cst 1, tI], [], iA (-2) 3, [], ([], [13809, 13814, 13819, 13824, 13829, 13834]), []) -- X7_alter
def a_al1t : List AnE := [(60, ([rF [68], tI, cst 1, iA 0 3, none], [cst 1], []), 4, [0, 0, 0, 0, 0]),
  (75, ([rF [68], tI, cst 1, iA 0 3, cst 1], [], []), 0, [0, 0, 0, 0, 0]),
  (77, ([rF [68], iA 0 5, cst 1, iA 0 3, iA 1 1], [], []), 3, [0, 0, 0, 0, 0]),
  (101, ([rF [68], iA 0 5, cst 1, iA 0 3, iA 1 1], [], []), 1, [0, 0, 0, 0, 0]),
  (103, ([rF [68], iA 0 5, cst 1, iA 0 3, iA 1 1], [iA 0 3], []), 2, [0, 0, 0, 0, 0])]
theorem k_al1t : a_al1t.all (blkOK shP TV t_11 (mT 145) h_al1t (codeZ 145) a_al1t) = true := by decide +kernel
def h_fo : CE := (165, [rF [68], tI, tI, tI], [], none, [], ([70, 74], [13617, 13618, 13619, 13620]), []) -- X7_findOdds
def a_fo : List AnE := [(72, ([rF [68], tI, tI, tI, tI, iA 0 64, none, none, none, none], [], []), 4484, [0, 0, 0, 0, 0, (-69), 0, 0, 0, 0]),
  (99, ([rF [68], tI, tI, tI, tI, iA 0 63, tJ, none, iA 0 6, none], [], [(14041, 1, 9)]), 4482, [0, 0, 0, 0, 0, (-69), 0, 0, (-9), 0]),
  (126, ([rF [68], tI, tI, tI, tI, iA 0 63, tJ, none, iA 0 5, none], [], [(14038, 1, 6), (14041, 1, 9)]), 4480, [0, 0, 0, 0, 0, (-69), 0, 0, (-9), 0]),
  (127, ([rF [68], tI, tI, tI, tI, iA 0 63, tJ, none, iA 0 5, none], [cst 1], [(14038, 1, 6), (14041, 1, 9)]), 4481, [0, 0, 0, 0, 0, (-69), 0, 0, (-9), 0]),
  (145, ([rF [68], tI, tI, tI, tI, iA 0 63, tJ, none, iA 0 5, iA 0 1], [tJ], [(14038, 1, 6), (14041, 1, 9)]), 4479, [0, 0, 0, 0, 0, (-69), 0, 0, (-9), 0]),
  (155, ([rF [68], tI, tI, tI, tI, iA 0 63, tJ, none, iA 0 5, iA 0 0], [tJ], [(14038, 1, 6), (14041, 1, 9)]), 4476, [0, 0, 0, 0, 0, (-69), 0, 0, (-9), 0]),
  (160, ([rF [68], tI, tI, tI, tI, iA 0 63, tJ, none, iA 0 5, iA 0 1], [some (.inr (.inr ((-2147483648), 2147483647, 0))), tJ], [(14038, 1, 6), (14041, 1, 9)]), 4478, [0, 0, 0, 0, 0, (-69), 0, 0, (-9), 0]),
  (176, ([rF [68], tI, tI, tI, tI, iA 0 63, tJ, none, iA 0 5, iA 0 0], [cst 0, some (.inl ((0, 5, 1), none, 9, (0, 0), [])), rF [68]], [(14038, 1, 6), (14041, 1, 9)]), 4475, [0, 0, 0, 0, 0, (-69), 0, 0, (-9), 0]),
  (183, ([rF [68], tI, tI, tI, tI, iA 0 63, tJ, none, iA 0 5, iA 1 1], [cst 3, cst 0, some (.inl ((0, 5, 1), none, 9, (0, 0), [])), rF [68]], [(14038, 1, 6), (14041, 1, 9)]), 4477, [0, 0, 0, 0, 0, (-69), 0, 0, (-9), 0]),
  (192, ([rF [68], tI, tI, tI, tI, iA 0 63, tJ, none, iA 0 6, none], [], [(14041, 1, 9)]), 4420, [0, 0, 0, 0, 0, (-69), 0, 0, 0, 0]),
  (233, ([rF [68], tI, tI, tI, tI, iA 0 63, tJ, none, iA 0 6, none], [tJ, rF [68]], [(14041, 1, 9)]), 4418, [0, 0, 0, 0, 0, (-69), 0, 0, 0, 0]),
  (234, ([rF [68], tI, tI, tI, tI, iA 0 63, tJ, none, iA 0 6, none], [tJ, tJ, rF [68]], [(14041, 1, 9)]), 4419, [0, 0, 0, 0, 0, (-69), 0, 0, 0, 0]),
  (238, ([rF [68], tI, tI, tI, tI, iA 0 63, none, none, none, none], [], []), 4417, [0, 0, 0, 0, 0, (-69), 0, 0, 0, 0]),
  (244, ([rF [68], tI, tI, tI, tI, iA 64 64, none, none, none, none], [], []), 0, [0, 0, 0, 0, 0, 0, 0, 0, 0, 0])]
theorem k_fo : a_fo.all (blkOK shP TV t_11 (mT 165) h_fo (codeZ 165) a_fo) = true := by decide +kernel
def h_al1f : CE := (145, [rF [68], tI, cst 1, tI], [], cst (-1), [], ([], []), []) -- X7_alter
def a_al1f : List AnE := [(60, ([rF [68], tI, cst 1, tI, none], [cst 0], []), 1, [0, 0, 0, 0, 0]),
  (75, ([rF [68], tI, cst 1, tI, cst 0], [], []), 0, [0, 0, 0, 0, 0])]
theorem k_al1f : a_al1f.all (blkOK shP TV t_11 (mT 145) h_al1t (codeZ 145) a_al1f) = true := by decide +kernel
end
section
/-! BY HAND, then by the checker: alter of the model; reads -/
theorem Hd_run {T : List (List (Int × Int))} {C : CallS} {c0 : CE} (h : ∀ (As : List Value) (m : Mm), gT [] [] m (c0.2.1.map cle) As → InvT T m → rho m c0.2.2.1 → ∃ r, C c0.1 As m = some r ∧ PostR T m c0 r) : Hd T C c0 := by
  intro As m g hI hR
  obtain ⟨⟨v, m'⟩, h1, h2⟩ := h As m g hI hR
  refine ⟨v, m', h1, h2.1, h2.2.1, h2.2.2.1, h2.2.2.2.1, ?_⟩
  rw [h2.2.2.2.2]
  exact fun _ _ _ q hq => by cases hq
theorem gL_of {L0 L1 L : List Value} {m : Mm} {as : List AV} {vs : List Value} (h : gT L0 L m as vs) : as.length = vs.length ∧ ∀ i a, as[i]? = some a → gv L0 L m a (ldL vs i) := by
  induction as generalizing vs with
  | nil => rw [gT_nil h]; exact ⟨rfl, fun i a q => by cases q⟩
  | cons a as ih =>
    obtain ⟨v, vs, rfl, g1, g2⟩ := gT_cons h
    obtain ⟨h1, h2⟩ := ih g2
    refine ⟨by simp only [List.length_cons, h1], fun i b hb => ?_⟩
    cases i with
    | zero => cases hb; exact g1
    | succ i => exact h2 i b hb
theorem gv_c0 {L0 L : List Value} {m : Mm} : gv L0 L m (cst 0) (.int 0) := gv_cst (n := 0) (by decide)
theorem gv_c1 {L0 L : List Value} {m : Mm} : gv L0 L m (cst 1) (.int 1) := gv_cst (n := 1) (by decide)
theorem gv_rf {L0 L : List Value} {m : Mm} (k : Nat) : gv L0 L m (rF [k]) (.ref k) := ⟨k, rfl, List.mem_singleton.mpr rfl⟩
theorem hall_11 (wS : List Value → Mm → Option Rs) : Hall TV wS 16 t_11 := h_up11 (h_up10 (hall_9 wS))
theorem go_alt {C : CallS} (hC : ∀ c ∈ t_11, Hd TV C c) {c0 : CE} {a : List AnE} (hk : a.all (blkOK shP TV t_11 (mT 145) c0 (codeZ 145) a) = true) {e : AnE} (he : a[0]? = some e) (hpc : e.1 = 60) {L st : List Value} {m : Mm} (hI : InvT TV m) (hl : ∀ L1, gT L1 L m e.2.1.1 L) (hs : ∀ L1, gT L1 L m e.2.1.2.1 st) (hr : e.2.1.2.2 = []) : ∃ r, rn shP tb0 mN mO C (mT 145) (codeZ 145) 60 L st m = some r ∧ PostR TV m c0 r := by
  have k := run_ok (mE := m) hC hk _ e (List.mem_of_getElem? he) L st m (fun L1 => ⟨gL_of (L1 := L1) (hl L1), hs L1, hI, by rw [hr]; exact rho_nil, frm_rf⟩) (Nat.le_refl _)
  rw [hpc] at k
  exact k
theorem mT_145 : mT 145 = some .int := by decide +kernel
theorem hd_al0 (wS : List Value → Mm → Option Rs) (d : Nat) : Hd TV (semZ shP wS (d + 17)) h_al0t := by
  apply Hd_run
  intro As m g hI hR
  obtain ⟨v1, vs, rfl, k1, g⟩ := gT_cons g
  obtain ⟨v2, vs, rfl, k2, g⟩ := gT_cons g
  obtain ⟨v3, vs, rfl, k3, g⟩ := gT_cons g
  obtain ⟨v4, vs, rfl, k4, g⟩ := gT_cons g
  cases gT_nil g
  obtain ⟨r', rfl, hr⟩ := k1
  have hr : r' = 68 := List.mem_singleton.mp hr
  subst hr
  obtain ⟨b, rfl, -⟩ := k2
  obtain ⟨k, rfl, k1, -⟩ := k3
  obtain ⟨v, rfl, -⟩ := k4
  have ek := i_cst 0 k1 (by decide)
  subst ek
  have hC := hall_11 wS d
  have es : semZ shP wS (d + 17) 145 [.ref 68, .int b, .int 0, .int v] m = rn shP tb0 mN mO (semZ shP wS (d + 16)) (some .int) (codeZ 145) 60 [.ref 68, .int b, .int 0, .int v, noV] [.int (bI (decide (0 ≤ v.toInt64) && decide (v.toInt64 ≤ 3)))] m := by
    rw [se_X7_alter, rn_eq, b_X7_alter_0]
    simp only [EV, LV, CB, OI, OL, NP, CZ, popN, CT, OZ, List.map_nil, List.map_cons, List.sum_nil, List.sum_cons, Option.toList, List.nil_append, List.cons_append, Int.reduceToNat, Nat.reduceAdd, Nat.reduceLT, Nat.reduceLeDiff, List.length_cons, List.length_nil, Nat.zero_add, if_true, if_false, reduceIte, and_self, and_true, true_and, eq_self, reduceCtorEq, t_in wS (d + 15), not_true_eq_false]
  show ∃ r, semZ shP wS (d + 17) 145 [.ref 68, .int b, .int 0, .int v] m = some r ∧ _
  rw [es, ← mT_145]
  cases hq : (decide (0 ≤ v.toInt64) && decide (v.toInt64 ≤ 3)) with
  | true =>
    have hv := pm_n (n := 3) (N := 3) (by decide) hq
    exact go_alt hC k_al0t rfl rfl hI (fun L1 => ⟨gv_rf 68, gv_tI b, gv_c0, gv_i hv.1 hv.2, trivial, trivial⟩) (fun L1 => ⟨gv_c1, trivial⟩) rfl
  | false =>
    exact go_alt hC k_al0f rfl rfl hI (fun L1 => ⟨gv_rf 68, gv_tI b, gv_c0, gv_tI v, trivial, trivial⟩) (fun L1 => ⟨gv_c0, trivial⟩) rfl
theorem hd_al1 (wS : List Value → Mm → Option Rs) (d : Nat) : Hd TV (semZ shP wS (d + 17)) h_al1t := by
  apply Hd_run
  intro As m g hI hR
  obtain ⟨v1, vs, rfl, k1, g⟩ := gT_cons g
  obtain ⟨v2, vs, rfl, k2, g⟩ := gT_cons g
  obtain ⟨v3, vs, rfl, k3, g⟩ := gT_cons g
  obtain ⟨v4, vs, rfl, k4, g⟩ := gT_cons g
  cases gT_nil g
  obtain ⟨r', rfl, hr⟩ := k1
  have hr : r' = 68 := List.mem_singleton.mp hr
  subst hr
  obtain ⟨b, rfl, -⟩ := k2
  obtain ⟨k, rfl, k1, -⟩ := k3
  obtain ⟨v, rfl, -⟩ := k4
  have ek := i_cst 1 k1 (by decide)
  subst ek
  have hC := hall_11 wS d
  have es : semZ shP wS (d + 17) 145 [.ref 68, .int b, .int 1, .int v] m = rn shP tb0 mN mO (semZ shP wS (d + 16)) (some .int) (codeZ 145) 60 [.ref 68, .int b, .int 1, .int v, noV] [.int (bI (decide (0 ≤ v.toInt64) && decide (v.toInt64 ≤ (m.1 68 3 - 1).toInt64)))] m := by
    have e1 : ¬ (1 : Int32) = 0 := by decide
    rw [se_X7_alter, rn_eq, b_X7_alter_0]
    simp only [EV, LV, CB, OI, OL, NP, CZ, popN, CT, OZ, List.map_nil, List.map_cons, List.sum_nil, List.sum_cons, Option.toList, List.nil_append, List.cons_append, Int.reduceToNat, Nat.reduceAdd, Nat.reduceLT, Nat.reduceLeDiff, List.length_cons, List.length_nil, Nat.zero_add, if_true, if_false, reduceIte, and_self, and_true, true_and, eq_self, reduceCtorEq, e1, not_false_eq_true]
    rw [rn_eq, b_X7_alter_16]
    simp only [EV, LV, CB, OI, OL, NP, CZ, popN, CT, OZ, List.map_nil, List.map_cons, List.sum_nil, List.sum_cons, Option.toList, List.nil_append, List.cons_append, Int.reduceToNat, Nat.reduceAdd, Nat.reduceLT, Nat.reduceLeDiff, List.length_cons, List.length_nil, Nat.zero_add, if_true, if_false, reduceIte, and_self, and_true, true_and, eq_self, reduceCtorEq, gM MP68, t_isVillage wS (d + 14) MP68, not_true_eq_false]
  show ∃ r, semZ shP wS (d + 17) 145 [.ref 68, .int b, .int 1, .int v] m = some r ∧ _
  rw [es, ← mT_145]
  cases hq : (decide (0 ≤ v.toInt64) && decide (v.toInt64 ≤ (m.1 68 3 - 1).toInt64)) with
  | true =>
    have hv := pm_v hI hq
    exact go_alt hC k_al1t rfl rfl hI (fun L1 => ⟨gv_rf 68, gv_tI b, gv_c1, gv_i hv.1 hv.2, trivial, trivial⟩) (fun L1 => ⟨gv_c1, trivial⟩) rfl
  | false =>
    exact go_alt hC k_al1f rfl rfl hI (fun L1 => ⟨gv_rf 68, gv_tI b, gv_c1, gv_tI v, trivial, trivial⟩) (fun L1 => ⟨gv_c0, trivial⟩) rfl
end
section
/-! BY HAND: read of the class -/
def fAt (th sz : Int32) (i : Int64) : Int32 := if th = 0 then 1 else if i < 0 then 2 else if i < sz.toInt64 then 0 else 2
def fPr (th sz ln l : Int32) (i : Int64) : Int32 := if ¬ th = 0 ∧ ¬ ln = l then 3 else if fAt th sz i = 0 then fAt th sz (i + 1) else fAt th sz i
section H6
variable {sh : List ShE} {w : Nat} (wS : List Value → Mm → Option Rs) (d : Nat)
theorem t_fop (hw : HSh sh w) (l : Int32) (i : Int64) (m : Mm) : semZ sh wS (d + 2) 2 [.ref w, .int l, .long i] m = some (some (.int (fPr (m.1 w 0) (m.1 w 1) (m.1 w 3) l i)), m) := by
  rw [se_X1_faultOfPair, rn_eq, b_X1_faultOfPair_0]
  have key : rn sh tb0 mN mO (semZ sh wS (d + 1)) (some .int) (codeZ 2) 17 [.ref w, .int l, .long i, noV, noV] [] m = some (some (.int (if fAt (m.1 w 0) (m.1 w 1) i = 0 then fAt (m.1 w 0) (m.1 w 1) (i + 1) else fAt (m.1 w 0) (m.1 w 1) i)), m) := by
    have f1 := t_faultAt wS d hw i m
    have f2 := t_faultAt wS d hw (i + 1) m
    rw [rn_eq, b_X1_faultOfPair_17]
    by_cases h : fAt (m.1 w 0) (m.1 w 1) i = 0
    · have h' : (if m.1 w 0 = 0 then 1 else if i < 0 then 2 else if i < (m.1 w 1).toInt64 then 0 else 2 : Int32) = 0 := h
      rw [h'] at f1
      simp only [EV, LV, CB, OI, OL, NP, CZ, popN, CT, OZ, List.map_nil, List.map_cons, List.sum_nil, List.sum_cons, Option.toList, List.nil_append, List.cons_append, Int.reduceToNat, Nat.reduceAdd, Nat.reduceLT, Nat.reduceLeDiff, List.length_cons, List.length_nil, Nat.zero_add, if_true, if_false, reduceIte, and_self, and_true, true_and, eq_self, reduceCtorEq, gH hw, f1, h]
      rw [rn_eq, b_X1_faultOfPair_34]
      simp only [EV, LV, CB, OI, OL, NP, CZ, popN, CT, OZ, List.map_nil, List.map_cons, List.sum_nil, List.sum_cons, Option.toList, List.nil_append, List.cons_append, Int.reduceToNat, Nat.reduceAdd, Nat.reduceLT, Nat.reduceLeDiff, List.length_cons, List.length_nil, Nat.zero_add, if_true, if_false, reduceIte, and_self, and_true, true_and, eq_self, reduceCtorEq, gH hw, f2]
      rfl
    · have h' : ¬ (if m.1 w 0 = 0 then 1 else if i < 0 then 2 else if i < (m.1 w 1).toInt64 then 0 else 2 : Int32) = 0 := h
      simp only [EV, LV, CB, OI, OL, NP, CZ, popN, CT, OZ, List.map_nil, List.map_cons, List.sum_nil, List.sum_cons, Option.toList, List.nil_append, List.cons_append, Int.reduceToNat, Nat.reduceAdd, Nat.reduceLT, Nat.reduceLeDiff, List.length_cons, List.length_nil, Nat.zero_add, if_true, if_false, reduceIte, and_self, and_true, true_and, eq_self, reduceCtorEq, gH hw, f1, h, h']
      rw [rn_eq, b_X1_faultOfPair_41]
      simp only [EV, LV, CB, OI, OL, NP, CZ, popN, CT, OZ, List.map_nil, List.map_cons, List.sum_nil, List.sum_cons, Option.toList, List.nil_append, List.cons_append, Int.reduceToNat, Nat.reduceAdd, Nat.reduceLT, Nat.reduceLeDiff, List.length_cons, List.length_nil, Nat.zero_add, if_true, if_false, reduceIte, and_self, and_true, true_and, eq_self, reduceCtorEq]
      rfl
  unfold fPr
  by_cases h0 : m.1 w 0 = 0
  · simp only [EV, LV, CB, OI, OL, NP, CZ, popN, CT, OZ, List.map_nil, List.map_cons, List.sum_nil, List.sum_cons, Option.toList, List.nil_append, List.cons_append, Int.reduceToNat, Nat.reduceAdd, Nat.reduceLT, Nat.reduceLeDiff, List.length_cons, List.length_nil, Nat.zero_add, if_true, if_false, reduceIte, and_self, and_true, true_and, eq_self, reduceCtorEq, gH hw, h0, not_true_eq_false, false_and]
    rw [h0] at key
    exact key
  · by_cases h1 : m.1 w 3 = l
    · simp only [EV, LV, CB, OI, OL, NP, CZ, popN, CT, OZ, List.map_nil, List.map_cons, List.sum_nil, List.sum_cons, Option.toList, List.nil_append, List.cons_append, Int.reduceToNat, Nat.reduceAdd, Nat.reduceLT, Nat.reduceLeDiff, List.length_cons, List.length_nil, Nat.zero_add, if_true, if_false, reduceIte, and_self, and_true, true_and, eq_self, reduceCtorEq, gH hw, h0, h1, not_true_eq_false, not_false_eq_true, and_false]
      exact key
    · simp only [EV, LV, CB, OI, OL, NP, CZ, popN, CT, OZ, List.map_nil, List.map_cons, List.sum_nil, List.sum_cons, Option.toList, List.nil_append, List.cons_append, Int.reduceToNat, Nat.reduceAdd, Nat.reduceLT, Nat.reduceLeDiff, List.length_cons, List.length_nil, Nat.zero_add, if_true, if_false, reduceIte, and_self, and_true, true_and, eq_self, reduceCtorEq, gH hw, h0, h1, not_false_eq_true]
end H6
theorem fAt_0 {th sz : Int32} {i : Int64} (h : fAt th sz i = 0) : 0 ≤ i.toInt ∧ i.toInt < sz.toInt := by
  unfold fAt at h
  split at h
  · exact absurd h (by decide)
  · split at h
    · exact absurd h (by decide)
    · rename_i h1
      split at h
      · rename_i h2
        rw [Int64.lt_iff_toInt_lt] at h1 h2
        rw [Int32.toInt_toInt64] at h2
        have h0 : (0 : Int64).toInt = 0 := by decide
        omega
      · exact absurd h (by decide)
theorem bm64 {z : Int} (h1 : -9223372036854775808 ≤ z) (h2 : z ≤ 9223372036854775807) : z.bmod (2 ^ 64) = z := by
  show z.bmod 18446744073709551616 = z
  rw [Int.bmod_def]
  split <;> omega
theorem fPr_0 {th sz ln l : Int32} {i : Int64} (h : fPr th sz ln l i = 0) : 0 ≤ i.toInt ∧ i.toInt + 1 < sz.toInt := by
  unfold fPr at h
  split at h
  · exact absurd h (by decide)
  · split at h
    · rename_i h1
      have a := fAt_0 h1
      have b := fAt_0 h
      have r := r32 sz
      have e : (i + 1).toInt = i.toInt + 1 := by
        rw [Int64.toInt_add, show (1 : Int64).toInt = 1 from by decide]
        exact bm64 (by omega) (by omega)
      omega
    · rename_i h1
      exact absurd h h1
/-- the contract of read -/
def c_rd : CE := (96, [rF [0], tI, tI, tI, tI], [], tI, [], ([5, 6, 7, 8, 9], [201, 9]), [])
theorem ret_tI (x : Int32) : retG tI (some (.int x)) := ⟨x, rfl, gN_i (r32 x).1 (r32 x).2, Or.inl rfl, Or.inl rfl, fun _ q hq => by cases hq⟩
theorem af_mem : q_X6_addFound ∈ t_11 := by
  unfold q_X6_addFound t_11 t_10 t_9 t_8 t_7 t_6 t_5 t_4 t_3 t_2
  simp only [List.mem_append, List.mem_cons, true_or, or_true]
theorem l_i32 {i : Int64} {c : Nat} (h : i.toInt = c) (hc : c < 2 ^ 31) : i.toInt32 = nI c := by
  apply Int32.toInt_inj.mp
  rw [Int64.toInt_toInt32, nI_toInt hc, h]
  exact bm32 (by omega) (by omega)
theorem aR28 : ∀ k, k < 4 → arI shP 28 (nI k) = some (60 + 2 * k) := by decide +kernel
theorem rd_end (C : CallS) {mE m : Mm} (hI : InvT TV m) (hf : frm c_rd.2.2.2.2.2.1 mE m) (k l f n bf x cm i : Int32) (w : Nat) (v10 v11 v12 : Value) : ∃ r, rn shP tb0 mN mO C (some .int) (codeZ 96) 150 [.ref 0, .int k, .int l, .int f, .int n, .ref w, .int bf, .int x, .int cm, .int i, v10, v11, v12] [] m = some r ∧ PostR TV mE c_rd r := by
  refine ⟨(some (.int cm), wI m 0 9 x), ?_, ret_tI cm, Inv_wI hI (r32 x).1 (r32 x).2, rho_nil, frm_wI (by decide) hf (by decide), rfl⟩
  rw [rn_eq, b_X6_read_150]
  have e : pfI shP 609 0 (.int x) m = some (wI m 0 9 x) := rfl
  simp only [EV, LV, CB, OI, OL, NP, CZ, popN, CT, OZ, List.map_nil, List.map_cons, List.sum_nil, List.sum_cons, Option.toList, List.nil_append, List.cons_append, Int.reduceToNat, Nat.reduceAdd, Nat.reduceLT, Nat.reduceLeDiff, List.length_cons, List.length_nil, Nat.zero_add, if_true, if_false, reduceIte, and_self, and_true, true_and, eq_self, reduceCtorEq, e]
theorem rd_loop (wS : List Value → Mm → Option Rs) (d : Nat) {mE : Mm} {w : Nat} (hw : w ∈ ([60, 62, 64, 66] : List Nat)) (k l f : Int32) (N : Nat) (hN : N ≤ 20) (bf : Int32) (hb : 0 ≤ bf.toInt ∧ bf.toInt ≤ 6) : ∀ (q i : Nat), i + q = N → ∀ (m : Mm) (x cm : Int32) (v10 v11 v12 : Value), InvT TV m → frm c_rd.2.2.2.2.2.1 mE m → ((v10 = noV ∧ v11 = noV) ∨ ∃ y : Int64, v10 = .long y ∧ v11 = noV) → (v12 = noV ∨ ∃ y : Int32, v12 = .int y) → ∃ r, rn shP tb0 mN mO (semZ shP wS (d + 16)) (some .int) (codeZ 96) 57 [.ref 0, .int k, .int l, .int f, .int (nI N), .ref w, .int bf, .int x, .int cm, .int (nI i), v10, v11, v12] [] m = some r ∧ PostR TV mE c_rd r := by
  intro q
  induction q with
  | zero =>
    intro i hi m x cm v10 v11 v12 hI hf h10 h12
    have e0 : i = N := by omega
    subst e0
    have e1 : nI i ≤ nI i := Int32.le_refl _
    obtain ⟨r, h1, h2⟩ := rd_end (semZ shP wS (d + 16)) hI hf k l f (nI i) bf x cm (nI i) w v10 v11 v12
    refine ⟨r, ?_, h2⟩
    rw [rn_eq, b_X6_read_57]
    simp only [EV, LV, CB, OI, OL, NP, CZ, popN, CT, OZ, List.map_nil, List.map_cons, List.sum_nil, List.sum_cons, Option.toList, List.nil_append, List.cons_append, Int.reduceToNat, Nat.reduceAdd, Nat.reduceLT, Nat.reduceLeDiff, List.length_cons, List.length_nil, Nat.zero_add, if_true, if_false, reduceIte, and_self, and_true, true_and, eq_self, reduceCtorEq, e1]
    exact h1
  | succ q ih =>
    intro i hi m x cm v10 v11 v12 hI hf h10 h12
    have e1 : ¬ nI N ≤ nI i := nI_ge (by omega) (by omega)
    by_cases hx : x = 0
    · subst hx
      have hh := hs_of hw
      generalize hfi : f.toInt64 + ((2 : Int32) * nI i).toInt64 = fi
      have hfp := t_fop wS (d + 14) hh l fi m
      by_cases hp : fPr (m.1 w 0) (m.1 w 1) (m.1 w 3) l fi = 0
      · rw [hp] at hfp
        have pp := fPr_0 hp
        have bs := hI w 1
        rw [(iv_sz hw).2] at bs
        have bs2 : (m.1 w 1).toInt ≤ 40 := bs.2
        obtain ⟨c, hc⟩ : ∃ c : Nat, fi.toInt = c := ⟨fi.toInt.toNat, by omega⟩
        have ec := l_i32 hc (by omega)
        have e2 : inR (nI c) 40 = true := inR_nI (by omega) (by omega)
        have e3 : (nI c).toNatClampNeg = c := nI_clamp (by omega)
        have e4 : inR (nI (c + 1)) 40 = true := inR_nI (by omega) (by omega)
        have e5 : (nI (c + 1)).toNatClampNeg = c + 1 := nI_clamp (by omega)
        obtain ⟨v, m', a1, a2, a3, a4, a5, -⟩ := hall_11 wS d q_X6_addFound af_mem [.ref 0, .int (m.1 (w + 1) c), .int (m.1 (w + 1) (c + 1)), .int 0, .int 0] m ⟨gv_rf 0, gv_tI _, gv_tI _, gv_tI _, gv_tI _, trivial⟩ hI rho_nil
        cases v with
        | none => exact a2.elim
        | some v =>
          obtain ⟨y, hy, -⟩ := a2
          subst hy
          have a1 : semZ shP wS (d + 16) 55 [.ref 0, .int (m.1 (w + 1) c), .int (m.1 (w + 1) (c + 1)), .int 0, .int 0] m = some (some (.int y), m') := a1
          have hf' : frm c_rd.2.2.2.2.2.1 mE m' := frm_tr hf a5 (by decide)
          by_cases hy : 0 ≤ y
          · have hg : ∃ r, rn shP tb0 mN mO (semZ shP wS (d + 16)) (some .int) (codeZ 96) 141 [.ref 0, .int k, .int l, .int f, .int (nI N), .ref w, .int bf, .int 0, .int cm, .int (nI i), .long fi, noV, .int (nI c)] [] m' = some r ∧ PostR TV mE c_rd r := by
              obtain ⟨r, h1, h2⟩ := ih (i + 1) (by omega) m' 0 (cm + 1) (.long fi) noV (.int (nI c)) a3 hf' (Or.inr ⟨fi, rfl, rfl⟩) (Or.inr ⟨_, rfl⟩)
              refine ⟨r, ?_, h2⟩
              rw [rn_eq, b_X6_read_141]
              simp only [EV, LV, CB, OI, OL, NP, CZ, popN, CT, OZ, List.map_nil, List.map_cons, List.sum_nil, List.sum_cons, Option.toList, List.nil_append, List.cons_append, Int.reduceToNat, Nat.reduceAdd, Nat.reduceLT, Nat.reduceLeDiff, List.length_cons, List.length_nil, Nat.zero_add, if_true, if_false, reduceIte, and_self, and_true, true_and, eq_self, reduceCtorEq, nI_1]
              exact h1
            obtain ⟨r, h1, h2⟩ := hg
            refine ⟨r, ?_, h2⟩
            rw [rn_eq, b_X6_read_57]
            rcases h10 with ⟨rfl, rfl⟩ | ⟨y0, rfl, rfl⟩
            · rcases h12 with rfl | ⟨y1, rfl⟩
              · simp only [EV, LV, CB, OI, OL, NP, CZ, popN, CT, OZ, List.map_nil, List.map_cons, List.sum_nil, List.sum_cons, Option.toList, List.nil_append, List.cons_append, Int.reduceToNat, Nat.reduceAdd, Nat.reduceLT, Nat.reduceLeDiff, List.length_cons, List.length_nil, Nat.zero_add, if_true, if_false, reduceIte, and_self, and_true, true_and, eq_self, reduceCtorEq, e1, hfi, hfp, gP0, gH hh, aH hh, ec, e2, e3, nI_1, e4, e5, a1, hy, not_true_eq_false]
                exact h1
              · simp only [EV, LV, CB, OI, OL, NP, CZ, popN, CT, OZ, List.map_nil, List.map_cons, List.sum_nil, List.sum_cons, Option.toList, List.nil_append, List.cons_append, Int.reduceToNat, Nat.reduceAdd, Nat.reduceLT, Nat.reduceLeDiff, List.length_cons, List.length_nil, Nat.zero_add, if_true, if_false, reduceIte, and_self, and_true, true_and, eq_self, reduceCtorEq, e1, hfi, hfp, gP0, gH hh, aH hh, ec, e2, e3, nI_1, e4, e5, a1, hy, not_true_eq_false]
                exact h1
            · rcases h12 with rfl | ⟨y1, rfl⟩
              · simp only [EV, LV, CB, OI, OL, NP, CZ, popN, CT, OZ, List.map_nil, List.map_cons, List.sum_nil, List.sum_cons, Option.toList, List.nil_append, List.cons_append, Int.reduceToNat, Nat.reduceAdd, Nat.reduceLT, Nat.reduceLeDiff, List.length_cons, List.length_nil, Nat.zero_add, if_true, if_false, reduceIte, and_self, and_true, true_and, eq_self, reduceCtorEq, e1, hfi, hfp, gP0, gH hh, aH hh, ec, e2, e3, nI_1, e4, e5, a1, hy, not_true_eq_false]
                exact h1
              · simp only [EV, LV, CB, OI, OL, NP, CZ, popN, CT, OZ, List.map_nil, List.map_cons, List.sum_nil, List.sum_cons, Option.toList, List.nil_append, List.cons_append, Int.reduceToNat, Nat.reduceAdd, Nat.reduceLT, Nat.reduceLeDiff, List.length_cons, List.length_nil, Nat.zero_add, if_true, if_false, reduceIte, and_self, and_true, true_and, eq_self, reduceCtorEq, e1, hfi, hfp, gP0, gH hh, aH hh, ec, e2, e3, nI_1, e4, e5, a1, hy, not_true_eq_false]
                exact h1
          · have ep : pfI shP 501 1 (.int bf) m' = some (wI m' 1 1 bf) := rfl
            refine ⟨(some (.int (-20 - nI i)), wI m' 1 1 bf), ?_, ret_tI _, Inv_wI a3 ?_ ?_, rho_nil, frm_wI (by decide) hf' (by decide), rfl⟩
            · rw [rn_eq, b_X6_read_57]
              rcases h10 with ⟨rfl, rfl⟩ | ⟨y0, rfl, rfl⟩
              · rcases h12 with rfl | ⟨y1, rfl⟩
                · simp only [EV, LV, CB, OI, OL, NP, CZ, popN, CT, OZ, List.map_nil, List.map_cons, List.sum_nil, List.sum_cons, Option.toList, List.nil_append, List.cons_append, Int.reduceToNat, Nat.reduceAdd, Nat.reduceLT, Nat.reduceLeDiff, List.length_cons, List.length_nil, Nat.zero_add, if_true, if_false, reduceIte, and_self, and_true, true_and, eq_self, reduceCtorEq, e1, hfi, hfp, gP0, gH hh, aH hh, ec, e2, e3, nI_1, e4, e5, a1, hy, not_true_eq_false, ep]
                · simp only [EV, LV, CB, OI, OL, NP, CZ, popN, CT, OZ, List.map_nil, List.map_cons, List.sum_nil, List.sum_cons, Option.toList, List.nil_append, List.cons_append, Int.reduceToNat, Nat.reduceAdd, Nat.reduceLT, Nat.reduceLeDiff, List.length_cons, List.length_nil, Nat.zero_add, if_true, if_false, reduceIte, and_self, and_true, true_and, eq_self, reduceCtorEq, e1, hfi, hfp, gP0, gH hh, aH hh, ec, e2, e3, nI_1, e4, e5, a1, hy, not_true_eq_false, ep]
              · rcases h12 with rfl | ⟨y1, rfl⟩
                · simp only [EV, LV, CB, OI, OL, NP, CZ, popN, CT, OZ, List.map_nil, List.map_cons, List.sum_nil, List.sum_cons, Option.toList, List.nil_append, List.cons_append, Int.reduceToNat, Nat.reduceAdd, Nat.reduceLT, Nat.reduceLeDiff, List.length_cons, List.length_nil, Nat.zero_add, if_true, if_false, reduceIte, and_self, and_true, true_and, eq_self, reduceCtorEq, e1, hfi, hfp, gP0, gH hh, aH hh, ec, e2, e3, nI_1, e4, e5, a1, hy, not_true_eq_false, ep]
                · simp only [EV, LV, CB, OI, OL, NP, CZ, popN, CT, OZ, List.map_nil, List.map_cons, List.sum_nil, List.sum_cons, Option.toList, List.nil_append, List.cons_append, Int.reduceToNat, Nat.reduceAdd, Nat.reduceLT, Nat.reduceLeDiff, List.length_cons, List.length_nil, Nat.zero_add, if_true, if_false, reduceIte, and_self, and_true, true_and, eq_self, reduceCtorEq, e1, hfi, hfp, gP0, gH hh, aH hh, ec, e2, e3, nI_1, e4, e5, a1, hy, not_true_eq_false, ep]
            · rw [show ivO TV 1 1 = (0, 6) from by decide +kernel]; exact hb.1
            · rw [show ivO TV 1 1 = (0, 6) from by decide +kernel]; exact hb.2
      · have hg : ∃ r, rn shP tb0 mN mO (semZ shP wS (d + 16)) (some .int) (codeZ 96) 144 [.ref 0, .int k, .int l, .int f, .int (nI N), .ref w, .int bf, .int (fPr (m.1 w 0) (m.1 w 1) (m.1 w 3) l fi), .int cm, .int (nI i), .long fi, noV, v12] [] m = some r ∧ PostR TV mE c_rd r := by
          obtain ⟨r, h1, h2⟩ := ih (i + 1) (by omega) m (fPr (m.1 w 0) (m.1 w 1) (m.1 w 3) l fi) cm (.long fi) noV v12 hI hf (Or.inr ⟨fi, rfl, rfl⟩) h12
          refine ⟨r, ?_, h2⟩
          rw [rn_eq, b_X6_read_144]
          simp only [EV, LV, CB, OI, OL, NP, CZ, popN, CT, OZ, List.map_nil, List.map_cons, List.sum_nil, List.sum_cons, Option.toList, List.nil_append, List.cons_append, Int.reduceToNat, Nat.reduceAdd, Nat.reduceLT, Nat.reduceLeDiff, List.length_cons, List.length_nil, Nat.zero_add, if_true, if_false, reduceIte, and_self, and_true, true_and, eq_self, reduceCtorEq, nI_1]
          exact h1
        obtain ⟨r, h1, h2⟩ := hg
        refine ⟨r, ?_, h2⟩
        rw [rn_eq, b_X6_read_57]
        rcases h10 with ⟨rfl, rfl⟩ | ⟨y0, rfl, rfl⟩
        · simp only [EV, LV, CB, OI, OL, NP, CZ, popN, CT, OZ, List.map_nil, List.map_cons, List.sum_nil, List.sum_cons, Option.toList, List.nil_append, List.cons_append, Int.reduceToNat, Nat.reduceAdd, Nat.reduceLT, Nat.reduceLeDiff, List.length_cons, List.length_nil, Nat.zero_add, if_true, if_false, reduceIte, and_self, and_true, true_and, eq_self, reduceCtorEq, e1, hfi, hfp, gP0, gH hh, hp, not_true_eq_false, not_false_eq_true]
          exact h1
        · simp only [EV, LV, CB, OI, OL, NP, CZ, popN, CT, OZ, List.map_nil, List.map_cons, List.sum_nil, List.sum_cons, Option.toList, List.nil_append, List.cons_append, Int.reduceToNat, Nat.reduceAdd, Nat.reduceLT, Nat.reduceLeDiff, List.length_cons, List.length_nil, Nat.zero_add, if_true, if_false, reduceIte, and_self, and_true, true_and, eq_self, reduceCtorEq, e1, hfi, hfp, gP0, gH hh, hp, not_true_eq_false, not_false_eq_true]
          exact h1
    · obtain ⟨r, h1, h2⟩ := rd_end (semZ shP wS (d + 16)) hI hf k l f (nI N) bf x cm (nI i) w v10 v11 v12
      refine ⟨r, ?_, h2⟩
      rw [rn_eq, b_X6_read_57]
      simp only [EV, LV, CB, OI, OL, NP, CZ, popN, CT, OZ, List.map_nil, List.map_cons, List.sum_nil, List.sum_cons, Option.toList, List.nil_append, List.cons_append, Int.reduceToNat, Nat.reduceAdd, Nat.reduceLT, Nat.reduceLeDiff, List.length_cons, List.length_nil, Nat.zero_add, if_true, if_false, reduceIte, and_self, and_true, true_and, eq_self, reduceCtorEq, e1, hx, not_false_eq_true]
      exact h1
end
section
/-! BY HAND: read of the class, whole; read of the model -/
theorem wi_i {a b v : Int32} (h : (decide (a ≤ v) && decide (v ≤ b)) = true) : a.toInt ≤ v.toInt ∧ v.toInt ≤ b.toInt := by
  simp only [Bool.and_eq_true, decide_eq_true_eq, Int32.le_iff_toInt_le] at h
  exact h
theorem hd_rd (wS : List Value → Mm → Option Rs) (d : Nat) : Hd TV (semZ shP wS (d + 17)) c_rd := by
  apply Hd_run
  intro As m g hI hR
  obtain ⟨v1, vs, rfl, k1, g⟩ := gT_cons g
  obtain ⟨v2, vs, rfl, k2, g⟩ := gT_cons g
  obtain ⟨v3, vs, rfl, k3, g⟩ := gT_cons g
  obtain ⟨v4, vs, rfl, k4, g⟩ := gT_cons g
  obtain ⟨v5, vs, rfl, k5, g⟩ := gT_cons g
  cases gT_nil g
  obtain ⟨r', rfl, hr⟩ := k1
  have hr : r' = 0 := List.mem_singleton.mp hr
  subst hr
  obtain ⟨k, rfl, -⟩ := k2
  obtain ⟨l, rfl, -⟩ := k3
  obtain ⟨f, rfl, -⟩ := k4
  obtain ⟨n, rfl, -⟩ := k5
  show ∃ r, semZ shP wS (d + 17) 96 [.ref 0, .int k, .int l, .int f, .int n] m = some r ∧ _
  have bad : PostR TV m c_rd (some (.int (-1)), m) := ⟨ret_tI _, hI, rho_nil, frm_rf, rfl⟩
  rw [se_X6_read, rn_eq, b_X6_read_0]
  cases h1 : (decide (0 ≤ k) && decide (k ≤ 3)) with
  | false =>
    refine ⟨_, ?_, bad⟩
    simp only [EV, LV, CB, OI, OL, NP, CZ, popN, CT, OZ, List.map_nil, List.map_cons, List.sum_nil, List.sum_cons, Option.toList, List.nil_append, List.cons_append, Int.reduceToNat, Nat.reduceAdd, Nat.reduceLT, Nat.reduceLeDiff, List.length_cons, List.length_nil, Nat.zero_add, if_true, if_false, reduceIte, and_self, and_true, true_and, eq_self, reduceCtorEq, t_within wS (d + 15), h1, bI_f]
    rw [rn_eq, b_X6_read_29]
    simp only [EV, LV, CB, OI, OL, NP, CZ, popN, CT, OZ, List.map_nil, List.map_cons, List.sum_nil, List.sum_cons, Option.toList, List.nil_append, List.cons_append, Int.reduceToNat, Nat.reduceAdd, Nat.reduceLT, Nat.reduceLeDiff, List.length_cons, List.length_nil, Nat.zero_add, if_true, if_false, reduceIte, and_self, and_true, true_and, eq_self, reduceCtorEq]
  | true =>
    cases h2 : (decide (0 ≤ l) && decide (l ≤ 2)) with
    | false =>
      refine ⟨_, ?_, bad⟩
      have e10 : ¬ (1 : Int32) = 0 := by decide
      simp only [EV, LV, CB, OI, OL, NP, CZ, popN, CT, OZ, List.map_nil, List.map_cons, List.sum_nil, List.sum_cons, Option.toList, List.nil_append, List.cons_append, Int.reduceToNat, Nat.reduceAdd, Nat.reduceLT, Nat.reduceLeDiff, List.length_cons, List.length_nil, Nat.zero_add, if_true, if_false, reduceIte, and_self, and_true, true_and, eq_self, reduceCtorEq, t_within wS (d + 15), h1, h2, bI_f, bI_t, e10]
      rw [rn_eq, b_X6_read_29]
      simp only [EV, LV, CB, OI, OL, NP, CZ, popN, CT, OZ, List.map_nil, List.map_cons, List.sum_nil, List.sum_cons, Option.toList, List.nil_append, List.cons_append, Int.reduceToNat, Nat.reduceAdd, Nat.reduceLT, Nat.reduceLeDiff, List.length_cons, List.length_nil, Nat.zero_add, if_true, if_false, reduceIte, and_self, and_true, true_and, eq_self, reduceCtorEq]
    | true =>
      cases h3 : (decide (0 ≤ n) && decide (n ≤ 20)) with
      | false =>
        refine ⟨_, ?_, bad⟩
        have e10 : ¬ (1 : Int32) = 0 := by decide
        simp only [EV, LV, CB, OI, OL, NP, CZ, popN, CT, OZ, List.map_nil, List.map_cons, List.sum_nil, List.sum_cons, Option.toList, List.nil_append, List.cons_append, Int.reduceToNat, Nat.reduceAdd, Nat.reduceLT, Nat.reduceLeDiff, List.length_cons, List.length_nil, Nat.zero_add, if_true, if_false, reduceIte, and_self, and_true, true_and, eq_self, reduceCtorEq, t_within wS (d + 15), h1, h2, h3, bI_f, bI_t, not_true_eq_false, e10]
      | true =>
        have q1 := wi_i h1
        have q3 := wi_i h3
        have z0 : (0 : Int32).toInt = 0 := by decide
        have z3 : (3 : Int32).toInt = 3 := by decide
        have z20 : (20 : Int32).toInt = 20 := by decide
        have ek := i_nI (y := k) (by omega)
        have en := i_nI (y := n) (by omega)
        have hk : k.toInt.toNat < 4 := by omega
        have hn : n.toInt.toNat ≤ 20 := by omega
        have ea := aR28 _ hk
        rw [← ek] at ea
        have hw : 60 + 2 * k.toInt.toNat ∈ ([60, 62, 64, 66] : List Nat) := by
          generalize k.toInt.toNat = K at hk
          match K, hk with
          | 0, _ => decide
          | 1, _ => decide
          | 2, _ => decide
          | 3, _ => decide
        have hb := hI 1 1
        rw [show ivO TV 1 1 = (0, 6) from by decide +kernel] at hb
        obtain ⟨r, a1, a2⟩ := rd_loop wS d (mE := m) hw k l f n.toInt.toNat hn (m.1 1 1) hb n.toInt.toNat 0 (by omega) m 0 0 noV noV noV hI frm_rf (Or.inl ⟨rfl, rfl⟩) (Or.inl rfl)
        rw [← en] at a1
        refine ⟨r, ?_, a2⟩
        have e10 : ¬ (1 : Int32) = 0 := by decide
        simp only [EV, LV, CB, OI, OL, NP, CZ, popN, CT, OZ, List.map_nil, List.map_cons, List.sum_nil, List.sum_cons, Option.toList, List.nil_append, List.cons_append, Int.reduceToNat, Nat.reduceAdd, Nat.reduceLT, Nat.reduceLeDiff, List.length_cons, List.length_nil, Nat.zero_add, if_true, if_false, reduceIte, and_self, and_true, true_and, eq_self, reduceCtorEq, t_within wS (d + 15), h1, h2, h3, bI_f, bI_t, not_true_eq_false, not_false_eq_true, e10]
        rw [rn_eq, b_X6_read_31]
        simp only [EV, LV, CB, OI, OL, NP, CZ, popN, CT, OZ, List.map_nil, List.map_cons, List.sum_nil, List.sum_cons, Option.toList, List.nil_append, List.cons_append, Int.reduceToNat, Nat.reduceAdd, Nat.reduceLT, Nat.reduceLeDiff, List.length_cons, List.length_nil, Nat.zero_add, if_true, if_false, reduceIte, and_self, and_true, true_and, eq_self, reduceCtorEq, gP0, ea, gW WP1]
        exact a1
/-! the model's read -/
def stC (a : Nat) : List Nat := (List.range 63).map (fun j => a + j)
def c_rm : CE := (182, [rF [68], tI, tI, tI, tI], [], tI, [], ([80], 13627 :: stC 13800), [])
theorem fm_mem : q_X7_find ∈ t_11 := by
  unfold q_X7_find t_11 t_10 t_9 t_8 t_7 t_6 t_5 t_4 t_3 t_2 t_1
  simp only [List.mem_append, List.mem_cons, true_or, or_true]
theorem tv_80 : (List.range 63).all (fun j => decide ((ivO TV 80 j).1 ≤ (ivO TV 69 j).1) && decide ((ivO TV 69 j).2 ≤ (ivO TV 80 j).2)) = true := by decide +kernel
section H7
variable (wS : List Value → Mm → Option Rs) (d : Nat)
theorem rm_cp (C : CallS) (m : Mm) (g : Nat → Int32) (k l f n : Int32) (V : List Value) : ∀ (q i : Nat), i + q = 63 → rn shP tb0 mN mO C (some .int) (codeZ 182) 26 ([.ref 68, .int k, .int l, .int f, .int n, .int (nI i)] ++ V) [] (setR m 80 (fillR (m.1 69) g i)) = rn shP tb0 mN mO C (some .int) (codeZ 182) 53 ([.ref 68, .int k, .int l, .int f, .int n, .int 63] ++ V) [] (setR m 80 (fillR (m.1 69) g 63)) := by
  intro q
  induction q with
  | zero =>
    intro i hi
    have e0 : i = 63 := by omega
    subst e0
    rw [rn_eq, b_X7_read_26]
    have e1 : (63 : Int32) ≤ nI 63 := by decide +kernel
    simp only [e1, EV, LV, CB, OI, OL, NP, CZ, popN, CT, OZ, List.map_nil, List.map_cons, List.sum_nil, List.sum_cons, Option.toList, List.nil_append, List.cons_append, Int.reduceToNat, Nat.reduceAdd, Nat.reduceLT, Nat.reduceLeDiff, List.length_cons, List.length_nil, Nat.zero_add, if_true, if_false, reduceIte, and_self, and_true, true_and, eq_self, reduceCtorEq]
    rfl
  | succ q ih =>
    intro i hi
    have e1 : ¬ (63 : Int32) ≤ nI i := nI_ge (a := i) (b := 63) (by omega) (by omega)
    have e2 : inR (nI i) 63 = true := inR_nI (by omega) (by omega)
    have e5 : inR (nI i) 189 = true := inR_nI (by omega) (by omega)
    have e3 : (nI i).toNatClampNeg = i := nI_clamp (by omega)
    have e4 := fillR_s (m.1 69) g i
    have e : (69 : Nat) ≠ 80 := by omega
    have g1 := gM MP68
    have a1 := aM MP68
    have s1 := sM MP68
    simp only [Nat.reduceAdd] at g1 a1 s1
    rw [rn_eq, b_X7_read_26]
    simp only [EV, LV, CB, OI, OL, NP, CZ, popN, CT, OZ, List.map_nil, List.map_cons, List.sum_nil, List.sum_cons, Option.toList, List.nil_append, List.cons_append, Int.reduceToNat, Nat.reduceAdd, Nat.reduceLT, Nat.reduceLeDiff, List.length_cons, List.length_nil, Nat.zero_add, if_true, if_false, reduceIte, and_self, and_true, true_and, eq_self, reduceCtorEq, g1, a1, s1, e1, e2, e3, e5, wI_R, setR_s, setR_n _ _ e, setR_R, e4, nI_1]
    exact ih (i + 1) (by omega)
/-- the state given back -/
theorem rm_bk (C : CallS) (m : Mm) (g : Nat → Int32) (k l f n x w i p : Int32) (v10 : Value) : ∀ (q j : Nat), j + q = 63 → rn shP tb0 mN mO C (some .int) (codeZ 182) 210 [.ref 68, .int k, .int l, .int f, .int n, .int x, .int w, .int i, .int p, .int (nI j), v10] [] (setR m 69 (fillR (m.1 80) g j)) = some (some (.int (-20 - i)), setR m 69 (fillR (m.1 80) g 63)) := by
  intro q
  induction q with
  | zero =>
    intro j hj
    have e0 : j = 63 := by omega
    subst e0
    rw [rn_eq, b_X7_read_210]
    have e1 : (63 : Int32) ≤ nI 63 := by decide +kernel
    simp only [e1, EV, LV, CB, OI, OL, NP, CZ, popN, CT, OZ, List.map_nil, List.map_cons, List.sum_nil, List.sum_cons, Option.toList, List.nil_append, List.cons_append, Int.reduceToNat, Nat.reduceAdd, Nat.reduceLT, Nat.reduceLeDiff, List.length_cons, List.length_nil, Nat.zero_add, if_true, if_false, reduceIte, and_self, and_true, true_and, eq_self, reduceCtorEq]
    rw [rn_eq, b_X7_read_237]
    simp only [EV, LV, CB, OI, OL, NP, CZ, popN, CT, OZ, List.map_nil, List.map_cons, List.sum_nil, List.sum_cons, Option.toList, List.nil_append, List.cons_append, Int.reduceToNat, Nat.reduceAdd, Nat.reduceLT, Nat.reduceLeDiff, List.length_cons, List.length_nil, Nat.zero_add, if_true, if_false, reduceIte, and_self, and_true, true_and, eq_self, reduceCtorEq]
  | succ q ih =>
    intro j hj
    have e1 : ¬ (63 : Int32) ≤ nI j := nI_ge (a := j) (b := 63) (by omega) (by omega)
    have e2 : inR (nI j) 63 = true := inR_nI (by omega) (by omega)
    have e5 : inR (nI j) 189 = true := inR_nI (by omega) (by omega)
    have e3 : (nI j).toNatClampNeg = j := nI_clamp (by omega)
    have e4 := fillR_s (m.1 80) g j
    have e : (80 : Nat) ≠ 69 := by omega
    have g1 := gM MP68
    have a1 := aM MP68
    have s1 := sM MP68
    simp only [Nat.reduceAdd] at g1 a1 s1
    rw [rn_eq, b_X7_read_210]
    simp only [EV, LV, CB, OI, OL, NP, CZ, popN, CT, OZ, List.map_nil, List.map_cons, List.sum_nil, List.sum_cons, Option.toList, List.nil_append, List.cons_append, Int.reduceToNat, Nat.reduceAdd, Nat.reduceLT, Nat.reduceLeDiff, List.length_cons, List.length_nil, Nat.zero_add, if_true, if_false, reduceIte, and_self, and_true, true_and, eq_self, reduceCtorEq, g1, a1, s1, e1, e2, e3, e5, wI_R, setR_s, setR_n _ _ e, setR_R, e4, nI_1]
    exact ih (j + 1) (by omega)
theorem rm_end (C : CallS) {mE m : Mm} (hI : InvT TV m) (hf : frm c_rm.2.2.2.2.2.1 mE m) (k l f n x w i : Int32) (v8 v9 v10 : Value) : ∃ r, rn shP tb0 mN mO C (some .int) (codeZ 182) 252 [.ref 68, .int k, .int l, .int f, .int n, .int x, .int w, .int i, v8, v9, v10] [] m = some r ∧ PostR TV mE c_rm r := by
  refine ⟨(some (.int w), wI m 68 27 x), ?_, ret_tI w, Inv_wI hI ?_ ?_, rho_nil, frm_wI (by decide) hf (by decide), rfl⟩
  · rw [rn_eq, b_X7_read_252]
    have e : pfI shP 727 68 (.int x) m = some (wI m 68 27 x) := rfl
    simp only [EV, LV, CB, OI, OL, NP, CZ, popN, CT, OZ, List.map_nil, List.map_cons, List.sum_nil, List.sum_cons, Option.toList, List.nil_append, List.cons_append, Int.reduceToNat, Nat.reduceAdd, Nat.reduceLT, Nat.reduceLeDiff, List.length_cons, List.length_nil, Nat.zero_add, if_true, if_false, reduceIte, and_self, and_true, true_and, eq_self, reduceCtorEq, e]
  · rw [show ivO TV 68 27 = (-2147483648, 2147483647) from by decide +kernel]; exact (r32 x).1
  · rw [show ivO TV 68 27 = (-2147483648, 2147483647) from by decide +kernel]; exact (r32 x).2
/-- the reason at one place -/
def rsn (ln l sz : Int32) (p : Int64) : Int32 := if ln = -4 then 1 else if ¬ ln = l then 3 else if p < 0 then 2 else if p < sz.toInt64 then 0 else 2
theorem rm_in (C : CallS) {K : Nat} (hK : K < 4) (l f n w : Int32) (i : Nat) (j : Nat) (v10 : Value) (m : Mm) (v9 : Value) (h9 : (v9 = noV ∨ ∃ y : Int32, v9 = .int y) ∨ ∃ y : Int64, v9 = .long y) (hj : j < 2) : rn shP tb0 mN mO C (some .int) (codeZ 182) 77 [.ref 68, .int (nI K), .int l, .int f, .int n, .int 0, .int w, .int (nI i), .int (nI j), v9, v10] [] m = rn shP tb0 mN mO C (some .int) (codeZ 182) 77 [.ref 68, .int (nI K), .int l, .int f, .int n, .int (rsn (m.1 77 K) l (m.1 78 K) (f.toInt64 + ((2 : Int32) * nI i).toInt64 + (nI j).toInt64)), .int w, .int (nI i), .int (nI (j + 1)), .long (f.toInt64 + ((2 : Int32) * nI i).toInt64 + (nI j).toInt64), noV] [] m := by
  generalize hp : f.toInt64 + ((2 : Int32) * nI i).toInt64 + (nI j).toInt64 = p
  have e1 : ¬ (2 : Int32) ≤ nI j := nI_ge (a := j) (b := 2) (by omega) (by omega)
  have e2 : inR (nI K) 4 = true := inR_nI (by omega) (by omega)
  have e3 : (nI K).toNatClampNeg = K := nI_clamp (by omega)
  have g1 := gM MP68
  have a1 := aM MP68
  simp only [Nat.reduceAdd] at g1 a1
  have fin : ∀ x : Int32, rn shP tb0 mN mO C (some .int) (codeZ 182) 156 [.ref 68, .int (nI K), .int l, .int f, .int n, .int 0, .int w, .int (nI i), .int (nI j), .long p, noV] [.int x] m = rn shP tb0 mN mO C (some .int) (codeZ 182) 77 [.ref 68, .int (nI K), .int l, .int f, .int n, .int x, .int w, .int (nI i), .int (nI (j + 1)), .long p, noV] [] m := by
    intro x
    rw [rn_eq, b_X7_read_156]
    simp only [EV, LV, CB, OI, OL, NP, CZ, popN, CT, OZ, List.map_nil, List.map_cons, List.sum_nil, List.sum_cons, Option.toList, List.nil_append, List.cons_append, Int.reduceToNat, Nat.reduceAdd, Nat.reduceLT, Nat.reduceLeDiff, List.length_cons, List.length_nil, Nat.zero_add, if_true, if_false, reduceIte, and_self, and_true, true_and, eq_self, reduceCtorEq, nI_1]
  have mid : rn shP tb0 mN mO C (some .int) (codeZ 182) 77 [.ref 68, .int (nI K), .int l, .int f, .int n, .int 0, .int w, .int (nI i), .int (nI j), v9, v10] [] m = if m.1 77 K = -4 then rn shP tb0 mN mO C (some .int) (codeZ 182) 156 [.ref 68, .int (nI K), .int l, .int f, .int n, .int 0, .int w, .int (nI i), .int (nI j), .long p, noV] [.int 1] m else rn shP tb0 mN mO C (some .int) (codeZ 182) 117 [.ref 68, .int (nI K), .int l, .int f, .int n, .int 0, .int w, .int (nI i), .int (nI j), .long p, noV] [] m := by
    rw [rn_eq, b_X7_read_77]
    by_cases h4 : m.1 77 K = -4
    · rcases h9 with (rfl | ⟨y, rfl⟩) | ⟨y, rfl⟩ <;> simp only [EV, LV, CB, OI, OL, NP, CZ, popN, CT, OZ, List.map_nil, List.map_cons, List.sum_nil, List.sum_cons, Option.toList, List.nil_append, List.cons_append, Int.reduceToNat, Nat.reduceAdd, Nat.reduceLT, Nat.reduceLeDiff, List.length_cons, List.length_nil, Nat.zero_add, if_true, if_false, reduceIte, and_self, and_true, true_and, eq_self, reduceCtorEq, e1, hp, g1, a1, e2, e3, h4, not_true_eq_false]
    · rcases h9 with (rfl | ⟨y, rfl⟩) | ⟨y, rfl⟩ <;> simp only [EV, LV, CB, OI, OL, NP, CZ, popN, CT, OZ, List.map_nil, List.map_cons, List.sum_nil, List.sum_cons, Option.toList, List.nil_append, List.cons_append, Int.reduceToNat, Nat.reduceAdd, Nat.reduceLT, Nat.reduceLeDiff, List.length_cons, List.length_nil, Nat.zero_add, if_true, if_false, reduceIte, and_self, and_true, true_and, eq_self, reduceCtorEq, e1, hp, g1, a1, e2, e3, h4, not_true_eq_false, not_false_eq_true]
  rw [mid]
  unfold rsn
  by_cases h4 : m.1 77 K = -4
  · rw [if_pos h4, if_pos h4, fin]
  · rw [if_neg h4, if_neg h4, rn_eq, b_X7_read_117]
    by_cases h5 : m.1 77 K = l
    · have n5 : ¬ ¬ m.1 77 K = l := fun z => z h5
      rw [if_neg n5]
      simp only [EV, LV, CB, OI, OL, NP, CZ, popN, CT, OZ, List.map_nil, List.map_cons, List.sum_nil, List.sum_cons, Option.toList, List.nil_append, List.cons_append, Int.reduceToNat, Nat.reduceAdd, Nat.reduceLT, Nat.reduceLeDiff, List.length_cons, List.length_nil, Nat.zero_add, if_true, if_false, reduceIte, and_self, and_true, true_and, eq_self, reduceCtorEq, g1, a1, e2, e3, h5]
      rw [rn_eq, b_X7_read_131]
      by_cases h6 : p < 0
      · rw [if_pos h6]
        simp only [EV, LV, CB, OI, OL, NP, CZ, popN, CT, OZ, List.map_nil, List.map_cons, List.sum_nil, List.sum_cons, Option.toList, List.nil_append, List.cons_append, Int.reduceToNat, Nat.reduceAdd, Nat.reduceLT, Nat.reduceLeDiff, List.length_cons, List.length_nil, Nat.zero_add, if_true, if_false, reduceIte, and_self, and_true, true_and, eq_self, reduceCtorEq, lc_lt, h6]
        rw [rn_eq, b_X7_read_151]
        simp only [EV, LV, CB, OI, OL, NP, CZ, popN, CT, OZ, List.map_nil, List.map_cons, List.sum_nil, List.sum_cons, Option.toList, List.nil_append, List.cons_append, Int.reduceToNat, Nat.reduceAdd, Nat.reduceLT, Nat.reduceLeDiff, List.length_cons, List.length_nil, Nat.zero_add, if_true, if_false, reduceIte, and_self, and_true, true_and, eq_self, reduceCtorEq]
        exact fin 2
      · rw [if_neg h6]
        by_cases h7 : p < (m.1 78 K).toInt64
        · rw [if_pos h7]
          simp only [EV, LV, CB, OI, OL, NP, CZ, popN, CT, OZ, List.map_nil, List.map_cons, List.sum_nil, List.sum_cons, Option.toList, List.nil_append, List.cons_append, Int.reduceToNat, Nat.reduceAdd, Nat.reduceLT, Nat.reduceLeDiff, List.length_cons, List.length_nil, Nat.zero_add, if_true, if_false, reduceIte, and_self, and_true, true_and, eq_self, reduceCtorEq, g1, a1, e2, e3, lc_lt, h6, h7]
          rw [rn_eq, b_X7_read_155]
          simp only [EV, LV, CB, OI, OL, NP, CZ, popN, CT, OZ, List.map_nil, List.map_cons, List.sum_nil, List.sum_cons, Option.toList, List.nil_append, List.cons_append, Int.reduceToNat, Nat.reduceAdd, Nat.reduceLT, Nat.reduceLeDiff, List.length_cons, List.length_nil, Nat.zero_add, if_true, if_false, reduceIte, and_self, and_true, true_and, eq_self, reduceCtorEq, nI_1]
        · rw [if_neg h7]
          simp only [EV, LV, CB, OI, OL, NP, CZ, popN, CT, OZ, List.map_nil, List.map_cons, List.sum_nil, List.sum_cons, Option.toList, List.nil_append, List.cons_append, Int.reduceToNat, Nat.reduceAdd, Nat.reduceLT, Nat.reduceLeDiff, List.length_cons, List.length_nil, Nat.zero_add, if_true, if_false, reduceIte, and_self, and_true, true_and, eq_self, reduceCtorEq, g1, a1, e2, e3, lc_lt, h6, h7]
          exact fin 2
    · rw [if_pos h5]
      simp only [EV, LV, CB, OI, OL, NP, CZ, popN, CT, OZ, List.map_nil, List.map_cons, List.sum_nil, List.sum_cons, Option.toList, List.nil_append, List.cons_append, Int.reduceToNat, Nat.reduceAdd, Nat.reduceLT, Nat.reduceLeDiff, List.length_cons, List.length_nil, Nat.zero_add, if_true, if_false, reduceIte, and_self, and_true, true_and, eq_self, reduceCtorEq, g1, a1, e2, e3, h5]
      exact fin 3
end H7
end
section
/-! BY HAND: read of the model, its loop -/
theorem rsn_0 {ln l sz : Int32} {p : Int64} (h : rsn ln l sz p = 0) : 0 ≤ p.toInt ∧ p.toInt < sz.toInt := by
  unfold rsn at h
  split at h
  · exact absurd h (by decide)
  · split at h
    · exact absurd h (by decide)
    · split at h
      · exact absurd h (by decide)
      · rename_i h1
        split at h
        · rename_i h2
          rw [Int64.lt_iff_toInt_lt] at h1 h2
          rw [Int32.toInt_toInt64] at h2
          have h0 : (0 : Int64).toInt = 0 := by decide
          omega
        · exact absurd h (by decide)
theorem mul2_i {i : Nat} (hi : i ≤ 100) : ((2 : Int32) * nI i).toInt = 2 * (i : Int) := by
  rw [Int32.toInt_mul, nI_toInt (by omega), show (2 : Int32).toInt = 2 from by decide]
  exact bm32 (by omega) (by omega)
theorem p_i {f : Int32} {i j : Nat} (hi : i ≤ 100) (hj : j ≤ 2) : (f.toInt64 + ((2 : Int32) * nI i).toInt64 + (nI j).toInt64).toInt = f.toInt + 2 * i + j := by
  have r := r32 f
  rw [Int64.toInt_add, Int64.toInt_add, Int32.toInt_toInt64, Int32.toInt_toInt64, Int32.toInt_toInt64, mul2_i hi, nI_toInt (by omega), bm64 (z := f.toInt + 2 * (i : Int)) (by omega) (by omega)]
  exact bm64 (by omega) (by omega)
theorem ix_rd {f : Int32} {i K c : Nat} (hi : i ≤ 100) (hK : K < 4) (hc : f.toInt + 2 * i = c) (hc2 : c < 40) : (40 : Int32) * nI K + f + 2 * nI i = nI (40 * K + c) := by
  have e1 : f + (2 : Int32) * nI i = nI c := by
    apply Int32.toInt_inj.mp
    rw [Int32.toInt_add, mul2_i hi, nI_toInt (by omega), hc]
    exact bm32 (by omega) (by omega)
  have e2 : (40 : Int32) * nI K = nI (40 * K) := by
    apply Int32.toInt_inj.mp
    rw [Int32.toInt_mul, nI_toInt (by omega), nI_toInt (by omega), show (40 : Int32).toInt = 40 from by decide]
    rw [bm32 (by omega) (by omega)]
    omega
  rw [Int32.add_assoc, e1, e2, nI_add]
theorem rm_loop (wS : List Value → Mm → Option Rs) (d : Nat) {mE : Mm} {K : Nat} (hK : K < 4) (l f : Int32) (N : Nat) (hN : N ≤ 20) : ∀ (q i : Nat), i + q = N → ∀ (m : Mm) (x w : Int32) (v8 v9 : Value), InvT TV m → frm c_rm.2.2.2.2.2.1 mE m → (∀ j, j < 63 → (ivO TV 69 j).1 ≤ (m.1 80 j).toInt ∧ (m.1 80 j).toInt ≤ (ivO TV 69 j).2) → (v8 = noV ∨ ∃ y : Int32, v8 = .int y) → ((v9 = noV ∨ ∃ y : Int32, v9 = .int y) ∨ ∃ y : Int64, v9 = .long y) → ∃ r, rn shP tb0 mN mO (semZ shP wS (d + 16)) (some .int) (codeZ 182) 62 [.ref 68, .int (nI K), .int l, .int f, .int (nI N), .int x, .int w, .int (nI i), v8, v9, noV] [] m = some r ∧ PostR TV mE c_rm r := by
  intro q
  induction q with
  | zero =>
    intro i hi m x w v8 v9 hI hf hB h8 h9
    have e0 : i = N := by omega
    subst e0
    have e1 : nI i ≤ nI i := Int32.le_refl _
    obtain ⟨r, h1, h2⟩ := rm_end (semZ shP wS (d + 16)) hI hf (nI K) l f (nI i) x w (nI i) v8 v9 noV
    refine ⟨r, ?_, h2⟩
    rw [rn_eq, b_X7_read_62]
    simp only [EV, LV, CB, OI, OL, NP, CZ, popN, CT, OZ, List.map_nil, List.map_cons, List.sum_nil, List.sum_cons, Option.toList, List.nil_append, List.cons_append, Int.reduceToNat, Nat.reduceAdd, Nat.reduceLT, Nat.reduceLeDiff, List.length_cons, List.length_nil, Nat.zero_add, if_true, if_false, reduceIte, and_self, and_true, true_and, eq_self, reduceCtorEq, e1]
    exact h1
  | succ q ih =>
    intro i hi m x w v8 v9 hI hf hB h8 h9
    have e1 : ¬ nI N ≤ nI i := nI_ge (by omega) (by omega)
    by_cases hx : x = 0
    · subst hx
      have st1 : rn shP tb0 mN mO (semZ shP wS (d + 16)) (some .int) (codeZ 182) 62 [.ref 68, .int (nI K), .int l, .int f, .int (nI N), .int 0, .int w, .int (nI i), v8, v9, noV] [] m = rn shP tb0 mN mO (semZ shP wS (d + 16)) (some .int) (codeZ 182) 77 [.ref 68, .int (nI K), .int l, .int f, .int (nI N), .int 0, .int w, .int (nI i), .int (nI 0), v9, noV] [] m := by
        rw [rn_eq, b_X7_read_62]
        rcases h8 with rfl | ⟨y, rfl⟩
        · simp only [EV, LV, CB, OI, OL, NP, CZ, popN, CT, OZ, List.map_nil, List.map_cons, List.sum_nil, List.sum_cons, Option.toList, List.nil_append, List.cons_append, Int.reduceToNat, Nat.reduceAdd, Nat.reduceLT, Nat.reduceLeDiff, List.length_cons, List.length_nil, Nat.zero_add, if_true, if_false, reduceIte, and_self, and_true, true_and, eq_self, reduceCtorEq, e1, not_true_eq_false]
          rfl
        · simp only [EV, LV, CB, OI, OL, NP, CZ, popN, CT, OZ, List.map_nil, List.map_cons, List.sum_nil, List.sum_cons, Option.toList, List.nil_append, List.cons_append, Int.reduceToNat, Nat.reduceAdd, Nat.reduceLT, Nat.reduceLeDiff, List.length_cons, List.length_nil, Nat.zero_add, if_true, if_false, reduceIte, and_self, and_true, true_and, eq_self, reduceCtorEq, e1, not_true_eq_false]
          rfl
      rw [st1, rm_in _ hK l f (nI N) w i 0 noV m v9 h9 (by omega)]
      generalize hp0 : f.toInt64 + ((2 : Int32) * nI i).toInt64 + (nI 0).toInt64 = p0
      have at164 : ∀ (x : Int32) (p : Int64) (j : Nat), (¬ x = 0 ∨ j = 2) → rn shP tb0 mN mO (semZ shP wS (d + 16)) (some .int) (codeZ 182) 77 [.ref 68, .int (nI K), .int l, .int f, .int (nI N), .int x, .int w, .int (nI i), .int (nI j), .long p, noV] [] m = rn shP tb0 mN mO (semZ shP wS (d + 16)) (some .int) (codeZ 182) 164 [.ref 68, .int (nI K), .int l, .int f, .int (nI N), .int x, .int w, .int (nI i), .int (nI j), .long p, noV] [] m := by
        intro x p j hxj
        rw [rn_eq, b_X7_read_77]
        by_cases h2 : (2 : Int32) ≤ nI j
        · simp only [EV, LV, CB, OI, OL, NP, CZ, popN, CT, OZ, List.map_nil, List.map_cons, List.sum_nil, List.sum_cons, Option.toList, List.nil_append, List.cons_append, Int.reduceToNat, Nat.reduceAdd, Nat.reduceLT, Nat.reduceLeDiff, List.length_cons, List.length_nil, Nat.zero_add, if_true, if_false, reduceIte, and_self, and_true, true_and, eq_self, reduceCtorEq, h2]
        · have hx0 : ¬ x = 0 := by
            rcases hxj with h | h
            · exact h
            · rw [h] at h2
              exact absurd (by decide +kernel) h2
          simp only [EV, LV, CB, OI, OL, NP, CZ, popN, CT, OZ, List.map_nil, List.map_cons, List.sum_nil, List.sum_cons, Option.toList, List.nil_append, List.cons_append, Int.reduceToNat, Nat.reduceAdd, Nat.reduceLT, Nat.reduceLeDiff, List.length_cons, List.length_nil, Nat.zero_add, if_true, if_false, reduceIte, and_self, and_true, true_and, eq_self, reduceCtorEq, h2, hx0, not_false_eq_true]
      have bad164 : ∀ (x : Int32) (p : Int64) (j : Nat), ¬ x = 0 → ∃ r, rn shP tb0 mN mO (semZ shP wS (d + 16)) (some .int) (codeZ 182) 164 [.ref 68, .int (nI K), .int l, .int f, .int (nI N), .int x, .int w, .int (nI i), .int (nI j), .long p, noV] [] m = some r ∧ PostR TV mE c_rm r := by
        intro x p j hx0
        obtain ⟨r, h1, h2⟩ := ih (i + 1) (by omega) m x w (.int (nI j)) (.long p) hI hf hB (Or.inr ⟨_, rfl⟩) (Or.inr ⟨_, rfl⟩)
        refine ⟨r, ?_, h2⟩
        rw [rn_eq, b_X7_read_164]
        simp only [EV, LV, CB, OI, OL, NP, CZ, popN, CT, OZ, List.map_nil, List.map_cons, List.sum_nil, List.sum_cons, Option.toList, List.nil_append, List.cons_append, Int.reduceToNat, Nat.reduceAdd, Nat.reduceLT, Nat.reduceLeDiff, List.length_cons, List.length_nil, Nat.zero_add, if_true, if_false, reduceIte, and_self, and_true, true_and, eq_self, reduceCtorEq, hx0, not_false_eq_true]
        rw [rn_eq, b_X7_read_246]
        simp only [EV, LV, CB, OI, OL, NP, CZ, popN, CT, OZ, List.map_nil, List.map_cons, List.sum_nil, List.sum_cons, Option.toList, List.nil_append, List.cons_append, Int.reduceToNat, Nat.reduceAdd, Nat.reduceLT, Nat.reduceLeDiff, List.length_cons, List.length_nil, Nat.zero_add, if_true, if_false, reduceIte, and_self, and_true, true_and, eq_self, reduceCtorEq, nI_1]
        exact h1
      by_cases h0 : rsn (m.1 77 K) l (m.1 78 K) p0 = 0
      · rw [h0, rm_in _ hK l f (nI N) w i 1 noV m (.long p0) (Or.inr ⟨_, rfl⟩) (by omega)]
        generalize hp1 : f.toInt64 + ((2 : Int32) * nI i).toInt64 + (nI 1).toInt64 = p1
        rw [at164 _ p1 2 (Or.inr rfl)]
        by_cases h1 : rsn (m.1 77 K) l (m.1 78 K) p1 = 0
        · rw [h1]
          have a0 := rsn_0 h0
          have a1 := rsn_0 h1
          rw [← hp0, p_i (by omega) (by omega)] at a0
          rw [← hp1, p_i (by omega) (by omega)] at a1
          have bs := hI 78 K
          rw [show ivO TV 78 K = (0, 40) from by rw [iv_1 (by decide)]; decide] at bs
          have bs2 : (m.1 78 K).toInt ≤ 40 := bs.2
          obtain ⟨c, hc⟩ : ∃ c : Nat, f.toInt + 2 * (i : Int) = c := ⟨(f.toInt + 2 * (i : Int)).toNat, by omega⟩
          have ei := ix_rd (by omega : i ≤ 100) hK hc (by omega)
          have e2 : inR (nI (40 * K + c)) 160 = true := inR_nI (by omega) (by omega)
          have e3 : (nI (40 * K + c)).toNatClampNeg = 40 * K + c := nI_clamp (by omega)
          have e4 : inR (nI (40 * K + c + 1)) 160 = true := inR_nI (by omega) (by omega)
          have e5 : (nI (40 * K + c + 1)).toNatClampNeg = 40 * K + c + 1 := nI_clamp (by omega)
          obtain ⟨v, m', a1, a2, a3, a4, a5, -⟩ := hall_11 wS d q_X7_find fm_mem [.ref 68, .int (m.1 79 (40 * K + c)), .int (m.1 79 (40 * K + c + 1)), .int 0, .int 0] m ⟨gv_rf 68, gv_tI _, gv_tI _, gv_tI _, gv_tI _, trivial⟩ hI rho_nil
          cases v with
          | none => exact a2.elim
          | some v =>
            obtain ⟨y, hy, -⟩ := a2
            subst hy
            have a1 : semZ shP wS (d + 16) 147 [.ref 68, .int (m.1 79 (40 * K + c)), .int (m.1 79 (40 * K + c + 1)), .int 0, .int 0] m = some (some (.int y), m') := a1
            have hf' : frm c_rm.2.2.2.2.2.1 mE m' := frm_tr hf a5 (by decide)
            have hB' : ∀ j, j < 63 → (ivO TV 69 j).1 ≤ (m'.1 80 j).toInt ∧ (m'.1 80 j).toInt ≤ (ivO TV 69 j).2 := fun j hj => by
              rw [(a5 80 j (by omega) (by decide) (fun z => by
                have q := List.all_eq_true.mp (show (q_X7_find.2.2.2.2.2.1.2).all (fun c => decide (c < 16000)) = true by decide) _ z
                simp only [decide_eq_true_eq] at q
                omega)).1]
              exact hB j hj
            have g1 := gM MP68
            have b1 := aM MP68
            simp only [Nat.reduceAdd] at g1 b1
            by_cases hy : 0 ≤ y
            · obtain ⟨r, h1, h2⟩ := ih (i + 1) (by omega) m' 0 (w + 1) (.int (nI (40 * K + c))) (.long p1) a3 hf' hB' (Or.inr ⟨_, rfl⟩) (Or.inr ⟨_, rfl⟩)
              refine ⟨r, ?_, h2⟩
              rw [rn_eq, b_X7_read_164]
              simp only [EV, LV, CB, OI, OL, NP, CZ, popN, CT, OZ, List.map_nil, List.map_cons, List.sum_nil, List.sum_cons, Option.toList, List.nil_append, List.cons_append, Int.reduceToNat, Nat.reduceAdd, Nat.reduceLT, Nat.reduceLeDiff, List.length_cons, List.length_nil, Nat.zero_add, if_true, if_false, reduceIte, and_self, and_true, true_and, eq_self, reduceCtorEq, ei, g1, b1, e2, e3, nI_1, e4, e5, a1, hy, not_true_eq_false]
              rw [rn_eq, b_X7_read_243]
              simp only [EV, LV, CB, OI, OL, NP, CZ, popN, CT, OZ, List.map_nil, List.map_cons, List.sum_nil, List.sum_cons, Option.toList, List.nil_append, List.cons_append, Int.reduceToNat, Nat.reduceAdd, Nat.reduceLT, Nat.reduceLeDiff, List.length_cons, List.length_nil, Nat.zero_add, if_true, if_false, reduceIte, and_self, and_true, true_and, eq_self, reduceCtorEq, nI_1]
              exact h1
            · have bk := rm_bk (semZ shP wS (d + 16)) m' (m'.1 69) (nI K) l f (nI N) 0 w (nI i) (nI (40 * K + c)) noV 63 0 rfl
              rw [fillR_0, setR_id] at bk
              refine ⟨(some (.int (-20 - nI i)), setR m' 69 (fillR (m'.1 80) (m'.1 69) 63)), ?_, ret_tI (-20 - nI i), Inv_setR a3 (fun j => ?_), rho_nil, frm_row hf' (fun j hj hne => row_in (a := 0) (by decide +kernel) (by unfold fillR at hne; split at hne; omega; exact absurd rfl hne)), rfl⟩
              · rw [rn_eq, b_X7_read_164]
                simp only [EV, LV, CB, OI, OL, NP, CZ, popN, CT, OZ, List.map_nil, List.map_cons, List.sum_nil, List.sum_cons, Option.toList, List.nil_append, List.cons_append, Int.reduceToNat, Nat.reduceAdd, Nat.reduceLT, Nat.reduceLeDiff, List.length_cons, List.length_nil, Nat.zero_add, if_true, if_false, reduceIte, and_self, and_true, true_and, eq_self, reduceCtorEq, ei, g1, b1, e2, e3, nI_1, e4, e5, a1, hy, not_true_eq_false]
                exact bk
              · unfold fillR
                split
                · rename_i hj
                  exact hB' j hj
                · exact a3 69 j
        · exact bad164 _ p1 2 h1
      · rw [at164 _ p0 1 (Or.inl h0)]
        exact bad164 _ p0 1 h0
    · obtain ⟨r, h1, h2⟩ := rm_end (semZ shP wS (d + 16)) hI hf (nI K) l f (nI N) x w (nI i) v8 v9 noV
      refine ⟨r, ?_, h2⟩
      rw [rn_eq, b_X7_read_62]
      simp only [EV, LV, CB, OI, OL, NP, CZ, popN, CT, OZ, List.map_nil, List.map_cons, List.sum_nil, List.sum_cons, Option.toList, List.nil_append, List.cons_append, Int.reduceToNat, Nat.reduceAdd, Nat.reduceLT, Nat.reduceLeDiff, List.length_cons, List.length_nil, Nat.zero_add, if_true, if_false, reduceIte, and_self, and_true, true_and, eq_self, reduceCtorEq, e1, hx, not_false_eq_true]
      exact h1
theorem hd_rm (wS : List Value → Mm → Option Rs) (d : Nat) : Hd TV (semZ shP wS (d + 17)) c_rm := by
  apply Hd_run
  intro As m g hI hR
  obtain ⟨v1, vs, rfl, k1, g⟩ := gT_cons g
  obtain ⟨v2, vs, rfl, k2, g⟩ := gT_cons g
  obtain ⟨v3, vs, rfl, k3, g⟩ := gT_cons g
  obtain ⟨v4, vs, rfl, k4, g⟩ := gT_cons g
  obtain ⟨v5, vs, rfl, k5, g⟩ := gT_cons g
  cases gT_nil g
  obtain ⟨r', rfl, hr⟩ := k1
  have hr : r' = 68 := List.mem_singleton.mp hr
  subst hr
  obtain ⟨k, rfl, -⟩ := k2
  obtain ⟨l, rfl, -⟩ := k3
  obtain ⟨f, rfl, -⟩ := k4
  obtain ⟨n, rfl, -⟩ := k5
  show ∃ r, semZ shP wS (d + 17) 182 [.ref 68, .int k, .int l, .int f, .int n] m = some r ∧ _
  have bad : PostR TV m c_rm (some (.int (-1)), m) := ⟨ret_tI _, hI, rho_nil, frm_rf, rfl⟩
  have e10 : ¬ (1 : Int32) = 0 := by decide
  rw [se_X7_read, rn_eq, b_X7_read_0]
  cases h1 : ((decide (0 ≤ k.toInt64) && decide (k.toInt64 ≤ 3)) && (decide (0 ≤ l.toInt64) && decide (l.toInt64 ≤ 2))) with
  | false =>
    refine ⟨_, ?_, bad⟩
    simp only [EV, LV, CB, OI, OL, NP, CZ, popN, CT, OZ, List.map_nil, List.map_cons, List.sum_nil, List.sum_cons, Option.toList, List.nil_append, List.cons_append, Int.reduceToNat, Nat.reduceAdd, Nat.reduceLT, Nat.reduceLeDiff, List.length_cons, List.length_nil, Nat.zero_add, if_true, if_false, reduceIte, and_self, and_true, true_and, eq_self, reduceCtorEq, t_isSheet wS (d + 14), h1, bI_f]
    rw [rn_eq, b_X7_read_21]
    simp only [EV, LV, CB, OI, OL, NP, CZ, popN, CT, OZ, List.map_nil, List.map_cons, List.sum_nil, List.sum_cons, Option.toList, List.nil_append, List.cons_append, Int.reduceToNat, Nat.reduceAdd, Nat.reduceLT, Nat.reduceLeDiff, List.length_cons, List.length_nil, Nat.zero_add, if_true, if_false, reduceIte, and_self, and_true, true_and, eq_self, reduceCtorEq]
  | true =>
    cases h3 : (decide (0 ≤ n.toInt64) && decide (n.toInt64 ≤ 20)) with
    | false =>
      refine ⟨_, ?_, bad⟩
      simp only [EV, LV, CB, OI, OL, NP, CZ, popN, CT, OZ, List.map_nil, List.map_cons, List.sum_nil, List.sum_cons, Option.toList, List.nil_append, List.cons_append, Int.reduceToNat, Nat.reduceAdd, Nat.reduceLT, Nat.reduceLeDiff, List.length_cons, List.length_nil, Nat.zero_add, if_true, if_false, reduceIte, and_self, and_true, true_and, eq_self, reduceCtorEq, t_isSheet wS (d + 14), t_in wS (d + 15), h1, h3, bI_f, bI_t, not_true_eq_false, e10]
    | true =>
      rw [Bool.and_eq_true] at h1
      have q1 := pm_n (n := 3) (N := 3) (by decide) h1.1
      have q3 := pm_n (n := 20) (N := 20) (by decide) h3
      have h1' : ((decide (0 ≤ k.toInt64) && decide (k.toInt64 ≤ 3)) && (decide (0 ≤ l.toInt64) && decide (l.toInt64 ≤ 2))) = true := by rw [Bool.and_eq_true]; exact h1
      have ek := i_nI (y := k) (by omega)
      have en := i_nI (y := n) (by omega)
      have hk : k.toInt.toNat < 4 := by omega
      have hn : n.toInt.toNat ≤ 20 := by omega
      have bB : ∀ j, (ivO TV 80 j).1 ≤ (fillR (m.1 69) (m.1 80) 63 j).toInt ∧ (fillR (m.1 69) (m.1 80) 63 j).toInt ≤ (ivO TV 80 j).2 := fill_bd (fun j => hI 69 j) (fun j => hI 80 j) tv_80
      obtain ⟨r, a1, a2⟩ := rm_loop wS d (mE := m) hk l f n.toInt.toNat hn n.toInt.toNat 0 (by omega) (setR m 80 (fillR (m.1 69) (m.1 80) 63)) 0 0 noV noV (Inv_setR hI bB) (frm_setR frm_rf (by decide)) (fun j hj => by
        rw [setR_s]
        unfold fillR
        rw [if_pos hj]
        exact hI 69 j) (Or.inl rfl) (Or.inl (Or.inl rfl))
      rw [← ek, ← en] at a1
      have cp := rm_cp (semZ shP wS (d + 16)) m (m.1 80) k l f n [noV, noV, noV, noV, noV] 63 0 rfl
      rw [fillR_0, setR_id] at cp
      refine ⟨r, ?_, a2⟩
      simp only [EV, LV, CB, OI, OL, NP, CZ, popN, CT, OZ, List.map_nil, List.map_cons, List.sum_nil, List.sum_cons, Option.toList, List.nil_append, List.cons_append, Int.reduceToNat, Nat.reduceAdd, Nat.reduceLT, Nat.reduceLeDiff, List.length_cons, List.length_nil, Nat.zero_add, if_true, if_false, reduceIte, and_self, and_true, true_and, eq_self, reduceCtorEq, t_isSheet wS (d + 14), t_in wS (d + 15), h1', h3, bI_f, bI_t, not_true_eq_false, not_false_eq_true, e10]
      rw [rn_eq, b_X7_read_23]
      simp only [EV, LV, CB, OI, OL, NP, CZ, popN, CT, OZ, List.map_nil, List.map_cons, List.sum_nil, List.sum_cons, Option.toList, List.nil_append, List.cons_append, Int.reduceToNat, Nat.reduceAdd, Nat.reduceLT, Nat.reduceLeDiff, List.length_cons, List.length_nil, Nat.zero_add, if_true, if_false, reduceIte, and_self, and_true, true_and, eq_self, reduceCtorEq]
      refine Eq.trans cp ?_
      rw [rn_eq, b_X7_read_53]
      simp only [EV, LV, CB, OI, OL, NP, CZ, popN, CT, OZ, List.map_nil, List.map_cons, List.sum_nil, List.sum_cons, Option.toList, List.nil_append, List.cons_append, Int.reduceToNat, Nat.reduceAdd, Nat.reduceLT, Nat.reduceLeDiff, List.length_cons, List.length_nil, Nat.zero_add, if_true, if_false, reduceIte, and_self, and_true, true_and, eq_self, reduceCtorEq]
      exact a1
end
section
/-! BY HAND: odds of the model -/
theorem rem_L {x y : Int64} (h : ¬ y = 0) : (x - x / y * y).toInt.natAbs < y.toInt.natAbs := by
  have hy : y.toInt ≠ 0 := fun z => h (Int64.toInt_inj.mp (by rw [z]; decide))
  have ry := r64 y
  have rx := r64 x
  have hb : (x.toInt.tmod y.toInt).natAbs < y.toInt.natAbs := by
    by_cases hp : 0 < y.toInt
    · have q1 := Int.tmod_lt_of_pos x.toInt hp
      have q2 := Int.lt_tmod_of_pos x.toInt hp
      omega
    · have hp : 0 < -y.toInt := by omega
      have q1 := Int.tmod_lt_of_pos x.toInt hp
      have q2 := Int.lt_tmod_of_pos x.toInt hp
      rw [Int.tmod_neg] at q1 q2
      omega
  have e : (x - x / y * y).toInt = x.toInt.tmod y.toInt := by
    rw [Int64.toInt_sub, Int64.toInt_mul, Int64.toInt_div, Int.bmod_mul_bmod, Int.sub_bmod_bmod]
    have e1 : x.toInt - x.toInt.tdiv y.toInt * y.toInt = x.toInt.tmod y.toInt := by
      have := Int.tmod_add_mul_tdiv x.toInt y.toInt
      rw [Int.mul_comm] at this
      omega
    rw [e1]
    exact bm64 (by omega) (by omega)
  rw [e]
  exact hb
section H9
variable {sh : List ShE} (wS : List Value → Mm → Option Rs) (d : Nat)
theorem lc_ne {b : Int64} (hb : ¬ b = 0) : ¬ lg_cmp b 0 = 0 := by
  unfold lg_cmp
  (repeat' split) <;> first | decide | exact absurd ‹_› hb
theorem t_com_l (m : Mm) (a b : Int64) : ∀ (n : Nat) (x y : Int64) (v8 : Value), y.toInt.natAbs ≤ n → (¬ x = 0 ∨ ¬ y = 0) → (v8 = noV ∨ ∃ z : Int64, v8 = .long z) → ∃ r, ¬ r = 0 ∧ rn sh tb0 mN mO (semZ sh wS d) (some .long) (codeZ 163) 6 [.long a, noV, .long b, noV, .long x, noV, .long y, noV, v8, noV] [] m = some (some (.long r), m) := by
  intro n
  induction n with
  | zero =>
    intro x y v8 hn hxy h8
    have hy : y = 0 := Int64.toInt_inj.mp (by
      have : y.toInt = 0 := by omega
      rw [this]; decide)
    have hx : ¬ x = 0 := by
      rcases hxy with h | h
      · exact h
      · exact absurd hy h
    refine ⟨x, hx, ?_⟩
    have e2 : lg_cmp y 0 = 0 := by rw [hy]; decide
    rw [rn_eq, b_X7_common_6]
    simp only [e2, EV, LV, CB, OI, OL, NP, CZ, popN, CT, OZ, List.map_nil, List.map_cons, List.sum_nil, List.sum_cons, Option.toList, List.nil_append, List.cons_append, Int.reduceToNat, Nat.reduceAdd, Nat.reduceLT, Nat.reduceLeDiff, List.length_cons, List.length_nil, Nat.zero_add, if_true, if_false, reduceIte, and_self, and_true, true_and, eq_self, reduceCtorEq]
    rw [rn_eq, b_X7_common_31]
    simp only [EV, LV, CB, OI, OL, NP, CZ, popN, CT, OZ, List.map_nil, List.map_cons, List.sum_nil, List.sum_cons, Option.toList, List.nil_append, List.cons_append, Int.reduceToNat, Nat.reduceAdd, Nat.reduceLT, Nat.reduceLeDiff, List.length_cons, List.length_nil, Nat.zero_add, if_true, if_false, reduceIte, and_self, and_true, true_and, eq_self, reduceCtorEq]
  | succ n ih =>
    intro x y v8 hn hxy h8
    by_cases hy : y = 0
    · have hx : ¬ x = 0 := by
        rcases hxy with h | h
        · exact h
        · exact absurd hy h
      refine ⟨x, hx, ?_⟩
      have e2 : lg_cmp y 0 = 0 := by rw [hy]; decide
      rw [rn_eq, b_X7_common_6]
      simp only [e2, EV, LV, CB, OI, OL, NP, CZ, popN, CT, OZ, List.map_nil, List.map_cons, List.sum_nil, List.sum_cons, Option.toList, List.nil_append, List.cons_append, Int.reduceToNat, Nat.reduceAdd, Nat.reduceLT, Nat.reduceLeDiff, List.length_cons, List.length_nil, Nat.zero_add, if_true, if_false, reduceIte, and_self, and_true, true_and, eq_self, reduceCtorEq]
      rw [rn_eq, b_X7_common_31]
      simp only [EV, LV, CB, OI, OL, NP, CZ, popN, CT, OZ, List.map_nil, List.map_cons, List.sum_nil, List.sum_cons, Option.toList, List.nil_append, List.cons_append, Int.reduceToNat, Nat.reduceAdd, Nat.reduceLT, Nat.reduceLeDiff, List.length_cons, List.length_nil, Nat.zero_add, if_true, if_false, reduceIte, and_self, and_true, true_and, eq_self, reduceCtorEq]
    · have e2 := lc_ne hy
      have hr := rem_L (x := x) hy
      obtain ⟨r, h1, h2⟩ := ih y (x - x / y * y) (.long (x - x / y * y)) (by omega) (Or.inl hy) (Or.inr ⟨_, rfl⟩)
      refine ⟨r, h1, ?_⟩
      rw [rn_eq, b_X7_common_6]
      rcases h8 with rfl | ⟨z, rfl⟩
      · simp only [e2, hy, EV, LV, CB, OI, OL, NP, CZ, popN, CT, OZ, List.map_nil, List.map_cons, List.sum_nil, List.sum_cons, Option.toList, List.nil_append, List.cons_append, Int.reduceToNat, Nat.reduceAdd, Nat.reduceLT, Nat.reduceLeDiff, List.length_cons, List.length_nil, Nat.zero_add, if_true, if_false, reduceIte, and_self, and_true, true_and, eq_self, reduceCtorEq]
        exact h2
      · simp only [e2, hy, EV, LV, CB, OI, OL, NP, CZ, popN, CT, OZ, List.map_nil, List.map_cons, List.sum_nil, List.sum_cons, Option.toList, List.nil_append, List.cons_append, Int.reduceToNat, Nat.reduceAdd, Nat.reduceLT, Nat.reduceLeDiff, List.length_cons, List.length_nil, Nat.zero_add, if_true, if_false, reduceIte, and_self, and_true, true_and, eq_self, reduceCtorEq]
        exact h2
theorem t_common (m : Mm) (a b : Int64) (h : ¬ a = 0) : ∃ r, ¬ r = 0 ∧ semZ sh wS (d + 1) 163 [.long a, .long b] m = some (some (.long r), m) := by
  obtain ⟨r, h1, h2⟩ := t_com_l (sh := sh) wS d m a b _ a b noV (Nat.le_refl _) (Or.inl h) (Or.inl rfl)
  refine ⟨r, h1, ?_⟩
  rw [se_X7_common, rn_eq, b_X7_common_0]
  simp only [EV, LV, CB, OI, OL, NP, CZ, popN, CT, OZ, List.map_nil, List.map_cons, List.sum_nil, List.sum_cons, Option.toList, List.nil_append, List.cons_append, Int.reduceToNat, Nat.reduceAdd, Nat.reduceLT, Nat.reduceLeDiff, List.length_cons, List.length_nil, Nat.zero_add, if_true, if_false, reduceIte, and_self, and_true, true_and, eq_self, reduceCtorEq]
  exact h2
theorem t_told (m : Mm) (o u : Int64) (w : Int32) (h : ¬ u = 0) : ∃ r, semZ sh wS (d + 2) 164 [.long o, .long u, .int w] m = some (some (.long r), m) := by
  obtain ⟨r, h1, h2⟩ := t_common (sh := sh) wS d m u o h
  by_cases hw : w = 0
  · refine ⟨o / r, ?_⟩
    rw [se_X7_told, rn_eq, b_X7_told_0]
    simp only [EV, LV, CB, OI, OL, NP, CZ, popN, CT, OZ, List.map_nil, List.map_cons, List.sum_nil, List.sum_cons, Option.toList, List.nil_append, List.cons_append, Int.reduceToNat, Nat.reduceAdd, Nat.reduceLT, Nat.reduceLeDiff, List.length_cons, List.length_nil, Nat.zero_add, if_true, if_false, reduceIte, and_self, and_true, true_and, eq_self, reduceCtorEq, h2, h1, hw, not_true_eq_false]
    rw [rn_eq, b_X7_told_23]
    simp only [EV, LV, CB, OI, OL, NP, CZ, popN, CT, OZ, List.map_nil, List.map_cons, List.sum_nil, List.sum_cons, Option.toList, List.nil_append, List.cons_append, Int.reduceToNat, Nat.reduceAdd, Nat.reduceLT, Nat.reduceLeDiff, List.length_cons, List.length_nil, Nat.zero_add, if_true, if_false, reduceIte, and_self, and_true, true_and, eq_self, reduceCtorEq]
  · refine ⟨u / r, ?_⟩
    rw [se_X7_told, rn_eq, b_X7_told_0]
    simp only [EV, LV, CB, OI, OL, NP, CZ, popN, CT, OZ, List.map_nil, List.map_cons, List.sum_nil, List.sum_cons, Option.toList, List.nil_append, List.cons_append, Int.reduceToNat, Nat.reduceAdd, Nat.reduceLT, Nat.reduceLeDiff, List.length_cons, List.length_nil, Nat.zero_add, if_true, if_false, reduceIte, and_self, and_true, true_and, eq_self, reduceCtorEq, h2, h1, hw, not_false_eq_true]
    rw [rn_eq, b_X7_told_19]
    simp only [EV, LV, CB, OI, OL, NP, CZ, popN, CT, OZ, List.map_nil, List.map_cons, List.sum_nil, List.sum_cons, Option.toList, List.nil_append, List.cons_append, Int.reduceToNat, Nat.reduceAdd, Nat.reduceLT, Nat.reduceLeDiff, List.length_cons, List.length_nil, Nat.zero_add, if_true, if_false, reduceIte, and_self, and_true, true_and, eq_self, reduceCtorEq, h1]
end H9
/-- what findOdds writes -/
def w_fo : Wr := ([70, 74], [13617, 13618, 13619, 13620, 13621])
theorem iw_mem : q_X7_inWay ∈ t_11 := by
  unfold q_X7_inWay t_11 t_10 t_9 t_8 t_7 t_6 t_5 t_4 t_3 t_2
  simp only [List.mem_append, List.mem_cons, true_or, or_true]
theorem frm_w {V W : Wr} {m m' : Mm} (h : frm V m m') (hs : subW W V = true) : frm W m m' := frm_tr frm_rf h hs
theorem pw10 {a : Int64} {i : Nat} (hi : i < 6) (h1 : 1 ≤ a.toInt) (h2 : a.toInt ≤ 10 ^ i) (b : Int64) (hb : b = 10 ∨ b = 1) : 1 ≤ (a * b).toInt ∧ (a * b).toInt ≤ 10 ^ (i + 1) := by
  have hp : (10 : Int) ^ i ≤ 100000 := by
    match i, hi with
    | 0, _ => decide
    | 1, _ => decide
    | 2, _ => decide
    | 3, _ => decide
    | 4, _ => decide
    | 5, _ => decide
  have e10 : (10 : Int) ^ (i + 1) = 10 ^ i * 10 := Int.pow_succ _ _
  rcases hb with rfl | rfl
  · have e : (a * 10).toInt = a.toInt * 10 := by
      rw [Int64.toInt_mul, show (10 : Int64).toInt = 10 from by decide]
      exact bm64 (by omega) (by omega)
    omega
  · have e : (a * 1).toInt = a.toInt := by
      rw [Int64.toInt_mul, show (1 : Int64).toInt = 1 from by decide, Int.mul_one]
      exact bm64 (by omega) (by omega)
    omega
theorem fo_l (C : CallS) (v b n ly : Int32) (V : List Value) : ∀ (q i : Nat), i + q = 6 → ∀ m : Mm, 1 ≤ (m.2 68 21).toInt → (m.2 68 21).toInt ≤ 10 ^ i → ∃ a : Int64, 1 ≤ a.toInt ∧ rn shP tb0 mN mO C none (codeZ 165) 29 ([.ref 68, .int v, .int b, .int n, .int ly, .int (nI i)] ++ V) [] m = rn shP tb0 mN mO C none (codeZ 165) 69 ([.ref 68, .int v, .int b, .int n, .int ly, .int 6] ++ V) [] (wL m 68 21 a) := by
  intro q
  induction q with
  | zero =>
    intro i hi m h1 h2
    have e0 : i = 6 := by omega
    subst e0
    refine ⟨m.2 68 21, h1, ?_⟩
    have ew : wL m 68 21 (m.2 68 21) = m := by
      have e : va_up m.2 68 (vp_updL (m.2 68) 21 (m.2 68 21)) = m.2 := by
        funext o j
        simp only [va_up, vp_updL]
        by_cases ho : o = 68
        · subst ho
          rw [if_pos rfl]
          show (if j = 21 then m.2 68 21 else m.2 68 j) = m.2 68 j
          by_cases hj : j = 21
          · rw [if_pos hj, hj]
          · rw [if_neg hj]
        · rw [if_neg ho]
      show (m.1, va_up m.2 68 (vp_updL (m.2 68) 21 (m.2 68 21))) = m
      rw [e]
    rw [ew, rn_eq, b_X7_findOdds_29]
    have e1 : (6 : Int32) ≤ nI 6 := by decide +kernel
    simp only [e1, EV, LV, CB, OI, OL, NP, CZ, popN, CT, OZ, List.map_nil, List.map_cons, List.sum_nil, List.sum_cons, Option.toList, List.nil_append, List.cons_append, Int.reduceToNat, Nat.reduceAdd, Nat.reduceLT, Nat.reduceLeDiff, List.length_cons, List.length_nil, Nat.zero_add, if_true, if_false, reduceIte, and_self, and_true, true_and, eq_self, reduceCtorEq]
    rfl
  | succ q ih =>
    intro i hi m h1 h2
    have e1 : ¬ (6 : Int32) ≤ nI i := nI_ge (a := i) (b := 6) (by omega) (by omega)
    have g1 := gM MP68
    have pf : ∀ x : Int64, pfI shP 721 68 (.long x) m = some (wL m 68 21 x) := fun _ => rfl
    have key : ∀ bb : Int64, bb = 10 ∨ bb = 1 → ∃ a : Int64, 1 ≤ a.toInt ∧ rn shP tb0 mN mO C none (codeZ 165) 29 ([.ref 68, .int v, .int b, .int n, .int ly, .int (nI (i + 1))] ++ V) [] (wL m 68 21 (m.2 68 21 * bb)) = rn shP tb0 mN mO C none (codeZ 165) 69 ([.ref 68, .int v, .int b, .int n, .int ly, .int 6] ++ V) [] (wL m 68 21 a) := by
      intro bb hbb
      have hh := pw10 (by omega) h1 h2 bb hbb
      have e : (wL m 68 21 (m.2 68 21 * bb)).2 68 21 = m.2 68 21 * bb := by rw [wL_at, if_pos ⟨rfl, rfl⟩]
      obtain ⟨a, a1, a2⟩ := ih (i + 1) (by omega) (wL m 68 21 (m.2 68 21 * bb)) (by rw [e]; exact hh.1) (by rw [e]; exact hh.2)
      refine ⟨a, a1, ?_⟩
      rw [a2]
      have ew : wL (wL m 68 21 (m.2 68 21 * bb)) 68 21 a = wL m 68 21 a := by
        have : (wL (wL m 68 21 (m.2 68 21 * bb)) 68 21 a).2 = (wL m 68 21 a).2 := by
          funext o j
          simp only [wL_at]
          split
          · rfl
          · rfl
        exact Prod.ext rfl this
      rw [ew]
    by_cases hb : (ly >>> (nI i &&& 31)) &&& 1 = 1
    · obtain ⟨a, a1, a2⟩ := key 10 (Or.inl rfl)
      refine ⟨a, a1, ?_⟩
      rw [rn_eq, b_X7_findOdds_29]
      simp only [EV, LV, CB, OI, OL, NP, CZ, popN, CT, OZ, List.map_nil, List.map_cons, List.sum_nil, List.sum_cons, Option.toList, List.nil_append, List.cons_append, Int.reduceToNat, Nat.reduceAdd, Nat.reduceLT, Nat.reduceLeDiff, List.length_cons, List.length_nil, Nat.zero_add, if_true, if_false, reduceIte, and_self, and_true, true_and, eq_self, reduceCtorEq, e1, g1, hb, not_true_eq_false]
      rw [rn_eq, b_X7_findOdds_59]
      simp only [EV, LV, CB, OI, OL, NP, CZ, popN, CT, OZ, List.map_nil, List.map_cons, List.sum_nil, List.sum_cons, Option.toList, List.nil_append, List.cons_append, Int.reduceToNat, Nat.reduceAdd, Nat.reduceLT, Nat.reduceLeDiff, List.length_cons, List.length_nil, Nat.zero_add, if_true, if_false, reduceIte, and_self, and_true, true_and, eq_self, reduceCtorEq, pf, nI_1]
      exact a2
    · obtain ⟨a, a1, a2⟩ := key 1 (Or.inr rfl)
      refine ⟨a, a1, ?_⟩
      rw [rn_eq, b_X7_findOdds_29]
      simp only [EV, LV, CB, OI, OL, NP, CZ, popN, CT, OZ, List.map_nil, List.map_cons, List.sum_nil, List.sum_cons, Option.toList, List.nil_append, List.cons_append, Int.reduceToNat, Nat.reduceAdd, Nat.reduceLT, Nat.reduceLeDiff, List.length_cons, List.length_nil, Nat.zero_add, if_true, if_false, reduceIte, and_self, and_true, true_and, eq_self, reduceCtorEq, e1, g1, hb, not_false_eq_true]
      rw [rn_eq, b_X7_findOdds_58]
      simp only [EV, LV, CB, OI, OL, NP, CZ, popN, CT, OZ, List.map_nil, List.map_cons, List.sum_nil, List.sum_cons, Option.toList, List.nil_append, List.cons_append, Int.reduceToNat, Nat.reduceAdd, Nat.reduceLT, Nat.reduceLeDiff, List.length_cons, List.length_nil, Nat.zero_add, if_true, if_false, reduceIte, and_self, and_true, true_and, eq_self, reduceCtorEq, pf, nI_1]
      exact a2
theorem mT_165 : mT 165 = none := by decide +kernel
theorem fo_ok (wS : List Value → Mm → Option Rs) (d : Nat) (v b n : Int32) (m : Mm) (hI : InvT TV m) : ∃ m', semZ shP wS (d + 17) 165 [.ref 68, .int v, .int b, .int n] m = some (none, m') ∧ InvT TV m' ∧ frm w_fo m m' ∧ 1 ≤ (m'.2 68 21).toInt := by
  have hC := hall_11 wS d
  obtain ⟨v0, ms, s1, s2, s3, s4, s5, -⟩ := hd_starts wS (d + 15) [.ref 68] m ⟨gv_rf 68, trivial⟩ hI rho_nil
  cases v0 with
  | some v0 => exact s2.elim
  | none =>
    have s1 : semZ shP wS (d + 16) 123 [.ref 68] m = some (none, ms) := s1
    obtain ⟨v1, mw, w1, w2, w3, w4, w5, -⟩ := hC q_X7_inWay iw_mem [.ref 68, .int 0] ms ⟨gv_rf 68, gv_tI 0, trivial⟩ s3 rho_nil
    cases v1 with
    | none => exact w2.elim
    | some v1 =>
      obtain ⟨ly, hly, -⟩ := w2
      subst hly
      have w1 : semZ shP wS (d + 16) 136 [.ref 68, .int 0] ms = some (some (.int ly), mw) := w1
      have f1 : frm w_fo m mw := frm_tr (frm_w s5 (by decide)) w5 (by decide)
      obtain ⟨a, a1, a2⟩ := fo_l (semZ shP wS (d + 16)) v b n ly [noV, noV, noV, noV] 6 0 rfl (wL (wL (wL mw 68 19 0) 68 20 0) 68 21 1) (by rw [wL_at, if_pos ⟨rfl, rfl⟩]; decide) (by rw [wL_at, if_pos ⟨rfl, rfl⟩]; decide)
      have I1 : InvT TV (wL (wL (wL (wL mw 68 19 0) 68 20 0) 68 21 1) 68 21 a) := w3
      have f2 : frm w_fo m (wL (wL (wL (wL mw 68 19 0) 68 20 0) 68 21 1) 68 21 a) := frm_wL (by decide) (frm_wL (by decide) (frm_wL (by decide) (frm_wL (by decide) f1 (by decide)) (by decide)) (by decide)) (by decide)
      generalize hm1 : wL (wL (wL (wL mw 68 19 0) 68 20 0) 68 21 1) 68 21 a = m1 at I1 f2 a2
      have ea : m1.2 68 21 = a := by rw [← hm1, wL_at, if_pos ⟨rfl, rfl⟩]
      obtain ⟨e0, he0⟩ : ∃ e0, a_fo[0]? = some e0 := ⟨_, rfl⟩
      have k := run_ok (mE := m1) hC k_fo _ (a_fo.getD 0 (0, ([], [], []), 0, [])) (List.mem_of_getElem? (i := 0) rfl) [.ref 68, .int v, .int b, .int n, .int ly, .int 0, noV, noV, noV, noV] [] m1 (fun L1 => ⟨gL_of (L1 := L1) ⟨gv_rf 68, gv_tI v, gv_tI b, gv_tI n, gv_tI ly, gv_i (by decide) (by decide), trivial, trivial, trivial, trivial, trivial⟩, trivial, I1, rho_nil, frm_rf⟩) (Nat.le_refl _)
      obtain ⟨⟨vr, m'⟩, r1, r2⟩ := k
      have r1 : rn shP tb0 mN mO (semZ shP wS (d + 16)) (mT 165) (codeZ 165) 72 [.ref 68, .int v, .int b, .int n, .int ly, .int 0, noV, noV, noV, noV] [] m1 = some (vr, m') := r1
      rw [mT_165] at r1
      have hv : vr = none := by
        cases vr with
        | none => rfl
        | some _ => exact r2.1.elim
      subst hv
      refine ⟨m', ?_, r2.2.1, frm_tr f2 r2.2.2.2.1 (by decide), ?_⟩
      · have pf19 : pfI shP 719 68 (.long 0) mw = some (wL mw 68 19 0) := rfl
        have pf20 : pfI shP 720 68 (.long 0) (wL mw 68 19 0) = some (wL (wL mw 68 19 0) 68 20 0) := rfl
        have pf21 : pfI shP 721 68 (.long 1) (wL (wL mw 68 19 0) 68 20 0) = some (wL (wL (wL mw 68 19 0) 68 20 0) 68 21 1) := rfl
        rw [se_X7_findOdds, rn_eq, b_X7_findOdds_0]
        simp only [EV, LV, CB, OI, OL, NP, CZ, popN, CT, OZ, List.map_nil, List.map_cons, List.sum_nil, List.sum_cons, Option.toList, List.nil_append, List.cons_append, Int.reduceToNat, Nat.reduceAdd, Nat.reduceLT, Nat.reduceLeDiff, List.length_cons, List.length_nil, Nat.zero_add, if_true, if_false, reduceIte, and_self, and_true, true_and, eq_self, reduceCtorEq, gM MP68, s1, w1, pf19, pf20, pf21]
        refine Eq.trans a2 ?_
        rw [rn_eq, b_X7_findOdds_69]
        simp only [EV, LV, CB, OI, OL, NP, CZ, popN, CT, OZ, List.map_nil, List.map_cons, List.sum_nil, List.sum_cons, Option.toList, List.nil_append, List.cons_append, Int.reduceToNat, Nat.reduceAdd, Nat.reduceLT, Nat.reduceLeDiff, List.length_cons, List.length_nil, Nat.zero_add, if_true, if_false, reduceIte, and_self, and_true, true_and, eq_self, reduceCtorEq]
        exact r1
      · rw [(r2.2.2.2.1 68 21 (by decide) (by decide) (by decide)).2, ea]
        exact a1
def c_mn : CE := (166, [rF [68], tI, tI, tI], [], tJ, [], w_fo, [])
def c_lk : CE := (167, [rF [68], tI, tI, tI, tI], [], tJ, [], w_fo, [])
theorem nz_of {a : Int64} (h : 1 ≤ a.toInt) : ¬ a = 0 := fun z => by
  rw [z] at h
  exact absurd h (by decide)
theorem hd_mn (wS : List Value → Mm → Option Rs) (d : Nat) : Hd TV (semZ shP wS (d + 18)) c_mn := by
  apply Hd_run
  intro As m g hI hR
  obtain ⟨v1, vs, rfl, k1, g⟩ := gT_cons g
  obtain ⟨v2, vs, rfl, k2, g⟩ := gT_cons g
  obtain ⟨v3, vs, rfl, k3, g⟩ := gT_cons g
  obtain ⟨v4, vs, rfl, k4, g⟩ := gT_cons g
  cases gT_nil g
  obtain ⟨r', rfl, hr⟩ := k1
  have hr : r' = 68 := List.mem_singleton.mp hr
  subst hr
  obtain ⟨v, rfl, -⟩ := k2
  obtain ⟨n, rfl, -⟩ := k3
  obtain ⟨w, rfl, -⟩ := k4
  show ∃ r, semZ shP wS (d + 18) 166 [.ref 68, .int v, .int n, .int w] m = some r ∧ _
  have bad : PostR TV m c_mn (some (.long (-1)), m) := ⟨retJ _, hI, rho_nil, frm_rf, rfl⟩
  have e10 : ¬ (1 : Int32) = 0 := by decide
  rw [se_X7_mean, rn_eq, b_X7_mean_0]
  cases h1 : (decide (0 ≤ v.toInt64) && decide (v.toInt64 ≤ 10)) with
  | false =>
    refine ⟨_, ?_, bad⟩
    simp only [EV, LV, CB, OI, OL, NP, CZ, popN, CT, OZ, List.map_nil, List.map_cons, List.sum_nil, List.sum_cons, Option.toList, List.nil_append, List.cons_append, Int.reduceToNat, Nat.reduceAdd, Nat.reduceLT, Nat.reduceLeDiff, List.length_cons, List.length_nil, Nat.zero_add, if_true, if_false, reduceIte, and_self, and_true, true_and, eq_self, reduceCtorEq, t_in wS (d + 16), h1, bI_f]
    rw [rn_eq, b_X7_mean_26]
    simp only [EV, LV, CB, OI, OL, NP, CZ, popN, CT, OZ, List.map_nil, List.map_cons, List.sum_nil, List.sum_cons, Option.toList, List.nil_append, List.cons_append, Int.reduceToNat, Nat.reduceAdd, Nat.reduceLT, Nat.reduceLeDiff, List.length_cons, List.length_nil, Nat.zero_add, if_true, if_false, reduceIte, and_self, and_true, true_and, eq_self, reduceCtorEq]
  | true =>
    cases h2 : (decide (0 ≤ n.toInt64) && decide (n.toInt64 ≤ 20)) with
    | false =>
      refine ⟨_, ?_, bad⟩
      simp only [EV, LV, CB, OI, OL, NP, CZ, popN, CT, OZ, List.map_nil, List.map_cons, List.sum_nil, List.sum_cons, Option.toList, List.nil_append, List.cons_append, Int.reduceToNat, Nat.reduceAdd, Nat.reduceLT, Nat.reduceLeDiff, List.length_cons, List.length_nil, Nat.zero_add, if_true, if_false, reduceIte, and_self, and_true, true_and, eq_self, reduceCtorEq, t_in wS (d + 16), t_isJudged wS (d + 15), h1, h2, bI_f, bI_t, e10]
      rw [rn_eq, b_X7_mean_26]
      simp only [EV, LV, CB, OI, OL, NP, CZ, popN, CT, OZ, List.map_nil, List.map_cons, List.sum_nil, List.sum_cons, Option.toList, List.nil_append, List.cons_append, Int.reduceToNat, Nat.reduceAdd, Nat.reduceLT, Nat.reduceLeDiff, List.length_cons, List.length_nil, Nat.zero_add, if_true, if_false, reduceIte, and_self, and_true, true_and, eq_self, reduceCtorEq]
    | true =>
      cases h3 : (decide (0 ≤ w.toInt64) && decide (w.toInt64 ≤ 1)) with
      | false =>
        refine ⟨_, ?_, bad⟩
        simp only [EV, LV, CB, OI, OL, NP, CZ, popN, CT, OZ, List.map_nil, List.map_cons, List.sum_nil, List.sum_cons, Option.toList, List.nil_append, List.cons_append, Int.reduceToNat, Nat.reduceAdd, Nat.reduceLT, Nat.reduceLeDiff, List.length_cons, List.length_nil, Nat.zero_add, if_true, if_false, reduceIte, and_self, and_true, true_and, eq_self, reduceCtorEq, t_in wS (d + 16), t_isJudged wS (d + 15), t_isPart wS (d + 15), h1, h2, h3, bI_f, bI_t, e10, not_true_eq_false]
      | true =>
        obtain ⟨m', o1, o2, o3, o4⟩ := fo_ok wS d v 0 n m hI
        obtain ⟨r, t1⟩ := t_told (sh := shP) wS (d + 15) m' (m'.2 68 19) (m'.2 68 21) w (nz_of o4)
        refine ⟨(some (.long r), m'), ?_, retJ r, o2, rho_nil, o3, rfl⟩
        simp only [EV, LV, CB, OI, OL, NP, CZ, popN, CT, OZ, List.map_nil, List.map_cons, List.sum_nil, List.sum_cons, Option.toList, List.nil_append, List.cons_append, Int.reduceToNat, Nat.reduceAdd, Nat.reduceLT, Nat.reduceLeDiff, List.length_cons, List.length_nil, Nat.zero_add, if_true, if_false, reduceIte, and_self, and_true, true_and, eq_self, reduceCtorEq, t_in wS (d + 16), t_isJudged wS (d + 15), t_isPart wS (d + 15), h1, h2, h3, bI_f, bI_t, e10, not_true_eq_false, not_false_eq_true]
        rw [rn_eq, b_X7_mean_30]
        simp only [EV, LV, CB, OI, OL, NP, CZ, popN, CT, OZ, List.map_nil, List.map_cons, List.sum_nil, List.sum_cons, Option.toList, List.nil_append, List.cons_append, Int.reduceToNat, Nat.reduceAdd, Nat.reduceLT, Nat.reduceLeDiff, List.length_cons, List.length_nil, Nat.zero_add, if_true, if_false, reduceIte, and_self, and_true, true_and, eq_self, reduceCtorEq, gM MP68, o1, t1]
theorem hd_lk (wS : List Value → Mm → Option Rs) (d : Nat) : Hd TV (semZ shP wS (d + 18)) c_lk := by
  apply Hd_run
  intro As m g hI hR
  obtain ⟨v1, vs, rfl, k1, g⟩ := gT_cons g
  obtain ⟨v2, vs, rfl, k2, g⟩ := gT_cons g
  obtain ⟨v3, vs, rfl, k3, g⟩ := gT_cons g
  obtain ⟨v4, vs, rfl, k4, g⟩ := gT_cons g
  obtain ⟨v5, vs, rfl, k5, g⟩ := gT_cons g
  cases gT_nil g
  obtain ⟨r', rfl, hr⟩ := k1
  have hr : r' = 68 := List.mem_singleton.mp hr
  subst hr
  obtain ⟨v, rfl, -⟩ := k2
  obtain ⟨b, rfl, -⟩ := k3
  obtain ⟨n, rfl, -⟩ := k4
  obtain ⟨w, rfl, -⟩ := k5
  show ∃ r, semZ shP wS (d + 18) 167 [.ref 68, .int v, .int b, .int n, .int w] m = some r ∧ _
  have bad : PostR TV m c_lk (some (.long (-1)), m) := ⟨retJ _, hI, rho_nil, frm_rf, rfl⟩
  have e10 : ¬ (1 : Int32) = 0 := by decide
  rw [se_X7_luck, rn_eq, b_X7_luck_0]
  cases h1 : (decide (0 ≤ v.toInt64) && decide (v.toInt64 ≤ 10)) with
  | false =>
    refine ⟨_, ?_, bad⟩
    simp only [EV, LV, CB, OI, OL, NP, CZ, popN, CT, OZ, List.map_nil, List.map_cons, List.sum_nil, List.sum_cons, Option.toList, List.nil_append, List.cons_append, Int.reduceToNat, Nat.reduceAdd, Nat.reduceLT, Nat.reduceLeDiff, List.length_cons, List.length_nil, Nat.zero_add, if_true, if_false, reduceIte, and_self, and_true, true_and, eq_self, reduceCtorEq, t_in wS (d + 16), h1, bI_f]
    rw [rn_eq, b_X7_luck_35]
    simp only [EV, LV, CB, OI, OL, NP, CZ, popN, CT, OZ, List.map_nil, List.map_cons, List.sum_nil, List.sum_cons, Option.toList, List.nil_append, List.cons_append, Int.reduceToNat, Nat.reduceAdd, Nat.reduceLT, Nat.reduceLeDiff, List.length_cons, List.length_nil, Nat.zero_add, if_true, if_false, reduceIte, and_self, and_true, true_and, eq_self, reduceCtorEq]
  | true =>
    cases h4 : (decide (0 ≤ b.toInt64) && decide (b.toInt64 ≤ (m.1 69 38 - 1).toInt64)) with
    | false =>
      refine ⟨_, ?_, bad⟩
      simp only [EV, LV, CB, OI, OL, NP, CZ, popN, CT, OZ, List.map_nil, List.map_cons, List.sum_nil, List.sum_cons, Option.toList, List.nil_append, List.cons_append, Int.reduceToNat, Nat.reduceAdd, Nat.reduceLT, Nat.reduceLeDiff, List.length_cons, List.length_nil, Nat.zero_add, if_true, if_false, reduceIte, and_self, and_true, true_and, eq_self, reduceCtorEq, gM MP68, t_in wS (d + 16), t_isBody wS (d + 15) MP68, h1, h4, bI_f, bI_t, e10]
      rw [rn_eq, b_X7_luck_35]
      simp only [EV, LV, CB, OI, OL, NP, CZ, popN, CT, OZ, List.map_nil, List.map_cons, List.sum_nil, List.sum_cons, Option.toList, List.nil_append, List.cons_append, Int.reduceToNat, Nat.reduceAdd, Nat.reduceLT, Nat.reduceLeDiff, List.length_cons, List.length_nil, Nat.zero_add, if_true, if_false, reduceIte, and_self, and_true, true_and, eq_self, reduceCtorEq]
    | true =>
      cases h2 : (decide (0 ≤ n.toInt64) && decide (n.toInt64 ≤ 20)) with
      | false =>
        refine ⟨_, ?_, bad⟩
        simp only [EV, LV, CB, OI, OL, NP, CZ, popN, CT, OZ, List.map_nil, List.map_cons, List.sum_nil, List.sum_cons, Option.toList, List.nil_append, List.cons_append, Int.reduceToNat, Nat.reduceAdd, Nat.reduceLT, Nat.reduceLeDiff, List.length_cons, List.length_nil, Nat.zero_add, if_true, if_false, reduceIte, and_self, and_true, true_and, eq_self, reduceCtorEq, gM MP68, t_in wS (d + 16), t_isBody wS (d + 15) MP68, t_isJudged wS (d + 15), h1, h2, h4, bI_f, bI_t, e10]
        rw [rn_eq, b_X7_luck_35]
        simp only [EV, LV, CB, OI, OL, NP, CZ, popN, CT, OZ, List.map_nil, List.map_cons, List.sum_nil, List.sum_cons, Option.toList, List.nil_append, List.cons_append, Int.reduceToNat, Nat.reduceAdd, Nat.reduceLT, Nat.reduceLeDiff, List.length_cons, List.length_nil, Nat.zero_add, if_true, if_false, reduceIte, and_self, and_true, true_and, eq_self, reduceCtorEq]
      | true =>
        cases h3 : (decide (0 ≤ w.toInt64) && decide (w.toInt64 ≤ 1)) with
        | false =>
          refine ⟨_, ?_, bad⟩
          simp only [EV, LV, CB, OI, OL, NP, CZ, popN, CT, OZ, List.map_nil, List.map_cons, List.sum_nil, List.sum_cons, Option.toList, List.nil_append, List.cons_append, Int.reduceToNat, Nat.reduceAdd, Nat.reduceLT, Nat.reduceLeDiff, List.length_cons, List.length_nil, Nat.zero_add, if_true, if_false, reduceIte, and_self, and_true, true_and, eq_self, reduceCtorEq, gM MP68, t_in wS (d + 16), t_isBody wS (d + 15) MP68, t_isJudged wS (d + 15), t_isPart wS (d + 15), h1, h2, h3, h4, bI_f, bI_t, e10, not_true_eq_false]
        | true =>
          obtain ⟨m', o1, o2, o3, o4⟩ := fo_ok wS d v b n m hI
          obtain ⟨r, t1⟩ := t_told (sh := shP) wS (d + 15) m' (m'.2 68 20) (m'.2 68 21) w (nz_of o4)
          refine ⟨(some (.long r), m'), ?_, retJ r, o2, rho_nil, o3, rfl⟩
          simp only [EV, LV, CB, OI, OL, NP, CZ, popN, CT, OZ, List.map_nil, List.map_cons, List.sum_nil, List.sum_cons, Option.toList, List.nil_append, List.cons_append, Int.reduceToNat, Nat.reduceAdd, Nat.reduceLT, Nat.reduceLeDiff, List.length_cons, List.length_nil, Nat.zero_add, if_true, if_false, reduceIte, and_self, and_true, true_and, eq_self, reduceCtorEq, gM MP68, t_in wS (d + 16), t_isBody wS (d + 15) MP68, t_isJudged wS (d + 15), t_isPart wS (d + 15), h1, h2, h3, h4, bI_f, bI_t, e10, not_true_eq_false, not_false_eq_true]
          rw [rn_eq, b_X7_luck_39]
          simp only [EV, LV, CB, OI, OL, NP, CZ, popN, CT, OZ, List.map_nil, List.map_cons, List.sum_nil, List.sum_cons, Option.toList, List.nil_append, List.cons_append, Int.reduceToNat, Nat.reduceAdd, Nat.reduceLT, Nat.reduceLeDiff, List.length_cons, List.length_nil, Nat.zero_add, if_true, if_false, reduceIte, and_self, and_true, true_and, eq_self, reduceCtorEq, gM MP68, o1, t1]
end
