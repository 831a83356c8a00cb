/-! THE MODEL'S TOKENS -/
section Pt
variable (wS : List Value → Mm → Option Rs) (d : Nat) (m : Mm)
theorem t_takes_f (ps fr : Nat) (so va fa wr : Int32) (h : 0 < fa) : semZ shP wS (d + 1) 113 [.ref 68] (pm m ps fr so va fa wr) = some (none, pm m ps fr so va fa wr) := by
  have e1 : ¬ fa ≤ 0 := Int32.not_le.mpr h
  rw [se_X7_takes, rn_eq, b_X7_takes_0]
  simp only [EV, LV, CB, OI, OL, NP, CZ, popN, CT, OZ, List.map_nil, List.map_cons, List.sum_nil, List.sum_cons, Option.toList, List.nil_append, List.cons_append, Int.reduceToNat, Nat.reduceAdd, Nat.reduceLT, Nat.reduceLeDiff, List.length_cons, List.length_nil, Nat.zero_add, if_true, if_false, reduceIte, and_self, and_true, true_and, eq_self, reduceCtorEq, G68, e1]
theorem t_takes (hT : (m.1 68 9).toInt ≤ 160) {ps : Nat} (hp : ps ≤ 160) (fr : Nat) (so va wr : Int32) : ∃ (ps' fr' : Nat) (so' va' fa' wr' : Int32), semZ shP wS (d + 2) 113 [.ref 68] (pm m ps fr so va 0 wr) = some (none, pm m ps' fr' so' va' fa' wr') ∧ ps ≤ ps' ∧ ps' ≤ 160 ∧ fr' ≤ 160 ∧ (0 ≤ so'.toInt ∧ so'.toInt ≤ 3) ∧ (fa' = 0 ∨ fa' = 1) ∧ (¬ so' = 0 → ps < ps') := by
  obtain ⟨p1, a1, a2, a3⟩ := tk_8 wS d m fr so va 0 wr hT (160 - ps) ps (by omega)
  have e00 : (0 : Int32) ≤ 0 := by decide
  have e10 : ¬ (1 : Int32) = 0 := by decide
  have es : semZ shP wS (d + 2) 113 [.ref 68] (pm m ps fr so va 0 wr) = rn shP tb0 mN mO (semZ shP wS (d + 1)) none (codeZ 113) 34 [.ref 68, noV] [] (pm m p1 fr so va 0 wr) := by
    rw [se_X7_takes, rn_eq, b_X7_takes_0]
    simp only [EV, LV, CB, OI, OL, NP, CZ, popN, CT, OZ, List.map_nil, List.map_cons, List.sum_nil, List.sum_cons, Option.toList, List.nil_append, List.cons_append, Int.reduceToNat, Nat.reduceAdd, Nat.reduceLT, Nat.reduceLeDiff, List.length_cons, List.length_nil, Nat.zero_add, if_true, if_false, reduceIte, and_self, and_true, true_and, eq_self, reduceCtorEq, G68, e00]
    exact a3
  rw [es]
  by_cases hc : 0 ≤ bA m p1
  · have st63 : rn shP tb0 mN mO (semZ shP wS (d + 1)) none (codeZ 113) 34 [.ref 68, noV] [] (pm m p1 fr so va 0 wr) = rn shP tb0 mN mO (semZ shP wS (d + 1)) none (codeZ 113) 63 [.ref 68, .int (bA m p1)] [] (pm m p1 p1 so va 0 wr) := by
      rw [rn_eq, b_X7_takes_34]
      simp only [EV, LV, CB, OI, OL, NP, CZ, popN, CT, OZ, List.map_nil, List.map_cons, List.sum_nil, List.sum_cons, Option.toList, List.nil_append, List.cons_append, Int.reduceToNat, Nat.reduceAdd, Nat.reduceLT, Nat.reduceLeDiff, List.length_cons, List.length_nil, Nat.zero_add, if_true, if_false, reduceIte, and_self, and_true, true_and, eq_self, reduceCtorEq, C68, G68, P68, pm_w11, t_byteAt wS d m p1 so va 0 wr hT (by omega : p1 < 2 ^ 31), hc]
    have hlt : p1 < 160 := by
      apply Nat.lt_of_not_le
      intro z
      rw [bA_ge m hT z (by omega)] at hc
      exact absurd hc (by decide)
    rw [st63]
    cases h1 : bW (bA m p1) 97 122 with
    | true =>
      have h1' : (decide ((97 : Int64) ≤ (bA m p1).toInt64) && decide ((bA m p1).toInt64 ≤ 122)) = true := h1
      obtain ⟨p2, b1, b2, b3, b4⟩ := tk_82 wS d m p1 1 va 0 wr hT (bA m p1) (160 - p1) p1 (by omega)
      refine ⟨p2, p1, 1, va, 0, wr, ?_, by omega, b2, a2, by decide, Or.inl rfl, fun _ => ?_⟩
      · rw [rn_eq, b_X7_takes_63]
        simp only [EV, LV, CB, OI, OL, NP, CZ, popN, CT, OZ, List.map_nil, List.map_cons, List.sum_nil, List.sum_cons, Option.toList, List.nil_append, List.cons_append, Int.reduceToNat, Nat.reduceAdd, Nat.reduceLT, Nat.reduceLeDiff, List.length_cons, List.length_nil, Nat.zero_add, if_true, if_false, reduceIte, and_self, and_true, true_and, eq_self, reduceCtorEq, t_in wS d, h1', bI_t, e10, P68, pm_w12]
        exact b4
      · have := b3 h1
        omega
    | false =>
      have h1' : (decide ((97 : Int64) ≤ (bA m p1).toInt64) && decide ((bA m p1).toInt64 ≤ 122)) = false := h1
      have st116 : rn shP tb0 mN mO (semZ shP wS (d + 1)) none (codeZ 113) 63 [.ref 68, .int (bA m p1)] [] (pm m p1 p1 so va 0 wr) = rn shP tb0 mN mO (semZ shP wS (d + 1)) none (codeZ 113) 116 [.ref 68, .int (bA m p1)] [] (pm m p1 p1 so va 0 wr) := by
        rw [rn_eq, b_X7_takes_63]
        simp only [EV, LV, CB, OI, OL, NP, CZ, popN, CT, OZ, List.map_nil, List.map_cons, List.sum_nil, List.sum_cons, Option.toList, List.nil_append, List.cons_append, Int.reduceToNat, Nat.reduceAdd, Nat.reduceLT, Nat.reduceLeDiff, List.length_cons, List.length_nil, Nat.zero_add, if_true, if_false, reduceIte, and_self, and_true, true_and, eq_self, reduceCtorEq, t_in wS d, h1', bI_f]
      rw [st116]
      cases h2 : bW (bA m p1) 48 57 with
      | true =>
        have h2' : (decide ((48 : Int64) ≤ (bA m p1).toInt64) && decide ((bA m p1).toInt64 ≤ 57)) = true := h2
        obtain ⟨p2, va', b1, b2, b3, b4⟩ := tk_140 wS d m p1 2 0 wr hT (bA m p1) (160 - p1) p1 (by omega) 0
        have st217 : rn shP tb0 mN mO (semZ shP wS (d + 1)) none (codeZ 113) 116 [.ref 68, .int (bA m p1)] [] (pm m p1 p1 so va 0 wr) = rn shP tb0 mN mO (semZ shP wS (d + 1)) none (codeZ 113) 217 [.ref 68, .int (bA m p1)] [] (pm m p2 p1 2 va' 0 wr) := by
          rw [rn_eq, b_X7_takes_116]
          simp only [EV, LV, CB, OI, OL, NP, CZ, popN, CT, OZ, List.map_nil, List.map_cons, List.sum_nil, List.sum_cons, Option.toList, List.nil_append, List.cons_append, Int.reduceToNat, Nat.reduceAdd, Nat.reduceLT, Nat.reduceLeDiff, List.length_cons, List.length_nil, Nat.zero_add, if_true, if_false, reduceIte, and_self, and_true, true_and, eq_self, reduceCtorEq, t_in wS d, h2', bI_t, e10, P68, pm_w12, pm_w13]
          exact b4
        have hlt2 := b3 h2
        rw [st217]
        by_cases h3 : (2 : Int32) < nI p2 - nI p1
        · refine ⟨p2, p1, 2, va', 1, nI p1, ?_, by omega, b2, a2, by decide, Or.inr rfl, fun _ => by omega⟩
          rw [rn_eq, b_X7_takes_217]
          simp only [EV, LV, CB, OI, OL, NP, CZ, popN, CT, OZ, List.map_nil, List.map_cons, List.sum_nil, List.sum_cons, Option.toList, List.nil_append, List.cons_append, Int.reduceToNat, Nat.reduceAdd, Nat.reduceLT, Nat.reduceLeDiff, List.length_cons, List.length_nil, Nat.zero_add, if_true, if_false, reduceIte, and_self, and_true, true_and, eq_self, reduceCtorEq, G68, h3]
          rw [rn_eq, b_X7_takes_235]
          simp only [EV, LV, CB, OI, OL, NP, CZ, popN, CT, OZ, List.map_nil, List.map_cons, List.sum_nil, List.sum_cons, Option.toList, List.nil_append, List.cons_append, Int.reduceToNat, Nat.reduceAdd, Nat.reduceLT, Nat.reduceLeDiff, List.length_cons, List.length_nil, Nat.zero_add, if_true, if_false, reduceIte, and_self, and_true, true_and, eq_self, reduceCtorEq, C68, t_needs wS d]
          rw [rn_eq, b_X7_takes_274]
          simp only [EV, LV, CB, OI, OL, NP, CZ, popN, CT, OZ, List.map_nil, List.map_cons, List.sum_nil, List.sum_cons, Option.toList, List.nil_append, List.cons_append, Int.reduceToNat, Nat.reduceAdd, Nat.reduceLT, Nat.reduceLeDiff, List.length_cons, List.length_nil, Nat.zero_add, if_true, if_false, reduceIte, and_self, and_true, true_and, eq_self, reduceCtorEq]
        · refine ⟨p2, p1, 2, va', 0, wr, ?_, by omega, b2, a2, by decide, Or.inl rfl, fun _ => by omega⟩
          rw [rn_eq, b_X7_takes_217]
          simp only [EV, LV, CB, OI, OL, NP, CZ, popN, CT, OZ, List.map_nil, List.map_cons, List.sum_nil, List.sum_cons, Option.toList, List.nil_append, List.cons_append, Int.reduceToNat, Nat.reduceAdd, Nat.reduceLT, Nat.reduceLeDiff, List.length_cons, List.length_nil, Nat.zero_add, if_true, if_false, reduceIte, and_self, and_true, true_and, eq_self, reduceCtorEq, G68, h3]
          rw [rn_eq, b_X7_takes_236]
          simp only [EV, LV, CB, OI, OL, NP, CZ, popN, CT, OZ, List.map_nil, List.map_cons, List.sum_nil, List.sum_cons, Option.toList, List.nil_append, List.cons_append, Int.reduceToNat, Nat.reduceAdd, Nat.reduceLT, Nat.reduceLeDiff, List.length_cons, List.length_nil, Nat.zero_add, if_true, if_false, reduceIte, and_self, and_true, true_and, eq_self, reduceCtorEq, C68, t_needs wS d, e10, false_and]
          rw [rn_eq, b_X7_takes_274]
          simp only [EV, LV, CB, OI, OL, NP, CZ, popN, CT, OZ, List.map_nil, List.map_cons, List.sum_nil, List.sum_cons, Option.toList, List.nil_append, List.cons_append, Int.reduceToNat, Nat.reduceAdd, Nat.reduceLT, Nat.reduceLeDiff, List.length_cons, List.length_nil, Nat.zero_add, if_true, if_false, reduceIte, and_self, and_true, true_and, eq_self, reduceCtorEq]
      | false =>
        have h2' : (decide ((48 : Int64) ≤ (bA m p1).toInt64) && decide ((bA m p1).toInt64 ≤ 57)) = false := h2
        have st243 : rn shP tb0 mN mO (semZ shP wS (d + 1)) none (codeZ 113) 116 [.ref 68, .int (bA m p1)] [] (pm m p1 p1 so va 0 wr) = rn shP tb0 mN mO (semZ shP wS (d + 1)) none (codeZ 113) 243 [.ref 68, .int (bA m p1)] [] (pm m p1 p1 so va 0 wr) := by
          rw [rn_eq, b_X7_takes_116]
          simp only [EV, LV, CB, OI, OL, NP, CZ, popN, CT, OZ, List.map_nil, List.map_cons, List.sum_nil, List.sum_cons, Option.toList, List.nil_append, List.cons_append, Int.reduceToNat, Nat.reduceAdd, Nat.reduceLT, Nat.reduceLeDiff, List.length_cons, List.length_nil, Nat.zero_add, if_true, if_false, reduceIte, and_self, and_true, true_and, eq_self, reduceCtorEq, t_in wS d, h2', bI_f]
        rw [st243]
        by_cases h3 : bA m p1 = 59
        · refine ⟨p1 + 1, p1, 3, va, 0, wr, ?_, by omega, by omega, a2, by decide, Or.inl rfl, fun _ => by omega⟩
          rw [rn_eq, b_X7_takes_243]
          simp only [EV, LV, CB, OI, OL, NP, CZ, popN, CT, OZ, List.map_nil, List.map_cons, List.sum_nil, List.sum_cons, Option.toList, List.nil_append, List.cons_append, Int.reduceToNat, Nat.reduceAdd, Nat.reduceLT, Nat.reduceLeDiff, List.length_cons, List.length_nil, Nat.zero_add, if_true, if_false, reduceIte, and_self, and_true, true_and, eq_self, reduceCtorEq, P68, pm_w12, h3, not_true_eq_false]
          rw [rn_eq, b_X7_takes_260]
          simp only [EV, LV, CB, OI, OL, NP, CZ, popN, CT, OZ, List.map_nil, List.map_cons, List.sum_nil, List.sum_cons, Option.toList, List.nil_append, List.cons_append, Int.reduceToNat, Nat.reduceAdd, Nat.reduceLT, Nat.reduceLeDiff, List.length_cons, List.length_nil, Nat.zero_add, if_true, if_false, reduceIte, and_self, and_true, true_and, eq_self, reduceCtorEq, C68, t_needs wS d, e10, false_and, G68, P68, nI_1, pm_w10]
        · refine ⟨p1 + 1, p1, 3, va, 1, nI p1, ?_, by omega, by omega, a2, by decide, Or.inr rfl, fun _ => by omega⟩
          rw [rn_eq, b_X7_takes_243]
          simp only [EV, LV, CB, OI, OL, NP, CZ, popN, CT, OZ, List.map_nil, List.map_cons, List.sum_nil, List.sum_cons, Option.toList, List.nil_append, List.cons_append, Int.reduceToNat, Nat.reduceAdd, Nat.reduceLT, Nat.reduceLeDiff, List.length_cons, List.length_nil, Nat.zero_add, if_true, if_false, reduceIte, and_self, and_true, true_and, eq_self, reduceCtorEq, P68, pm_w12, h3, not_false_eq_true]
          rw [rn_eq, b_X7_takes_259]
          simp only [EV, LV, CB, OI, OL, NP, CZ, popN, CT, OZ, List.map_nil, List.map_cons, List.sum_nil, List.sum_cons, Option.toList, List.nil_append, List.cons_append, Int.reduceToNat, Nat.reduceAdd, Nat.reduceLT, Nat.reduceLeDiff, List.length_cons, List.length_nil, Nat.zero_add, if_true, if_false, reduceIte, and_self, and_true, true_and, eq_self, reduceCtorEq, C68, t_needs wS d, G68, P68, nI_1, pm_w10]
  · refine ⟨p1, p1, 0, va, 0, wr, ?_, a1, a2, a2, by decide, Or.inl rfl, fun z => absurd rfl z⟩
    rw [rn_eq, b_X7_takes_34]
    simp only [EV, LV, CB, OI, OL, NP, CZ, popN, CT, OZ, List.map_nil, List.map_cons, List.sum_nil, List.sum_cons, Option.toList, List.nil_append, List.cons_append, Int.reduceToNat, Nat.reduceAdd, Nat.reduceLT, Nat.reduceLeDiff, List.length_cons, List.length_nil, Nat.zero_add, if_true, if_false, reduceIte, and_self, and_true, true_and, eq_self, reduceCtorEq, C68, G68, P68, pm_w11, pm_w12, t_byteAt wS d m p1 so va 0 wr hT (by omega : p1 < 2 ^ 31), hc]
    rw [rn_eq, b_X7_takes_274]
    simp only [EV, LV, CB, OI, OL, NP, CZ, popN, CT, OZ, List.map_nil, List.map_cons, List.sum_nil, List.sum_cons, Option.toList, List.nil_append, List.cons_append, Int.reduceToNat, Nat.reduceAdd, Nat.reduceLT, Nat.reduceLeDiff, List.length_cons, List.length_nil, Nat.zero_add, if_true, if_false, reduceIte, and_self, and_true, true_and, eq_self, reduceCtorEq]
/-- the bounds of the six numbers -/
def ok6 (ps fr : Nat) (so fa : Int32) : Prop := ps ≤ 160 ∧ fr ≤ 160 ∧ (0 ≤ so.toInt ∧ so.toInt ≤ 3) ∧ (0 ≤ fa.toInt ∧ fa.toInt ≤ 6)
theorem f_pos {fa : Int32} (h : 0 ≤ fa.toInt) (hn : ¬ fa = 0) : 0 < fa := by
  rw [Int32.lt_iff_toInt_lt, show (0 : Int32).toInt = 0 from by decide]
  have : fa.toInt ≠ 0 := fun z => hn (Int32.toInt_inj.mp (by rw [z]; decide))
  omega
/-- takes, whatever the fault is -/
theorem t_tk (hT : (m.1 68 9).toInt ≤ 160) {ps fr : Nat} {so fa : Int32} (h : ok6 ps fr so fa) (va wr : Int32) : ∃ (ps' fr' : Nat) (so' va' fa' wr' : Int32), semZ shP wS (d + 2) 113 [.ref 68] (pm m ps fr so va fa wr) = some (none, pm m ps' fr' so' va' fa' wr') ∧ ok6 ps' fr' so' fa' ∧ ps ≤ ps' ∧ (¬ fa = 0 → ¬ fa' = 0) ∧ (fa' = 0 → ¬ so' = 0 → ps < ps') := by
  by_cases hf : fa = 0
  · subst hf
    obtain ⟨ps', fr', so', va', fa', wr', a1, a2, a3, a4, a5, a6, a7⟩ := t_takes wS d m hT h.1 fr so va wr
    refine ⟨ps', fr', so', va', fa', wr', a1, ⟨a3, a4, a5, ?_⟩, a2, fun z => absurd rfl z, fun _ z => a7 z⟩
    rcases a6 with rfl | rfl <;> decide
  · exact ⟨ps, fr, so, va, fa, wr, t_takes_f wS (d + 1) m ps fr so va fa wr (f_pos h.2.2.2.1 hf), h, Nat.le_refl _, fun z => z, fun z => absurd z hf⟩
/-- a number read: its bounds, if there is no fault then -/
theorem t_rdn (hT : (m.1 68 9).toInt ≤ 160) {ps fr : Nat} {so fa : Int32} (h : ok6 ps fr so fa) (va wr lo hi : Int32) : ∃ (v : Int32) (ps' fr' : Nat) (so' va' fa' wr' : Int32), semZ shP wS (d + 3) 114 [.ref 68, .int lo, .int hi] (pm m ps fr so va fa wr) = some (some (.int v), pm m ps' fr' so' va' fa' wr') ∧ ok6 ps' fr' so' fa' ∧ ps ≤ ps' ∧ (¬ fa = 0 → ¬ fa' = 0) ∧ (fa' = 0 → lo.toInt ≤ v.toInt ∧ v.toInt ≤ hi.toInt) ∧ (v = 0 ∨ (lo.toInt ≤ v.toInt ∧ v.toInt ≤ hi.toInt)) := by
  have e10 : ¬ (1 : Int32) = 0 := by decide
  have e20 : ¬ (2 : Int32) = 0 := by decide
  have e30 : ¬ (3 : Int32) = 0 := by decide
  have stop : ∀ (fa' wr' : Int32), 0 < fa' → rn shP tb0 mN mO (semZ shP wS (d + 2)) (some .int) (codeZ 114) 63 [.ref 68, .int lo, .int hi, noV] [] (pm m ps fr so va fa' wr') = some (some (.int 0), pm m ps fr so va fa' wr') := by
    intro fa' wr' hp
    rw [rn_eq, b_X7_readNumber_63]
    simp only [EV, LV, CB, OI, OL, NP, CZ, popN, CT, OZ, List.map_nil, List.map_cons, List.sum_nil, List.sum_cons, Option.toList, List.nil_append, List.cons_append, Int.reduceToNat, Nat.reduceAdd, Nat.reduceLT, Nat.reduceLeDiff, List.length_cons, List.length_nil, Nat.zero_add, if_true, if_false, reduceIte, and_self, and_true, true_and, eq_self, reduceCtorEq, C68, t_takes_f wS (d + 1) m ps fr so va fa' wr' hp]
  by_cases hf : fa = 0
  · subst hf
    by_cases hs : so = 2
    · subst hs
      cases hg : (decide (lo.toInt64 ≤ va.toInt64) && decide (va.toInt64 ≤ hi.toInt64)) with
      | true =>
        obtain ⟨ps', fr', so', va', fa', wr', a1, a2, a3, a4, a5⟩ := t_tk wS d m hT h va wr
        have hb : lo.toInt ≤ va.toInt ∧ va.toInt ≤ hi.toInt := by
          simp only [Bool.and_eq_true, decide_eq_true_eq, Int64.le_iff_toInt_le, Int32.toInt_toInt64] at hg
          exact hg
        refine ⟨va, ps', fr', so', va', fa', wr', ?_, a2, a3, a4, fun _ => hb, Or.inr hb⟩
        rw [se_X7_readNumber, rn_eq, b_X7_readNumber_0]
        simp only [EV, LV, CB, OI, OL, NP, CZ, popN, CT, OZ, List.map_nil, List.map_cons, List.sum_nil, List.sum_cons, Option.toList, List.nil_append, List.cons_append, Int.reduceToNat, Nat.reduceAdd, Nat.reduceLT, Nat.reduceLeDiff, List.length_cons, List.length_nil, Nat.zero_add, if_true, if_false, reduceIte, and_self, and_true, true_and, eq_self, reduceCtorEq, G68, not_true_eq_false]
        rw [rn_eq, b_X7_readNumber_21]
        simp only [EV, LV, CB, OI, OL, NP, CZ, popN, CT, OZ, List.map_nil, List.map_cons, List.sum_nil, List.sum_cons, Option.toList, List.nil_append, List.cons_append, Int.reduceToNat, Nat.reduceAdd, Nat.reduceLT, Nat.reduceLeDiff, List.length_cons, List.length_nil, Nat.zero_add, if_true, if_false, reduceIte, and_self, and_true, true_and, eq_self, reduceCtorEq, C68, G68, t_needs wS (d + 1), e10, false_and, t_in wS (d + 1), hg, bI_t, not_true_eq_false]
        rw [rn_eq, b_X7_readNumber_64]
        simp only [EV, LV, CB, OI, OL, NP, CZ, popN, CT, OZ, List.map_nil, List.map_cons, List.sum_nil, List.sum_cons, Option.toList, List.nil_append, List.cons_append, Int.reduceToNat, Nat.reduceAdd, Nat.reduceLT, Nat.reduceLeDiff, List.length_cons, List.length_nil, Nat.zero_add, if_true, if_false, reduceIte, and_self, and_true, true_and, eq_self, reduceCtorEq, C68, a1]
      | false =>
        refine ⟨0, ps, fr, 2, va, 3, nI fr, ?_, ⟨h.1, h.2.1, by decide, by decide⟩, Nat.le_refl _, fun z => absurd rfl z, fun z => absurd z (by decide), Or.inl rfl⟩
        rw [se_X7_readNumber, rn_eq, b_X7_readNumber_0]
        simp only [EV, LV, CB, OI, OL, NP, CZ, popN, CT, OZ, List.map_nil, List.map_cons, List.sum_nil, List.sum_cons, Option.toList, List.nil_append, List.cons_append, Int.reduceToNat, Nat.reduceAdd, Nat.reduceLT, Nat.reduceLeDiff, List.length_cons, List.length_nil, Nat.zero_add, if_true, if_false, reduceIte, and_self, and_true, true_and, eq_self, reduceCtorEq, G68, not_true_eq_false]
        rw [rn_eq, b_X7_readNumber_21]
        simp only [EV, LV, CB, OI, OL, NP, CZ, popN, CT, OZ, List.map_nil, List.map_cons, List.sum_nil, List.sum_cons, Option.toList, List.nil_append, List.cons_append, Int.reduceToNat, Nat.reduceAdd, Nat.reduceLT, Nat.reduceLeDiff, List.length_cons, List.length_nil, Nat.zero_add, if_true, if_false, reduceIte, and_self, and_true, true_and, eq_self, reduceCtorEq, C68, G68, t_needs wS (d + 1), e10, e30, false_and, t_in wS (d + 1), hg, bI_f, not_true_eq_false, not_false_eq_true]
        exact stop 3 (nI fr) (by decide)
    · refine ⟨0, ps, fr, so, va, 2, nI fr, ?_, ⟨h.1, h.2.1, h.2.2.1, by decide⟩, Nat.le_refl _, fun z => absurd rfl z, fun z => absurd z (by decide), Or.inl rfl⟩
      rw [se_X7_readNumber, rn_eq, b_X7_readNumber_0]
      simp only [EV, LV, CB, OI, OL, NP, CZ, popN, CT, OZ, List.map_nil, List.map_cons, List.sum_nil, List.sum_cons, Option.toList, List.nil_append, List.cons_append, Int.reduceToNat, Nat.reduceAdd, Nat.reduceLT, Nat.reduceLeDiff, List.length_cons, List.length_nil, Nat.zero_add, if_true, if_false, reduceIte, and_self, and_true, true_and, eq_self, reduceCtorEq, G68, hs, not_true_eq_false, not_false_eq_true]
      rw [rn_eq, b_X7_readNumber_20]
      simp only [EV, LV, CB, OI, OL, NP, CZ, popN, CT, OZ, List.map_nil, List.map_cons, List.sum_nil, List.sum_cons, Option.toList, List.nil_append, List.cons_append, Int.reduceToNat, Nat.reduceAdd, Nat.reduceLT, Nat.reduceLeDiff, List.length_cons, List.length_nil, Nat.zero_add, if_true, if_false, reduceIte, and_self, and_true, true_and, eq_self, reduceCtorEq, C68, G68, t_needs wS (d + 1), e20, not_false_eq_true]
      rw [rn_eq, b_X7_readNumber_49]
      simp only [EV, LV, CB, OI, OL, NP, CZ, popN, CT, OZ, List.map_nil, List.map_cons, List.sum_nil, List.sum_cons, Option.toList, List.nil_append, List.cons_append, Int.reduceToNat, Nat.reduceAdd, Nat.reduceLT, Nat.reduceLeDiff, List.length_cons, List.length_nil, Nat.zero_add, if_true, if_false, reduceIte, and_self, and_true, true_and, eq_self, reduceCtorEq, G68, e20, not_false_eq_true]
      exact stop 2 (nI fr) (by decide)
  · refine ⟨0, ps, fr, so, va, fa, wr, ?_, h, Nat.le_refl _, fun z => z, fun z => absurd z hf, Or.inl rfl⟩
    rw [se_X7_readNumber, rn_eq, b_X7_readNumber_0]
    simp only [EV, LV, CB, OI, OL, NP, CZ, popN, CT, OZ, List.map_nil, List.map_cons, List.sum_nil, List.sum_cons, Option.toList, List.nil_append, List.cons_append, Int.reduceToNat, Nat.reduceAdd, Nat.reduceLT, Nat.reduceLeDiff, List.length_cons, List.length_nil, Nat.zero_add, if_true, if_false, reduceIte, and_self, and_true, true_and, eq_self, reduceCtorEq, G68, hf, not_false_eq_true]
    rw [rn_eq, b_X7_readNumber_25]
    simp only [EV, LV, CB, OI, OL, NP, CZ, popN, CT, OZ, List.map_nil, List.map_cons, List.sum_nil, List.sum_cons, Option.toList, List.nil_append, List.cons_append, Int.reduceToNat, Nat.reduceAdd, Nat.reduceLT, Nat.reduceLeDiff, List.length_cons, List.length_nil, Nat.zero_add, if_true, if_false, reduceIte, and_self, and_true, true_and, eq_self, reduceCtorEq, G68, hf, not_false_eq_true]
    rw [rn_eq, b_X7_readNumber_49]
    simp only [EV, LV, CB, OI, OL, NP, CZ, popN, CT, OZ, List.map_nil, List.map_cons, List.sum_nil, List.sum_cons, Option.toList, List.nil_append, List.cons_append, Int.reduceToNat, Nat.reduceAdd, Nat.reduceLT, Nat.reduceLeDiff, List.length_cons, List.length_nil, Nat.zero_add, if_true, if_false, reduceIte, and_self, and_true, true_and, eq_self, reduceCtorEq, G68, hf, not_false_eq_true]
    exact stop fa wr (f_pos h.2.2.2.1 hf)
end Pt
