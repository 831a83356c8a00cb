/-! set, alter of both -/
theorem CW_r {w V N : Nat} {f : Nat → Int32} {m : Mm} (h : CW w V N f m) {i : Nat} (h2 : 2 ≤ i) (h5 : i ≤ 5) (x : Int32) : CW w V N (upd f (37 + i) x) (wI m w i x) := by
  obtain ⟨c1, c2, c3, c4, c5, c6, c7, c8, c9, hg, hb⟩ := h
  have key : ∀ k, m.1 w k = f (37 + k) → (wI m w i x).1 w k = upd f (37 + i) x (37 + k) := fun k e => by
    by_cases q : k = i
    · rw [q, wI_s, upd_s]
    · rw [wI_j _ _ _ _ _ q, upd_n _ _ (by omega)]; exact e
  refine ⟨c1, c2, by rw [wI_j _ _ _ _ _ (by omega)]; exact c3, by rw [wI_j _ _ _ _ _ (by omega)]; exact c4, by rw [upd_n _ _ (by omega)]; exact c5, key 2 c6, key 3 c7, key 4 c8, key 5 c9, fun g hg2 => ?_, fun q hq => ?_⟩
  · rw [wI_o _ _ _ _ _ (by omega), wI_o _ _ _ _ _ (by omega), upd_n _ _ (by omega), upd_n _ _ (by omega)]
    exact hg g hg2
  · rw [wI_o _ _ _ _ _ (by omega), wI_o _ _ _ _ _ (by omega), wI_o _ _ _ _ _ (by omega), wI_o _ _ _ _ _ (by omega), wI_o _ _ _ _ _ (by omega), upd_n _ _ (by omega), upd_n _ _ (by omega), upd_n _ _ (by omega), upd_n _ _ (by omega), upd_n _ _ (by omega)]
    exact hb q hq
section Bs
variable {wS : List Value → Mm → Option Rs} (d : Nat) {V N : Nat} {m : Mm}
/-- set of both -/
theorem b_set (a v : Int32) (h : LNow V N m) : ∃ x m1 m2, semZ shP wS (d + 30) 53 [.ref 0, .int a, .int v] m = some (some (.int x), m1) ∧ semZ shP wS (d + 30) 146 [.ref 68, .int a, .int v] m1 = some (some (.int x), m2) ∧ LNow V N m2 := by
  have h0 := h
  obtain ⟨h3, hC, h6, hT, hA⟩ := h
  have hN := hC.2.1
  have c2 := hC.2.2.2.2.2.1
  have c3 := hC.2.2.2.2.2.2.1
  have c4 := hC.2.2.2.2.2.2.2.1
  have e10 : ¬ (1 : Int32) = 0 := by decide
  have n23 : ¬ (2 : Int32) = 3 := by decide
  have n24 : ¬ (2 : Int32) = 4 := by decide
  have n32 : ¬ (3 : Int32) = 2 := by decide
  have n34 : ¬ (3 : Int32) = 4 := by decide
  have n42 : ¬ (4 : Int32) = 2 := by decide
  have n43 : ¬ (4 : Int32) = 3 := by decide
  have d1 := dec64 v 0 20 0 20 (by decide) (by decide)
  have d2 := dec64 v 0 60 0 60 (by decide) (by decide)
  have d3 := dec64 v 1 9 1 9 (by decide) (by decide)
  have i39 : (39 : Int32) + 2 - 2 = nI 39 := by decide
  have i40 : (39 : Int32) + 3 - 2 = nI 40 := by decide
  have i41 : (39 : Int32) + 4 - 2 = nI 41 := by decide
  rw [se_X6_set, r_X6_set_0]
  by_cases a2 : a = 2
  · subst a2
    cases hv : (decide (0 ≤ v) && decide (v ≤ 20)) with
    | false =>
      refine ⟨-1, m, m, ?_, ?_, h0⟩
      · simp only [EV, LV, CB, OI, OL, NP, CZ, popN, CT, OZ, List.map_nil, List.map_cons, List.sum_nil, List.sum_cons, Option.toList, List.nil_append, List.cons_append, Int.reduceToNat, Nat.reduceAdd, Nat.reduceLT, Nat.reduceLeDiff, List.length_cons, List.length_nil, Nat.zero_add, if_true, if_false, reduceIte, and_self, and_true, true_and, eq_self, reduceCtorEq, not_true_eq_false, not_false_eq_true, n23, n24, t_within wS (d + 28), hv, bI_f, r_X6_set_34, r_X6_set_68, r_X6_set_102]
      · rw [se_X7_set, r_X7_set_0]
        simp only [EV, LV, CB, OI, OL, NP, CZ, popN, CT, OZ, List.map_nil, List.map_cons, List.sum_nil, List.sum_cons, Option.toList, List.nil_append, List.cons_append, Int.reduceToNat, Nat.reduceAdd, Nat.reduceLT, Nat.reduceLeDiff, List.length_cons, List.length_nil, Nat.zero_add, if_true, if_false, reduceIte, and_self, and_true, true_and, eq_self, reduceCtorEq, not_true_eq_false, t_in wS (d + 28), d1, hv, bI_f, r_X7_set_56, r_X7_set_75]
    | true =>
      have tb := t_becomes (wS := wS) (d + 28) (j := 39) (by omega) v (wI m 1 2 v)
      rw [wI_o _ _ _ _ _ (by omega)] at tb
      refine ⟨m.1 69 39, wI m 1 2 v, wI (wI m 1 2 v) 69 39 v, ?_, ?_, LNow_u h0 (by omega) (CW_r hC (i := 2) (by omega) (by omega) v) (Atf_u hA _ (fun b _ => by omega)) (wI_o _ _ _ _ _ (by omega)) (wI_n _ _ _ _ (by omega)) (wI_j _ _ _ _ _ (by omega)) (wI_n _ _ _ _ (by omega))⟩
      · simp only [EV, LV, CB, OI, OL, NP, CZ, popN, CT, OZ, List.map_nil, List.map_cons, List.sum_nil, List.sum_cons, Option.toList, List.nil_append, List.cons_append, Int.reduceToNat, Nat.reduceAdd, Nat.reduceLT, Nat.reduceLeDiff, List.length_cons, List.length_nil, Nat.zero_add, if_true, if_false, reduceIte, and_self, and_true, true_and, eq_self, reduceCtorEq, gP0, gW WP1, pW WP1, not_true_eq_false, t_within wS (d + 28), hv, bI_t, e10, c2, r_X6_set_104]
      · rw [se_X7_set, r_X7_set_0]
        simp only [EV, LV, CB, OI, OL, NP, CZ, popN, CT, OZ, List.map_nil, List.map_cons, List.sum_nil, List.sum_cons, Option.toList, List.nil_append, List.cons_append, Int.reduceToNat, Nat.reduceAdd, Nat.reduceLT, Nat.reduceLeDiff, List.length_cons, List.length_nil, Nat.zero_add, if_true, if_false, reduceIte, and_self, and_true, true_and, eq_self, reduceCtorEq, gM MP68, not_true_eq_false, t_in wS (d + 28), d1, hv, bI_t, e10, r_X7_set_56, i39, tb, r_X7_set_76]
  · by_cases a3 : a = 3
    · subst a3
      cases hv : (decide (0 ≤ v) && decide (v ≤ 60)) with
      | false =>
        refine ⟨-1, m, m, ?_, ?_, h0⟩
        · simp only [EV, LV, CB, OI, OL, NP, CZ, popN, CT, OZ, List.map_nil, List.map_cons, List.sum_nil, List.sum_cons, Option.toList, List.nil_append, List.cons_append, Int.reduceToNat, Nat.reduceAdd, Nat.reduceLT, Nat.reduceLeDiff, List.length_cons, List.length_nil, Nat.zero_add, if_true, if_false, reduceIte, and_self, and_true, true_and, eq_self, reduceCtorEq, not_true_eq_false, not_false_eq_true, n32, n34, t_within wS (d + 28), hv, bI_f, r_X6_set_34, r_X6_set_68, r_X6_set_102]
        · rw [se_X7_set, r_X7_set_0]
          simp only [EV, LV, CB, OI, OL, NP, CZ, popN, CT, OZ, List.map_nil, List.map_cons, List.sum_nil, List.sum_cons, Option.toList, List.nil_append, List.cons_append, Int.reduceToNat, Nat.reduceAdd, Nat.reduceLT, Nat.reduceLeDiff, List.length_cons, List.length_nil, Nat.zero_add, if_true, if_false, reduceIte, and_self, and_true, true_and, eq_self, reduceCtorEq, n32, not_true_eq_false, not_false_eq_true, t_in wS (d + 28), d2, hv, bI_f, r_X7_set_17, r_X7_set_56, r_X7_set_75]
      | true =>
        have tb := t_becomes (wS := wS) (d + 28) (j := 40) (by omega) v (wI m 1 3 v)
        rw [wI_o _ _ _ _ _ (by omega)] at tb
        refine ⟨m.1 69 40, wI m 1 3 v, wI (wI m 1 3 v) 69 40 v, ?_, ?_, LNow_u h0 (by omega) (CW_r hC (i := 3) (by omega) (by omega) v) (Atf_u hA _ (fun b _ => by omega)) (wI_o _ _ _ _ _ (by omega)) (wI_n _ _ _ _ (by omega)) (wI_j _ _ _ _ _ (by omega)) (wI_n _ _ _ _ (by omega))⟩
        · simp only [EV, LV, CB, OI, OL, NP, CZ, popN, CT, OZ, List.map_nil, List.map_cons, List.sum_nil, List.sum_cons, Option.toList, List.nil_append, List.cons_append, Int.reduceToNat, Nat.reduceAdd, Nat.reduceLT, Nat.reduceLeDiff, List.length_cons, List.length_nil, Nat.zero_add, if_true, if_false, reduceIte, and_self, and_true, true_and, eq_self, reduceCtorEq, gP0, gW WP1, pW WP1, n32, not_true_eq_false, not_false_eq_true, t_within wS (d + 28), hv, bI_t, e10, c3, r_X6_set_34, r_X6_set_104]
        · rw [se_X7_set, r_X7_set_0]
          simp only [EV, LV, CB, OI, OL, NP, CZ, popN, CT, OZ, List.map_nil, List.map_cons, List.sum_nil, List.sum_cons, Option.toList, List.nil_append, List.cons_append, Int.reduceToNat, Nat.reduceAdd, Nat.reduceLT, Nat.reduceLeDiff, List.length_cons, List.length_nil, Nat.zero_add, if_true, if_false, reduceIte, and_self, and_true, true_and, eq_self, reduceCtorEq, gM MP68, n32, not_true_eq_false, not_false_eq_true, t_in wS (d + 28), d2, hv, bI_t, e10, r_X7_set_17, r_X7_set_56, i40, tb, r_X7_set_76]
    · by_cases a4 : a = 4
      · subst a4
        cases hv : (decide (1 ≤ v) && decide (v ≤ 9)) with
        | false =>
          refine ⟨-1, m, m, ?_, ?_, h0⟩
          · simp only [EV, LV, CB, OI, OL, NP, CZ, popN, CT, OZ, List.map_nil, List.map_cons, List.sum_nil, List.sum_cons, Option.toList, List.nil_append, List.cons_append, Int.reduceToNat, Nat.reduceAdd, Nat.reduceLT, Nat.reduceLeDiff, List.length_cons, List.length_nil, Nat.zero_add, if_true, if_false, reduceIte, and_self, and_true, true_and, eq_self, reduceCtorEq, not_true_eq_false, not_false_eq_true, n42, n43, t_within wS (d + 28), hv, bI_f, r_X6_set_34, r_X6_set_68, r_X6_set_102]
          · rw [se_X7_set, r_X7_set_0]
            simp only [EV, LV, CB, OI, OL, NP, CZ, popN, CT, OZ, List.map_nil, List.map_cons, List.sum_nil, List.sum_cons, Option.toList, List.nil_append, List.cons_append, Int.reduceToNat, Nat.reduceAdd, Nat.reduceLT, Nat.reduceLeDiff, List.length_cons, List.length_nil, Nat.zero_add, if_true, if_false, reduceIte, and_self, and_true, true_and, eq_self, reduceCtorEq, n42, n43, not_true_eq_false, not_false_eq_true, t_in wS (d + 28), d3, hv, bI_f, r_X7_set_17, r_X7_set_34, r_X7_set_55, r_X7_set_75]
        | true =>
          have tb := t_becomes (wS := wS) (d + 28) (j := 41) (by omega) v (wI m 1 4 v)
          rw [wI_o _ _ _ _ _ (by omega)] at tb
          refine ⟨m.1 69 41, wI m 1 4 v, wI (wI m 1 4 v) 69 41 v, ?_, ?_, LNow_u h0 (by omega) (CW_r hC (i := 4) (by omega) (by omega) v) (Atf_u hA _ (fun b _ => by omega)) (wI_o _ _ _ _ _ (by omega)) (wI_n _ _ _ _ (by omega)) (wI_j _ _ _ _ _ (by omega)) (wI_n _ _ _ _ (by omega))⟩
          · simp only [EV, LV, CB, OI, OL, NP, CZ, popN, CT, OZ, List.map_nil, List.map_cons, List.sum_nil, List.sum_cons, Option.toList, List.nil_append, List.cons_append, Int.reduceToNat, Nat.reduceAdd, Nat.reduceLT, Nat.reduceLeDiff, List.length_cons, List.length_nil, Nat.zero_add, if_true, if_false, reduceIte, and_self, and_true, true_and, eq_self, reduceCtorEq, gP0, gW WP1, pW WP1, n42, n43, not_true_eq_false, not_false_eq_true, t_within wS (d + 28), hv, bI_t, e10, c4, r_X6_set_34, r_X6_set_68, r_X6_set_104]
          · rw [se_X7_set, r_X7_set_0]
            simp only [EV, LV, CB, OI, OL, NP, CZ, popN, CT, OZ, List.map_nil, List.map_cons, List.sum_nil, List.sum_cons, Option.toList, List.nil_append, List.cons_append, Int.reduceToNat, Nat.reduceAdd, Nat.reduceLT, Nat.reduceLeDiff, List.length_cons, List.length_nil, Nat.zero_add, if_true, if_false, reduceIte, and_self, and_true, true_and, eq_self, reduceCtorEq, gM MP68, n42, n43, not_true_eq_false, not_false_eq_true, t_in wS (d + 28), d3, hv, bI_t, e10, r_X7_set_17, r_X7_set_34, r_X7_set_56, i41, tb, r_X7_set_76]
      · refine ⟨-1, m, m, ?_, ?_, h0⟩
        · simp only [EV, LV, CB, OI, OL, NP, CZ, popN, CT, OZ, List.map_nil, List.map_cons, List.sum_nil, List.sum_cons, Option.toList, List.nil_append, List.cons_append, Int.reduceToNat, Nat.reduceAdd, Nat.reduceLT, Nat.reduceLeDiff, List.length_cons, List.length_nil, Nat.zero_add, if_true, if_false, reduceIte, and_self, and_true, true_and, eq_self, reduceCtorEq, a2, a3, a4, not_false_eq_true, r_X6_set_34, r_X6_set_68, r_X6_set_102]
        · rw [se_X7_set, r_X7_set_0]
          simp only [EV, LV, CB, OI, OL, NP, CZ, popN, CT, OZ, List.map_nil, List.map_cons, List.sum_nil, List.sum_cons, Option.toList, List.nil_append, List.cons_append, Int.reduceToNat, Nat.reduceAdd, Nat.reduceLT, Nat.reduceLeDiff, List.length_cons, List.length_nil, Nat.zero_add, if_true, if_false, reduceIte, and_self, and_true, true_and, eq_self, reduceCtorEq, a2, a3, a4, not_false_eq_true, r_X7_set_17, r_X7_set_34, r_X7_set_55, r_X7_set_75]
end Bs
