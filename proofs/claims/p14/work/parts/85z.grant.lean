/-! ANSWERS of both: what is changed -/
theorem bd_i : ∀ V, V < 7 → (nI V - 1).toInt = (V : Int) - 1 := by decide +kernel
theorem ltm {V : Nat} (hV : V < 7) (v : Int32) : (decide (0 ≤ v.toInt64) && decide (v.toInt64 ≤ (nI V - 1).toInt64)) = (decide (0 ≤ v) && decide (v < nI V)) := by
  rw [dec64 v 0 (nI V - 1) 0 (nI V - 1).toInt64 (by decide) rfl]
  congr 1
  rw [decide_eq_decide, Int32.le_iff_toInt_le, Int32.lt_iff_toInt_lt, bd_i V hV, nI_toInt (by omega)]
  omega
theorem in_lt {V : Nat} {v : Int32} (h : (decide (0 ≤ v) && decide (v < nI V)) = true) (hV : V < 100) : ∃ a, a < V ∧ v = nI a := by
  simp only [Bool.and_eq_true, decide_eq_true_eq] at h
  obtain ⟨I, hI, rfl⟩ := nI_of (Int32.not_lt.mpr h.1)
  have h5 := Int32.lt_iff_toInt_lt.mp h.2
  rw [nI_toInt hI, nI_toInt (by omega)] at h5
  exact ⟨I, by omega, rfl⟩
/-- a cell of the land that is now, in both -/
theorem LNow_u {V N N' j : Nat} {x : Int32} {m m1 : Mm} (h : LNow V N m) (hj : j < 43) (hC : CW 1 V N' (upd (m.1 69) j x) m1) (hA : Atf V N' (upd (m.1 69) j x)) (e3 : m1.1 68 3 = m.1 68 3) (e9 : m1.1 69 = m.1 69) (e6 : m1.1 1 6 = m.1 1 6) (e4 : m1.1 4 = m.1 4) : LNow V N' (wI m1 69 j x) := by
  obtain ⟨h3, -, h6, hT, -⟩ := h
  have q9 : (wI m1 69 j x).1 69 = upd (m.1 69) j x := by rw [wI_r, e9]
  refine ⟨by rw [wI_o _ _ _ _ _ (by omega), e3]; exact h3, ?_, ?_, fun i hi => by rw [wI_o _ _ _ _ _ (by omega), e4]; exact hT i hi, by rw [q9]; exact hA⟩
  · rw [q9]
    exact CW_e hC (fun _ _ => rfl) (fun o i a b _ => wI_o _ _ _ _ _ (by omega))
  · rw [q9, upd_n _ _ (by omega), wI_o _ _ _ _ _ (by omega), e6]; exact h6
section Bg
variable {wS : List Value → Mm → Option Rs} (d : Nat) {V N : Nat} {m : Mm}
theorem t_becomes {j : Nat} (hj : j < 189) (x : Int32) (m : Mm) : semZ shP wS (d + 1) 142 [.ref 68, .int (nI j), .int x] m = some (some (.int (m.1 69 j)), wI m 69 j x) := by
  have e2 : inR (nI j) 189 = true := inR_nI hj (by omega)
  have e3 : (nI j).toNatClampNeg = j := nI_clamp (by omega)
  rw [se_X7_becomes, r_X7_becomes_0]
  simp only [EV, LV, CB, OI, OL, NP, CZ, popN, CT, OZ, List.map_nil, List.map_cons, List.sum_nil, List.sum_cons, Option.toList, List.nil_append, List.cons_append, Int.reduceToNat, Nat.reduceAdd, Nat.reduceLT, Nat.reduceLeDiff, List.length_cons, List.length_nil, Nat.zero_add, if_true, if_false, reduceIte, and_self, and_true, true_and, eq_self, reduceCtorEq, gM MP68, aM MP68, sM MP68, e2, e3]
/-- grant of both -/
theorem b_grant (g a v : Int32) (h : LNow V N m) : ∃ x m1 m2, semZ shP wS (d + 30) 50 [.ref 0, .int g, .int a, .int v] m = some (some (.int x), m1) ∧ semZ shP wS (d + 30) 143 [.ref 68, .int g, .int a, .int v] m1 = some (some (.int x), m2) ∧ LNow V N m2 := by
  have h0 := h
  obtain ⟨h3, hC, h6, hT, hA⟩ := h
  have hV := hC.1
  have hN := hC.2.1
  have c0 := hC.2.2.1
  have e10 : ¬ (1 : Int32) = 0 := by decide
  have l1 := ltm (V := V) (by omega) g
  have d1 := dec64 a 0 1 0 1 (by decide) (by decide)
  have d2 := dec64 v 0 99 0 99 (by decide) (by decide)
  have d3 := dec64 v 0 9 0 9 (by decide) (by decide)
  rw [se_X6_grant, r_X6_grant_0]
  cases hg : (decide (0 ≤ g) && decide (g < nI V)) with
  | false =>
    refine ⟨-1, m, m, ?_, ?_, h0⟩
    · simp only [EV, LV, CB, OI, OL, NP, CZ, popN, CT, OZ, List.map_nil, List.map_cons, List.sum_nil, List.sum_cons, Option.toList, List.nil_append, List.cons_append, Int.reduceToNat, Nat.reduceAdd, Nat.reduceLT, Nat.reduceLeDiff, List.length_cons, List.length_nil, Nat.zero_add, if_true, if_false, reduceIte, and_self, and_true, true_and, eq_self, reduceCtorEq, gP0, gW WP1, t_hasVillage wS (d + 28) WP1, c0, hg, bI_f, r_X6_grant_20]
    · rw [se_X7_grant, r_X7_grant_0]
      simp only [EV, LV, CB, OI, OL, NP, CZ, popN, CT, OZ, List.map_nil, List.map_cons, List.sum_nil, List.sum_cons, Option.toList, List.nil_append, List.cons_append, Int.reduceToNat, Nat.reduceAdd, Nat.reduceLT, Nat.reduceLeDiff, List.length_cons, List.length_nil, Nat.zero_add, if_true, if_false, reduceIte, and_self, and_true, true_and, eq_self, reduceCtorEq, gM MP68, t_isVillage wS (d + 27) MP68, h3, l1, hg, bI_f, r_X7_grant_50]
  | true =>
    obtain ⟨G, hG, rfl⟩ := in_lt hg (by omega)
    have e4 : inR (nI G) 4 = true := inR_nI (by omega) (by omega)
    have e5 : (nI G).toNatClampNeg = G := nI_clamp (by omega)
    have gg := hC.2.2.2.2.2.2.2.2.2.1 G hG
    cases ha : (decide (0 ≤ a) && decide (a ≤ 1)) with
    | false =>
      refine ⟨-1, m, m, ?_, ?_, h0⟩
      · simp only [EV, LV, CB, OI, OL, NP, CZ, popN, CT, OZ, List.map_nil, List.map_cons, List.sum_nil, List.sum_cons, Option.toList, List.nil_append, List.cons_append, Int.reduceToNat, Nat.reduceAdd, Nat.reduceLT, Nat.reduceLeDiff, List.length_cons, List.length_nil, Nat.zero_add, if_true, if_false, reduceIte, and_self, and_true, true_and, eq_self, reduceCtorEq, gP0, gW WP1, t_hasVillage wS (d + 28) WP1, c0, hg, bI_t, e10, t_within wS (d + 28), ha, bI_f, not_true_eq_false]
      · rw [se_X7_grant, r_X7_grant_0]
        simp only [EV, LV, CB, OI, OL, NP, CZ, popN, CT, OZ, List.map_nil, List.map_cons, List.sum_nil, List.sum_cons, Option.toList, List.nil_append, List.cons_append, Int.reduceToNat, Nat.reduceAdd, Nat.reduceLT, Nat.reduceLeDiff, List.length_cons, List.length_nil, Nat.zero_add, if_true, if_false, reduceIte, and_self, and_true, true_and, eq_self, reduceCtorEq, gM MP68, t_isVillage wS (d + 27) MP68, h3, l1, hg, bI_t, e10, t_isPart wS (d + 27), d1, ha, bI_f, r_X7_grant_50]
    | true =>
      obtain ⟨A, hA1, rfl⟩ := in_nI (N := 1) (by decide) ha
      match A, hA1 with
      | 0, _ =>
        rw [nI_0] at ha ⊢
        cases hv : (decide (0 ≤ v) && decide (v ≤ 99)) with
        | false =>
          refine ⟨-1, m, m, ?_, ?_, h0⟩
          · simp only [EV, LV, CB, OI, OL, NP, CZ, popN, CT, OZ, List.map_nil, List.map_cons, List.sum_nil, List.sum_cons, Option.toList, List.nil_append, List.cons_append, Int.reduceToNat, Nat.reduceAdd, Nat.reduceLT, Nat.reduceLeDiff, List.length_cons, List.length_nil, Nat.zero_add, if_true, if_false, reduceIte, and_self, and_true, true_and, eq_self, reduceCtorEq, gP0, gW WP1, t_hasVillage wS (d + 28) WP1, c0, hg, bI_t, e10, not_false_eq_true, t_within wS (d + 28), ha, not_true_eq_false, r_X6_grant_22, r_X6_grant_35, hv, bI_f]
          · rw [se_X7_grant, r_X7_grant_0]
            rw [nI_0] at d1
            simp only [EV, LV, CB, OI, OL, NP, CZ, popN, CT, OZ, List.map_nil, List.map_cons, List.sum_nil, List.sum_cons, Option.toList, List.nil_append, List.cons_append, Int.reduceToNat, Nat.reduceAdd, Nat.reduceLT, Nat.reduceLeDiff, List.length_cons, List.length_nil, Nat.zero_add, if_true, if_false, reduceIte, and_self, and_true, true_and, eq_self, reduceCtorEq, gM MP68, t_isVillage wS (d + 27) MP68, h3, l1, hg, bI_t, e10, t_isPart wS (d + 27), d1, ha, not_true_eq_false, r_X7_grant_31, t_in wS (d + 28), d2, hv, bI_f, r_X7_grant_50]
        | true =>
          have ix : (2 : Int32) * nI G + 0 = nI (2 * G) := (ix_20 G (by omega)).1
          have tb := t_becomes (wS := wS) (d + 28) (j := 2 * G) (by omega) v (wI m 2 G v)
          refine ⟨m.1 69 (2 * G), wI m 2 G v, wI (wI m 2 G v) 69 (2 * G) v, ?_, ?_, LNow_u h0 (by omega) (CW_m hC hG v) (Atf_u hA _ (fun b _ => by omega)) (wI_o _ _ _ _ _ (by omega)) (wI_n _ _ _ _ (by omega)) (wI_o _ _ _ _ _ (by omega)) (wI_n _ _ _ _ (by omega))⟩
          · simp only [EV, LV, CB, OI, OL, NP, CZ, popN, CT, OZ, List.map_nil, List.map_cons, List.sum_nil, List.sum_cons, Option.toList, List.nil_append, List.cons_append, Int.reduceToNat, Nat.reduceAdd, Nat.reduceLT, Nat.reduceLeDiff, List.length_cons, List.length_nil, Nat.zero_add, if_true, if_false, reduceIte, and_self, and_true, true_and, eq_self, reduceCtorEq, gP0, gW WP1, aW WP1, sW WP1, t_hasVillage wS (d + 28) WP1, c0, hg, bI_t, e10, not_false_eq_true, t_within wS (d + 28), ha, not_true_eq_false, r_X6_grant_22, r_X6_grant_35, hv, r_X6_grant_43, r_X6_grant_64, e4, e5, gg.1]
          · have q3 : (wI m 2 G v).1 68 3 = nI V := by rw [wI_o _ _ _ _ _ (by omega)]; exact h3
            have q9 : (wI m 2 G v).1 69 (2 * G) = m.1 69 (2 * G) := wI_o _ _ _ _ _ (by omega)
            rw [q9] at tb
            rw [nI_0] at d1
            rw [se_X7_grant, r_X7_grant_0]
            simp only [EV, LV, CB, OI, OL, NP, CZ, popN, CT, OZ, List.map_nil, List.map_cons, List.sum_nil, List.sum_cons, Option.toList, List.nil_append, List.cons_append, Int.reduceToNat, Nat.reduceAdd, Nat.reduceLT, Nat.reduceLeDiff, List.length_cons, List.length_nil, Nat.zero_add, if_true, if_false, reduceIte, and_self, and_true, true_and, eq_self, reduceCtorEq, gM MP68, t_isVillage wS (d + 27) MP68, q3, l1, hg, bI_t, e10, t_isPart wS (d + 27), d1, ha, not_true_eq_false, r_X7_grant_31, t_in wS (d + 28), d2, hv, ix, tb, r_X7_grant_51]
      | 1, _ =>
        have n1 : nI 1 = 1 := by decide
        rw [n1] at ha ⊢
        cases hv : (decide (0 ≤ v) && decide (v ≤ 9)) with
        | false =>
          refine ⟨-1, m, m, ?_, ?_, h0⟩
          · simp only [EV, LV, CB, OI, OL, NP, CZ, popN, CT, OZ, List.map_nil, List.map_cons, List.sum_nil, List.sum_cons, Option.toList, List.nil_append, List.cons_append, Int.reduceToNat, Nat.reduceAdd, Nat.reduceLT, Nat.reduceLeDiff, List.length_cons, List.length_nil, Nat.zero_add, if_true, if_false, reduceIte, and_self, and_true, true_and, eq_self, reduceCtorEq, gP0, gW WP1, t_hasVillage wS (d + 28) WP1, c0, hg, bI_t, e10, not_false_eq_true, t_within wS (d + 28), ha, not_true_eq_false, r_X6_grant_22, r_X6_grant_33, hv, bI_f]
          · rw [se_X7_grant, r_X7_grant_0]
            rw [n1] at d1
            simp only [EV, LV, CB, OI, OL, NP, CZ, popN, CT, OZ, List.map_nil, List.map_cons, List.sum_nil, List.sum_cons, Option.toList, List.nil_append, List.cons_append, Int.reduceToNat, Nat.reduceAdd, Nat.reduceLT, Nat.reduceLeDiff, List.length_cons, List.length_nil, Nat.zero_add, if_true, if_false, reduceIte, and_self, and_true, true_and, eq_self, reduceCtorEq, gM MP68, t_isVillage wS (d + 27) MP68, h3, l1, hg, bI_t, e10, not_false_eq_true, t_isPart wS (d + 27), d1, ha, r_X7_grant_28, t_in wS (d + 28), d3, hv, bI_f, r_X7_grant_50]
        | true =>
          have ix : (2 : Int32) * nI G + 1 = nI (2 * G + 1) := (ix_20 G (by omega)).2
          have tb := t_becomes (wS := wS) (d + 28) (j := 2 * G + 1) (by omega) v (wI m 3 G v)
          refine ⟨m.1 69 (2 * G + 1), wI m 3 G v, wI (wI m 3 G v) 69 (2 * G + 1) v, ?_, ?_, LNow_u h0 (by omega) (CW_w hC hG v) (Atf_u hA _ (fun b _ => by omega)) (wI_o _ _ _ _ _ (by omega)) (wI_n _ _ _ _ (by omega)) (wI_o _ _ _ _ _ (by omega)) (wI_n _ _ _ _ (by omega))⟩
          · simp only [EV, LV, CB, OI, OL, NP, CZ, popN, CT, OZ, List.map_nil, List.map_cons, List.sum_nil, List.sum_cons, Option.toList, List.nil_append, List.cons_append, Int.reduceToNat, Nat.reduceAdd, Nat.reduceLT, Nat.reduceLeDiff, List.length_cons, List.length_nil, Nat.zero_add, if_true, if_false, reduceIte, and_self, and_true, true_and, eq_self, reduceCtorEq, gP0, gW WP1, aW WP1, sW WP1, t_hasVillage wS (d + 28) WP1, c0, hg, bI_t, e10, not_false_eq_true, t_within wS (d + 28), ha, not_true_eq_false, r_X6_grant_22, r_X6_grant_33, hv, r_X6_grant_43, r_X6_grant_57, e4, e5, gg.2]
          · have q3 : (wI m 3 G v).1 68 3 = nI V := by rw [wI_o _ _ _ _ _ (by omega)]; exact h3
            have q9 : (wI m 3 G v).1 69 (2 * G + 1) = m.1 69 (2 * G + 1) := wI_o _ _ _ _ _ (by omega)
            rw [q9] at tb
            rw [n1] at d1
            rw [se_X7_grant, r_X7_grant_0]
            simp only [EV, LV, CB, OI, OL, NP, CZ, popN, CT, OZ, List.map_nil, List.map_cons, List.sum_nil, List.sum_cons, Option.toList, List.nil_append, List.cons_append, Int.reduceToNat, Nat.reduceAdd, Nat.reduceLT, Nat.reduceLeDiff, List.length_cons, List.length_nil, Nat.zero_add, if_true, if_false, reduceIte, and_self, and_true, true_and, eq_self, reduceCtorEq, gM MP68, t_isVillage wS (d + 27) MP68, q3, l1, hg, bI_t, e10, not_false_eq_true, t_isPart wS (d + 27), d1, ha, r_X7_grant_28, t_in wS (d + 28), d3, hv, ix, tb, r_X7_grant_51]
end Bg
