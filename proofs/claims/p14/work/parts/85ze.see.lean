/-! see, forget of both -/
theorem ix_45 : ∀ K, K < 6 → (45 : Int32) + 3 * nI K = nI (45 + 3 * K) ∧ (45 : Int32) + 3 * nI K + 1 = nI (46 + 3 * K) ∧ (45 : Int32) + 3 * nI K + 2 = nI (47 + 3 * K) := by decide +kernel
section Be
variable {wS : List Value → Mm → Option Rs} (d : Nat) {V N : Nat} {m : Mm}
theorem t_sadd {w K : Nat} (hw : SSh shP w) (hK : K < 6) (h0 : m.1 w 0 = nI K) (b n g : Int32) : semZ shP wS (d + 1) 4 [.ref w, .int b, .int n, .int g] m = some (some (.int 1), wI (wI (wI (wI m (w + 1) K b) (w + 2) K n) (w + 3) K g) w 0 (nI (K + 1))) := by
  have e1 : nI K < (6 : Int32) := nI_lt (b := 6) hK (by omega)
  have e2 : inR (nI K) 6 = true := inR_nI hK (by omega)
  have e3 : (nI K).toNatClampNeg = K := nI_clamp (by omega)
  have q1 : (wI m (w + 1) K b).1 w 0 = nI K := by rw [wI_o _ _ _ _ _ (by omega)]; exact h0
  have q2 : (wI (wI m (w + 1) K b) (w + 2) K n).1 w 0 = nI K := by rw [wI_o _ _ _ _ _ (by omega)]; exact q1
  have q3 : (wI (wI (wI m (w + 1) K b) (w + 2) K n) (w + 3) K g).1 w 0 = nI K := by rw [wI_o _ _ _ _ _ (by omega)]; exact q2
  rw [se_X2_add, r_X2_add_0]
  simp only [EV, LV, CB, OI, OL, NP, CZ, popN, CT, OZ, List.map_nil, List.map_cons, List.sum_nil, List.sum_cons, Option.toList, List.nil_append, List.cons_append, Int.reduceToNat, Nat.reduceAdd, Nat.reduceLT, Nat.reduceLeDiff, List.length_cons, List.length_nil, Nat.zero_add, if_true, if_false, reduceIte, and_self, and_true, true_and, eq_self, reduceCtorEq, gS hw, sS hw, pS hw, h0, e1, r_X2_add_11, e2, e3, q1, q2, q3, nI_1]
theorem t_saddF {w : Nat} (hw : SSh shP w) (h0 : m.1 w 0 = nI 6) (b n g : Int32) : semZ shP wS (d + 1) 4 [.ref w, .int b, .int n, .int g] m = some (some (.int 0), m) := by
  have e1 : ¬ nI 6 < (6 : Int32) := by decide
  rw [se_X2_add, r_X2_add_0]
  simp only [EV, LV, CB, OI, OL, NP, CZ, popN, CT, OZ, List.map_nil, List.map_cons, List.sum_nil, List.sum_cons, Option.toList, List.nil_append, List.cons_append, Int.reduceToNat, Nat.reduceAdd, Nat.reduceLT, Nat.reduceLeDiff, List.length_cons, List.length_nil, Nat.zero_add, if_true, if_false, reduceIte, and_self, and_true, true_and, eq_self, reduceCtorEq, gS hw, h0, e1]
theorem b_see (b n g : Int32) (h : LNow V N m) (hS : LSn 19 0 N m) : ∃ x m1 m2, semZ shP wS (d + 30) 82 [.ref 0, .int b, .int n, .int g] m = some (some (.int x), m1) ∧ semZ shP wS (d + 30) 168 [.ref 68, .int b, .int n, .int g] m1 = some (some (.int x), m2) ∧ LSn 19 0 N m2 := by
  have hS0 := hS
  obtain ⟨h3, hC, h6, hT, hA⟩ := h
  obtain ⟨K, hK, s0, s44, sR⟩ := hS
  rw [Nat.zero_add] at s44
  have hV := hC.1
  have hN := hC.2.1
  have c0 := hC.2.2.1
  have c1 := hC.2.2.2.1
  have c38 := hC.2.2.2.2.1
  have e10 : ¬ (1 : Int32) = 0 := by decide
  have l1 := ltm (V := N) (by omega) b
  have l2 := ltm (V := V) (by omega) g
  have d1 := dec64 n 0 9 0 9 (by decide) (by decide)
  rw [se_X6_see, r_X6_see_0]
  cases hb : (decide (0 ≤ b) && decide (b < nI N)) with
  | false =>
    refine ⟨-1, m, m, ?_, ?_, hS0⟩
    · simp only [EV, LV, CB, OI, OL, NP, CZ, popN, CT, OZ, List.map_nil, List.map_cons, List.sum_nil, List.sum_cons, Option.toList, List.nil_append, List.cons_append, Int.reduceToNat, Nat.reduceAdd, Nat.reduceLT, Nat.reduceLeDiff, List.length_cons, List.length_nil, Nat.zero_add, if_true, if_false, reduceIte, and_self, and_true, true_and, eq_self, reduceCtorEq, gP0, gW WP1, t_hasBody wS (d + 28) WP1, c1, hb, bI_f, r_X6_see_32]
    · rw [se_X7_see, r_X7_see_0]
      simp only [EV, LV, CB, OI, OL, NP, CZ, popN, CT, OZ, List.map_nil, List.map_cons, List.sum_nil, List.sum_cons, Option.toList, List.nil_append, List.cons_append, Int.reduceToNat, Nat.reduceAdd, Nat.reduceLT, Nat.reduceLeDiff, List.length_cons, List.length_nil, Nat.zero_add, if_true, if_false, reduceIte, and_self, and_true, true_and, eq_self, reduceCtorEq, gM MP68, t_isBody wS (d + 27) MP68, c38, l1, hb, bI_f, r_X7_see_28]
  | true =>
    cases hn : (decide (0 ≤ n) && decide (n ≤ 9)) with
    | false =>
      refine ⟨-1, m, m, ?_, ?_, hS0⟩
      · simp only [EV, LV, CB, OI, OL, NP, CZ, popN, CT, OZ, List.map_nil, List.map_cons, List.sum_nil, List.sum_cons, Option.toList, List.nil_append, List.cons_append, Int.reduceToNat, Nat.reduceAdd, Nat.reduceLT, Nat.reduceLeDiff, List.length_cons, List.length_nil, Nat.zero_add, if_true, if_false, reduceIte, and_self, and_true, true_and, eq_self, reduceCtorEq, gP0, gW WP1, t_hasBody wS (d + 28) WP1, c1, hb, bI_t, e10, t_within wS (d + 28), hn, bI_f, r_X6_see_32]
      · rw [se_X7_see, r_X7_see_0]
        simp only [EV, LV, CB, OI, OL, NP, CZ, popN, CT, OZ, List.map_nil, List.map_cons, List.sum_nil, List.sum_cons, Option.toList, List.nil_append, List.cons_append, Int.reduceToNat, Nat.reduceAdd, Nat.reduceLT, Nat.reduceLeDiff, List.length_cons, List.length_nil, Nat.zero_add, if_true, if_false, reduceIte, and_self, and_true, true_and, eq_self, reduceCtorEq, gM MP68, t_isBody wS (d + 27) MP68, c38, l1, hb, bI_t, e10, t_in wS (d + 28), d1, hn, bI_f, r_X7_see_28]
    | true =>
      cases hg : (decide (0 ≤ g) && decide (g < nI V)) with
      | false =>
        refine ⟨-1, m, m, ?_, ?_, hS0⟩
        · simp only [EV, LV, CB, OI, OL, NP, CZ, popN, CT, OZ, List.map_nil, List.map_cons, List.sum_nil, List.sum_cons, Option.toList, List.nil_append, List.cons_append, Int.reduceToNat, Nat.reduceAdd, Nat.reduceLT, Nat.reduceLeDiff, List.length_cons, List.length_nil, Nat.zero_add, if_true, if_false, reduceIte, and_self, and_true, true_and, eq_self, reduceCtorEq, gP0, gW WP1, t_hasBody wS (d + 28) WP1, c1, hb, bI_t, e10, t_within wS (d + 28), hn, t_hasVillage wS (d + 28) WP1, c0, hg, bI_f, not_true_eq_false]
        · rw [se_X7_see, r_X7_see_0]
          simp only [EV, LV, CB, OI, OL, NP, CZ, popN, CT, OZ, List.map_nil, List.map_cons, List.sum_nil, List.sum_cons, Option.toList, List.nil_append, List.cons_append, Int.reduceToNat, Nat.reduceAdd, Nat.reduceLT, Nat.reduceLeDiff, List.length_cons, List.length_nil, Nat.zero_add, if_true, if_false, reduceIte, and_self, and_true, true_and, eq_self, reduceCtorEq, gM MP68, t_isBody wS (d + 27) MP68, c38, l1, hb, bI_t, e10, t_in wS (d + 28), d1, hn, t_isVillage wS (d + 27) MP68, h3, l2, hg, bI_f, not_true_eq_false]
      | true =>
        have i44 : inR 44 189 = true ∧ (44 : Int32).toNatClampNeg = 44 := by decide +kernel
        by_cases k6 : K = 6
        · subst k6
          have tf := t_saddF (wS := wS) (d + 28) SP19 s0 b n g
          have z6 : nI 6 = (6 : Int32) := by decide
          refine ⟨-3, m, m, ?_, ?_, hS0⟩
          · simp only [EV, LV, CB, OI, OL, NP, CZ, popN, CT, OZ, List.map_nil, List.map_cons, List.sum_nil, List.sum_cons, Option.toList, List.nil_append, List.cons_append, Int.reduceToNat, Nat.reduceAdd, Nat.reduceLT, Nat.reduceLeDiff, List.length_cons, List.length_nil, Nat.zero_add, if_true, if_false, reduceIte, and_self, and_true, true_and, eq_self, reduceCtorEq, gP0, gW WP1, gS SP19, t_hasBody wS (d + 28) WP1, c1, hb, bI_t, e10, t_within wS (d + 28), hn, t_hasVillage wS (d + 28) WP1, c0, hg, not_false_eq_true, r_X6_see_34, tf, r_X6_see_57]
          · rw [se_X7_see, r_X7_see_0]
            simp only [EV, LV, CB, OI, OL, NP, CZ, popN, CT, OZ, List.map_nil, List.map_cons, List.sum_nil, List.sum_cons, Option.toList, List.nil_append, List.cons_append, Int.reduceToNat, Nat.reduceAdd, Nat.reduceLT, Nat.reduceLeDiff, List.length_cons, List.length_nil, Nat.zero_add, if_true, if_false, reduceIte, and_self, and_true, true_and, eq_self, reduceCtorEq, gM MP68, aM MP68, t_isBody wS (d + 27) MP68, c38, l1, hb, bI_t, e10, t_in wS (d + 28), d1, hn, t_isVillage wS (d + 27) MP68, h3, l2, hg, not_false_eq_true, r_X7_see_30, i44, s44, z6, not_true_eq_false]
        · have hK6 : K < 6 := by omega
          obtain ⟨B, hB, rfl⟩ := in_lt hb (by omega)
          have z6 : ¬ nI K = (6 : Int32) := fun z => by
            have := (nI_eq (a := K) (b := 6) (by omega) (by omega)).mp z
            omega
          have ta := t_sadd (wS := wS) (d + 28) SP19 hK6 s0 (nI B) n g
          obtain ⟨M, eM⟩ : ∃ M, M = wI (wI (wI (wI m (19 + 1) K (nI B)) (19 + 2) K n) (19 + 3) K g) 19 0 (nI (K + 1)) := ⟨_, rfl⟩
          rw [← eM] at ta
          have m0 : M.1 19 0 = nI (K + 1) := by rw [eM, wI_s]
          have mo : ∀ o, o < 19 ∨ 22 < o → M.1 o = m.1 o := fun o ho => by rw [eM, wI_n _ _ _ _ (by omega), wI_n _ _ _ _ (by omega), wI_n _ _ _ _ (by omega), wI_n _ _ _ _ (by omega)]
          have m9 := mo 69 (by omega)
          have m3 : M.1 68 3 = nI V := by rw [mo 68 (by omega)]; exact h3
          have m38 : M.1 69 38 = nI N := by rw [m9]; exact c38
          have m44 : M.1 69 44 = nI K := by rw [m9]; exact s44
          obtain ⟨j0, j1, j2⟩ := ix_45 K hK6
          have r0 : inR (nI (45 + 3 * K)) 189 = true ∧ (nI (45 + 3 * K)).toNatClampNeg = 45 + 3 * K := ⟨inR_nI (by omega) (by omega), nI_clamp (by omega)⟩
          have r1 : inR (nI (46 + 3 * K)) 189 = true ∧ (nI (46 + 3 * K)).toNatClampNeg = 46 + 3 * K := ⟨inR_nI (by omega) (by omega), nI_clamp (by omega)⟩
          have r2 : inR (nI (47 + 3 * K)) 189 = true ∧ (nI (47 + 3 * K)).toNatClampNeg = 47 + 3 * K := ⟨inR_nI (by omega) (by omega), nI_clamp (by omega)⟩
          have j1 : nI (45 + 3 * K) + 1 = nI (46 + 3 * K) := by rw [← j0]; exact j1
          have j2 : nI (45 + 3 * K) + 2 = nI (47 + 3 * K) := by rw [← j0]; exact j2
          obtain ⟨P, eP⟩ : ∃ P, P = wI (wI (wI M 69 (45 + 3 * K) (nI B)) 69 (46 + 3 * K) n) 69 (47 + 3 * K) g := ⟨_, rfl⟩
          have p44 : P.1 69 44 = nI K := by rw [eP, wI_j _ _ _ _ _ (by omega), wI_j _ _ _ _ _ (by omega), wI_j _ _ _ _ _ (by omega)]; exact m44
          have nk : nI K + 1 = nI (K + 1) := nI_1 K
          have p44' : (wI P 69 44 (nI (K + 1))).1 69 44 = nI (K + 1) := wI_s _ _ _ _
          have po : ∀ o, o ≠ 69 → (wI P 69 44 (nI (K + 1))).1 o = M.1 o := fun o ho => by rw [wI_n _ _ _ _ ho, eP, wI_n _ _ _ _ ho, wI_n _ _ _ _ ho, wI_n _ _ _ _ ho]
          refine ⟨nI (K + 1), M, wI P 69 44 (nI (K + 1)), ?_, ?_, K + 1, by omega, by rw [po 19 (by omega)]; exact m0, wI_s _ _ _ _, fun i hi => ?_⟩
          · simp only [EV, LV, CB, OI, OL, NP, CZ, popN, CT, OZ, List.map_nil, List.map_cons, List.sum_nil, List.sum_cons, Option.toList, List.nil_append, List.cons_append, Int.reduceToNat, Nat.reduceAdd, Nat.reduceLT, Nat.reduceLeDiff, List.length_cons, List.length_nil, Nat.zero_add, if_true, if_false, reduceIte, and_self, and_true, true_and, eq_self, reduceCtorEq, gP0, gW WP1, gS SP19, t_hasBody wS (d + 28) WP1, c1, hb, bI_t, e10, t_within wS (d + 28), hn, t_hasVillage wS (d + 28) WP1, c0, hg, not_false_eq_true, r_X6_see_34, ta, m0, r_X6_see_59]
          · rw [se_X7_see, r_X7_see_0]
            simp only [EV, LV, CB, OI, OL, NP, CZ, popN, CT, OZ, List.map_nil, List.map_cons, List.sum_nil, List.sum_cons, Option.toList, List.nil_append, List.cons_append, Int.reduceToNat, Nat.reduceAdd, Nat.reduceLT, Nat.reduceLeDiff, List.length_cons, List.length_nil, Nat.zero_add, if_true, if_false, reduceIte, and_self, and_true, true_and, eq_self, reduceCtorEq, gM MP68, aM MP68, sM MP68, t_isBody wS (d + 27) MP68, m38, l1, hb, bI_t, e10, t_in wS (d + 28), d1, hn, t_isVillage wS (d + 27) MP68, m3, l2, hg, not_false_eq_true, r_X7_see_30, i44, m44, z6, r_X7_see_45, j0, j1, j2, r0, r1, r2, ← eP, p44, nk, p44']
          · rw [po (19 + 1) (by omega), po (19 + 2) (by omega), po (19 + 3) (by omega), Nat.zero_add, wI_j _ _ _ _ _ (by omega), wI_j _ _ _ _ _ (by omega), wI_j _ _ _ _ _ (by omega)]
            by_cases e : i = K
            · subst e
              rw [eP, eM, wI_o _ _ _ _ _ (by omega), wI_o _ _ _ _ _ (by omega), wI_o _ _ _ _ _ (by omega), wI_s]
              refine ⟨?_, ?_, ?_, B, hB, rfl⟩
              · rw [wI_j _ _ _ _ _ (by omega), wI_j _ _ _ _ _ (by omega), wI_s]
              · rw [wI_o _ _ _ _ _ (by omega), wI_o _ _ _ _ _ (by omega), wI_s, wI_j _ _ _ _ _ (by omega), wI_s]
              · rw [wI_o _ _ _ _ _ (by omega), wI_s, wI_s]
            · have x := sR i (by omega)
              rw [Nat.zero_add] at x
              have y1 : M.1 (19 + 1) i = m.1 (19 + 1) i := by rw [eM, wI_o _ _ _ _ _ (by omega), wI_o _ _ _ _ _ (by omega), wI_o _ _ _ _ _ (by omega), wI_j _ _ _ _ _ e]
              have y2 : M.1 (19 + 2) i = m.1 (19 + 2) i := by rw [eM, wI_o _ _ _ _ _ (by omega), wI_o _ _ _ _ _ (by omega), wI_j _ _ _ _ _ e, wI_o _ _ _ _ _ (by omega)]
              have y3 : M.1 (19 + 3) i = m.1 (19 + 3) i := by rw [eM, wI_o _ _ _ _ _ (by omega), wI_j _ _ _ _ _ e, wI_o _ _ _ _ _ (by omega), wI_o _ _ _ _ _ (by omega)]
              have z : ∀ j, j < 45 + 3 * K → P.1 69 j = m.1 69 j := fun j hj => by rw [eP, wI_j _ _ _ _ _ (by omega), wI_j _ _ _ _ _ (by omega), wI_j _ _ _ _ _ (by omega), m9]
              rw [y1, y2, y3, z (45 + 3 * i) (by omega), z (46 + 3 * i) (by omega), z (47 + 3 * i) (by omega)]
              exact x
theorem b_forget (n : Int32) (hS : LSn 19 0 N m) : ∃ x m1 m2, semZ shP wS (d + 30) 83 [.ref 0, .int n] m = some (some (.int x), m1) ∧ semZ shP wS (d + 30) 169 [.ref 68, .int n] m1 = some (some (.int x), m2) ∧ LSn 19 0 N m2 := by
  have hS0 := hS
  obtain ⟨K, hK, s0, s44, sR⟩ := hS
  rw [Nat.zero_add] at s44
  have e10 : ¬ (1 : Int32) = 0 := by decide
  have i44 : inR 44 189 = true ∧ (44 : Int32).toNatClampNeg = 44 := by decide +kernel
  have d1 := dec64 n 0 (nI K) 0 (nI K).toInt64 (by decide) rfl
  rw [se_X6_forget, r_X6_forget_0]
  cases hn : (decide (0 ≤ n) && decide (n ≤ nI K)) with
  | false =>
    refine ⟨-1, m, m, ?_, ?_, hS0⟩
    · simp only [EV, LV, CB, OI, OL, NP, CZ, popN, CT, OZ, List.map_nil, List.map_cons, List.sum_nil, List.sum_cons, Option.toList, List.nil_append, List.cons_append, Int.reduceToNat, Nat.reduceAdd, Nat.reduceLT, Nat.reduceLeDiff, List.length_cons, List.length_nil, Nat.zero_add, if_true, if_false, reduceIte, and_self, and_true, true_and, eq_self, reduceCtorEq, gP0, gS SP19, s0, t_within wS (d + 28), hn, bI_f, not_true_eq_false]
    · rw [se_X7_forget, r_X7_forget_0]
      simp only [EV, LV, CB, OI, OL, NP, CZ, popN, CT, OZ, List.map_nil, List.map_cons, List.sum_nil, List.sum_cons, Option.toList, List.nil_append, List.cons_append, Int.reduceToNat, Nat.reduceAdd, Nat.reduceLT, Nat.reduceLeDiff, List.length_cons, List.length_nil, Nat.zero_add, if_true, if_false, reduceIte, and_self, and_true, true_and, eq_self, reduceCtorEq, gM MP68, aM MP68, i44, s44, t_in wS (d + 28), d1, hn, bI_f, r_X7_forget_27]
  | true =>
    obtain ⟨A, hA, rfl⟩ := in_nI (by omega) hn
    have tb := t_becomes (wS := wS) (d + 28) (j := 44) (by omega) (nI A) (wI m 19 0 (nI A))
    have tb : semZ shP wS (d + 29) 142 [.ref 68, .int 44, .int (nI A)] (wI m 19 0 (nI A)) = _ := tb
    have m44 : (wI m 19 0 (nI A)).1 69 44 = nI K := by rw [wI_o _ _ _ _ _ (by omega)]; exact s44
    rw [m44] at tb
    refine ⟨nI K, wI m 19 0 (nI A), wI (wI m 19 0 (nI A)) 69 44 (nI A), ?_, ?_, A, by omega, by rw [wI_o _ _ _ _ _ (by omega), wI_s], wI_s _ _ _ _, fun i hi => ?_⟩
    · simp only [EV, LV, CB, OI, OL, NP, CZ, popN, CT, OZ, List.map_nil, List.map_cons, List.sum_nil, List.sum_cons, Option.toList, List.nil_append, List.cons_append, Int.reduceToNat, Nat.reduceAdd, Nat.reduceLT, Nat.reduceLeDiff, List.length_cons, List.length_nil, Nat.zero_add, if_true, if_false, reduceIte, and_self, and_true, true_and, eq_self, reduceCtorEq, gP0, gS SP19, pS SP19, s0, t_within wS (d + 28), hn, bI_t, e10, not_false_eq_true, r_X6_forget_19]
    · rw [se_X7_forget, r_X7_forget_0]
      simp only [EV, LV, CB, OI, OL, NP, CZ, popN, CT, OZ, List.map_nil, List.map_cons, List.sum_nil, List.sum_cons, Option.toList, List.nil_append, List.cons_append, Int.reduceToNat, Nat.reduceAdd, Nat.reduceLT, Nat.reduceLeDiff, List.length_cons, List.length_nil, Nat.zero_add, if_true, if_false, reduceIte, and_self, and_true, true_and, eq_self, reduceCtorEq, gM MP68, aM MP68, i44, m44, t_in wS (d + 28), d1, hn, bI_t, e10, tb, r_X7_forget_28]
    · have x := sR i (by omega)
      have y : ∀ o j, o ≠ 19 → o ≠ 69 → (wI (wI m 19 0 (nI A)) 69 44 (nI A)).1 o j = m.1 o j := fun o j a b => by rw [wI_o _ _ _ _ _ b, wI_o _ _ _ _ _ a]
      have z : ∀ j, j ≠ 44 → (wI (wI m 19 0 (nI A)) 69 44 (nI A)).1 69 j = m.1 69 j := fun j a => by rw [wI_j _ _ _ _ _ a, wI_o _ _ _ _ _ (by omega)]
      rw [y (19 + 1) i (by omega) (by omega), y (19 + 2) i (by omega) (by omega), y (19 + 3) i (by omega) (by omega), z (0 + 45 + 3 * i) (by omega), z (0 + 46 + 3 * i) (by omega), z (0 + 47 + 3 * i) (by omega)]
      exact x
end Be
