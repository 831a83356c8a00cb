section
/-! see, forget of both -/
theorem ix_45 : ∀ K, K < 6 → (45 : Int32) + 3 * nI K = nI (45 + 3 * K) ∧ (45 : Int32) + 3 * nI K + 1 = nI (46 + 3 * K) ∧ (45 : Int32) + 3 * nI K + 2 = nI (47 + 3 * K) := by decide +kernel
section Be
variable {wS : List Value → Mm → Option Rs} (d : Nat) {V N : Nat} {m : Mm}
theorem t_sadd {w K : Nat} (hw : SSh shP w) (hK : K < 6) (h0 : m.1 w 0 = nI K) (b n g : Int32) : semZ shP wS (d + 1) 4 [.ref w, .int b, .int n, .int g] m = some (some (.int 1), wI (wI (wI (wI m (w + 1) K b) (w + 2) K n) (w + 3) K g) w 0 (nI (K + 1))) := by
  have e1 : nI K < (6 : Int32) := nI_lt (b := 6) hK (by omega)
  have e2 : inR (nI K) 6 = true := inR_nI hK (by omega)
  have e3 : (nI K).toNatClampNeg = K := nI_clamp (by omega)
  have q1 : (wI m (w + 1) K b).1 w 0 = nI K := by rw [wI_o _ _ _ _ _ (by omega)]; exact h0
  have q2 : (wI (wI m (w + 1) K b) (w + 2) K n).1 w 0 = nI K := by rw [wI_o _ _ _ _ _ (by omega)]; exact q1
  have q3 : (wI (wI (wI m (w + 1) K b) (w + 2) K n) (w + 3) K g).1 w 0 = nI K := by rw [wI_o _ _ _ _ _ (by omega)]; exact q2
  rw [se_X2_add, r_X2_add_0]
  simp only [EV, LV, CB, OI, OL, NP, CZ, popN, CT, OZ, List.map_nil, List.map_cons, List.sum_nil, List.sum_cons, Option.toList, List.nil_append, List.cons_append, Int.reduceToNat, Nat.reduceAdd, Nat.reduceLT, Nat.reduceLeDiff, List.length_cons, List.length_nil, Nat.zero_add, if_true, if_false, reduceIte, and_self, and_true, true_and, eq_self, reduceCtorEq, gS hw, sS hw, pS hw, h0, e1, r_X2_add_11, e2, e3, q1, q2, q3, nI_1]
theorem t_saddF {w : Nat} (hw : SSh shP w) (h0 : m.1 w 0 = nI 6) (b n g : Int32) : semZ shP wS (d + 1) 4 [.ref w, .int b, .int n, .int g] m = some (some (.int 0), m) := by
  have e1 : ¬ nI 6 < (6 : Int32) := by decide
  rw [se_X2_add, r_X2_add_0]
  simp only [EV, LV, CB, OI, OL, NP, CZ, popN, CT, OZ, List.map_nil, List.map_cons, List.sum_nil, List.sum_cons, Option.toList, List.nil_append, List.cons_append, Int.reduceToNat, Nat.reduceAdd, Nat.reduceLT, Nat.reduceLeDiff, List.length_cons, List.length_nil, Nat.zero_add, if_true, if_false, reduceIte, and_self, and_true, true_and, eq_self, reduceCtorEq, gS hw, h0, e1]
theorem b_see (b n g : Int32) (h : LNow V N m) (hS : LSn 19 0 N m) : ∃ x m1 m2, semZ shP wS (d + 30) 82 [.ref 0, .int b, .int n, .int g] m = some (some (.int x), m1) ∧ semZ shP wS (d + 30) 168 [.ref 68, .int b, .int n, .int g] m1 = some (some (.int x), m2) ∧ LSn 19 0 N m2 := by
  have hS0 := hS
  obtain ⟨h3, hC, h6, hT, hA, hMB⟩ := h
  obtain ⟨K, hK, s0, s44, sR⟩ := hS
  rw [Nat.zero_add] at s44
  have hV := hC.1
  have hN := hC.2.1
  have c0 := hC.2.2.1
  have c1 := hC.2.2.2.1
  have c38 := hC.2.2.2.2.1
  have e10 : ¬ (1 : Int32) = 0 := by decide
  have l1 := ltm (V := N) (by omega) b
  have l2 := ltm (V := V) (by omega) g
  have d1 := dec64 n 0 9 0 9 (by decide) (by decide)
  rw [se_X6_see, r_X6_see_0]
  cases hb : (decide (0 ≤ b) && decide (b < nI N)) with
  | false =>
    refine ⟨-1, m, m, ?_, ?_, hS0⟩
    · simp only [EV, LV, CB, OI, OL, NP, CZ, popN, CT, OZ, List.map_nil, List.map_cons, List.sum_nil, List.sum_cons, Option.toList, List.nil_append, List.cons_append, Int.reduceToNat, Nat.reduceAdd, Nat.reduceLT, Nat.reduceLeDiff, List.length_cons, List.length_nil, Nat.zero_add, if_true, if_false, reduceIte, and_self, and_true, true_and, eq_self, reduceCtorEq, gP0, gW WP1, t_hasBody wS (d + 28) WP1, c1, hb, bI_f, r_X6_see_32]
    · rw [se_X7_see, r_X7_see_0]
      simp only [EV, LV, CB, OI, OL, NP, CZ, popN, CT, OZ, List.map_nil, List.map_cons, List.sum_nil, List.sum_cons, Option.toList, List.nil_append, List.cons_append, Int.reduceToNat, Nat.reduceAdd, Nat.reduceLT, Nat.reduceLeDiff, List.length_cons, List.length_nil, Nat.zero_add, if_true, if_false, reduceIte, and_self, and_true, true_and, eq_self, reduceCtorEq, gM MP68, t_isBody wS (d + 27) MP68, c38, l1, hb, bI_f, r_X7_see_28]
  | true =>
    cases hn : (decide (0 ≤ n) && decide (n ≤ 9)) with
    | false =>
      refine ⟨-1, m, m, ?_, ?_, hS0⟩
      · simp only [EV, LV, CB, OI, OL, NP, CZ, popN, CT, OZ, List.map_nil, List.map_cons, List.sum_nil, List.sum_cons, Option.toList, List.nil_append, List.cons_append, Int.reduceToNat, Nat.reduceAdd, Nat.reduceLT, Nat.reduceLeDiff, List.length_cons, List.length_nil, Nat.zero_add, if_true, if_false, reduceIte, and_self, and_true, true_and, eq_self, reduceCtorEq, gP0, gW WP1, t_hasBody wS (d + 28) WP1, c1, hb, bI_t, e10, t_within wS (d + 28), hn, bI_f, r_X6_see_32]
      · rw [se_X7_see, r_X7_see_0]
        simp only [EV, LV, CB, OI, OL, NP, CZ, popN, CT, OZ, List.map_nil, List.map_cons, List.sum_nil, List.sum_cons, Option.toList, List.nil_append, List.cons_append, Int.reduceToNat, Nat.reduceAdd, Nat.reduceLT, Nat.reduceLeDiff, List.length_cons, List.length_nil, Nat.zero_add, if_true, if_false, reduceIte, and_self, and_true, true_and, eq_self, reduceCtorEq, gM MP68, t_isBody wS (d + 27) MP68, c38, l1, hb, bI_t, e10, t_in wS (d + 28), d1, hn, bI_f, r_X7_see_28]
    | true =>
      cases hg : (decide (0 ≤ g) && decide (g < nI V)) with
      | false =>
        refine ⟨-1, m, m, ?_, ?_, hS0⟩
        · simp only [EV, LV, CB, OI, OL, NP, CZ, popN, CT, OZ, List.map_nil, List.map_cons, List.sum_nil, List.sum_cons, Option.toList, List.nil_append, List.cons_append, Int.reduceToNat, Nat.reduceAdd, Nat.reduceLT, Nat.reduceLeDiff, List.length_cons, List.length_nil, Nat.zero_add, if_true, if_false, reduceIte, and_self, and_true, true_and, eq_self, reduceCtorEq, gP0, gW WP1, t_hasBody wS (d + 28) WP1, c1, hb, bI_t, e10, t_within wS (d + 28), hn, t_hasVillage wS (d + 28) WP1, c0, hg, bI_f, not_true_eq_false]
        · rw [se_X7_see, r_X7_see_0]
          simp only [EV, LV, CB, OI, OL, NP, CZ, popN, CT, OZ, List.map_nil, List.map_cons, List.sum_nil, List.sum_cons, Option.toList, List.nil_append, List.cons_append, Int.reduceToNat, Nat.reduceAdd, Nat.reduceLT, Nat.reduceLeDiff, List.length_cons, List.length_nil, Nat.zero_add, if_true, if_false, reduceIte, and_self, and_true, true_and, eq_self, reduceCtorEq, gM MP68, t_isBody wS (d + 27) MP68, c38, l1, hb, bI_t, e10, t_in wS (d + 28), d1, hn, t_isVillage wS (d + 27) MP68, h3, l2, hg, bI_f, not_true_eq_false]
      | true =>
        have i44 : inR 44 189 = true ∧ (44 : Int32).toNatClampNeg = 44 := by decide +kernel
        by_cases k6 : K = 6
        · subst k6
          have tf := t_saddF (wS := wS) (d + 28) SP19 s0 b n g
          have z6 : nI 6 = (6 : Int32) := by decide
          refine ⟨-3, m, m, ?_, ?_, hS0⟩
          · simp only [EV, LV, CB, OI, OL, NP, CZ, popN, CT, OZ, List.map_nil, List.map_cons, List.sum_nil, List.sum_cons, Option.toList, List.nil_append, List.cons_append, Int.reduceToNat, Nat.reduceAdd, Nat.reduceLT, Nat.reduceLeDiff, List.length_cons, List.length_nil, Nat.zero_add, if_true, if_false, reduceIte, and_self, and_true, true_and, eq_self, reduceCtorEq, gP0, gW WP1, gS SP19, t_hasBody wS (d + 28) WP1, c1, hb, bI_t, e10, t_within wS (d + 28), hn, t_hasVillage wS (d + 28) WP1, c0, hg, not_false_eq_true, r_X6_see_34, tf, r_X6_see_57]
          · rw [se_X7_see, r_X7_see_0]
            simp only [EV, LV, CB, OI, OL, NP, CZ, popN, CT, OZ, List.map_nil, List.map_cons, List.sum_nil, List.sum_cons, Option.toList, List.nil_append, List.cons_append, Int.reduceToNat, Nat.reduceAdd, Nat.reduceLT, Nat.reduceLeDiff, List.length_cons, List.length_nil, Nat.zero_add, if_true, if_false, reduceIte, and_self, and_true, true_and, eq_self, reduceCtorEq, gM MP68, aM MP68, t_isBody wS (d + 27) MP68, c38, l1, hb, bI_t, e10, t_in wS (d + 28), d1, hn, t_isVillage wS (d + 27) MP68, h3, l2, hg, not_false_eq_true, r_X7_see_30, i44, s44, z6, not_true_eq_false]
        · have hK6 : K < 6 := by omega
          obtain ⟨B, hB, rfl⟩ := in_lt hb (by omega)
          have z6 : ¬ nI K = (6 : Int32) := fun z => by
            have := (nI_eq (a := K) (b := 6) (by omega) (by omega)).mp z
            omega
          have ta := t_sadd (wS := wS) (d + 28) SP19 hK6 s0 (nI B) n g
          obtain ⟨M, eM⟩ : ∃ M, M = wI (wI (wI (wI m (19 + 1) K (nI B)) (19 + 2) K n) (19 + 3) K g) 19 0 (nI (K + 1)) := ⟨_, rfl⟩
          rw [← eM] at ta
          have m0 : M.1 19 0 = nI (K + 1) := by rw [eM, wI_s]
          have mo : ∀ o, o < 19 ∨ 22 < o → M.1 o = m.1 o := fun o ho => by rw [eM, wI_n _ _ _ _ (by omega), wI_n _ _ _ _ (by omega), wI_n _ _ _ _ (by omega), wI_n _ _ _ _ (by omega)]
          have m9 := mo 69 (by omega)
          have m3 : M.1 68 3 = nI V := by rw [mo 68 (by omega)]; exact h3
          have m38 : M.1 69 38 = nI N := by rw [m9]; exact c38
          have m44 : M.1 69 44 = nI K := by rw [m9]; exact s44
          obtain ⟨j0, j1, j2⟩ := ix_45 K hK6
          have r0 : inR (nI (45 + 3 * K)) 189 = true ∧ (nI (45 + 3 * K)).toNatClampNeg = 45 + 3 * K := ⟨inR_nI (by omega) (by omega), nI_clamp (by omega)⟩
          have r1 : inR (nI (46 + 3 * K)) 189 = true ∧ (nI (46 + 3 * K)).toNatClampNeg = 46 + 3 * K := ⟨inR_nI (by omega) (by omega), nI_clamp (by omega)⟩
          have r2 : inR (nI (47 + 3 * K)) 189 = true ∧ (nI (47 + 3 * K)).toNatClampNeg = 47 + 3 * K := ⟨inR_nI (by omega) (by omega), nI_clamp (by omega)⟩
          have j1 : nI (45 + 3 * K) + 1 = nI (46 + 3 * K) := by rw [← j0]; exact j1
          have j2 : nI (45 + 3 * K) + 2 = nI (47 + 3 * K) := by rw [← j0]; exact j2
          obtain ⟨P, eP⟩ : ∃ P, P = wI (wI (wI M 69 (45 + 3 * K) (nI B)) 69 (46 + 3 * K) n) 69 (47 + 3 * K) g := ⟨_, rfl⟩
          have p44 : P.1 69 44 = nI K := by rw [eP, wI_j _ _ _ _ _ (by omega), wI_j _ _ _ _ _ (by omega), wI_j _ _ _ _ _ (by omega)]; exact m44
          have nk : nI K + 1 = nI (K + 1) := nI_1 K
          have p44' : (wI P 69 44 (nI (K + 1))).1 69 44 = nI (K + 1) := wI_s _ _ _ _
          have po : ∀ o, o ≠ 69 → (wI P 69 44 (nI (K + 1))).1 o = M.1 o := fun o ho => by rw [wI_n _ _ _ _ ho, eP, wI_n _ _ _ _ ho, wI_n _ _ _ _ ho, wI_n _ _ _ _ ho]
          refine ⟨nI (K + 1), M, wI P 69 44 (nI (K + 1)), ?_, ?_, K + 1, by omega, by rw [po 19 (by omega)]; exact m0, wI_s _ _ _ _, fun i hi => ?_⟩
          · simp only [EV, LV, CB, OI, OL, NP, CZ, popN, CT, OZ, List.map_nil, List.map_cons, List.sum_nil, List.sum_cons, Option.toList, List.nil_append, List.cons_append, Int.reduceToNat, Nat.reduceAdd, Nat.reduceLT, Nat.reduceLeDiff, List.length_cons, List.length_nil, Nat.zero_add, if_true, if_false, reduceIte, and_self, and_true, true_and, eq_self, reduceCtorEq, gP0, gW WP1, gS SP19, t_hasBody wS (d + 28) WP1, c1, hb, bI_t, e10, t_within wS (d + 28), hn, t_hasVillage wS (d + 28) WP1, c0, hg, not_false_eq_true, r_X6_see_34, ta, m0, r_X6_see_59]
          · rw [se_X7_see, r_X7_see_0]
            simp only [EV, LV, CB, OI, OL, NP, CZ, popN, CT, OZ, List.map_nil, List.map_cons, List.sum_nil, List.sum_cons, Option.toList, List.nil_append, List.cons_append, Int.reduceToNat, Nat.reduceAdd, Nat.reduceLT, Nat.reduceLeDiff, List.length_cons, List.length_nil, Nat.zero_add, if_true, if_false, reduceIte, and_self, and_true, true_and, eq_self, reduceCtorEq, gM MP68, aM MP68, sM MP68, t_isBody wS (d + 27) MP68, m38, l1, hb, bI_t, e10, t_in wS (d + 28), d1, hn, t_isVillage wS (d + 27) MP68, m3, l2, hg, not_false_eq_true, r_X7_see_30, i44, m44, z6, r_X7_see_45, j0, j1, j2, r0, r1, r2, ← eP, p44, nk, p44']
          · rw [po (19 + 1) (by omega), po (19 + 2) (by omega), po (19 + 3) (by omega), Nat.zero_add, wI_j _ _ _ _ _ (by omega), wI_j _ _ _ _ _ (by omega), wI_j _ _ _ _ _ (by omega)]
            by_cases e : i = K
            · subst e
              rw [eP, eM, wI_o _ _ _ _ _ (by omega), wI_o _ _ _ _ _ (by omega), wI_o _ _ _ _ _ (by omega), wI_s]
              refine ⟨?_, ?_, ?_, B, hB, rfl⟩
              · rw [wI_j _ _ _ _ _ (by omega), wI_j _ _ _ _ _ (by omega), wI_s]
              · rw [wI_o _ _ _ _ _ (by omega), wI_o _ _ _ _ _ (by omega), wI_s, wI_j _ _ _ _ _ (by omega), wI_s]
              · rw [wI_o _ _ _ _ _ (by omega), wI_s, wI_s]
            · have x := sR i (by omega)
              rw [Nat.zero_add] at x
              have y1 : M.1 (19 + 1) i = m.1 (19 + 1) i := by rw [eM, wI_o _ _ _ _ _ (by omega), wI_o _ _ _ _ _ (by omega), wI_o _ _ _ _ _ (by omega), wI_j _ _ _ _ _ e]
              have y2 : M.1 (19 + 2) i = m.1 (19 + 2) i := by rw [eM, wI_o _ _ _ _ _ (by omega), wI_o _ _ _ _ _ (by omega), wI_j _ _ _ _ _ e, wI_o _ _ _ _ _ (by omega)]
              have y3 : M.1 (19 + 3) i = m.1 (19 + 3) i := by rw [eM, wI_o _ _ _ _ _ (by omega), wI_j _ _ _ _ _ e, wI_o _ _ _ _ _ (by omega), wI_o _ _ _ _ _ (by omega)]
              have z : ∀ j, j < 45 + 3 * K → P.1 69 j = m.1 69 j := fun j hj => by rw [eP, wI_j _ _ _ _ _ (by omega), wI_j _ _ _ _ _ (by omega), wI_j _ _ _ _ _ (by omega), m9]
              rw [y1, y2, y3, z (45 + 3 * i) (by omega), z (46 + 3 * i) (by omega), z (47 + 3 * i) (by omega)]
              exact x
theorem b_forget (n : Int32) (hS : LSn 19 0 N m) : ∃ x m1 m2, semZ shP wS (d + 30) 83 [.ref 0, .int n] m = some (some (.int x), m1) ∧ semZ shP wS (d + 30) 169 [.ref 68, .int n] m1 = some (some (.int x), m2) ∧ LSn 19 0 N m2 := by
  have hS0 := hS
  obtain ⟨K, hK, s0, s44, sR⟩ := hS
  rw [Nat.zero_add] at s44
  have e10 : ¬ (1 : Int32) = 0 := by decide
  have i44 : inR 44 189 = true ∧ (44 : Int32).toNatClampNeg = 44 := by decide +kernel
  have d1 := dec64 n 0 (nI K) 0 (nI K).toInt64 (by decide) rfl
  rw [se_X6_forget, r_X6_forget_0]
  cases hn : (decide (0 ≤ n) && decide (n ≤ nI K)) with
  | false =>
    refine ⟨-1, m, m, ?_, ?_, hS0⟩
    · simp only [EV, LV, CB, OI, OL, NP, CZ, popN, CT, OZ, List.map_nil, List.map_cons, List.sum_nil, List.sum_cons, Option.toList, List.nil_append, List.cons_append, Int.reduceToNat, Nat.reduceAdd, Nat.reduceLT, Nat.reduceLeDiff, List.length_cons, List.length_nil, Nat.zero_add, if_true, if_false, reduceIte, and_self, and_true, true_and, eq_self, reduceCtorEq, gP0, gS SP19, s0, t_within wS (d + 28), hn, bI_f, not_true_eq_false]
    · rw [se_X7_forget, r_X7_forget_0]
      simp only [EV, LV, CB, OI, OL, NP, CZ, popN, CT, OZ, List.map_nil, List.map_cons, List.sum_nil, List.sum_cons, Option.toList, List.nil_append, List.cons_append, Int.reduceToNat, Nat.reduceAdd, Nat.reduceLT, Nat.reduceLeDiff, List.length_cons, List.length_nil, Nat.zero_add, if_true, if_false, reduceIte, and_self, and_true, true_and, eq_self, reduceCtorEq, gM MP68, aM MP68, i44, s44, t_in wS (d + 28), d1, hn, bI_f, r_X7_forget_27]
  | true =>
    obtain ⟨A, hA, rfl⟩ := in_nI (by omega) hn
    have tb := t_becomes (wS := wS) (d + 28) (j := 44) (by omega) (nI A) (wI m 19 0 (nI A))
    have tb : semZ shP wS (d + 29) 142 [.ref 68, .int 44, .int (nI A)] (wI m 19 0 (nI A)) = _ := tb
    have m44 : (wI m 19 0 (nI A)).1 69 44 = nI K := by rw [wI_o _ _ _ _ _ (by omega)]; exact s44
    rw [m44] at tb
    refine ⟨nI K, wI m 19 0 (nI A), wI (wI m 19 0 (nI A)) 69 44 (nI A), ?_, ?_, A, by omega, by rw [wI_o _ _ _ _ _ (by omega), wI_s], wI_s _ _ _ _, fun i hi => ?_⟩
    · simp only [EV, LV, CB, OI, OL, NP, CZ, popN, CT, OZ, List.map_nil, List.map_cons, List.sum_nil, List.sum_cons, Option.toList, List.nil_append, List.cons_append, Int.reduceToNat, Nat.reduceAdd, Nat.reduceLT, Nat.reduceLeDiff, List.length_cons, List.length_nil, Nat.zero_add, if_true, if_false, reduceIte, and_self, and_true, true_and, eq_self, reduceCtorEq, gP0, gS SP19, pS SP19, s0, t_within wS (d + 28), hn, bI_t, e10, not_false_eq_true, r_X6_forget_19]
    · rw [se_X7_forget, r_X7_forget_0]
      simp only [EV, LV, CB, OI, OL, NP, CZ, popN, CT, OZ, List.map_nil, List.map_cons, List.sum_nil, List.sum_cons, Option.toList, List.nil_append, List.cons_append, Int.reduceToNat, Nat.reduceAdd, Nat.reduceLT, Nat.reduceLeDiff, List.length_cons, List.length_nil, Nat.zero_add, if_true, if_false, reduceIte, and_self, and_true, true_and, eq_self, reduceCtorEq, gM MP68, aM MP68, i44, m44, t_in wS (d + 28), d1, hn, bI_t, e10, tb, r_X7_forget_28]
    · have x := sR i (by omega)
      have y : ∀ o j, o ≠ 19 → o ≠ 69 → (wI (wI m 19 0 (nI A)) 69 44 (nI A)).1 o j = m.1 o j := fun o j a b => by rw [wI_o _ _ _ _ _ b, wI_o _ _ _ _ _ a]
      have z : ∀ j, j ≠ 44 → (wI (wI m 19 0 (nI A)) 69 44 (nI A)).1 69 j = m.1 69 j := fun j a => by rw [wI_j _ _ _ _ _ a, wI_o _ _ _ _ _ (by omega)]
      rw [y (19 + 1) i (by omega) (by omega), y (19 + 2) i (by omega) (by omega), y (19 + 3) i (by omega) (by omega), z (0 + 45 + 3 * i) (by omega), z (0 + 46 + 3 * i) (by omega), z (0 + 47 + 3 * i) (by omega)]
      exact x
end Be
end
section
/-! hire of both -/
theorem lkF_c : ∀ k, k < 4 → ∀ X, X < 10 → (posI (fneed (nI k) - nI X) ≤ 0 ↔ fneed (nI k) ≤ nI X) := by decide +kernel
theorem kin9 : ∀ x, x < 10 → (decide (0 ≤ nI x) && decide (nI x ≤ 9)) = true := by decide +kernel
theorem kinF : ∀ k, k < 4 → ∀ X, X < 10 → ¬ fneed (nI k) ≤ nI X → X < 4 := by decide +kernel
theorem kinM : ∀ k, k < 4 → ∀ X, X < 10 → ∀ Y, Y < 10 → fneed (nI k) ≤ nI X → ¬ posI (fneed (nI k) - nI X) + posI (mneed (nI k) - nI Y) = 0 → Y < 2 := by decide +kernel
section Bh
variable {wS : List Value → Mm → Option Rs} (d : Nat) {V N : Nat} {m : Mm}
theorem t_lofC {w : Nat} {f : Nat → Int32} (hw : WSh shP w) (h : CW w V N f m) (ha : Atf V N f) {b : Nat} (hb : b < N) : semZ shP wS (d + 1) 31 [.ref w, .int (nI b)] m = some (some (.int (bI (decide (¬ fneed (f (8 + 5 * b)) ≤ f (8 + 5 * b + 2))))), m) := by
  obtain ⟨c1, c2, -, -, -, -, -, -, -, -, hB⟩ := h
  obtain ⟨b1, b2, b3, b4, b5⟩ := hB b hb
  obtain ⟨k, hk, ek⟩ := ha.2.1 b hb
  have e2 : inR (nI b) 6 = true := inR_nI (by omega) (by omega)
  have e3 : (nI b).toNatClampNeg = b := nI_clamp (by omega)
  have o1 : okZ (some .boolean) 1 = true := by decide
  have o0 : okZ (some .boolean) 0 = true := by decide
  rw [ek] at b1
  rw [se_X5_lacksOfFather, r_X5_lacksOfFather_0, ek]
  by_cases q : fneed (nI k) ≤ f (8 + 5 * b + 2)
  · rw [decide_eq_false (fun z => z q)]
    simp only [EV, LV, CB, OI, OL, NP, CZ, popN, CT, OZ, List.map_nil, List.map_cons, List.sum_nil, List.sum_cons, Option.toList, List.nil_append, List.cons_append, Int.reduceToNat, Nat.reduceAdd, Nat.reduceLT, Nat.reduceLeDiff, List.length_cons, List.length_nil, Nat.zero_add, if_true, if_false, reduceIte, and_self, and_true, true_and, eq_self, reduceCtorEq, gW hw, aW hw, e2, e3, b1, b3, al_f hk, q, r_X5_lacksOfFather_23, bI_f, o0]
  · rw [decide_eq_true q]
    simp only [EV, LV, CB, OI, OL, NP, CZ, popN, CT, OZ, List.map_nil, List.map_cons, List.sum_nil, List.sum_cons, Option.toList, List.nil_append, List.cons_append, Int.reduceToNat, Nat.reduceAdd, Nat.reduceLT, Nat.reduceLeDiff, List.length_cons, List.length_nil, Nat.zero_add, if_true, if_false, reduceIte, and_self, and_true, true_and, eq_self, reduceCtorEq, gW hw, aW hw, e2, e3, b1, b3, al_f hk, q, r_X5_lacksOfFather_24, bI_t, o1]
theorem b_hire (b : Int32) (h : LNow V N m) : ∃ x m1 m2, semZ shP wS (d + 30) 56 [.ref 0, .int b] m = some (some (.int x), m1) ∧ semZ shP wS (d + 30) 148 [.ref 68, .int b] m1 = some (some (.int x), m2) ∧ LNow V N m2 ∧ ∀ j, 44 ≤ j → j ≤ 62 → m2.1 69 j = m.1 69 j := by
  have h0 := h
  have hL := h
  obtain ⟨h3, hC, h6, hT, hA, hMB⟩ := h
  have hV := hC.1
  have hN := hC.2.1
  have c1 := hC.2.2.2.1
  have c38 := hC.2.2.2.2.1
  have e10 : ¬ (1 : Int32) = 0 := by decide
  have l1 := ltm (V := N) (by omega) b
  rw [se_X6_hire, r_X6_hire_0]
  cases hb : (decide (0 ≤ b) && decide (b < nI N)) with
  | false =>
    refine ⟨-1, m, m, ?_, ?_, h0, fun _ _ _ => rfl⟩
    · simp only [EV, LV, CB, OI, OL, NP, CZ, popN, CT, OZ, List.map_nil, List.map_cons, List.sum_nil, List.sum_cons, Option.toList, List.nil_append, List.cons_append, Int.reduceToNat, Nat.reduceAdd, Nat.reduceLT, Nat.reduceLeDiff, List.length_cons, List.length_nil, Nat.zero_add, if_true, if_false, reduceIte, and_self, and_true, true_and, eq_self, reduceCtorEq, gP0, gW WP1, t_hasBody wS (d + 28) WP1, c1, hb, bI_f, not_true_eq_false]
    · rw [se_X7_hire, r_X7_hire_0]
      simp only [EV, LV, CB, OI, OL, NP, CZ, popN, CT, OZ, List.map_nil, List.map_cons, List.sum_nil, List.sum_cons, Option.toList, List.nil_append, List.cons_append, Int.reduceToNat, Nat.reduceAdd, Nat.reduceLT, Nat.reduceLeDiff, List.length_cons, List.length_nil, Nat.zero_add, if_true, if_false, reduceIte, and_self, and_true, true_and, eq_self, reduceCtorEq, gM MP68, t_isBody wS (d + 27) MP68, c38, l1, hb, bI_f, not_true_eq_false]
  | true =>
    obtain ⟨B, hB, rfl⟩ := in_lt hb (by omega)
    obtain ⟨F, eF⟩ : ∃ F, F = fillR (m.1 69) (m.1 70) 63 := ⟨_, rfl⟩
    have eF' : ∀ j, j < 63 → F j = m.1 69 j := fun j hj => by
      rw [eF]
      unfold fillR
      rw [if_pos hj]
    have hC' : CW 1 V N F m := CW_e hC (fun j hj => eF' j (by omega)) (fun _ _ _ _ _ => rfl)
    have hA' : Atf V N F := Atf_e hA hN (fun j hj => eF' j (by omega))
    obtain ⟨a, ha, ea⟩ := hA'.1 B hB
    obtain ⟨k, hk, ek⟩ := hA'.2.1 B hB
    have c2 : m.1 1 2 = F 39 := hC'.2.2.2.2.2.1
    have g1 := (hC'.2.2.2.2.2.2.2.2.2.1 a ha).1
    obtain ⟨b0, b1, b2, b3, b4⟩ := hC'.2.2.2.2.2.2.2.2.2.2 B hB
    rw [ea] at b1
    have e2 : inR (nI B) 6 = true := inR_nI (by omega) (by omega)
    have e3 : (nI B).toNatClampNeg = B := nI_clamp (by omega)
    have e4 : inR (nI a) 4 = true := inR_nI (by omega) (by omega)
    have e5 : (nI a).toNatClampNeg = a := nI_clamp (by omega)
    have e6 : inR (nI (2 * a)) 63 = true := inR_nI (by omega) (by omega)
    have e7 : (nI (2 * a)).toNatClampNeg = 2 * a := nI_clamp (by omega)
    have ix := (ix_20 a (by omega)).1
    have hl := t_lacksC wS (d + 28) WP1 hC' hA' hB
    have hB6 : B < 6 := by omega
    -- the model's begin, from any memory that has the same land
    have mb : ∀ M : Mm, M.1 68 3 = nI V → M.1 69 = m.1 69 → M.1 70 = m.1 70 → ∃ P, semZ shP wS (d + 29) 123 [.ref 68] M = some (none, P) ∧ P.1 70 = F ∧ ∀ o, o ≠ 70 → o ≠ 74 → P.1 o = M.1 o := fun M q3 q9 q0 => by
      have ts := t_starts (wS := wS) (d + 28) MP68 M
      refine ⟨_, ts, ?_, fun o x y => ?_⟩
      · rw [setR_n _ _ (by omega), setR_s, q9, q0, eF]
      · rw [setR_n _ _ (by omega), setR_n _ _ (by omega)]
    obtain ⟨⟨X, hX, eX⟩, Y, hY, eY⟩ := hA'.2.2 B hB
    have lc := lkF_c k hk X hX
    have lc : lkF F B ≤ 0 ↔ fneed (F (8 + 5 * B)) ≤ F (8 + 5 * B + 2) := by
      unfold lkF
      rw [ek, eX]
      exact lc
    have o1 : ∀ M : Mm, M.1 70 = F → semZ shP wS (d + 29) 125 [.ref 68, .int (nI B), .int 1] M = some (some (.int (nI a)), M) := fun M q => by
      have t := t_ofM wS (d + 28) hB6 (K := 1) (by omega) M
      rw [q, ea] at t
      exact t
    have ly : ∀ M : Mm, M.1 69 = m.1 69 → semZ shP wS (d + 29) 144 [.ref 68, .int (nI B)] M = some (some (.int (bI (decide (F (8 + 5 * B + 4) = 0)))), M) := fun M q => by
      have t := t_lies (wS := wS) (d + 28) hB6 M
      rw [q, ← eF' _ (by omega)] at t
      exact t
    have lkM : ∀ M : Mm, semZ shP wS (d + 29) 129 [.ref 68, .int (nI B)] M = some (some (.int (lk (M.1 70) B)), M) := fun M => t_lacksM wS (d + 26) hB6 M
    have lfM : ∀ M : Mm, M.1 70 = F → semZ shP wS (d + 29) 128 [.ref 68, .int (nI B), .int 1] M = some (some (.int (lkF F B)), M) := fun M q => by
      have t := t_lkF wS (d + 27) hB6 M
      rw [q] at t
      exact t
    have hl : semZ shP wS (d + 29) 32 [.ref 1, .int (nI B)] m = some (some (.int (lk F B)), m) := hl
    obtain ⟨P0, z1, z2, z3⟩ := mb m h3 rfl rfl
    have same : LNow V N P0 := LNow_g hL (fun j _ => by rw [z3 69 (by omega) (by omega)]) hC ⟨hA, hMB⟩ h6 rfl (z3 68 (by omega) (by omega) ▸ rfl) (fun o _ _ => z3 o (by omega) (by omega))
    have c38P : P0.1 69 38 = nI N := by rw [z3 69 (by omega) (by omega)]; exact c38
    by_cases s1 : F (8 + 5 * B + 4) = 0
    · by_cases s2 : lk F B = 0
      · refine ⟨-2, m, P0, ?_, ?_, same, fun j _ _ => by rw [z3 69 (by omega) (by omega)]⟩
        · simp only [EV, LV, CB, OI, OL, NP, CZ, popN, CT, OZ, List.map_nil, List.map_cons, List.sum_nil, List.sum_cons, Option.toList, List.nil_append, List.cons_append, Int.reduceToNat, Nat.reduceAdd, Nat.reduceLT, Nat.reduceLeDiff, List.length_cons, List.length_nil, Nat.zero_add, if_true, if_false, reduceIte, and_self, and_true, true_and, eq_self, reduceCtorEq, gP0, gW WP1, aW WP1, t_hasBody wS (d + 28) WP1, c1, hb, bI_t, e10, not_false_eq_true, r_X6_hire_13, e2, e3, b4, s1, not_true_eq_false, hl, s2, r_X6_hire_63]
        · rw [se_X7_hire, r_X7_hire_0]
          simp only [EV, LV, CB, OI, OL, NP, CZ, popN, CT, OZ, List.map_nil, List.map_cons, List.sum_nil, List.sum_cons, Option.toList, List.nil_append, List.cons_append, Int.reduceToNat, Nat.reduceAdd, Nat.reduceLT, Nat.reduceLeDiff, List.length_cons, List.length_nil, Nat.zero_add, if_true, if_false, reduceIte, and_self, and_true, true_and, eq_self, reduceCtorEq, gM MP68, t_isBody wS (d + 27) MP68, c38, l1, hb, bI_t, e10, not_false_eq_true, r_X7_hire_10, z1, o1 P0 z2, ly P0 (z3 69 (by omega) (by omega)), s1, decide_true, lkM, z2, s2, r_X7_hire_57]
      · by_cases s3 : F 39 ≤ F (2 * a)
        · obtain ⟨A1, eA1⟩ : ∃ A, A = wI m (1 + 1) a (F (2 * a) - F 39) := ⟨_, rfl⟩
          obtain ⟨F1, eF1⟩ : ∃ G, G = upd F (2 * a) (F (2 * a) - F 39) := ⟨_, rfl⟩
          have C1 : CW 1 V N F1 A1 := by
            rw [eA1, eF1]
            exact CW_m hC' ha _
          have A1f : Atf V N F1 := by
            rw [eF1]
            exact Atf_u hA' _ (fun b _ => by omega)
          have B1f : MB V F1 := by
            have hMF : MB V F := MB_e hMB hV (fun j hj => eF' j (by omega))
            obtain ⟨x, hx, ex⟩ := hMF.1 a ha
            obtain ⟨p, hp, ep⟩ := hMF.2.1
            have s3' := s3
            rw [ex, ep, Int32.le_iff_toInt_le, nI_toInt (by omega), nI_toInt (by omega)] at s3'
            rw [eF1, ex, ep, nI_sub (by omega)]
            exact MB_m hMF ha hV (by omega)
          by_cases w3 : ¬ fneed (F (8 + 5 * B)) ≤ F (8 + 5 * B + 2)
          · have w4 : ¬ lkF F B ≤ 0 := fun z => w3 (lc.mp z)
            obtain ⟨A2, eA⟩ : ∃ A, A = wI A1 (1 + 4 + 2) B (F (8 + 5 * B + 2) + 1) := ⟨_, rfl⟩
            obtain ⟨F2, eF2⟩ : ∃ G, G = upd F1 (8 + 5 * B + 2) (F (8 + 5 * B + 2) + 1) := ⟨_, rfl⟩
            have C2 : CW 1 V N F2 A2 := by
              rw [eA, eF2]
              exact CW_f C1 hB (i := 2) (by omega) _
            have A2f : Atf V N F2 := by
              rw [eF2]
              have h4 := kinF k hk X hX (by rw [← ek, ← eX]; exact w3)
              rw [eX, nI_1]
              exact Atf_v A1f hV hB (A := 2) (by omega) (show (decide (0 ≤ nI (X + 1)) && decide (nI (X + 1) ≤ 9)) = true from kin9 _ (by omega))
            have B2f : MB V F2 := by rw [eF2]; exact MB_u B1f _ (fun g hg => by omega) (by omega) (by omega)
            have l2 : semZ shP wS (d + 29) 32 [.ref 1, .int (nI B)] A2 = some (some (.int (lk F2 B)), A2) := t_lacksC wS (d + 28) WP1 C2 A2f hB
            have A2o : ∀ o, 9 < o → A2.1 o = m.1 o := fun o ho => by rw [eA, wI_n _ _ _ _ (by omega), eA1, wI_n _ _ _ _ (by omega)]
            obtain ⟨P, y1, y2, y3⟩ := mb A2 (by rw [A2o 68 (by omega)]; exact h3) (A2o 69 (by omega)) (A2o 70 (by omega))
            have p9 : P.1 69 = m.1 69 := by rw [y3 69 (by omega) (by omega), A2o 69 (by omega)]
            obtain ⟨R1, eR1⟩ : ∃ R, R = wI P 70 (2 * a) (F (2 * a) - F 39) := ⟨_, rfl⟩
            have R170 : R1.1 70 = F1 := by rw [eR1, wI_r, y2, eF1]
            have oi : semZ shP wS (d + 29) 125 [.ref 68, .int (nI B), .int 2] R1 = some (some (.int (F (8 + 5 * B + 2))), R1) := by
              have t := t_ofM wS (d + 28) hB6 (K := 2) (by omega) R1
              rw [R170, eF1, upd_n _ _ (by omega)] at t
              exact t
            obtain ⟨R2, eR2⟩ : ∃ R, R = wI R1 70 (8 + 5 * B + 2) (F (8 + 5 * B + 2) + 1) := ⟨_, rfl⟩
            have si : semZ shP wS (d + 29) 126 [.ref 68, .int (nI B), .int 2, .int (F (8 + 5 * B + 2) + 1)] R1 = some (none, R2) := by
              rw [eR2]
              exact t_setM wS (d + 28) hB6 (K := 2) (by omega) _ R1
            have R270 : R2.1 70 = F2 := by rw [eR2, wI_r, R170, eF2]
            have Ro : ∀ o, o ≠ 70 → R2.1 o = P.1 o := fun o ho => by rw [eR2, wI_n _ _ _ _ ho, eR1, wI_n _ _ _ _ ho]
            have tt : semZ shP wS (d + 29) 124 [.ref 68] R2 = some (none, setR R2 69 (fillR (R2.1 70) (R2.1 69) 63)) := t_settles (wS := wS) (d + 28) MP68 R2
            obtain ⟨Q, eQ⟩ : ∃ Q, Q = setR R2 69 (fillR (R2.1 70) (R2.1 69) 63) := ⟨_, rfl⟩
            rw [← eQ] at tt
            have q9 : ∀ j, j < 63 → Q.1 69 j = F2 j := fun j hj => by
              rw [eQ, setR_s]
              unfold fillR
              rw [if_pos hj, R270]
            have q70 : Q.1 70 = F2 := by rw [eQ, setR_n _ _ (by omega), R270]
            have qo : ∀ o, o ≠ 69 → o ≠ 70 → o ≠ 74 → Q.1 o = A2.1 o := fun o x y z => by rw [eQ, setR_n _ _ x, Ro o y, y3 o y z]
            have f2o : ∀ j, 38 ≤ j → F2 j = F j := fun j hj => by rw [eF2, upd_n _ _ (by omega), eF1, upd_n _ _ (by omega)]
            have c38A : A2.1 69 38 = nI N := by rw [A2o 69 (by omega)]; exact c38
            refine ⟨lk F2 B, A2, Q, ?_, ?_, LNow_g hL (fun j hj => q9 j (by omega)) C2 ⟨A2f, B2f⟩ ?_ ?_ (by rw [qo 68 (by omega) (by omega) (by omega), A2o 68 (by omega)]) (fun o _ _ => qo o (by omega) (by omega) (by omega)), fun j x y => by rw [q9 j (by omega), f2o j (by omega), eF' j (by omega)]⟩
            · have lo : semZ shP wS (d + 29) 31 [.ref 1, .int (nI B)] A1 = some (some (.int (bI true)), A1) := by
                have t := t_lofC (wS := wS) (d + 28) WP1 C1 A1f hB
                rw [eF1, upd_n _ _ (by omega), upd_n _ _ (by omega), decide_eq_true w3] at t
                exact t
              have bi : A1.1 (1 + 4 + 2) B = F (8 + 5 * B + 2) := by rw [eA1, wI_o _ _ _ _ _ (by omega)]; exact b2
              simp only [EV, LV, CB, OI, OL, NP, CZ, popN, CT, OZ, List.map_nil, List.map_cons, List.sum_nil, List.sum_cons, Option.toList, List.nil_append, List.cons_append, Int.reduceToNat, Nat.reduceAdd, Nat.reduceLT, Nat.reduceLeDiff, List.length_cons, List.length_nil, Nat.zero_add, if_true, if_false, reduceIte, and_self, and_true, true_and, eq_self, reduceCtorEq, gP0, gW WP1, aW WP1, sW WP1, t_hasBody wS (d + 28) WP1, c1, hb, bI_t, e10, not_false_eq_true, r_X6_hire_13, e2, e3, e4, e5, b1, b4, s1, not_true_eq_false, hl, s2, g1, c2, s3, r_X6_hire_66, ← eA1, lo, bi, r_X6_hire_133, ← eA, l2]
            · rw [se_X7_hire, r_X7_hire_0]
              simp only [EV, LV, CB, OI, OL, NP, CZ, popN, CT, OZ, List.map_nil, List.map_cons, List.sum_nil, List.sum_cons, Option.toList, List.nil_append, List.cons_append, Int.reduceToNat, Nat.reduceAdd, Nat.reduceLT, Nat.reduceLeDiff, List.length_cons, List.length_nil, Nat.zero_add, if_true, if_false, reduceIte, and_self, and_true, true_and, eq_self, reduceCtorEq, gM MP68, aM MP68, sM MP68, t_isBody wS (d + 27) MP68, c38A, l1, hb, bI_t, e10, not_false_eq_true, r_X7_hire_10, y1, o1 P y2, ly P p9, s1, decide_true, lkM, y2, s2, ix, e6, e7, in63, s3, r_X7_hire_60, lfM P y2, w4, r_X7_hire_74, ← eR1, oi, si, tt, q70]
            · rw [eA, wI_o _ _ _ _ _ (by omega), eA1, wI_o _ _ _ _ _ (by omega), f2o 43 (by omega), eF' 43 (by omega)]; exact h6
            · rw [eA, wI_n _ _ _ _ (by omega), eA1, wI_n _ _ _ _ (by omega)]
          · have w3 : fneed (F (8 + 5 * B)) ≤ F (8 + 5 * B + 2) := Decidable.not_not.mp w3
            have w4 : lkF F B ≤ 0 := lc.mpr w3
            obtain ⟨A2, eA⟩ : ∃ A, A = wI A1 (1 + 4 + 3) B (F (8 + 5 * B + 3) + 1) := ⟨_, rfl⟩
            obtain ⟨F2, eF2⟩ : ∃ G, G = upd F1 (8 + 5 * B + 3) (F (8 + 5 * B + 3) + 1) := ⟨_, rfl⟩
            have C2 : CW 1 V N F2 A2 := by
              rw [eA, eF2]
              exact CW_f C1 hB (i := 3) (by omega) _
            have A2f : Atf V N F2 := by
              rw [eF2]
              have h4 := kinM k hk X hX Y hY (by rw [← ek, ← eX]; exact w3) (by rw [← ek, ← eX, ← eY]; exact s2)
              rw [eY, nI_1]
              exact Atf_v A1f hV hB (A := 3) (by omega) (show (decide (0 ≤ nI (Y + 1)) && decide (nI (Y + 1) ≤ 9)) = true from kin9 _ (by omega))
            have B2f : MB V F2 := by rw [eF2]; exact MB_u B1f _ (fun g hg => by omega) (by omega) (by omega)
            have l2 : semZ shP wS (d + 29) 32 [.ref 1, .int (nI B)] A2 = some (some (.int (lk F2 B)), A2) := t_lacksC wS (d + 28) WP1 C2 A2f hB
            have A2o : ∀ o, 9 < o → A2.1 o = m.1 o := fun o ho => by rw [eA, wI_n _ _ _ _ (by omega), eA1, wI_n _ _ _ _ (by omega)]
            obtain ⟨P, y1, y2, y3⟩ := mb A2 (by rw [A2o 68 (by omega)]; exact h3) (A2o 69 (by omega)) (A2o 70 (by omega))
            have p9 : P.1 69 = m.1 69 := by rw [y3 69 (by omega) (by omega), A2o 69 (by omega)]
            obtain ⟨R1, eR1⟩ : ∃ R, R = wI P 70 (2 * a) (F (2 * a) - F 39) := ⟨_, rfl⟩
            have R170 : R1.1 70 = F1 := by rw [eR1, wI_r, y2, eF1]
            have oi : semZ shP wS (d + 29) 125 [.ref 68, .int (nI B), .int 3] R1 = some (some (.int (F (8 + 5 * B + 3))), R1) := by
              have t := t_ofM wS (d + 28) hB6 (K := 3) (by omega) R1
              rw [R170, eF1, upd_n _ _ (by omega)] at t
              exact t
            obtain ⟨R2, eR2⟩ : ∃ R, R = wI R1 70 (8 + 5 * B + 3) (F (8 + 5 * B + 3) + 1) := ⟨_, rfl⟩
            have si : semZ shP wS (d + 29) 126 [.ref 68, .int (nI B), .int 3, .int (F (8 + 5 * B + 3) + 1)] R1 = some (none, R2) := by
              rw [eR2]
              exact t_setM wS (d + 28) hB6 (K := 3) (by omega) _ R1
            have R270 : R2.1 70 = F2 := by rw [eR2, wI_r, R170, eF2]
            have Ro : ∀ o, o ≠ 70 → R2.1 o = P.1 o := fun o ho => by rw [eR2, wI_n _ _ _ _ ho, eR1, wI_n _ _ _ _ ho]
            have tt : semZ shP wS (d + 29) 124 [.ref 68] R2 = some (none, setR R2 69 (fillR (R2.1 70) (R2.1 69) 63)) := t_settles (wS := wS) (d + 28) MP68 R2
            obtain ⟨Q, eQ⟩ : ∃ Q, Q = setR R2 69 (fillR (R2.1 70) (R2.1 69) 63) := ⟨_, rfl⟩
            rw [← eQ] at tt
            have q9 : ∀ j, j < 63 → Q.1 69 j = F2 j := fun j hj => by
              rw [eQ, setR_s]
              unfold fillR
              rw [if_pos hj, R270]
            have q70 : Q.1 70 = F2 := by rw [eQ, setR_n _ _ (by omega), R270]
            have qo : ∀ o, o ≠ 69 → o ≠ 70 → o ≠ 74 → Q.1 o = A2.1 o := fun o x y z => by rw [eQ, setR_n _ _ x, Ro o y, y3 o y z]
            have f2o : ∀ j, 38 ≤ j → F2 j = F j := fun j hj => by rw [eF2, upd_n _ _ (by omega), eF1, upd_n _ _ (by omega)]
            have c38A : A2.1 69 38 = nI N := by rw [A2o 69 (by omega)]; exact c38
            refine ⟨lk F2 B, A2, Q, ?_, ?_, LNow_g hL (fun j hj => q9 j (by omega)) C2 ⟨A2f, B2f⟩ ?_ ?_ (by rw [qo 68 (by omega) (by omega) (by omega), A2o 68 (by omega)]) (fun o _ _ => qo o (by omega) (by omega) (by omega)), fun j x y => by rw [q9 j (by omega), f2o j (by omega), eF' j (by omega)]⟩
            · have lo : semZ shP wS (d + 29) 31 [.ref 1, .int (nI B)] A1 = some (some (.int (bI false)), A1) := by
                have t := t_lofC (wS := wS) (d + 28) WP1 C1 A1f hB
                rw [eF1, upd_n _ _ (by omega), upd_n _ _ (by omega), decide_eq_false (fun z => z w3)] at t
                exact t
              have bi : A1.1 (1 + 4 + 3) B = F (8 + 5 * B + 3) := by rw [eA1, wI_o _ _ _ _ _ (by omega)]; exact b3
              simp only [EV, LV, CB, OI, OL, NP, CZ, popN, CT, OZ, List.map_nil, List.map_cons, List.sum_nil, List.sum_cons, Option.toList, List.nil_append, List.cons_append, Int.reduceToNat, Nat.reduceAdd, Nat.reduceLT, Nat.reduceLeDiff, List.length_cons, List.length_nil, Nat.zero_add, if_true, if_false, reduceIte, and_self, and_true, true_and, eq_self, reduceCtorEq, gP0, gW WP1, aW WP1, sW WP1, t_hasBody wS (d + 28) WP1, c1, hb, bI_t, e10, not_false_eq_true, r_X6_hire_13, e2, e3, e4, e5, b1, b4, s1, not_true_eq_false, hl, s2, g1, c2, s3, r_X6_hire_66, ← eA1, lo, bI_f, bi, r_X6_hire_120, ← eA, l2]
            · rw [se_X7_hire, r_X7_hire_0]
              simp only [EV, LV, CB, OI, OL, NP, CZ, popN, CT, OZ, List.map_nil, List.map_cons, List.sum_nil, List.sum_cons, Option.toList, List.nil_append, List.cons_append, Int.reduceToNat, Nat.reduceAdd, Nat.reduceLT, Nat.reduceLeDiff, List.length_cons, List.length_nil, Nat.zero_add, if_true, if_false, reduceIte, and_self, and_true, true_and, eq_self, reduceCtorEq, gM MP68, aM MP68, sM MP68, t_isBody wS (d + 27) MP68, c38A, l1, hb, bI_t, e10, not_false_eq_true, r_X7_hire_10, y1, o1 P y2, ly P p9, s1, decide_true, lkM, y2, s2, ix, e6, e7, in63, s3, r_X7_hire_60, lfM P y2, w4, r_X7_hire_73, ← eR1, oi, si, tt, q70]
            · rw [eA, wI_o _ _ _ _ _ (by omega), eA1, wI_o _ _ _ _ _ (by omega), f2o 43 (by omega), eF' 43 (by omega)]; exact h6
            · rw [eA, wI_n _ _ _ _ (by omega), eA1, wI_n _ _ _ _ (by omega)]
        · refine ⟨-2, m, P0, ?_, ?_, same, fun j _ _ => by rw [z3 69 (by omega) (by omega)]⟩
          · simp only [EV, LV, CB, OI, OL, NP, CZ, popN, CT, OZ, List.map_nil, List.map_cons, List.sum_nil, List.sum_cons, Option.toList, List.nil_append, List.cons_append, Int.reduceToNat, Nat.reduceAdd, Nat.reduceLT, Nat.reduceLeDiff, List.length_cons, List.length_nil, Nat.zero_add, if_true, if_false, reduceIte, and_self, and_true, true_and, eq_self, reduceCtorEq, gP0, gW WP1, aW WP1, t_hasBody wS (d + 28) WP1, c1, hb, bI_t, e10, not_false_eq_true, r_X6_hire_13, e2, e3, e4, e5, b1, b4, s1, not_true_eq_false, hl, s2, g1, c2, s3]
          · rw [se_X7_hire, r_X7_hire_0]
            simp only [EV, LV, CB, OI, OL, NP, CZ, popN, CT, OZ, List.map_nil, List.map_cons, List.sum_nil, List.sum_cons, Option.toList, List.nil_append, List.cons_append, Int.reduceToNat, Nat.reduceAdd, Nat.reduceLT, Nat.reduceLeDiff, List.length_cons, List.length_nil, Nat.zero_add, if_true, if_false, reduceIte, and_self, and_true, true_and, eq_self, reduceCtorEq, gM MP68, aM MP68, t_isBody wS (d + 27) MP68, c38, l1, hb, bI_t, e10, not_false_eq_true, r_X7_hire_10, z1, o1 P0 z2, ly P0 (z3 69 (by omega) (by omega)), s1, decide_true, lkM, z2, s2, ix, e6, e7, in63, s3]
    · refine ⟨-2, m, P0, ?_, ?_, same, fun j _ _ => by rw [z3 69 (by omega) (by omega)]⟩
      · simp only [EV, LV, CB, OI, OL, NP, CZ, popN, CT, OZ, List.map_nil, List.map_cons, List.sum_nil, List.sum_cons, Option.toList, List.nil_append, List.cons_append, Int.reduceToNat, Nat.reduceAdd, Nat.reduceLT, Nat.reduceLeDiff, List.length_cons, List.length_nil, Nat.zero_add, if_true, if_false, reduceIte, and_self, and_true, true_and, eq_self, reduceCtorEq, gP0, gW WP1, aW WP1, t_hasBody wS (d + 28) WP1, c1, hb, bI_t, e10, not_false_eq_true, r_X6_hire_13, e2, e3, b4, s1, r_X6_hire_63]
      · rw [se_X7_hire, r_X7_hire_0]
        simp only [EV, LV, CB, OI, OL, NP, CZ, popN, CT, OZ, List.map_nil, List.map_cons, List.sum_nil, List.sum_cons, Option.toList, List.nil_append, List.cons_append, Int.reduceToNat, Nat.reduceAdd, Nat.reduceLT, Nat.reduceLeDiff, List.length_cons, List.length_nil, Nat.zero_add, if_true, if_false, reduceIte, and_self, and_true, true_and, eq_self, reduceCtorEq, gM MP68, t_isBody wS (d + 27) MP68, c38, l1, hb, bI_t, e10, not_false_eq_true, r_X7_hire_10, z1, o1 P0 z2, ly P0 (z3 69 (by omega) (by omega)), s1, decide_false, bI_f, r_X7_hire_57]
end Bh
end
section
/-! keep, back of both -/
theorem CW_c {w v V N : Nat} {f : Nat → Int32} {m m' : Mm} (h : CW v V N f m) (b0 : ∀ j, j < 8 → m'.1 w j = m.1 v j) (b1 : ∀ j, j < 4 → m'.1 (w + 1) j = m.1 (v + 1) j) (b2 : ∀ j, j < 4 → m'.1 (w + 2) j = m.1 (v + 2) j) (b4 : ∀ j, j < 6 → m'.1 (w + 4) j = m.1 (v + 4) j) (b5 : ∀ j, j < 6 → m'.1 (w + 5) j = m.1 (v + 5) j) (b6 : ∀ j, j < 6 → m'.1 (w + 6) j = m.1 (v + 6) j) (b7 : ∀ j, j < 6 → m'.1 (w + 7) j = m.1 (v + 7) j) (b8 : ∀ j, j < 6 → m'.1 (w + 8) j = m.1 (v + 8) j) : CW w V N f m' := by
  obtain ⟨c1, c2, c3, c4, c5, c6, c7, c8, c9, hg, hb⟩ := h
  refine ⟨c1, c2, by rw [b0 0 (by omega)]; exact c3, by rw [b0 1 (by omega)]; exact c4, c5, by rw [b0 2 (by omega)]; exact c6, by rw [b0 3 (by omega)]; exact c7, by rw [b0 4 (by omega)]; exact c8, by rw [b0 5 (by omega)]; exact c9, fun g g4 => ?_, fun b b6' => ?_⟩
  · rw [b1 g (by omega), b2 g (by omega)]
    exact hg g g4
  · rw [b4 b (by omega), b5 b (by omega), b6 b (by omega), b7 b (by omega), b8 b (by omega)]
    exact hb b b6'
theorem LSn_c {w v o p N : Nat} {m m' : Mm} (h : LSn v p N m) (b0 : m'.1 w 0 = m.1 v 0) (b1 : ∀ j, j < 6 → m'.1 (w + 1) j = m.1 (v + 1) j) (b2 : ∀ j, j < 6 → m'.1 (w + 2) j = m.1 (v + 2) j) (b3 : ∀ j, j < 6 → m'.1 (w + 3) j = m.1 (v + 3) j) (hf : ∀ j, j < 63 → m'.1 69 (o + j) = m.1 69 (p + j)) : LSn w o N m' := by
  obtain ⟨K, hK, s0, s4, sR⟩ := h
  refine ⟨K, hK, by rw [b0]; exact s0, by rw [hf 44 (by omega)]; exact s4, fun i hi => ?_⟩
  have f1 := hf (45 + 3 * i) (by omega)
  have f2 := hf (46 + 3 * i) (by omega)
  have f3 := hf (47 + 3 * i) (by omega)
  rw [← Nat.add_assoc, ← Nat.add_assoc] at f1 f2 f3
  rw [b1 i (by omega), b2 i (by omega), b3 i (by omega), f1, f2, f3]
  exact sR i hi
/-- the rows of image k -/
theorem gI {k : Nat} (hk : k < 2) : arI shP 27 (nI k) = some (32 + 14 * k) ∧ (∀ m : Mm, gfI shP 0 (32 + 14 * k) m = some (.int (m.1 (32 + 14 * k) 0)) ∧ gfI shP 1 (32 + 14 * k) m = some (.ref (33 + 14 * k)) ∧ gfI shP 2 (32 + 14 * k) m = some (.ref (42 + 14 * k)) ∧ pfI shP 0 (32 + 14 * k) (.int 1) m = some (wI m (32 + 14 * k) 0 1)) ∧ WSh shP (33 + 14 * k) ∧ SSh shP (42 + 14 * k) := by
  match k, hk with
  | 0, _ => exact ⟨by decide +kernel, fun _ => ⟨rfl, rfl, rfl, rfl⟩, WP33, SP42⟩
  | 1, _ => exact ⟨by decide +kernel, fun _ => ⟨rfl, rfl, rfl, rfl⟩, WP47, SP56⟩
theorem ix_63 : ∀ k, k < 2 → (63 : Int32) * (nI k + 1) = nI (63 * (k + 1)) := by decide +kernel
section Bk
variable {wS : List Value → Mm → Option Rs} (d : Nat) {V N : Nat} {m : Mm}
theorem b_keep (k : Int32) (h : LNow V N m) (hS : LSn 19 0 N m) (h0 : LIm V 0 m) (h1 : LIm V 1 m) : ∃ x m1 m2, semZ shP wS (d + 30) 92 [.ref 0, .int k] m = some (some (.int x), m1) ∧ semZ shP wS (d + 30) 177 [.ref 68, .int k] m1 = some (some (.int x), m2) ∧ LIm V 0 m2 ∧ LIm V 1 m2 := by
  have hL := h
  obtain ⟨h3, hC, h6, hT, hA, hMB⟩ := h
  have e10 : ¬ (1 : Int32) = 0 := by decide
  have d1 := dec64 k 0 1 0 1 (by decide) (by decide)
  rw [se_X6_keep, r_X6_keep_0]
  cases hk : (decide (0 ≤ k) && decide (k ≤ 1)) with
  | false =>
    refine ⟨-1, m, m, ?_, ?_, h0, h1⟩
    · simp only [EV, LV, CB, OI, OL, NP, CZ, popN, CT, OZ, List.map_nil, List.map_cons, List.sum_nil, List.sum_cons, Option.toList, List.nil_append, List.cons_append, Int.reduceToNat, Nat.reduceAdd, Nat.reduceLT, Nat.reduceLeDiff, List.length_cons, List.length_nil, Nat.zero_add, if_true, if_false, reduceIte, and_self, and_true, true_and, eq_self, reduceCtorEq, t_within wS (d + 28), hk, bI_f, not_true_eq_false]
    · rw [se_X7_keep, r_X7_keep_0]
      simp only [EV, LV, CB, OI, OL, NP, CZ, popN, CT, OZ, List.map_nil, List.map_cons, List.sum_nil, List.sum_cons, Option.toList, List.nil_append, List.cons_append, Int.reduceToNat, Nat.reduceAdd, Nat.reduceLT, Nat.reduceLeDiff, List.length_cons, List.length_nil, Nat.zero_add, if_true, if_false, reduceIte, and_self, and_true, true_and, eq_self, reduceCtorEq, t_in wS (d + 28), d1, hk, bI_f, not_true_eq_false]
  | true =>
    obtain ⟨K, hK, rfl⟩ := in_nI (N := 1) (by decide) hk
    have hK : K < 2 := by omega
    obtain ⟨i1, i2, i3, i4⟩ := gI hK
    have fl : ∃ x : Bool, m.1 (32 + 14 * K) 0 = bI x ∧ m.1 71 K = bI x := by
      have : LIm V K m := by
        match K, hK with
        | 0, _ => exact h0
        | 1, _ => exact h1
      rcases this with ⟨x, y⟩ | ⟨x, y, -⟩
      · exact ⟨false, x, y⟩
      · exact ⟨true, x, y⟩
    obtain ⟨x, x1, x2⟩ := fl
    obtain ⟨m1, r1, a0, a1, a2, a3, a4, a5, a6, a7, a8, aF⟩ := t_becomeW wS (d + 28) i3 WP1 (Or.inl (by omega)) (wI m (32 + 14 * K) 0 1)
    obtain ⟨m2, r2, s0, s1, s2, s3, sF⟩ := t_becomeS wS (d + 28) i4 SP19 (Or.inl (by omega)) m1
    have r1 : semZ shP wS (d + 29) 25 [.ref (33 + 14 * K), .ref 1] (wI m (32 + 14 * K) 0 1) = some (none, m1) := r1
    have r2 : semZ shP wS (d + 29) 6 [.ref (42 + 14 * K), .ref 19] m1 = some (none, m2) := r2
    have mo : ∀ o, o < 32 + 14 * K ∨ 45 + 14 * K < o → m2.1 o = m.1 o := fun o ho => by rw [sF o (by omega), aF o (by omega), wI_n _ _ _ _ (by omega)]
    obtain ⟨P, eP⟩ : ∃ P, P = wI m2 71 K 1 := ⟨_, rfl⟩
    have tc := t_copies (wS := wS) (d + 28) MP68 P (63 * (K + 1)) 0 (by omega) (by omega) (by omega)
    have tc : semZ shP wS (d + 29) 176 [.ref 68, .int (nI (63 * (K + 1))), .int 0] P = some (none, setR P 69 (cpR (P.1 69) (63 * (K + 1)) 0 63)) := tc
    obtain ⟨Q, eQ⟩ : ∃ Q, Q = setR P 69 (cpR (P.1 69) (63 * (K + 1)) 0 63) := ⟨_, rfl⟩
    rw [← eQ] at tc
    have p9 : P.1 69 = m.1 69 := by rw [eP, wI_n _ _ _ _ (by omega), mo 69 (by omega)]
    have q9 : ∀ j, j < 63 → Q.1 69 (63 * (K + 1) + j) = m.1 69 j := fun j hj => by
      rw [eQ, setR_s]
      unfold cpR
      rw [if_pos (by omega), p9, show 0 + (63 * (K + 1) + j - 63 * (K + 1)) = j by omega]
    have q9' : ∀ j, j < 63 * (K + 1) ∨ 63 * (K + 1) + 63 ≤ j → Q.1 69 j = m.1 69 j := fun j hj => by
      rw [eQ, setR_s]
      unfold cpR
      rw [if_neg (by omega), p9]
    have qo : ∀ o, o ≠ 69 → o ≠ 71 → Q.1 o = m2.1 o := fun o x y => by rw [eQ, setR_n _ _ x, eP, wI_n _ _ _ _ y]
    have q71 : ∀ j, Q.1 71 j = if j = K then 1 else m.1 71 j := fun j => by
      rw [eQ, setR_n _ _ (by omega), eP]
      by_cases e : j = K
      · rw [if_pos e, e, wI_s]
      · rw [if_neg e, wI_j _ _ _ _ _ e, mo 71 (by omega)]
    -- the image kept
    have own : LIm V K Q := by
      refine Or.inr ⟨?_, by rw [q71, if_pos rfl], N, ?_, ?_, fun j hj => ?_, ALd_e ⟨hA, hMB⟩ hC.1 hC.2.1 (fun j hj => q9 j (by omega)), ?_⟩
      · rw [qo _ (by omega) (by omega), sF _ (by omega), aF _ (by omega), wI_s]
      · have cc : CW (33 + 14 * K) V N (m.1 69) m1 := CW_c (v := 1) (m := wI m (32 + 14 * K) 0 1) (CW_e hC (fun _ _ => rfl) (fun o j _ _ _ => wI_o _ _ _ _ _ (by omega))) a0 a1 a2 a4 a5 a6 a7 a8
        exact CW_e cc (fun j hj => q9 j (by omega)) (fun o j _ _ _ => by rw [qo o (by omega) (by omega), sF o (by omega)])
      · rw [qo _ (by omega) (by omega), sF _ (by omega), a0 6 (by omega), wI_o _ _ _ _ _ (by omega), q9 43 (by omega)]; exact h6
      · rw [qo _ (by omega) (by omega), sF _ (by omega), a3 j hj, wI_o _ _ _ _ _ (by omega)]; exact hT j hj
      · have e19 : ∀ o, 19 ≤ o → o ≤ 22 → m1.1 o = m.1 o := fun o _ _ => by rw [aF o (by omega), wI_n _ _ _ _ (by omega)]
        refine LSn_c hS ?_ (fun j hj => ?_) (fun j hj => ?_) (fun j hj => ?_) (fun j hj => by rw [q9 j hj, Nat.zero_add])
        · rw [qo _ (by omega) (by omega), s0 0 (by omega), e19 19 (by omega) (by omega)]
        · rw [qo _ (by omega) (by omega), s1 j hj, e19 _ (by omega) (by omega)]
        · rw [qo _ (by omega) (by omega), s2 j hj, e19 _ (by omega) (by omega)]
        · rw [qo _ (by omega) (by omega), s3 j hj, e19 _ (by omega) (by omega)]
    have oth : ∀ k, k < 2 → k ≠ K → LIm V k m → LIm V k Q := by
      intro k k2 kne h
      have e0 : ∀ o j, 32 + 14 * k ≤ o → o ≤ 45 + 14 * k → Q.1 o j = m.1 o j := fun o j _ _ => by rw [qo o (by omega) (by omega), mo o (by omega)]
      have e1 : Q.1 71 k = m.1 71 k := by rw [q71, if_neg kne]
      have e9 : ∀ j, j < 63 → Q.1 69 (63 * (k + 1) + j) = m.1 69 (63 * (k + 1) + j) := fun j hj => q9' _ (by omega)
      rcases h with ⟨a1, a2⟩ | ⟨a1, a2, N, a3, a4, a5, a6, a7⟩
      · exact Or.inl ⟨by rw [e0 _ 0 (by omega) (by omega)]; exact a1, by rw [e1]; exact a2⟩
      · refine Or.inr ⟨by rw [e0 _ 0 (by omega) (by omega)]; exact a1, by rw [e1]; exact a2, N, CW_e a3 (fun j hj => e9 j (by omega)) (fun o j h1 h2 hj => e0 o j (by omega) (by omega)), ?_, fun j hj => ?_, ALd_e a6 a3.1 a3.2.1 (fun j hj => e9 j (by omega)), LSn_e a7 (fun p j h1 h2 hj => e0 p j (by omega) (by omega)) (fun j h1 h2 => e9 j (by omega))⟩
        · rw [e0 _ 6 (by omega) (by omega), e9 43 (by omega)]; exact a4
        · rw [e0 _ j (by omega) (by omega)]; exact a5 j hj
    have two : LIm V 0 Q ∧ LIm V 1 Q := by
      by_cases z : K = 0
      · rw [z] at own oth
        exact ⟨own, oth 1 (by omega) (by omega) h1⟩
      · have z : K = 1 := by omega
        rw [z] at own oth
        exact ⟨oth 0 (by omega) (by omega) h0, own⟩
    have j1 : inR (nI K) 2 = true := inR_nI (by omega) (by omega)
    have j2 : (nI K).toNatClampNeg = K := nI_clamp (by omega)
    have m71 : m2.1 71 K = bI x := by rw [mo 71 (by omega)]; exact x2
    refine ⟨bI x, m2, Q, ?_, ?_, two⟩
    · cases x with
      | false =>
        rw [bI_f] at x1
        simp only [EV, LV, CB, OI, OL, NP, CZ, popN, CT, OZ, List.map_nil, List.map_cons, List.sum_nil, List.sum_cons, Option.toList, List.nil_append, List.cons_append, Int.reduceToNat, Nat.reduceAdd, Nat.reduceLT, Nat.reduceLeDiff, List.length_cons, List.length_nil, Nat.zero_add, if_true, if_false, reduceIte, and_self, and_true, true_and, eq_self, reduceCtorEq, t_within wS (d + 28), hk, bI_t, bI_f, e10, not_false_eq_true, r_X6_keep_11, gP0, gW i3, gS i4, gW WP1, i1, i2, x1, r_X6_keep_29, r1, r2]
      | true =>
        rw [bI_t] at x1
        simp only [EV, LV, CB, OI, OL, NP, CZ, popN, CT, OZ, List.map_nil, List.map_cons, List.sum_nil, List.sum_cons, Option.toList, List.nil_append, List.cons_append, Int.reduceToNat, Nat.reduceAdd, Nat.reduceLT, Nat.reduceLeDiff, List.length_cons, List.length_nil, Nat.zero_add, if_true, if_false, reduceIte, and_self, and_true, true_and, eq_self, reduceCtorEq, t_within wS (d + 28), hk, bI_t, e10, not_false_eq_true, r_X6_keep_11, gP0, gW i3, gS i4, gW WP1, i1, i2, x1, r_X6_keep_30, r1, r2]
    · rw [se_X7_keep, r_X7_keep_0]
      cases x with
      | false =>
        rw [bI_f] at m71
        simp only [EV, LV, CB, OI, OL, NP, CZ, popN, CT, OZ, List.map_nil, List.map_cons, List.sum_nil, List.sum_cons, Option.toList, List.nil_append, List.cons_append, Int.reduceToNat, Nat.reduceAdd, Nat.reduceLT, Nat.reduceLeDiff, List.length_cons, List.length_nil, Nat.zero_add, if_true, if_false, reduceIte, and_self, and_true, true_and, eq_self, reduceCtorEq, gM MP68, aM MP68, sM MP68, t_in wS (d + 28), d1, hk, bI_t, bI_f, e10, not_false_eq_true, r_X7_keep_12, j1, j2, m71, t_flag0 wS (d + 28), or_true, ← eP, ix_63 K hK, tc]
      | true =>
        rw [bI_t] at m71
        simp only [EV, LV, CB, OI, OL, NP, CZ, popN, CT, OZ, List.map_nil, List.map_cons, List.sum_nil, List.sum_cons, Option.toList, List.nil_append, List.cons_append, Int.reduceToNat, Nat.reduceAdd, Nat.reduceLT, Nat.reduceLeDiff, List.length_cons, List.length_nil, Nat.zero_add, if_true, if_false, reduceIte, and_self, and_true, true_and, eq_self, reduceCtorEq, gM MP68, aM MP68, sM MP68, t_in wS (d + 28), d1, hk, bI_t, e10, not_false_eq_true, r_X7_keep_12, j1, j2, m71, t_flag1 wS (d + 28), or_true, ← eP, ix_63 K hK, tc]
end Bk
end
section
/-! back of both -/
section Bb
variable {wS : List Value → Mm → Option Rs} (d : Nat) {V N : Nat} {m : Mm}
theorem b_back (k : Int32) (h : LNow V N m) (hS : LSn 19 0 N m) (h0 : LIm V 0 m) (h1 : LIm V 1 m) : ∃ x m1 m2, semZ shP wS (d + 30) 93 [.ref 0, .int k] m = some (some (.int x), m1) ∧ semZ shP wS (d + 30) 178 [.ref 68, .int k] m1 = some (some (.int x), m2) ∧ ∃ N', LNow V N' m2 ∧ LSn 19 0 N' m2 := by
  have hL := h
  obtain ⟨h3, hC, h6, hT, hA, hMB⟩ := h
  have e10 : ¬ (1 : Int32) = 0 := by decide
  have d1 := dec64 k 0 1 0 1 (by decide) (by decide)
  rw [se_X6_back, r_X6_back_0]
  cases hk : (decide (0 ≤ k) && decide (k ≤ 1)) with
  | false =>
    refine ⟨-1, m, m, ?_, ?_, N, hL, hS⟩
    · simp only [EV, LV, CB, OI, OL, NP, CZ, popN, CT, OZ, List.map_nil, List.map_cons, List.sum_nil, List.sum_cons, Option.toList, List.nil_append, List.cons_append, Int.reduceToNat, Nat.reduceAdd, Nat.reduceLT, Nat.reduceLeDiff, List.length_cons, List.length_nil, Nat.zero_add, if_true, if_false, reduceIte, and_self, and_true, true_and, eq_self, reduceCtorEq, t_within wS (d + 28), hk, bI_f, not_true_eq_false]
    · rw [se_X7_back, r_X7_back_0]
      simp only [EV, LV, CB, OI, OL, NP, CZ, popN, CT, OZ, List.map_nil, List.map_cons, List.sum_nil, List.sum_cons, Option.toList, List.nil_append, List.cons_append, Int.reduceToNat, Nat.reduceAdd, Nat.reduceLT, Nat.reduceLeDiff, List.length_cons, List.length_nil, Nat.zero_add, if_true, if_false, reduceIte, and_self, and_true, true_and, eq_self, reduceCtorEq, t_in wS (d + 28), d1, hk, bI_f, not_true_eq_false]
  | true =>
    obtain ⟨K, hK, rfl⟩ := in_nI (N := 1) (by decide) hk
    have hK : K < 2 := by omega
    obtain ⟨i1, i2, i3, i4⟩ := gI hK
    have j1 : inR (nI K) 2 = true := inR_nI (by omega) (by omega)
    have j2 : (nI K).toNatClampNeg = K := nI_clamp (by omega)
    have i42 : inR 42 189 = true ∧ (42 : Int32).toNatClampNeg = 42 := by decide +kernel
    have im : LIm V K m := by
      match K, hK with
      | 0, _ => exact h0
      | 1, _ => exact h1
    rcases im with ⟨x1, x2⟩ | ⟨x1, x2, N', g3, g4, g5, g6, g7⟩
    · refine ⟨-2, m, m, ?_, ?_, N, hL, hS⟩
      · simp only [EV, LV, CB, OI, OL, NP, CZ, popN, CT, OZ, List.map_nil, List.map_cons, List.sum_nil, List.sum_cons, Option.toList, List.nil_append, List.cons_append, Int.reduceToNat, Nat.reduceAdd, Nat.reduceLT, Nat.reduceLeDiff, List.length_cons, List.length_nil, Nat.zero_add, if_true, if_false, reduceIte, and_self, and_true, true_and, eq_self, reduceCtorEq, t_within wS (d + 28), hk, bI_t, e10, not_false_eq_true, r_X6_back_11, gP0, i1, i2, x1, not_true_eq_false]
      · rw [se_X7_back, r_X7_back_0]
        simp only [EV, LV, CB, OI, OL, NP, CZ, popN, CT, OZ, List.map_nil, List.map_cons, List.sum_nil, List.sum_cons, Option.toList, List.nil_append, List.cons_append, Int.reduceToNat, Nat.reduceAdd, Nat.reduceLT, Nat.reduceLeDiff, List.length_cons, List.length_nil, Nat.zero_add, if_true, if_false, reduceIte, and_self, and_true, true_and, eq_self, reduceCtorEq, gM MP68, aM MP68, t_in wS (d + 28), d1, hk, bI_t, e10, not_false_eq_true, r_X7_back_12, j1, j2, x2, not_true_eq_false]
    · obtain ⟨m1, r1, a0, a1, a2, a3, a4, a5, a6, a7, a8, aF⟩ := t_becomeW wS (d + 28) WP1 i3 (Or.inr (by omega)) m
      obtain ⟨m2, r2, s0, s1, s2, s3, sF⟩ := t_becomeS wS (d + 28) SP19 i4 (Or.inr (by omega)) m1
      have r1 : semZ shP wS (d + 29) 25 [.ref 1, .ref (33 + 14 * K)] m = some (none, m1) := r1
      have r2 : semZ shP wS (d + 29) 6 [.ref 19, .ref (42 + 14 * K)] m1 = some (none, m2) := r2
      have mo : ∀ o, 22 < o → m2.1 o = m.1 o := fun o ho => by rw [sF o (by omega), aF o (by omega)]
      have tc := t_copies (wS := wS) (d + 28) MP68 m2 0 (63 * (K + 1)) (by omega) (by omega) (by omega)
      have tc : semZ shP wS (d + 29) 176 [.ref 68, .int 0, .int (nI (63 * (K + 1)))] m2 = some (none, setR m2 69 (cpR (m2.1 69) 0 (63 * (K + 1)) 63)) := tc
      obtain ⟨Q, eQ⟩ : ∃ Q, Q = setR m2 69 (cpR (m2.1 69) 0 (63 * (K + 1)) 63) := ⟨_, rfl⟩
      rw [← eQ] at tc
      have q9 : ∀ j, j < 63 → Q.1 69 j = m.1 69 (63 * (K + 1) + j) := fun j hj => by
        rw [eQ, setR_s]
        unfold cpR
        rw [if_pos (by omega), mo 69 (by omega), Nat.sub_zero]
      have qo : ∀ o, o ≠ 69 → Q.1 o = m2.1 o := fun o x => by rw [eQ, setR_n _ _ x]
      have qw : ∀ o, o < 10 → Q.1 o = m1.1 o := fun o x => by rw [qo o (by omega), sF o (by omega)]
      have cc : CW 1 V N' (fun j => m.1 69 (63 * (K + 1) + j)) m1 := CW_c g3 a0 a1 a2 a4 a5 a6 a7 a8
      have e42 : m1.1 1 5 = m.1 69 (63 * (K + 1) + 42) := cc.2.2.2.2.2.2.2.2.1
      have m15 : m2.1 1 5 = m.1 69 (63 * (K + 1) + 42) := by rw [sF 1 (by omega)]; exact e42
      have q42 : Q.1 69 42 = m.1 69 (63 * (K + 1) + 42) := q9 42 (by omega)
      have e1 : ∀ o, 42 + 14 * K ≤ o → o ≤ 45 + 14 * K → m1.1 o = m.1 o := fun o _ _ => aF o (by omega)
      refine ⟨m.1 69 (63 * (K + 1) + 42), m2, Q, ?_, ?_, N', ⟨?_, CW_e cc (fun j hj => q9 j (by omega)) (fun o j _ _ _ => by rw [qw o (by omega)]), ?_, fun j hj => ?_, ALd_e g6 g3.1 g3.2.1 (fun j hj => q9 j (by omega))⟩, LSn_c (p := 63 * (K + 1)) g7 ?_ (fun j hj => ?_) (fun j hj => ?_) (fun j hj => ?_) (fun j hj => by rw [Nat.zero_add]; exact q9 j hj)⟩
      · simp only [EV, LV, CB, OI, OL, NP, CZ, popN, CT, OZ, List.map_nil, List.map_cons, List.sum_nil, List.sum_cons, Option.toList, List.nil_append, List.cons_append, Int.reduceToNat, Nat.reduceAdd, Nat.reduceLT, Nat.reduceLeDiff, List.length_cons, List.length_nil, Nat.zero_add, if_true, if_false, reduceIte, and_self, and_true, true_and, eq_self, reduceCtorEq, t_within wS (d + 28), hk, bI_t, e10, not_false_eq_true, r_X6_back_11, gP0, i1, i2, x1, r_X6_back_28, gW WP1, gS SP19, r1, r2, m15]
      · have m71 : m2.1 71 K = 1 := by rw [mo 71 (by omega)]; exact x2
        rw [se_X7_back, r_X7_back_0]
        simp only [EV, LV, CB, OI, OL, NP, CZ, popN, CT, OZ, List.map_nil, List.map_cons, List.sum_nil, List.sum_cons, Option.toList, List.nil_append, List.cons_append, Int.reduceToNat, Nat.reduceAdd, Nat.reduceLT, Nat.reduceLeDiff, List.length_cons, List.length_nil, Nat.zero_add, if_true, if_false, reduceIte, and_self, and_true, true_and, eq_self, reduceCtorEq, gM MP68, aM MP68, t_in wS (d + 28), d1, hk, bI_t, e10, not_false_eq_true, r_X7_back_12, j1, j2, m71, r_X7_back_24, ix_63 K hK, tc, i42, q42]
      · rw [qo 68 (by omega), mo 68 (by omega)]; exact h3
      · rw [qw 1 (by omega), a0 6 (by omega), q9 43 (by omega)]; exact g4
      · rw [qw 4 (by omega), a3 j hj]; exact g5 j hj
      · rw [qo 19 (by omega), s0 0 (by omega), e1 _ (by omega) (by omega)]
      · rw [qo _ (by omega), s1 j hj, e1 _ (by omega) (by omega)]
      · rw [qo _ (by omega), s2 j hj, e1 _ (by omega) (by omega)]
      · rw [qo _ (by omega), s3 j hj, e1 _ (by omega) (by omega)]
end Bb
end
section
/-! read of both -/
/-- is it a find that can be -/
def rdV (V : Nat) (k g : Int32) : Bool := (decide (0 ≤ k) && decide (k ≤ 3)) && (decide (0 ≤ g) && decide (g < nI V))
def rdX (V N : Nat) (k g : Int32) : Int32 := if rdV V k g = true then (if N = 6 then -3 else nI (N + 1) - 1) else -1
def rdN (V N : Nat) (k g : Int32) : Nat := if rdV V k g = true ∧ N ≠ 6 then N + 1 else N
def rdF (V N : Nat) (k g : Int32) (f : Nat → Int32) : Nat → Int32 := if rdV V k g = true ∧ N ≠ 6 then fdF f N k g 0 0 else f
/-- pairs from i on, q of them: refused at which; or the fault, how many, what there is -/
def rdP (V : Nat) (rs cA cB : Nat → Int32) : Nat → Nat → Nat → (Nat → Int32) → Int32 → Nat ⊕ (Int32 × Int32 × Nat × (Nat → Int32))
  | 0, _, N, f, cm => .inr (0, cm, N, f)
  | q + 1, i, N, f, cm => if rs i = 0 then (if rdX V N (cA i) (cB i) < 0 then .inl i else rdP V rs cA cB q (i + 1) (rdN V N (cA i) (cB i)) (rdF V N (cA i) (cB i) f) (cm + 1)) else .inr (rs i, cm, N, f)
def rdA (r : Nat ⊕ (Int32 × Int32 × Nat × (Nat → Int32))) : Int32 := match r with
  | .inl i => -20 - nI i
  | .inr y => y.2.1
theorem rdF_at {V N : Nat} {f : Nat → Int32} (h : Atf V N f) (hV : V ≤ 4) (hN : N ≤ 6) (k g : Int32) : Atf V (rdN V N k g) (rdF V N k g f) ∧ N ≤ rdN V N k g ∧ rdN V N k g ≤ 6 ∧ ∀ j, (39 ≤ j ∨ j < 8) → rdF V N k g f j = f j := by
  unfold rdN rdF
  by_cases c : rdV V k g = true ∧ N ≠ 6
  · rw [if_pos c, if_pos c]
    have c1 := c.1
    unfold rdV at c1
    rw [Bool.and_eq_true] at c1
    obtain ⟨K, hK, rfl⟩ := in_nI (N := 3) (by decide) c1.1
    obtain ⟨G, hG, rfl⟩ := in_lt c1.2 (by omega)
    refine ⟨fdF_at h (by omega) (by omega) hG (x := 0) (y := 0) (by omega) (by omega), by omega, by omega, fun j hj => ?_⟩
    unfold fdF
    rw [upd_n _ _ (by omega), upd_n _ _ (by omega), upd_n _ _ (by omega), upd_n _ _ (by omega), upd_n _ _ (by omega), upd_n _ _ (by omega)]
  · rw [if_neg c, if_neg c]
    exact ⟨h, Nat.le_refl _, hN, fun _ _ => rfl⟩
theorem rdP_at {V : Nat} (hV : V ≤ 4) {rs cA cB : Nat → Int32} : ∀ q i N f cm y, N ≤ 6 → Atf V N f → rdP V rs cA cB q i N f cm = .inr y → Atf V y.2.2.1 y.2.2.2 ∧ N ≤ y.2.2.1 ∧ ∀ j, (39 ≤ j ∨ j < 8) → y.2.2.2 j = f j := by
  intro q
  induction q with
  | zero =>
    intro i N f cm y hN hA e
    cases e
    exact ⟨hA, Nat.le_refl _, fun _ _ => rfl⟩
  | succ q ih =>
    intro i N f cm y hN hA e
    unfold rdP at e
    split at e
    · split at e
      · cases e
      · obtain ⟨a1, a2, a3, a4⟩ := rdF_at hA hV hN (cA i) (cB i)
        obtain ⟨b1, b2, b3⟩ := ih _ _ _ _ y a3 a1 e
        exact ⟨b1, Nat.le_trans a2 b2, fun j hj => (b3 j hj).trans (a4 j hj)⟩
    · cases e
      exact ⟨hA, Nat.le_refl _, fun _ _ => rfl⟩
/-- what the class' read leaves as it was -/
def FrR (N0 : Nat) (mE m : Mm) : Prop := ∀ o j, ¬ (o = 0 ∧ j = 9) → ¬ (o = 1 ∧ j = 1) → ¬ (5 ≤ o ∧ o ≤ 9 ∧ N0 ≤ j) → m.1 o j = mE.1 o j
theorem FrR_w {N0 : Nat} {mE m : Mm} (h : FrR N0 mE m) {p q : Nat} (x : Int32) (hp : (p = 0 ∧ q = 9) ∨ (p = 1 ∧ q = 1) ∨ (5 ≤ p ∧ p ≤ 9 ∧ N0 ≤ q)) : FrR N0 mE (wI m p q x) := by
  intro o j h1 h2 h3
  by_cases c : o = p
  · subst c
    by_cases c2 : j = q
    · subst c2
      exact (by rcases hp with a | a | a; exact absurd a h1; exact absurd a h2; exact absurd a h3)
    · rw [wI_j _ _ _ _ _ c2]
      exact h o j h1 h2 h3
  · rw [wI_n _ _ _ _ c]
    exact h o j h1 h2 h3
def RdC (V N0 : Nat) (mE m : Mm) (r : Nat ⊕ (Int32 × Int32 × Nat × (Nat → Int32))) : Prop := FrR N0 mE m ∧ match r with
  | .inl _ => m.1 1 1 = nI N0 ∧ m.1 0 9 = mE.1 0 9
  | .inr y => CW 1 V y.2.2.1 y.2.2.2 m ∧ m.1 0 9 = y.1
section Rd
variable {wS : List Value → Mm → Option Rs} (d : Nat) {V : Nat}
theorem CW_o {w V N : Nat} {f : Nat → Int32} {m m' : Mm} (h : CW w V N f m) (hm : ∀ o j, w ≤ o → o ≤ w + 8 → m'.1 o j = m.1 o j) : CW w V N f m' := CW_e h (fun _ _ => rfl) (fun o j a b _ => hm o j a b)
/-- addFound of the class -/
theorem t_adF (k g : Int32) {N N0 : Nat} {F : Nat → Int32} {mE m : Mm} (hC : CW 1 V N F m) (h0 : N0 ≤ N) (hf : FrR N0 mE m) (h9 : m.1 0 9 = mE.1 0 9) : ∃ M, semZ shP wS (d + 16) 55 [.ref 0, .int k, .int g, .int 0, .int 0] m = some (some (.int (rdX V N k g)), M) ∧ CW 1 V (rdN V N k g) (rdF V N k g F) M ∧ FrR N0 mE M ∧ M.1 0 9 = mE.1 0 9 := by
  have hV := hC.1
  have hN := hC.2.1
  have c0 := hC.2.2.1
  have c1 := hC.2.2.2.1
  have e10 : ¬ (1 : Int32) = 0 := by decide
  have ha : (decide ((0 : Int32) ≤ 0) && decide ((0 : Int32) ≤ 9)) = true := by decide
  rw [se_X6_addFound, r_X6_addFound_0]
  unfold rdX rdN rdF rdV
  cases hk : (decide (0 ≤ k) && decide (k ≤ 3)) with
  | false =>
    refine ⟨m, ?_, by simpa using hC, hf, h9⟩
    simp only [EV, LV, CB, OI, OL, NP, CZ, popN, CT, OZ, List.map_nil, List.map_cons, List.sum_nil, List.sum_cons, Option.toList, List.nil_append, List.cons_append, Int.reduceToNat, Nat.reduceAdd, Nat.reduceLT, Nat.reduceLeDiff, List.length_cons, List.length_nil, Nat.zero_add, if_true, if_false, reduceIte, and_self, and_true, true_and, eq_self, reduceCtorEq, t_within wS (d + 14), hk, bI_f, r_X6_addFound_20, Bool.false_and, Bool.false_eq_true]
  | true =>
    cases hg : (decide (0 ≤ g) && decide (g < nI V)) with
    | false =>
      refine ⟨m, ?_, by simpa using hC, hf, h9⟩
      simp only [EV, LV, CB, OI, OL, NP, CZ, popN, CT, OZ, List.map_nil, List.map_cons, List.sum_nil, List.sum_cons, Option.toList, List.nil_append, List.cons_append, Int.reduceToNat, Nat.reduceAdd, Nat.reduceLT, Nat.reduceLeDiff, List.length_cons, List.length_nil, Nat.zero_add, if_true, if_false, reduceIte, and_self, and_true, true_and, eq_self, reduceCtorEq, t_within wS (d + 14), hk, bI_t, e10, gP0, gW WP1, t_hasVillage wS (d + 14) WP1, c0, hg, bI_f, not_true_eq_false, Bool.and_false, Bool.false_eq_true]
    | true =>
      by_cases n6 : N = 6
      · subst n6
        have tf := t_addF (wS := wS) (d + 14) WP1 c1 k g 0 0
        refine ⟨m, ?_, by simpa using hC, hf, h9⟩
        simp only [EV, LV, CB, OI, OL, NP, CZ, popN, CT, OZ, List.map_nil, List.map_cons, List.sum_nil, List.sum_cons, Option.toList, List.nil_append, List.cons_append, Int.reduceToNat, Nat.reduceAdd, Nat.reduceLT, Nat.reduceLeDiff, List.length_cons, List.length_nil, Nat.zero_add, if_true, if_false, reduceIte, and_self, and_true, true_and, eq_self, reduceCtorEq, t_within wS (d + 14), hk, bI_t, e10, gP0, gW WP1, t_hasVillage wS (d + 14) WP1, c0, hg, not_false_eq_true, r_X6_addFound_22, ha, r_X6_addFound_45, tf, r_X6_addFound_72, Bool.and_self]
      · have hN6 : N < 6 := by omega
        obtain ⟨M, eM⟩ : ∃ M, M = wI (wI (wI (wI (wI (wI m (1 + 4) N k) (1 + 5) N g) (1 + 6) N 0) (1 + 7) N 0) (1 + 8) N 0) 1 1 (nI (N + 1)) := ⟨_, rfl⟩
        have ta := t_addB wS (d + 14) WP1 hN6 k g 0 0 m c1
        have cb := CW_b (CW_x hC hN6 0) (upd_s _ _ _) hN6 k g 0 0
        rw [bdF_4] at cb
        rw [← eM] at ta cb
        have m11 : M.1 1 1 = nI (N + 1) := by rw [eM, wI_s]
        have m09 : M.1 0 9 = m.1 0 9 := by rw [eM, wI_n _ _ _ _ (by omega), wI_n _ _ _ _ (by omega), wI_n _ _ _ _ (by omega), wI_n _ _ _ _ (by omega), wI_n _ _ _ _ (by omega), wI_n _ _ _ _ (by omega)]
        have fM : FrR N0 mE M := by
          rw [eM]
          exact FrR_w (FrR_w (FrR_w (FrR_w (FrR_w (FrR_w hf _ (by omega)) _ (by omega)) _ (by omega)) _ (by omega)) _ (by omega)) _ (by omega)
        refine ⟨M, ?_, ?_, fM, m09.trans h9⟩
        · simp only [EV, LV, CB, OI, OL, NP, CZ, popN, CT, OZ, List.map_nil, List.map_cons, List.sum_nil, List.sum_cons, Option.toList, List.nil_append, List.cons_append, Int.reduceToNat, Nat.reduceAdd, Nat.reduceLT, Nat.reduceLeDiff, List.length_cons, List.length_nil, Nat.zero_add, if_true, if_false, reduceIte, and_self, and_true, true_and, eq_self, reduceCtorEq, t_within wS (d + 14), hk, bI_t, e10, gP0, gW WP1, t_hasVillage wS (d + 14) WP1, c0, hg, not_false_eq_true, r_X6_addFound_22, ha, r_X6_addFound_45, ta, m11, r_X6_addFound_74, Bool.and_self, n6]
        · have c : ((true && true) = true ∧ N ≠ 6) := ⟨rfl, n6⟩
          rw [if_pos c, if_pos c]
          exact cb
/-- the class' loop ends -/
theorem rc_end (m : Mm) (k l f n bf x cm i : Int32) (w : Nat) (v10 v11 v12 : Value) (h : n ≤ i ∨ ¬ x = 0) : rn shP tb0 mN mO (semZ shP wS (d + 16)) (some .int) (codeZ 96) 57 [.ref 0, .int k, .int l, .int f, .int n, .ref w, .int bf, .int x, .int cm, .int i, v10, v11, v12] [] m = some (some (.int cm), wI m 0 9 x) := by
  have e : pfI shP 609 0 (.int x) m = some (wI m 0 9 x) := rfl
  rw [r_X6_read_57]
  by_cases q : n ≤ i
  · simp only [EV, LV, CB, OI, OL, NP, CZ, popN, CT, OZ, List.map_nil, List.map_cons, List.sum_nil, List.sum_cons, Option.toList, List.nil_append, List.cons_append, Int.reduceToNat, Nat.reduceAdd, Nat.reduceLT, Nat.reduceLeDiff, List.length_cons, List.length_nil, Nat.zero_add, if_true, if_false, reduceIte, and_self, and_true, true_and, eq_self, reduceCtorEq, q, r_X6_read_150, e]
  · have hx : ¬ x = 0 := h.resolve_left q
    simp only [EV, LV, CB, OI, OL, NP, CZ, popN, CT, OZ, List.map_nil, List.map_cons, List.sum_nil, List.sum_cons, Option.toList, List.nil_append, List.cons_append, Int.reduceToNat, Nat.reduceAdd, Nat.reduceLT, Nat.reduceLeDiff, List.length_cons, List.length_nil, Nat.zero_add, if_true, if_false, reduceIte, and_self, and_true, true_and, eq_self, reduceCtorEq, q, hx, not_false_eq_true, r_X6_read_150, e]
/-- the fault of pair i -/
def rsC (mE : Mm) (K : Nat) (l f : Int32) (i : Nat) : Int32 := fPr (mE.1 (60 + 2 * K) 0) (mE.1 (60 + 2 * K) 1) (mE.1 (60 + 2 * K) 3) l (f.toInt64 + ((2 : Int32) * nI i).toInt64)
theorem CW_9 {N : Nat} {F : Nat → Int32} {m : Mm} (h : CW 1 V N F m) (x : Int32) : CW 1 V N F (wI m 0 9 x) := CW_o h (fun o j a b => by rw [wI_n _ _ _ _ (by omega)])
theorem rc_loop {K : Nat} (hK : K < 4) (k l f : Int32) {n N0 : Nat} (hn : n ≤ 20) {mE : Mm} (hs : (mE.1 (60 + 2 * K) 1).toInt ≤ 40) (hN0 : N0 ≤ 6) (cA cB : Nat → Int32) (hcA : ∀ i c : Nat, (f.toInt64 + ((2 : Int32) * nI i).toInt64).toInt = c → cA i = mE.1 (60 + 2 * K + 1) c) (hcB : ∀ i c : Nat, (f.toInt64 + ((2 : Int32) * nI i).toInt64).toInt = c → cB i = mE.1 (60 + 2 * K + 1) (c + 1)) : ∀ (q i : Nat), i + q = n → ∀ (N : Nat) (F : Nat → Int32) (m : Mm) (cm : Int32) (v10 v11 v12 : Value), CW 1 V N F m → N0 ≤ N → FrR N0 mE m → m.1 0 9 = mE.1 0 9 → ((v10 = noV ∧ v11 = noV) ∨ ∃ y : Int64, v10 = .long y ∧ v11 = noV) → (v12 = noV ∨ ∃ y : Int32, v12 = .int y) → ∃ m', rn shP tb0 mN mO (semZ shP wS (d + 17)) (some .int) (codeZ 96) 57 [.ref 0, .int k, .int l, .int f, .int (nI n), .ref (60 + 2 * K), .int (nI N0), .int 0, .int cm, .int (nI i), v10, v11, v12] [] m = some (some (.int (rdA (rdP V (rsC mE K l f) cA cB q i N F cm))), m') ∧ RdC V N0 mE m' (rdP V (rsC mE K l f) cA cB q i N F cm) := by
  intro q
  induction q with
  | zero =>
    intro i hi N F m cm v10 v11 v12 hC h0 hf h9 h10 h12
    have e0 : i = n := by omega
    subst e0
    refine ⟨wI m 0 9 0, rc_end (d + 1) m k l f (nI i) (nI N0) 0 cm (nI i) _ v10 v11 v12 (Or.inl (Int32.le_refl _)), FrR_w hf 0 (Or.inl ⟨rfl, rfl⟩), CW_9 hC 0, wI_s _ _ _ _⟩
  | succ q ih =>
    intro i hi N F m cm v10 v11 v12 hC h0 hf h9 h10 h12
    have e1 : ¬ nI n ≤ nI i := nI_ge (by omega) (by omega)
    have hh := hs_K hK
    have w0 : m.1 (60 + 2 * K) 0 = mE.1 (60 + 2 * K) 0 := hf _ _ (by omega) (by omega) (by omega)
    have w1 : m.1 (60 + 2 * K) 1 = mE.1 (60 + 2 * K) 1 := hf _ _ (by omega) (by omega) (by omega)
    have w3 : m.1 (60 + 2 * K) 3 = mE.1 (60 + 2 * K) 3 := hf _ _ (by omega) (by omega) (by omega)
    have wc : ∀ j, m.1 (60 + 2 * K + 1) j = mE.1 (60 + 2 * K + 1) j := fun j => hf _ _ (by omega) (by omega) (by omega)
    unfold rdP
    obtain ⟨fi, hfi⟩ : ∃ fi, f.toInt64 + ((2 : Int32) * nI i).toInt64 = fi := ⟨_, rfl⟩
    have er : rsC mE K l f i = fPr (mE.1 (60 + 2 * K) 0) (mE.1 (60 + 2 * K) 1) (mE.1 (60 + 2 * K) 3) l fi := by
      unfold rsC
      rw [hfi]
    have hfp := t_fop wS (d + 15) hh l fi m
    rw [w0, w1, w3, ← er] at hfp
    by_cases hp : rsC mE K l f i = 0
    · rw [if_pos hp]
      rw [hp] at hfp
      have pp := fPr_0 (er.symm.trans hp)
      obtain ⟨c, hc⟩ : ∃ c : Nat, fi.toInt = c := ⟨fi.toInt.toNat, by omega⟩
      have eA : m.1 (60 + 2 * K + 1) c = cA i := by rw [wc, hcA i c (by rw [hfi]; exact hc)]
      have eB : m.1 (60 + 2 * K + 1) (c + 1) = cB i := by rw [wc, hcB i c (by rw [hfi]; exact hc)]
      have ec := l_i32 hc (by omega)
      have e2 : inR (nI c) 40 = true := inR_nI (by omega) (by omega)
      have e3 : (nI c).toNatClampNeg = c := nI_clamp (by omega)
      have e4 : inR (nI (c + 1)) 40 = true := inR_nI (by omega) (by omega)
      have e5 : (nI (c + 1)).toNatClampNeg = c + 1 := nI_clamp (by omega)
      obtain ⟨M, a1, a2, a3, a4⟩ := t_adF (wS := wS) (d + 1) (cA i) (cB i) hC h0 hf h9
      have a1 : semZ shP wS (d + 17) 55 [.ref 0, .int (cA i), .int (cB i), .int 0, .int 0] m = some (some (.int (rdX V N (cA i) (cB i))), M) := a1
      have hN' : N ≤ rdN V N (cA i) (cB i) := by
        unfold rdN
        split <;> omega
      by_cases hy : rdX V N (cA i) (cB i) < 0
      · rw [if_pos hy]
        have hy' : ¬ 0 ≤ rdX V N (cA i) (cB i) := Int32.not_le.mpr hy
        have ep : pfI shP 501 1 (.int (nI N0)) M = some (wI M 1 1 (nI N0)) := rfl
        refine ⟨wI M 1 1 (nI N0), ?_, FrR_w a3 _ (Or.inr (Or.inl ⟨rfl, rfl⟩)), wI_s _ _ _ _, by rw [wI_n _ _ _ _ (by omega)]; exact a4⟩
        rw [r_X6_read_57]
        rcases h10 with ⟨rfl, rfl⟩ | ⟨y0, rfl, rfl⟩
        · rcases h12 with rfl | ⟨y1, rfl⟩
          · simp only [EV, LV, CB, OI, OL, NP, CZ, popN, CT, OZ, List.map_nil, List.map_cons, List.sum_nil, List.sum_cons, Option.toList, List.nil_append, List.cons_append, Int.reduceToNat, Nat.reduceAdd, Nat.reduceLT, Nat.reduceLeDiff, List.length_cons, List.length_nil, Nat.zero_add, if_true, if_false, reduceIte, and_self, and_true, true_and, eq_self, reduceCtorEq, e1, hfi, hfp, gP0, gH hh, aH hh, ec, e2, e3, nI_1, e4, e5, eA, eB, a1, hy', not_true_eq_false, ep, rdA]
          · simp only [EV, LV, CB, OI, OL, NP, CZ, popN, CT, OZ, List.map_nil, List.map_cons, List.sum_nil, List.sum_cons, Option.toList, List.nil_append, List.cons_append, Int.reduceToNat, Nat.reduceAdd, Nat.reduceLT, Nat.reduceLeDiff, List.length_cons, List.length_nil, Nat.zero_add, if_true, if_false, reduceIte, and_self, and_true, true_and, eq_self, reduceCtorEq, e1, hfi, hfp, gP0, gH hh, aH hh, ec, e2, e3, nI_1, e4, e5, eA, eB, a1, hy', not_true_eq_false, ep, rdA]
        · rcases h12 with rfl | ⟨y1, rfl⟩
          · simp only [EV, LV, CB, OI, OL, NP, CZ, popN, CT, OZ, List.map_nil, List.map_cons, List.sum_nil, List.sum_cons, Option.toList, List.nil_append, List.cons_append, Int.reduceToNat, Nat.reduceAdd, Nat.reduceLT, Nat.reduceLeDiff, List.length_cons, List.length_nil, Nat.zero_add, if_true, if_false, reduceIte, and_self, and_true, true_and, eq_self, reduceCtorEq, e1, hfi, hfp, gP0, gH hh, aH hh, ec, e2, e3, nI_1, e4, e5, eA, eB, a1, hy', not_true_eq_false, ep, rdA]
          · simp only [EV, LV, CB, OI, OL, NP, CZ, popN, CT, OZ, List.map_nil, List.map_cons, List.sum_nil, List.sum_cons, Option.toList, List.nil_append, List.cons_append, Int.reduceToNat, Nat.reduceAdd, Nat.reduceLT, Nat.reduceLeDiff, List.length_cons, List.length_nil, Nat.zero_add, if_true, if_false, reduceIte, and_self, and_true, true_and, eq_self, reduceCtorEq, e1, hfi, hfp, gP0, gH hh, aH hh, ec, e2, e3, nI_1, e4, e5, eA, eB, a1, hy', not_true_eq_false, ep, rdA]
      · rw [if_neg hy]
        have hy' : 0 ≤ rdX V N (cA i) (cB i) := Int32.not_lt.mp hy
        obtain ⟨m', b1, b2⟩ := ih (i + 1) (by omega) _ _ M (cm + 1) (.long fi) noV (.int (nI c)) a2 (by omega) a3 a4 (Or.inr ⟨fi, rfl, rfl⟩) (Or.inr ⟨_, rfl⟩)
        refine ⟨m', ?_, b2⟩
        rw [r_X6_read_57]
        rcases h10 with ⟨rfl, rfl⟩ | ⟨y0, rfl, rfl⟩
        · rcases h12 with rfl | ⟨y1, rfl⟩
          · simp only [EV, LV, CB, OI, OL, NP, CZ, popN, CT, OZ, List.map_nil, List.map_cons, List.sum_nil, List.sum_cons, Option.toList, List.nil_append, List.cons_append, Int.reduceToNat, Nat.reduceAdd, Nat.reduceLT, Nat.reduceLeDiff, List.length_cons, List.length_nil, Nat.zero_add, if_true, if_false, reduceIte, and_self, and_true, true_and, eq_self, reduceCtorEq, e1, hfi, hfp, gP0, gH hh, aH hh, ec, e2, e3, nI_1, e4, e5, eA, eB, a1, hy', not_true_eq_false, r_X6_read_141]
            exact b1
          · simp only [EV, LV, CB, OI, OL, NP, CZ, popN, CT, OZ, List.map_nil, List.map_cons, List.sum_nil, List.sum_cons, Option.toList, List.nil_append, List.cons_append, Int.reduceToNat, Nat.reduceAdd, Nat.reduceLT, Nat.reduceLeDiff, List.length_cons, List.length_nil, Nat.zero_add, if_true, if_false, reduceIte, and_self, and_true, true_and, eq_self, reduceCtorEq, e1, hfi, hfp, gP0, gH hh, aH hh, ec, e2, e3, nI_1, e4, e5, eA, eB, a1, hy', not_true_eq_false, r_X6_read_141]
            exact b1
        · rcases h12 with rfl | ⟨y1, rfl⟩
          · simp only [EV, LV, CB, OI, OL, NP, CZ, popN, CT, OZ, List.map_nil, List.map_cons, List.sum_nil, List.sum_cons, Option.toList, List.nil_append, List.cons_append, Int.reduceToNat, Nat.reduceAdd, Nat.reduceLT, Nat.reduceLeDiff, List.length_cons, List.length_nil, Nat.zero_add, if_true, if_false, reduceIte, and_self, and_true, true_and, eq_self, reduceCtorEq, e1, hfi, hfp, gP0, gH hh, aH hh, ec, e2, e3, nI_1, e4, e5, eA, eB, a1, hy', not_true_eq_false, r_X6_read_141]
            exact b1
          · simp only [EV, LV, CB, OI, OL, NP, CZ, popN, CT, OZ, List.map_nil, List.map_cons, List.sum_nil, List.sum_cons, Option.toList, List.nil_append, List.cons_append, Int.reduceToNat, Nat.reduceAdd, Nat.reduceLT, Nat.reduceLeDiff, List.length_cons, List.length_nil, Nat.zero_add, if_true, if_false, reduceIte, and_self, and_true, true_and, eq_self, reduceCtorEq, e1, hfi, hfp, gP0, gH hh, aH hh, ec, e2, e3, nI_1, e4, e5, eA, eB, a1, hy', not_true_eq_false, r_X6_read_141]
            exact b1
    · rw [if_neg hp]
      have hg := rc_end (wS := wS) (d + 1) m k l f (nI n) (nI N0) (rsC mE K l f i) cm (nI (i + 1)) (60 + 2 * K) (.long fi) noV v12 (Or.inr hp)
      refine ⟨wI m 0 9 (rsC mE K l f i), ?_, FrR_w hf _ (Or.inl ⟨rfl, rfl⟩), CW_9 hC _, wI_s _ _ _ _⟩
      rw [r_X6_read_57]
      rcases h10 with ⟨rfl, rfl⟩ | ⟨y0, rfl, rfl⟩
      · simp only [EV, LV, CB, OI, OL, NP, CZ, popN, CT, OZ, List.map_nil, List.map_cons, List.sum_nil, List.sum_cons, Option.toList, List.nil_append, List.cons_append, Int.reduceToNat, Nat.reduceAdd, Nat.reduceLT, Nat.reduceLeDiff, List.length_cons, List.length_nil, Nat.zero_add, if_true, if_false, reduceIte, and_self, and_true, true_and, eq_self, reduceCtorEq, e1, hfi, hfp, gP0, gH hh, hp, not_true_eq_false, not_false_eq_true, r_X6_read_144, nI_1]
        exact hg
      · simp only [EV, LV, CB, OI, OL, NP, CZ, popN, CT, OZ, List.map_nil, List.map_cons, List.sum_nil, List.sum_cons, Option.toList, List.nil_append, List.cons_append, Int.reduceToNat, Nat.reduceAdd, Nat.reduceLT, Nat.reduceLeDiff, List.length_cons, List.length_nil, Nat.zero_add, if_true, if_false, reduceIte, and_self, and_true, true_and, eq_self, reduceCtorEq, e1, hfi, hfp, gP0, gH hh, hp, not_true_eq_false, not_false_eq_true, r_X6_read_144, nI_1]
        exact hg
/-- find of the model -/
theorem t_fdM (k g : Int32) {N : Nat} {m : Mm} (hV : V ≤ 4) (hN : N ≤ 6) (h3 : m.1 68 3 = nI V) (c38 : m.1 69 38 = nI N) : semZ shP wS (d + 16) 147 [.ref 68, .int k, .int g, .int 0, .int 0] m = some (some (.int (rdX V N k g)), setR m 69 (rdF V N k g (m.1 69))) := by
  have e10 : ¬ (1 : Int32) = 0 := by decide
  have l1 := ltm (V := V) (by omega) g
  have d1 := dec64 k 0 3 0 3 (by decide) (by decide)
  have d2 : (decide ((0 : Int64) ≤ (0 : Int32).toInt64) && decide ((0 : Int32).toInt64 ≤ 9)) = true := by decide
  have i38 : inR 38 189 = true ∧ (38 : Int32).toNatClampNeg = 38 := by decide +kernel
  rw [se_X7_find, r_X7_find_0]
  unfold rdX rdF rdV
  cases hk : (decide (0 ≤ k) && decide (k ≤ 3)) with
  | false =>
    simp only [EV, LV, CB, OI, OL, NP, CZ, popN, CT, OZ, List.map_nil, List.map_cons, List.sum_nil, List.sum_cons, Option.toList, List.nil_append, List.cons_append, Int.reduceToNat, Nat.reduceAdd, Nat.reduceLT, Nat.reduceLeDiff, List.length_cons, List.length_nil, Nat.zero_add, if_true, if_false, reduceIte, and_self, and_true, true_and, eq_self, reduceCtorEq, t_in wS (d + 14), d1, hk, bI_f, r_X7_find_45, Bool.false_and, Bool.false_eq_true, false_and, setR_id]
  | true =>
    cases hg : (decide (0 ≤ g) && decide (g < nI V)) with
    | false =>
      simp only [EV, LV, CB, OI, OL, NP, CZ, popN, CT, OZ, List.map_nil, List.map_cons, List.sum_nil, List.sum_cons, Option.toList, List.nil_append, List.cons_append, Int.reduceToNat, Nat.reduceAdd, Nat.reduceLT, Nat.reduceLeDiff, List.length_cons, List.length_nil, Nat.zero_add, if_true, if_false, reduceIte, and_self, and_true, true_and, eq_self, reduceCtorEq, gM MP68, t_in wS (d + 14), d1, hk, bI_t, e10, t_isVillage wS (d + 13) MP68, h3, l1, hg, bI_f, r_X7_find_45, Bool.and_false, Bool.false_eq_true, false_and, setR_id]
    | true =>
      by_cases n6 : N = 6
      · subst n6
        have z6 : nI 6 = (6 : Int32) := by decide
        simp only [EV, LV, CB, OI, OL, NP, CZ, popN, CT, OZ, List.map_nil, List.map_cons, List.sum_nil, List.sum_cons, Option.toList, List.nil_append, List.cons_append, Int.reduceToNat, Nat.reduceAdd, Nat.reduceLT, Nat.reduceLeDiff, List.length_cons, List.length_nil, Nat.zero_add, if_true, if_false, reduceIte, and_self, and_true, true_and, eq_self, reduceCtorEq, gM MP68, aM MP68, t_in wS (d + 14), d1, d2, hk, bI_t, e10, t_isVillage wS (d + 13) MP68, h3, l1, hg, not_false_eq_true, r_X7_find_47, i38, c38, z6, not_true_eq_false, Bool.and_self, ne_eq, and_false, setR_id]
      · have hN6 : N < 6 := by omega
        have z6 : ¬ nI N = (6 : Int32) := fun z => by
          have := (nI_eq (a := N) (b := 6) (by omega) (by omega)).mp z
          omega
        obtain ⟨P, eP⟩ : ∃ P, P = wI (wI (wI (wI (wI m 69 (8 + 5 * N) k) 69 (8 + 5 * N + 1) g) 69 (8 + 5 * N + 2) 0) 69 (8 + 5 * N + 3) 0) 69 (8 + 5 * N + 4) 0 := ⟨_, rfl⟩
        have p38 : P.1 69 38 = nI N := by rw [eP, wI_j _ _ _ _ _ (by omega), wI_j _ _ _ _ _ (by omega), wI_j _ _ _ _ _ (by omega), wI_j _ _ _ _ _ (by omega), wI_j _ _ _ _ _ (by omega)]; exact c38
        have p38' : (wI P 69 38 (nI (N + 1))).1 69 38 = nI (N + 1) := wI_s _ _ _ _
        have i0 : (8 : Int32) + 5 * nI N + 0 = nI (8 + 5 * N) := ix_85 N hN6 0 (by omega)
        have i1 : (8 : Int32) + 5 * nI N + 1 = nI (8 + 5 * N + 1) := ix_85 N hN6 1 (by omega)
        have i2 : (8 : Int32) + 5 * nI N + 2 = nI (8 + 5 * N + 2) := ix_85 N hN6 2 (by omega)
        have i3 : (8 : Int32) + 5 * nI N + 3 = nI (8 + 5 * N + 3) := ix_85 N hN6 3 (by omega)
        have i4 : (8 : Int32) + 5 * nI N + 4 = nI (8 + 5 * N + 4) := ix_85 N hN6 4 (by omega)
        have r0 : inR (nI (8 + 5 * N)) 189 = true ∧ (nI (8 + 5 * N)).toNatClampNeg = 8 + 5 * N := ⟨inR_nI (by omega) (by omega), nI_clamp (by omega)⟩
        have r1 : inR (nI (8 + 5 * N + 1)) 189 = true ∧ (nI (8 + 5 * N + 1)).toNatClampNeg = 8 + 5 * N + 1 := ⟨inR_nI (by omega) (by omega), nI_clamp (by omega)⟩
        have r2 : inR (nI (8 + 5 * N + 2)) 189 = true ∧ (nI (8 + 5 * N + 2)).toNatClampNeg = 8 + 5 * N + 2 := ⟨inR_nI (by omega) (by omega), nI_clamp (by omega)⟩
        have r3 : inR (nI (8 + 5 * N + 3)) 189 = true ∧ (nI (8 + 5 * N + 3)).toNatClampNeg = 8 + 5 * N + 3 := ⟨inR_nI (by omega) (by omega), nI_clamp (by omega)⟩
        have r4 : inR (nI (8 + 5 * N + 4)) 189 = true ∧ (nI (8 + 5 * N + 4)).toNatClampNeg = 8 + 5 * N + 4 := ⟨inR_nI (by omega) (by omega), nI_clamp (by omega)⟩
        have ef : setR m 69 (fdF (m.1 69) N k g 0 0) = wI P 69 38 (nI (N + 1)) := by
          rw [eP]
          simp only [wI_R, setR_s, setR_R]
          rfl
        have c : ((true && true) = true ∧ N ≠ 6) := ⟨rfl, n6⟩
        rw [if_pos c, if_pos c.1, if_neg n6, ef]
        simp only [EV, LV, CB, OI, OL, NP, CZ, popN, CT, OZ, List.map_nil, List.map_cons, List.sum_nil, List.sum_cons, Option.toList, List.nil_append, List.cons_append, Int.reduceToNat, Nat.reduceAdd, Nat.reduceLT, Nat.reduceLeDiff, List.length_cons, List.length_nil, Nat.zero_add, if_true, if_false, reduceIte, and_self, and_true, true_and, eq_self, reduceCtorEq, gM MP68, aM MP68, sM MP68, t_in wS (d + 14), d1, d2, hk, bI_t, e10, t_isVillage wS (d + 13) MP68, h3, l1, hg, not_false_eq_true, r_X7_find_47, i38, c38, z6, r_X7_find_62, i0, i1, i2, i3, i4, r0, r1, r2, r3, r4, ← eP, p38, nI_1, p38']
def RdM (mE m : Mm) (r : Nat ⊕ (Int32 × Int32 × Nat × (Nat → Int32))) : Prop := match r with
  | .inl _ => (∀ j, j < 63 → m.1 69 j = mE.1 80 j) ∧ ∀ o, o ≠ 69 → m.1 o = mE.1 o
  | .inr y => m.1 69 = y.2.2.2 ∧ m.1 68 = upd (mE.1 68) 27 y.1 ∧ ∀ o, o ≠ 69 → o ≠ 68 → m.1 o = mE.1 o
/-- the model's loop ends -/
theorem rm_e2 (m : Mm) (k l f n x w i : Int32) (v8 v9 : Value) (h : n ≤ i ∨ ¬ x = 0) : rn shP tb0 mN mO (semZ shP wS (d + 17)) (some .int) (codeZ 182) 62 [.ref 68, .int k, .int l, .int f, .int n, .int x, .int w, .int i, v8, v9, noV] [] m = some (some (.int w), wI m 68 27 x) := by
  have e : pfI shP 727 68 (.int x) m = some (wI m 68 27 x) := rfl
  rw [r_X7_read_62]
  by_cases q : n ≤ i
  · simp only [EV, LV, CB, OI, OL, NP, CZ, popN, CT, OZ, List.map_nil, List.map_cons, List.sum_nil, List.sum_cons, Option.toList, List.nil_append, List.cons_append, Int.reduceToNat, Nat.reduceAdd, Nat.reduceLT, Nat.reduceLeDiff, List.length_cons, List.length_nil, Nat.zero_add, if_true, if_false, reduceIte, and_self, and_true, true_and, eq_self, reduceCtorEq, q, r_X7_read_252, e]
  · have hx : ¬ x = 0 := h.resolve_left q
    simp only [EV, LV, CB, OI, OL, NP, CZ, popN, CT, OZ, List.map_nil, List.map_cons, List.sum_nil, List.sum_cons, Option.toList, List.nil_append, List.cons_append, Int.reduceToNat, Nat.reduceAdd, Nat.reduceLT, Nat.reduceLeDiff, List.length_cons, List.length_nil, Nat.zero_add, if_true, if_false, reduceIte, and_self, and_true, true_and, eq_self, reduceCtorEq, q, hx, not_false_eq_true, r_X7_read_252, e]
/-- the fault of pair i in the model -/
def rsM (mE : Mm) (K : Nat) (l f : Int32) (i : Nat) : Int32 := if rsn (mE.1 77 K) l (mE.1 78 K) (f.toInt64 + ((2 : Int32) * nI i).toInt64 + (nI 0).toInt64) = 0 then rsn (mE.1 77 K) l (mE.1 78 K) (f.toInt64 + ((2 : Int32) * nI i).toInt64 + (nI 1).toInt64) else rsn (mE.1 77 K) l (mE.1 78 K) (f.toInt64 + ((2 : Int32) * nI i).toInt64 + (nI 0).toInt64)
theorem rq_loop {K : Nat} (hK : K < 4) (l f : Int32) {n : Nat} (hn : n ≤ 20) (hV : V ≤ 4) {mE : Mm} (hs : (mE.1 78 K).toInt ≤ 40) (h3 : mE.1 68 3 = nI V) (cA cB : Nat → Int32) (hcA : ∀ i c : Nat, i ≤ 20 → f.toInt + 2 * (i : Int) = c → c + 1 < 40 → ¬ mE.1 77 K = -4 → cA i = mE.1 79 (40 * K + c)) (hcB : ∀ i c : Nat, i ≤ 20 → f.toInt + 2 * (i : Int) = c → c + 1 < 40 → ¬ mE.1 77 K = -4 → cB i = mE.1 79 (40 * K + c + 1)) : ∀ (q i : Nat), i + q = n → ∀ (N : Nat) (F : Nat → Int32) (m : Mm) (w : Int32) (v8 v9 : Value), m.1 69 = F → F 38 = nI N → N ≤ 6 → (∀ o, o ≠ 69 → m.1 o = mE.1 o) → (v8 = noV ∨ ∃ y : Int32, v8 = .int y) → ((v9 = noV ∨ ∃ y : Int32, v9 = .int y) ∨ ∃ y : Int64, v9 = .long y) → ∃ m', rn shP tb0 mN mO (semZ shP wS (d + 17)) (some .int) (codeZ 182) 62 [.ref 68, .int (nI K), .int l, .int f, .int (nI n), .int 0, .int w, .int (nI i), v8, v9, noV] [] m = some (some (.int (rdA (rdP V (rsM mE K l f) cA cB q i N F w))), m') ∧ RdM mE m' (rdP V (rsM mE K l f) cA cB q i N F w) := by
  intro q
  induction q with
  | zero =>
    intro i hi N F m w v8 v9 h9 h38 hN ho h8 h9v
    have e0 : i = n := by omega
    subst e0
    refine ⟨wI m 68 27 0, rm_e2 d m (nI K) l f (nI i) 0 w (nI i) v8 v9 (Or.inl (Int32.le_refl _)), ?_, ?_, fun o a b => ?_⟩
    · rw [wI_n _ _ _ _ (by omega)]; exact h9
    · rw [wI_r, ho 68 (by omega)]
    · rw [wI_n _ _ _ _ b]; exact ho o a
  | succ q ih =>
    intro i hi N F m w v8 v9 h9 h38 hN ho h8 h9v
    have e1 : ¬ nI n ≤ nI i := nI_ge (by omega) (by omega)
    have st1 : rn shP tb0 mN mO (semZ shP wS (d + 17)) (some .int) (codeZ 182) 62 [.ref 68, .int (nI K), .int l, .int f, .int (nI n), .int 0, .int w, .int (nI i), v8, v9, noV] [] m = rn shP tb0 mN mO (semZ shP wS (d + 17)) (some .int) (codeZ 182) 77 [.ref 68, .int (nI K), .int l, .int f, .int (nI n), .int 0, .int w, .int (nI i), .int (nI 0), v9, noV] [] m := by
      rw [r_X7_read_62]
      rcases h8 with rfl | ⟨y, rfl⟩
      · simp only [EV, LV, CB, OI, OL, NP, CZ, popN, CT, OZ, List.map_nil, List.map_cons, List.sum_nil, List.sum_cons, Option.toList, List.nil_append, List.cons_append, Int.reduceToNat, Nat.reduceAdd, Nat.reduceLT, Nat.reduceLeDiff, List.length_cons, List.length_nil, Nat.zero_add, if_true, if_false, reduceIte, and_self, and_true, true_and, eq_self, reduceCtorEq, e1, not_true_eq_false]
        rfl
      · simp only [EV, LV, CB, OI, OL, NP, CZ, popN, CT, OZ, List.map_nil, List.map_cons, List.sum_nil, List.sum_cons, Option.toList, List.nil_append, List.cons_append, Int.reduceToNat, Nat.reduceAdd, Nat.reduceLT, Nat.reduceLeDiff, List.length_cons, List.length_nil, Nat.zero_add, if_true, if_false, reduceIte, and_self, and_true, true_and, eq_self, reduceCtorEq, e1, not_true_eq_false]
        rfl
    have at164 : ∀ (x : Int32) (p : Int64) (j : Nat), (¬ x = 0 ∨ j = 2) → rn shP tb0 mN mO (semZ shP wS (d + 17)) (some .int) (codeZ 182) 77 [.ref 68, .int (nI K), .int l, .int f, .int (nI n), .int x, .int w, .int (nI i), .int (nI j), .long p, noV] [] m = rn shP tb0 mN mO (semZ shP wS (d + 17)) (some .int) (codeZ 182) 164 [.ref 68, .int (nI K), .int l, .int f, .int (nI n), .int x, .int w, .int (nI i), .int (nI j), .long p, noV] [] m := by
      intro x p j hxj
      rw [r_X7_read_77]
      by_cases h2 : (2 : Int32) ≤ nI j
      · simp only [EV, LV, CB, OI, OL, NP, CZ, popN, CT, OZ, List.map_nil, List.map_cons, List.sum_nil, List.sum_cons, Option.toList, List.nil_append, List.cons_append, Int.reduceToNat, Nat.reduceAdd, Nat.reduceLT, Nat.reduceLeDiff, List.length_cons, List.length_nil, Nat.zero_add, if_true, if_false, reduceIte, and_self, and_true, true_and, eq_self, reduceCtorEq, h2]
      · have hx0 : ¬ x = 0 := by
          rcases hxj with h | h
          · exact h
          · rw [h] at h2
            exact absurd (by decide +kernel) h2
        simp only [EV, LV, CB, OI, OL, NP, CZ, popN, CT, OZ, List.map_nil, List.map_cons, List.sum_nil, List.sum_cons, Option.toList, List.nil_append, List.cons_append, Int.reduceToNat, Nat.reduceAdd, Nat.reduceLT, Nat.reduceLeDiff, List.length_cons, List.length_nil, Nat.zero_add, if_true, if_false, reduceIte, and_self, and_true, true_and, eq_self, reduceCtorEq, h2, hx0, not_false_eq_true]
    have bad164 : ∀ (x : Int32) (p : Int64) (j : Nat), ¬ x = 0 → rn shP tb0 mN mO (semZ shP wS (d + 17)) (some .int) (codeZ 182) 164 [.ref 68, .int (nI K), .int l, .int f, .int (nI n), .int x, .int w, .int (nI i), .int (nI j), .long p, noV] [] m = some (some (.int w), wI m 68 27 x) := by
      intro x p j hx0
      have h := rm_e2 (wS := wS) d m (nI K) l f (nI n) x w (nI (i + 1)) (.int (nI j)) (.long p) (Or.inr hx0)
      rw [r_X7_read_164]
      simp only [EV, LV, CB, OI, OL, NP, CZ, popN, CT, OZ, List.map_nil, List.map_cons, List.sum_nil, List.sum_cons, Option.toList, List.nil_append, List.cons_append, Int.reduceToNat, Nat.reduceAdd, Nat.reduceLT, Nat.reduceLeDiff, List.length_cons, List.length_nil, Nat.zero_add, if_true, if_false, reduceIte, and_self, and_true, true_and, eq_self, reduceCtorEq, hx0, not_false_eq_true, r_X7_read_246, nI_1]
      exact h
    have fin : ∀ x, RdM mE (wI m 68 27 x) (.inr (x, w, N, F)) := fun x => ⟨by rw [wI_n _ _ _ _ (by omega)]; exact h9, by rw [wI_r, ho 68 (by omega)], fun o a b => by rw [wI_n _ _ _ _ b]; exact ho o a⟩
    have m77 : m.1 77 = mE.1 77 := ho 77 (by omega)
    have m78 : m.1 78 = mE.1 78 := ho 78 (by omega)
    have m79 : m.1 79 = mE.1 79 := ho 79 (by omega)
    rw [st1, rm_in _ hK l f (nI n) w i 0 noV m v9 h9v (by omega), m77, m78]
    unfold rdP
    by_cases h0 : rsn (mE.1 77 K) l (mE.1 78 K) (f.toInt64 + ((2 : Int32) * nI i).toInt64 + (nI 0).toInt64) = 0
    · have er : rsM mE K l f i = rsn (mE.1 77 K) l (mE.1 78 K) (f.toInt64 + ((2 : Int32) * nI i).toInt64 + (nI 1).toInt64) := by
        unfold rsM
        rw [if_pos h0]
      rw [h0, rm_in _ hK l f (nI n) w i 1 noV m (.long (f.toInt64 + ((2 : Int32) * nI i).toInt64 + (nI 0).toInt64)) (Or.inr ⟨_, rfl⟩) (by omega), m77, m78, ← er, at164 _ _ 2 (Or.inr rfl)]
      by_cases h1 : rsM mE K l f i = 0
      · rw [if_pos h1]
        have n4 : ¬ mE.1 77 K = -4 := fun z => by
          unfold rsn at h0
          rw [if_pos z] at h0
          exact absurd h0 (by decide)
        have a0 := rsn_0 h0
        have a1 := rsn_0 (er.symm.trans h1)
        rw [p_i (by omega) (by omega)] at a0
        rw [p_i (by omega) (by omega)] at a1
        obtain ⟨c, hc⟩ : ∃ c : Nat, f.toInt + 2 * (i : Int) = c := ⟨(f.toInt + 2 * (i : Int)).toNat, by omega⟩
        have ei := ix_rd (by omega : i ≤ 100) hK hc (by omega)
        have e2 : inR (nI (40 * K + c)) 160 = true := inR_nI (by omega) (by omega)
        have e3 : (nI (40 * K + c)).toNatClampNeg = 40 * K + c := nI_clamp (by omega)
        have e4 : inR (nI (40 * K + c + 1)) 160 = true := inR_nI (by omega) (by omega)
        have e5 : (nI (40 * K + c + 1)).toNatClampNeg = 40 * K + c + 1 := nI_clamp (by omega)
        have eA : m.1 79 (40 * K + c) = cA i := by rw [m79, hcA i c (by omega) hc (by omega) n4]
        have eB : m.1 79 (40 * K + c + 1) = cB i := by rw [m79, hcB i c (by omega) hc (by omega) n4]
        have a1 := t_fdM (wS := wS) (d + 1) (cA i) (cB i) (m := m) hV hN (by rw [ho 68 (by omega)]; exact h3) (by rw [h9]; exact h38)
        rw [h9] at a1
        obtain ⟨M, eM⟩ : ∃ M, M = setR m 69 (rdF V N (cA i) (cB i) F) := ⟨_, rfl⟩
        rw [← eM] at a1
        have a1 : semZ shP wS (d + 17) 147 [.ref 68, .int (cA i), .int (cB i), .int 0, .int 0] m = some (some (.int (rdX V N (cA i) (cB i))), M) := a1
        have M9 : M.1 69 = rdF V N (cA i) (cB i) F := by rw [eM, setR_s]
        have Mo : ∀ o, o ≠ 69 → M.1 o = mE.1 o := fun o a => by rw [eM, setR_n _ _ a]; exact ho o a
        have g1 := gM MP68
        have b1 := aM MP68
        simp only [Nat.reduceAdd] at g1 b1
        rw [h1]
        by_cases hy : rdX V N (cA i) (cB i) < 0
        · rw [if_pos hy]
          have hy' : ¬ 0 ≤ rdX V N (cA i) (cB i) := Int32.not_le.mpr hy
          have bk := rm_bk (semZ shP wS (d + 17)) M (M.1 69) (nI K) l f (nI n) 0 w (nI i) (nI (40 * K + c)) noV 63 0 rfl
          rw [fillR_0, setR_id] at bk
          refine ⟨setR M 69 (fillR (M.1 80) (M.1 69) 63), ?_, fun j hj => ?_, fun o a => by rw [setR_n _ _ a]; exact Mo o a⟩
          · rw [r_X7_read_164]
            simp only [EV, LV, CB, OI, OL, NP, CZ, popN, CT, OZ, List.map_nil, List.map_cons, List.sum_nil, List.sum_cons, Option.toList, List.nil_append, List.cons_append, Int.reduceToNat, Nat.reduceAdd, Nat.reduceLT, Nat.reduceLeDiff, List.length_cons, List.length_nil, Nat.zero_add, if_true, if_false, reduceIte, and_self, and_true, true_and, eq_self, reduceCtorEq, ei, g1, b1, e2, e3, nI_1, e4, e5, eA, eB, a1, hy', not_true_eq_false]
            exact bk
          · rw [setR_s, Mo 80 (by omega)]
            unfold fillR
            rw [if_pos hj]
        · rw [if_neg hy]
          have hy' : 0 ≤ rdX V N (cA i) (cB i) := Int32.not_lt.mp hy
          have hN' : rdN V N (cA i) (cB i) ≤ 6 ∧ rdF V N (cA i) (cB i) F 38 = nI (rdN V N (cA i) (cB i)) := by
            unfold rdN rdF
            split
            · exact ⟨by omega, by unfold fdF; rw [upd_s]⟩
            · exact ⟨hN, h38⟩
          obtain ⟨m', c1, c2⟩ := ih (i + 1) (by omega) (rdN V N (cA i) (cB i)) (rdF V N (cA i) (cB i) F) M (w + 1) (.int (nI (40 * K + c))) (.long (f.toInt64 + ((2 : Int32) * nI i).toInt64 + (nI 1).toInt64)) M9 hN'.2 hN'.1 Mo (Or.inr ⟨_, rfl⟩) (Or.inr ⟨_, rfl⟩)
          refine ⟨m', ?_, c2⟩
          rw [r_X7_read_164]
          simp only [EV, LV, CB, OI, OL, NP, CZ, popN, CT, OZ, List.map_nil, List.map_cons, List.sum_nil, List.sum_cons, Option.toList, List.nil_append, List.cons_append, Int.reduceToNat, Nat.reduceAdd, Nat.reduceLT, Nat.reduceLeDiff, List.length_cons, List.length_nil, Nat.zero_add, if_true, if_false, reduceIte, and_self, and_true, true_and, eq_self, reduceCtorEq, ei, g1, b1, e2, e3, nI_1, e4, e5, eA, eB, a1, hy', not_true_eq_false, r_X7_read_243]
          exact c1
      · rw [if_neg h1]
        exact ⟨_, bad164 _ _ 2 h1, fin _⟩
    · have er : rsM mE K l f i = rsn (mE.1 77 K) l (mE.1 78 K) (f.toInt64 + ((2 : Int32) * nI i).toInt64 + (nI 0).toInt64) := by
        unfold rsM
        rw [if_neg h0]
      rw [← er] at h0 ⊢
      rw [at164 _ _ 1 (Or.inl h0), if_neg h0]
      exact ⟨_, bad164 _ _ 1 h0, fin _⟩
theorem rs_eq {m : Mm} (hS : SR m) {K : Nat} (hK : K < 4) (l f : Int32) (i : Nat) : rsC m K l f i = rsM m K l f i := by
  have z0 : (nI 0).toInt64 = 0 := by decide
  have z1 : (nI 1).toInt64 = 1 := by decide
  have e10 : ¬ (1 : Int32) = 0 := by decide
  unfold rsC rsM fPr fAt rsn
  rw [z0, z1, Int64.add_zero]
  generalize f.toInt64 + ((2 : Int32) * nI i).toInt64 = p
  rcases hS K hK with ⟨a, b⟩ | ⟨a, b, c, e, -⟩
  · rw [a, b]
    simp
  · rw [a, c, e]
    by_cases h : m.1 77 K = l
    · rw [h] at b ⊢
      simp [b]
    · simp [b, h]
theorem CW_kR {N : Nat} {F : Nat → Int32} {m m1 : Mm} (h : CW 1 V N F m) (hf : FrR N m m1) (h1 : m1.1 1 1 = nI N) : CW 1 V N F m1 := by
  obtain ⟨c1, c2, c3, c4, c5, c6, c7, c8, c9, hg, hb⟩ := h
  refine ⟨c1, c2, ?_, h1, c5, ?_, ?_, ?_, ?_, fun g g4 => ?_, fun b b6 => ?_⟩
  · rw [hf 1 0 (by omega) (by omega) (by omega)]; exact c3
  · rw [hf 1 2 (by omega) (by omega) (by omega)]; exact c6
  · rw [hf 1 3 (by omega) (by omega) (by omega)]; exact c7
  · rw [hf 1 4 (by omega) (by omega) (by omega)]; exact c8
  · rw [hf 1 5 (by omega) (by omega) (by omega)]; exact c9
  · rw [hf (1 + 1) g (by omega) (by omega) (by omega), hf (1 + 2) g (by omega) (by omega) (by omega)]; exact hg g g4
  · rw [hf (1 + 4) b (by omega) (by omega) (by omega), hf (1 + 5) b (by omega) (by omega) (by omega), hf (1 + 6) b (by omega) (by omega) (by omega), hf (1 + 7) b (by omega) (by omega) (by omega), hf (1 + 8) b (by omega) (by omega) (by omega)]; exact hb b b6
theorem iv_78K {K : Nat} (hK : K < 4) : ivO TV 78 K = (0, 40) := by rw [iv_1 (by decide)]; decide
/-- read of both -/
theorem b_read {N : Nat} {m : Mm} (k l f n : Int32) (hI : InvT TV m) (hS : SR m) (h : LNow V N m) (hT : LTo m) : ∃ x m1 m2, semZ shP wS (d + 30) 96 [.ref 0, .int k, .int l, .int f, .int n] m = some (some (.int x), m1) ∧ semZ shP wS (d + 30) 182 [.ref 68, .int k, .int l, .int f, .int n] m1 = some (some (.int x), m2) ∧ (∃ N', N ≤ N' ∧ LNow V N' m2) ∧ LTo m2 ∧ ∀ j, 44 ≤ j → j ≤ 62 → m2.1 69 j = m.1 69 j := by
  have h0 := h
  obtain ⟨h3, hC, h6, hTu, hA, hMB⟩ := h
  have hV := hC.1
  have hN := hC.2.1
  have c1 := hC.2.2.2.1
  have c38 := hC.2.2.2.2.1
  have e10 : ¬ (1 : Int32) = 0 := by decide
  have d1 := dec64 k 0 3 0 3 (by decide) (by decide)
  have d2 := dec64 l 0 2 0 2 (by decide) (by decide)
  have d3 := dec64 n 0 20 0 20 (by decide) (by decide)
  rw [se_X6_read, r_X6_read_0]
  cases q1 : (decide (0 ≤ k) && decide (k ≤ 3)) with
  | false =>
    refine ⟨-1, m, m, ?_, ?_, ⟨N, Nat.le_refl _, h0⟩, hT, fun _ _ _ => rfl⟩
    · simp only [EV, LV, CB, OI, OL, NP, CZ, popN, CT, OZ, List.map_nil, List.map_cons, List.sum_nil, List.sum_cons, Option.toList, List.nil_append, List.cons_append, Int.reduceToNat, Nat.reduceAdd, Nat.reduceLT, Nat.reduceLeDiff, List.length_cons, List.length_nil, Nat.zero_add, if_true, if_false, reduceIte, and_self, and_true, true_and, eq_self, reduceCtorEq, t_within wS (d + 28), q1, bI_f, r_X6_read_29]
    · rw [se_X7_read, r_X7_read_0]
      simp only [EV, LV, CB, OI, OL, NP, CZ, popN, CT, OZ, List.map_nil, List.map_cons, List.sum_nil, List.sum_cons, Option.toList, List.nil_append, List.cons_append, Int.reduceToNat, Nat.reduceAdd, Nat.reduceLT, Nat.reduceLeDiff, List.length_cons, List.length_nil, Nat.zero_add, if_true, if_false, reduceIte, and_self, and_true, true_and, eq_self, reduceCtorEq, t_isSheet wS (d + 27), d1, q1, Bool.false_and, bI_f, r_X7_read_21]
  | true =>
    cases q2 : (decide (0 ≤ l) && decide (l ≤ 2)) with
    | false =>
      refine ⟨-1, m, m, ?_, ?_, ⟨N, Nat.le_refl _, h0⟩, hT, fun _ _ _ => rfl⟩
      · simp only [EV, LV, CB, OI, OL, NP, CZ, popN, CT, OZ, List.map_nil, List.map_cons, List.sum_nil, List.sum_cons, Option.toList, List.nil_append, List.cons_append, Int.reduceToNat, Nat.reduceAdd, Nat.reduceLT, Nat.reduceLeDiff, List.length_cons, List.length_nil, Nat.zero_add, if_true, if_false, reduceIte, and_self, and_true, true_and, eq_self, reduceCtorEq, t_within wS (d + 28), q1, q2, bI_f, bI_t, e10, r_X6_read_29]
      · rw [se_X7_read, r_X7_read_0]
        simp only [EV, LV, CB, OI, OL, NP, CZ, popN, CT, OZ, List.map_nil, List.map_cons, List.sum_nil, List.sum_cons, Option.toList, List.nil_append, List.cons_append, Int.reduceToNat, Nat.reduceAdd, Nat.reduceLT, Nat.reduceLeDiff, List.length_cons, List.length_nil, Nat.zero_add, if_true, if_false, reduceIte, and_self, and_true, true_and, eq_self, reduceCtorEq, t_isSheet wS (d + 27), d1, d2, q1, q2, Bool.and_false, bI_f, r_X7_read_21]
    | true =>
      cases q3 : (decide (0 ≤ n) && decide (n ≤ 20)) with
      | false =>
        refine ⟨-1, m, m, ?_, ?_, ⟨N, Nat.le_refl _, h0⟩, hT, fun _ _ _ => rfl⟩
        · simp only [EV, LV, CB, OI, OL, NP, CZ, popN, CT, OZ, List.map_nil, List.map_cons, List.sum_nil, List.sum_cons, Option.toList, List.nil_append, List.cons_append, Int.reduceToNat, Nat.reduceAdd, Nat.reduceLT, Nat.reduceLeDiff, List.length_cons, List.length_nil, Nat.zero_add, if_true, if_false, reduceIte, and_self, and_true, true_and, eq_self, reduceCtorEq, t_within wS (d + 28), q1, q2, q3, bI_f, bI_t, e10, not_true_eq_false]
        · rw [se_X7_read, r_X7_read_0]
          simp only [EV, LV, CB, OI, OL, NP, CZ, popN, CT, OZ, List.map_nil, List.map_cons, List.sum_nil, List.sum_cons, Option.toList, List.nil_append, List.cons_append, Int.reduceToNat, Nat.reduceAdd, Nat.reduceLT, Nat.reduceLeDiff, List.length_cons, List.length_nil, Nat.zero_add, if_true, if_false, reduceIte, and_self, and_true, true_and, eq_self, reduceCtorEq, t_isSheet wS (d + 27), t_in wS (d + 28), d1, d2, d3, q1, q2, q3, Bool.and_self, bI_f, bI_t, e10, not_true_eq_false]
      | true =>
        obtain ⟨K, hK3, rfl⟩ := in_nI (N := 3) (by decide) q1
        obtain ⟨n', hn, rfl⟩ := in_nI (N := 20) (by decide) q3
        have hK : K < 4 := by omega
        have hs : (m.1 (60 + 2 * K) 1).toInt ≤ 40 := by
          have b := hI (60 + 2 * K) 1
          rw [(iv_sz (w := 60 + 2 * K) (by
            match K, hK with
            | 0, _ => decide
            | 1, _ => decide
            | 2, _ => decide
            | 3, _ => decide)).2] at b
          exact b.2
        have hs2 : (m.1 78 K).toInt ≤ 40 := by
          have b := hI 78 K
          rw [iv_78K hK] at b
          exact b.2
        have ea := aR28 K hK
        obtain ⟨cA, eA⟩ : ∃ cA : Nat → Int32, cA = fun i => m.1 (60 + 2 * K + 1) (f.toInt64 + ((2 : Int32) * nI i).toInt64).toInt.toNat := ⟨_, rfl⟩
        obtain ⟨cB, eB⟩ : ∃ cB : Nat → Int32, cB = fun i => m.1 (60 + 2 * K + 1) ((f.toInt64 + ((2 : Int32) * nI i).toInt64).toInt.toNat + 1) := ⟨_, rfl⟩
        obtain ⟨m1, r1, fr, s1⟩ := rc_loop (wS := wS) (d + 12) (V := V) hK (nI K) l f hn (mE := m) hs hN cA cB (fun i c z => by rw [eA]; show m.1 _ _ = _; rw [z, Int.toNat_natCast]) (fun i c z => by rw [eB]; show m.1 _ _ = _; rw [z, Int.toNat_natCast]) n' 0 (by omega) N (m.1 69) m 0 noV noV noV hC (Nat.le_refl _) (fun _ _ _ _ _ => rfl) rfl (Or.inl ⟨rfl, rfl⟩) (Or.inl rfl)
        have mo : ∀ o, 10 ≤ o → m1.1 o = m.1 o := fun o ho => by
          funext j
          exact fr o j (by omega) (by omega) (by omega)
        have m14 : m1.1 4 = m.1 4 := by
          funext j
          exact fr 4 j (by omega) (by omega) (by omega)
        have m16 : m1.1 1 6 = m.1 1 6 := fr 1 6 (by omega) (by omega) (by omega)
        obtain ⟨P, eP⟩ : ∃ P, P = setR m1 80 (fillR (m1.1 69) (m1.1 80) 63) := ⟨_, rfl⟩
        have po : ∀ o, o ≠ 80 → P.1 o = m1.1 o := fun o ho => by rw [eP, setR_n _ _ ho]
        have p80 : ∀ j, j < 63 → P.1 80 j = m.1 69 j := fun j hj => by
          rw [eP, setR_s, mo 69 (by omega)]
          unfold fillR
          rw [if_pos hj]
        have p9 : P.1 69 = m.1 69 := by rw [po 69 (by omega), mo 69 (by omega)]
        have p68 : P.1 68 = m.1 68 := by rw [po 68 (by omega), mo 68 (by omega)]
        have p77 : P.1 77 = m.1 77 := by rw [po 77 (by omega), mo 77 (by omega)]
        have p78 : P.1 78 = m.1 78 := by rw [po 78 (by omega), mo 78 (by omega)]
        have p79 : P.1 79 = m.1 79 := by rw [po 79 (by omega), mo 79 (by omega)]
        have ers : rsM P K l f = rsC m K l f := by
          funext i
          rw [rs_eq hS hK]
          unfold rsM
          rw [p77, p78]
        have cel : ¬ m.1 77 K = -4 → ∀ j, j < 40 → m.1 (60 + 2 * K + 1) j = m.1 79 (40 * K + j) := fun z => by
          rcases hS K hK with ⟨-, b⟩ | ⟨-, -, -, -, b⟩
          · exact absurd b z
          · exact b
        have pi : ∀ i : Nat, i ≤ 20 → (f.toInt64 + ((2 : Int32) * nI i).toInt64).toInt = f.toInt + 2 * (i : Int) := fun i hi => by
          have := p_i (f := f) (i := i) (j := 0) (by omega) (by omega)
          rw [show (nI 0).toInt64 = 0 from by decide, Int64.add_zero] at this
          omega
        obtain ⟨m2, r2, s2⟩ := rq_loop (wS := wS) (d + 12) hK l f hn hV (mE := P) (by rw [p78]; exact hs2) (by rw [p68]; exact h3) cA cB (fun i c i20 z c40 z4 => by
          rw [p77] at z4
          rw [eA, p79]
          show m.1 _ _ = _
          rw [pi i i20, z, Int.toNat_natCast]
          exact cel z4 c (by omega)) (fun i c i20 z c40 z4 => by
          rw [p77] at z4
          rw [eB, p79]
          show m.1 _ _ = _
          rw [pi i i20, z, Int.toNat_natCast]
          exact cel z4 (c + 1) (by omega)) n' 0 (by omega) N (m.1 69) P 0 noV noV p9 c38 hN (fun _ _ => rfl) (Or.inl rfl) (Or.inl (Or.inl rfl))
        rw [ers] at r2 s2
        generalize er : rdP V (rsC m K l f) cA cB n' 0 N (m.1 69) 0 = r at r1 s1 r2 s2
        refine ⟨rdA r, m1, m2, ?_, ?_, ?_⟩
        · simp only [EV, LV, CB, OI, OL, NP, CZ, popN, CT, OZ, List.map_nil, List.map_cons, List.sum_nil, List.sum_cons, Option.toList, List.nil_append, List.cons_append, Int.reduceToNat, Nat.reduceAdd, Nat.reduceLT, Nat.reduceLeDiff, List.length_cons, List.length_nil, Nat.zero_add, if_true, if_false, reduceIte, and_self, and_true, true_and, eq_self, reduceCtorEq, t_within wS (d + 28), q1, q2, q3, bI_t, not_false_eq_true, e10, r_X6_read_31, gP0, ea, gW WP1, c1]
          exact r1
        · have cp := rm_cp (semZ shP wS (d + 29)) m1 (m1.1 80) (nI K) l f (nI n') [noV, noV, noV, noV, noV] 63 0 rfl
          rw [fillR_0, setR_id, ← eP] at cp
          rw [se_X7_read, r_X7_read_0]
          simp only [EV, LV, CB, OI, OL, NP, CZ, popN, CT, OZ, List.map_nil, List.map_cons, List.sum_nil, List.sum_cons, Option.toList, List.nil_append, List.cons_append, Int.reduceToNat, Nat.reduceAdd, Nat.reduceLT, Nat.reduceLeDiff, List.length_cons, List.length_nil, Nat.zero_add, if_true, if_false, reduceIte, and_self, and_true, true_and, eq_self, reduceCtorEq, t_isSheet wS (d + 27), t_in wS (d + 28), d1, d2, d3, q1, q2, q3, Bool.and_self, bI_t, not_false_eq_true, e10, r_X7_read_23]
          refine Eq.trans cp ?_
          rw [r_X7_read_53]
          simp only [EV, LV, CB, OI, OL, NP, CZ, popN, CT, OZ, List.map_nil, List.map_cons, List.sum_nil, List.sum_cons, Option.toList, List.nil_append, List.cons_append, Int.reduceToNat, Nat.reduceAdd, Nat.reduceLT, Nat.reduceLeDiff, List.length_cons, List.length_nil, Nat.zero_add, if_true, if_false, reduceIte, and_self, and_true, true_and, eq_self, reduceCtorEq]
          exact r2
        · cases r with
          | inl i =>
            obtain ⟨a1, a2⟩ := s1
            obtain ⟨b1, b2⟩ := s2
            refine ⟨⟨N, Nat.le_refl _, LNow_g h0 (F := m.1 69) (fun j hj => by rw [b1 j (by omega), p80 j (by omega)]) (CW_kR hC fr a1) ⟨hA, hMB⟩ (by rw [m16]; exact h6) m14 (by rw [b2 68 (by omega), p68]) (fun o o1 o9 => by rw [b2 o (by omega), po o (by omega)])⟩, ?_, fun j j1 j2 => by rw [b1 j (by omega), p80 j (by omega)]⟩
            unfold LTo
            rw [b2 0 (by omega), po 0 (by omega), a2, b2 68 (by omega), p68]
            exact hT
          | inr y =>
            obtain ⟨a1, a2⟩ := s1
            obtain ⟨b1, b2, b3⟩ := s2
            obtain ⟨g1, g2, g3⟩ := rdP_at hV n' 0 N (m.1 69) 0 y hN hA er
            refine ⟨⟨y.2.2.1, g2, LNow_g h0 (F := y.2.2.2) (fun j hj => by rw [b1]) a1 ⟨g1, ⟨fun g hg => by rw [g3 _ (by omega)]; exact hMB.1 g hg, by rw [g3 39 (by omega)]; exact hMB.2.1, by rw [g3 40 (by omega)]; exact hMB.2.2⟩⟩ (by rw [m16, g3 43 (by omega)]; exact h6) m14 (by rw [b2, upd_n _ _ (by omega), p68]) (fun o o1 o9 => by rw [b3 o (by omega) (by omega), po o (by omega)])⟩, ?_, fun j j1 j2 => by rw [b1, g3 j (by omega)]⟩
            unfold LTo
            rw [b3 0 (by omega) (by omega), po 0 (by omega), a2, b2, upd_s]
theorem b_torn {m : Mm} (h : LTo m) : ∃ v m1 m2, semZ shP wS (d + 30) 97 [.ref 0] m = some (some (.int v), m1) ∧ semZ shP wS (d + 30) 183 [.ref 68] m1 = some (some (.int v), m2) ∧ m2 = m := by
  refine ⟨m.1 0 9, m, m, ?_, ?_, rfl⟩
  · rw [se_X6_torn, r_X6_torn_0]
    simp only [EV, LV, CB, OI, OL, NP, CZ, popN, CT, OZ, List.map_nil, List.map_cons, List.sum_nil, List.sum_cons, Option.toList, List.nil_append, List.cons_append, Int.reduceToNat, Nat.reduceAdd, Nat.reduceLT, Nat.reduceLeDiff, List.length_cons, List.length_nil, Nat.zero_add, if_true, if_false, reduceIte, and_self, and_true, true_and, eq_self, reduceCtorEq, gP0]
  · rw [h, se_X7_torn, r_X7_torn_0]
    simp only [EV, LV, CB, OI, OL, NP, CZ, popN, CT, OZ, List.map_nil, List.map_cons, List.sum_nil, List.sum_cons, Option.toList, List.nil_append, List.cons_append, Int.reduceToNat, Nat.reduceAdd, Nat.reduceLT, Nat.reduceLeDiff, List.length_cons, List.length_nil, Nat.zero_add, if_true, if_false, reduceIte, and_self, and_true, true_and, eq_self, reduceCtorEq, gM MP68]
end Rd
end
section
/-! QUERIES: what is read of the land -/
/-- the copy that the model begins with -/
theorem t_stM {wS : List Value → Mm → Option Rs} (d : Nat) (m : Mm) : ∃ P, semZ shP wS (d + 1) 123 [.ref 68] m = some (none, P) ∧ P.1 70 = fillR (m.1 69) (m.1 70) 63 ∧ (∀ i, i < 4 → P.1 74 i = nI i) ∧ ∀ o, o ≠ 70 → o ≠ 74 → P.1 o = m.1 o := by
  refine ⟨_, t_starts (wS := wS) d MP68 m, ?_, fun i hi => ?_, fun o a b => ?_⟩
  · rw [setR_n _ _ (by omega), setR_s]
  · show (setR _ (68 + 6) _).1 (68 + 6) i = nI i
    rw [setR_s]
    unfold fillR
    rw [if_pos hi]
  · rw [setR_n _ _ (by omega), setR_n _ _ (by omega)]
theorem fl_lo {f g : Nat → Int32} {j : Nat} (h : j < 63) : fillR f g 63 j = f j := by
  unfold fillR
  rw [if_pos h]
/-- of which way -/
def iwF (f : Nat → Int32) (x : Int32) : Nat → Nat → Int32 → Int32
  | 0, _, r => r
  | k + 1, b, r => iwF f x k (b + 1) (if f (8 + 5 * b + 4) = x then r ||| 1 <<< (nI b &&& 31) else r)
/-- who lies at g -/
def laF (f : Nat → Int32) (g : Int32) : Nat → Nat → Int32 → Int32
  | 0, _, r => r
  | k + 1, b, r => laF f g k (b + 1) (if f (8 + 5 * b + 4) = 0 ∧ f (8 + 5 * b + 1) = g then r ||| 1 <<< (nI b &&& 31) else r)
/-- what those that lie lack -/
def loF (f : Nat → Int32) : Nat → Nat → Int32 → Int32
  | 0, _, r => r
  | k + 1, b, r => loF f k (b + 1) (if f (8 + 5 * b + 4) = 0 then r + lk f b else r)
theorem iwF_e {f f' : Nat → Int32} (x : Int32) {N : Nat} (hf : ∀ j, j < 38 → f' j = f j) (hN : N ≤ 6) : ∀ k b r, b + k = N → iwF f' x k b r = iwF f x k b r := by
  intro k
  induction k with
  | zero => intro b r _; rfl
  | succ k ih =>
    intro b r hb
    unfold iwF
    rw [hf _ (by omega)]
    exact ih _ _ (by omega)
theorem laF_e {f f' : Nat → Int32} (x : Int32) {N : Nat} (hf : ∀ j, j < 38 → f' j = f j) (hN : N ≤ 6) : ∀ k b r, b + k = N → laF f' x k b r = laF f x k b r := by
  intro k
  induction k with
  | zero => intro b r _; rfl
  | succ k ih =>
    intro b r hb
    unfold laF
    rw [hf _ (by omega), hf _ (by omega)]
    exact ih _ _ (by omega)
theorem lk_e {f f' : Nat → Int32} (hf : ∀ j, j < 38 → f' j = f j) {b : Nat} (hb : b < 6) : lk f' b = lk f b := by
  unfold lk lkF lkM
  rw [hf _ (by omega), hf _ (by omega), hf _ (by omega)]
theorem loF_e {f f' : Nat → Int32} {N : Nat} (hf : ∀ j, j < 38 → f' j = f j) (hN : N ≤ 6) : ∀ k b r, b + k = N → loF f' k b r = loF f k b r := by
  intro k
  induction k with
  | zero => intro b r _; rfl
  | succ k ih =>
    intro b r hb
    unfold loF
    rw [hf _ (by omega), lk_e hf (by omega)]
    exact ih _ _ (by omega)
theorem smM_e {f f' : Nat → Int32} {V : Nat} (hf : ∀ j, j < 38 → f' j = f j) (hV : V ≤ 4) : ∀ k g s, g + k = V → smM f' k g s = smM f k g s := by
  intro k
  induction k with
  | zero => intro g s _; rfl
  | succ k ih =>
    intro g s hb
    unfold smM
    rw [hf _ (by omega)]
    exact ih _ _ (by omega)
section Qc
variable {w V N : Nat} {f : Nat → Int32} {m : Mm} (wS : List Value → Mm → Option Rs) (d : Nat)
theorem t_iwC_l (hw : WSh shP w) (h : CW w V N f m) (x : Int32) : ∀ k b r, b + k = N → rn shP tb0 mN mO (semZ shP wS d) (some .int) (codeZ 34) 4 [.ref w, .int x, .int r, .int (nI b)] [] m = some (some (.int (iwF f x k b r)), m) := by
  have hN := h.2.1
  have c1 := h.2.2.2.1
  intro k
  induction k with
  | zero =>
    intro b r hb
    have e1 : nI N ≤ nI b := nI_le (by omega) (by omega)
    rw [r_X5_inWay_4]
    simp only [EV, LV, CB, OI, OL, NP, CZ, popN, CT, OZ, List.map_nil, List.map_cons, List.sum_nil, List.sum_cons, Option.toList, List.nil_append, List.cons_append, Int.reduceToNat, Nat.reduceAdd, Nat.reduceLT, Nat.reduceLeDiff, List.length_cons, List.length_nil, Nat.zero_add, if_true, if_false, reduceIte, and_self, and_true, true_and, eq_self, reduceCtorEq, gW hw, c1, e1, r_X5_inWay_34]
    rfl
  | succ k ih =>
    intro b r hb
    have e1 : ¬ nI N ≤ nI b := nI_ge (by omega) (by omega)
    have e2 : inR (nI b) 6 = true := inR_nI (by omega) (by omega)
    have e3 : (nI b).toNatClampNeg = b := nI_clamp (by omega)
    obtain ⟨-, -, -, -, b5⟩ := h.2.2.2.2.2.2.2.2.2.2 b (by omega)
    rw [r_X5_inWay_4]
    unfold iwF
    by_cases q : f (8 + 5 * b + 4) = x
    · rw [if_pos q]
      simp only [EV, LV, CB, OI, OL, NP, CZ, popN, CT, OZ, List.map_nil, List.map_cons, List.sum_nil, List.sum_cons, Option.toList, List.nil_append, List.cons_append, Int.reduceToNat, Nat.reduceAdd, Nat.reduceLT, Nat.reduceLeDiff, List.length_cons, List.length_nil, Nat.zero_add, if_true, if_false, reduceIte, and_self, and_true, true_and, eq_self, reduceCtorEq, gW hw, aW hw, c1, e1, e2, e3, b5, q, not_true_eq_false, nI_1]
      exact ih (b + 1) _ (by omega)
    · rw [if_neg q]
      simp only [EV, LV, CB, OI, OL, NP, CZ, popN, CT, OZ, List.map_nil, List.map_cons, List.sum_nil, List.sum_cons, Option.toList, List.nil_append, List.cons_append, Int.reduceToNat, Nat.reduceAdd, Nat.reduceLT, Nat.reduceLeDiff, List.length_cons, List.length_nil, Nat.zero_add, if_true, if_false, reduceIte, and_self, and_true, true_and, eq_self, reduceCtorEq, gW hw, aW hw, c1, e1, e2, e3, b5, q, not_false_eq_true, r_X5_inWay_28, nI_1]
      exact ih (b + 1) _ (by omega)
theorem t_iwC (hw : WSh shP w) (h : CW w V N f m) (x : Int32) : semZ shP wS (d + 1) 34 [.ref w, .int x] m = some (some (.int (iwF f x N 0 0)), m) := by
  have i := t_iwC_l wS d hw h x N 0 0 (by omega)
  rw [nI_0] at i
  rw [se_X5_inWay, r_X5_inWay_0]
  simp only [EV, LV, CB, OI, OL, NP, CZ, popN, CT, OZ, List.map_nil, List.map_cons, List.sum_nil, List.sum_cons, Option.toList, List.nil_append, List.cons_append, Int.reduceToNat, Nat.reduceAdd, Nat.reduceLT, Nat.reduceLeDiff, List.length_cons, List.length_nil, Nat.zero_add, if_true, if_false, reduceIte, and_self, and_true, true_and, eq_self, reduceCtorEq]
  exact i
theorem t_laC_l (hw : WSh shP w) (h : CW w V N f m) (x : Int32) : ∀ k b r, b + k = N → rn shP tb0 mN mO (semZ shP wS d) (some .int) (codeZ 35) 4 [.ref w, .int x, .int r, .int (nI b)] [] m = some (some (.int (laF f x k b r)), m) := by
  have hN := h.2.1
  have c1 := h.2.2.2.1
  intro k
  induction k with
  | zero =>
    intro b r hb
    have e1 : nI N ≤ nI b := nI_le (by omega) (by omega)
    rw [r_X5_lyingAt_4]
    simp only [EV, LV, CB, OI, OL, NP, CZ, popN, CT, OZ, List.map_nil, List.map_cons, List.sum_nil, List.sum_cons, Option.toList, List.nil_append, List.cons_append, Int.reduceToNat, Nat.reduceAdd, Nat.reduceLT, Nat.reduceLeDiff, List.length_cons, List.length_nil, Nat.zero_add, if_true, if_false, reduceIte, and_self, and_true, true_and, eq_self, reduceCtorEq, gW hw, c1, e1, r_X5_lyingAt_43]
    rfl
  | succ k ih =>
    intro b r hb
    have e1 : ¬ nI N ≤ nI b := nI_ge (by omega) (by omega)
    have e2 : inR (nI b) 6 = true := inR_nI (by omega) (by omega)
    have e3 : (nI b).toNatClampNeg = b := nI_clamp (by omega)
    obtain ⟨-, b2, -, -, b5⟩ := h.2.2.2.2.2.2.2.2.2.2 b (by omega)
    rw [r_X5_lyingAt_4]
    unfold laF
    by_cases p : f (8 + 5 * b + 1) = x
    · by_cases q : f (8 + 5 * b + 4) = 0
      · rw [if_pos ⟨q, p⟩]
        simp only [EV, LV, CB, OI, OL, NP, CZ, popN, CT, OZ, List.map_nil, List.map_cons, List.sum_nil, List.sum_cons, Option.toList, List.nil_append, List.cons_append, Int.reduceToNat, Nat.reduceAdd, Nat.reduceLT, Nat.reduceLeDiff, List.length_cons, List.length_nil, Nat.zero_add, if_true, if_false, reduceIte, and_self, and_true, true_and, eq_self, reduceCtorEq, gW hw, aW hw, c1, e1, e2, e3, b2, b5, q, p, not_true_eq_false, nI_1]
        exact ih (b + 1) _ (by omega)
      · rw [if_neg (fun z => q z.1)]
        simp only [EV, LV, CB, OI, OL, NP, CZ, popN, CT, OZ, List.map_nil, List.map_cons, List.sum_nil, List.sum_cons, Option.toList, List.nil_append, List.cons_append, Int.reduceToNat, Nat.reduceAdd, Nat.reduceLT, Nat.reduceLeDiff, List.length_cons, List.length_nil, Nat.zero_add, if_true, if_false, reduceIte, and_self, and_true, true_and, eq_self, reduceCtorEq, gW hw, aW hw, c1, e1, e2, e3, b2, b5, q, p, not_true_eq_false, not_false_eq_true, r_X5_lyingAt_37, nI_1]
        exact ih (b + 1) _ (by omega)
    · rw [if_neg (fun z => p z.2)]
      simp only [EV, LV, CB, OI, OL, NP, CZ, popN, CT, OZ, List.map_nil, List.map_cons, List.sum_nil, List.sum_cons, Option.toList, List.nil_append, List.cons_append, Int.reduceToNat, Nat.reduceAdd, Nat.reduceLT, Nat.reduceLeDiff, List.length_cons, List.length_nil, Nat.zero_add, if_true, if_false, reduceIte, and_self, and_true, true_and, eq_self, reduceCtorEq, gW hw, aW hw, c1, e1, e2, e3, b2, p, not_false_eq_true, r_X5_lyingAt_37, nI_1]
      exact ih (b + 1) _ (by omega)
theorem t_laC (hw : WSh shP w) (h : CW w V N f m) (x : Int32) : semZ shP wS (d + 1) 35 [.ref w, .int x] m = some (some (.int (laF f x N 0 0)), m) := by
  have i := t_laC_l wS d hw h x N 0 0 (by omega)
  rw [nI_0] at i
  rw [se_X5_lyingAt, r_X5_lyingAt_0]
  simp only [EV, LV, CB, OI, OL, NP, CZ, popN, CT, OZ, List.map_nil, List.map_cons, List.sum_nil, List.sum_cons, Option.toList, List.nil_append, List.cons_append, Int.reduceToNat, Nat.reduceAdd, Nat.reduceLT, Nat.reduceLeDiff, List.length_cons, List.length_nil, Nat.zero_add, if_true, if_false, reduceIte, and_self, and_true, true_and, eq_self, reduceCtorEq]
  exact i
theorem t_loC_l (hw : WSh shP w) (h : CW w V N f m) (ha : Atf V N f) : ∀ k b r, b + k = N → rn shP tb0 mN mO (semZ shP wS (d + 1)) (some .int) (codeZ 33) 4 [.ref w, .int r, .int (nI b)] [] m = some (some (.int (loF f k b r)), m) := by
  have hN := h.2.1
  have c1 := h.2.2.2.1
  intro k
  induction k with
  | zero =>
    intro b r hb
    have e1 : nI N ≤ nI b := nI_le (by omega) (by omega)
    rw [r_X5_lacksOfLying_4]
    simp only [EV, LV, CB, OI, OL, NP, CZ, popN, CT, OZ, List.map_nil, List.map_cons, List.sum_nil, List.sum_cons, Option.toList, List.nil_append, List.cons_append, Int.reduceToNat, Nat.reduceAdd, Nat.reduceLT, Nat.reduceLeDiff, List.length_cons, List.length_nil, Nat.zero_add, if_true, if_false, reduceIte, and_self, and_true, true_and, eq_self, reduceCtorEq, gW hw, c1, e1, r_X5_lacksOfLying_35]
    rfl
  | succ k ih =>
    intro b r hb
    have e1 : ¬ nI N ≤ nI b := nI_ge (by omega) (by omega)
    have e2 : inR (nI b) 6 = true := inR_nI (by omega) (by omega)
    have e3 : (nI b).toNatClampNeg = b := nI_clamp (by omega)
    have tl := t_lacksC wS d hw h ha (show b < N by omega)
    obtain ⟨-, -, -, -, b5⟩ := h.2.2.2.2.2.2.2.2.2.2 b (by omega)
    rw [r_X5_lacksOfLying_4]
    unfold loF
    by_cases q : f (8 + 5 * b + 4) = 0
    · rw [if_pos q]
      simp only [EV, LV, CB, OI, OL, NP, CZ, popN, CT, OZ, List.map_nil, List.map_cons, List.sum_nil, List.sum_cons, Option.toList, List.nil_append, List.cons_append, Int.reduceToNat, Nat.reduceAdd, Nat.reduceLT, Nat.reduceLeDiff, List.length_cons, List.length_nil, Nat.zero_add, if_true, if_false, reduceIte, and_self, and_true, true_and, eq_self, reduceCtorEq, gW hw, aW hw, c1, e1, e2, e3, b5, q, tl, not_true_eq_false, nI_1]
      exact ih (b + 1) _ (by omega)
    · rw [if_neg q]
      simp only [EV, LV, CB, OI, OL, NP, CZ, popN, CT, OZ, List.map_nil, List.map_cons, List.sum_nil, List.sum_cons, Option.toList, List.nil_append, List.cons_append, Int.reduceToNat, Nat.reduceAdd, Nat.reduceLT, Nat.reduceLeDiff, List.length_cons, List.length_nil, Nat.zero_add, if_true, if_false, reduceIte, and_self, and_true, true_and, eq_self, reduceCtorEq, gW hw, aW hw, c1, e1, e2, e3, b5, q, not_false_eq_true, r_X5_lacksOfLying_29, nI_1]
      exact ih (b + 1) _ (by omega)
theorem t_loC (hw : WSh shP w) (h : CW w V N f m) (ha : Atf V N f) : semZ shP wS (d + 2) 33 [.ref w] m = some (some (.int (loF f N 0 0)), m) := by
  have i := t_loC_l wS d hw h ha N 0 0 (by omega)
  rw [nI_0] at i
  rw [se_X5_lacksOfLying, r_X5_lacksOfLying_0]
  simp only [EV, LV, CB, OI, OL, NP, CZ, popN, CT, OZ, List.map_nil, List.map_cons, List.sum_nil, List.sum_cons, Option.toList, List.nil_append, List.cons_append, Int.reduceToNat, Nat.reduceAdd, Nat.reduceLT, Nat.reduceLeDiff, List.length_cons, List.length_nil, Nat.zero_add, if_true, if_false, reduceIte, and_self, and_true, true_and, eq_self, reduceCtorEq]
  exact i
end Qc
section Qm
variable {V N : Nat} {m : Mm} (wS : List Value → Mm → Option Rs) (d : Nat)
theorem t_iwM_l (hN : N ≤ 6) (h38 : m.1 70 38 = nI N) (x : Int32) : ∀ k b r, b + k = N → rn shP tb0 mN mO (semZ shP wS (d + 1)) (some .int) (codeZ 136) 4 [.ref 68, .int x, .int r, .int (nI b)] [] m = some (some (.int (iwF (m.1 70) x k b r)), m) := by
  intro k
  induction k with
  | zero =>
    intro b r hb
    have e1 : nI N ≤ nI b := nI_le (by omega) (by omega)
    rw [r_X7_inWay_4]
    simp only [EV, LV, CB, OI, OL, NP, CZ, popN, CT, OZ, List.map_nil, List.map_cons, List.sum_nil, List.sum_cons, Option.toList, List.nil_append, List.cons_append, Int.reduceToNat, Nat.reduceAdd, Nat.reduceLT, Nat.reduceLeDiff, List.length_cons, List.length_nil, Nat.zero_add, if_true, if_false, reduceIte, and_self, and_true, true_and, eq_self, reduceCtorEq, gM MP68, aM MP68, in63, h38, e1, r_X7_inWay_44]
    rfl
  | succ k ih =>
    intro b r hb
    have e1 : ¬ nI N ≤ nI b := nI_ge (by omega) (by omega)
    have o4 := t_ofM wS d (show b < 6 by omega) (K := 4) (by omega) m
    have o4 : semZ shP wS (d + 1) 125 [.ref 68, .int (nI b), .int 4] m = some (some (.int (m.1 70 (8 + 5 * b + 4))), m) := o4
    rw [r_X7_inWay_4]
    unfold iwF
    by_cases q : m.1 70 (8 + 5 * b + 4) = x
    · rw [if_pos q]
      simp only [EV, LV, CB, OI, OL, NP, CZ, popN, CT, OZ, List.map_nil, List.map_cons, List.sum_nil, List.sum_cons, Option.toList, List.nil_append, List.cons_append, Int.reduceToNat, Nat.reduceAdd, Nat.reduceLT, Nat.reduceLeDiff, List.length_cons, List.length_nil, Nat.zero_add, if_true, if_false, reduceIte, and_self, and_true, true_and, eq_self, reduceCtorEq, gM MP68, aM MP68, in63, h38, e1, o4, q, not_true_eq_false, r_X7_inWay_31, t_flag1 wS d, nI_1]
      exact ih (b + 1) _ (by omega)
    · rw [if_neg q]
      simp only [EV, LV, CB, OI, OL, NP, CZ, popN, CT, OZ, List.map_nil, List.map_cons, List.sum_nil, List.sum_cons, Option.toList, List.nil_append, List.cons_append, Int.reduceToNat, Nat.reduceAdd, Nat.reduceLT, Nat.reduceLeDiff, List.length_cons, List.length_nil, Nat.zero_add, if_true, if_false, reduceIte, and_self, and_true, true_and, eq_self, reduceCtorEq, gM MP68, aM MP68, in63, h38, e1, o4, q, not_false_eq_true, r_X7_inWay_30, t_flag0 wS d, or_sh0, nI_1]
      exact ih (b + 1) _ (by omega)
theorem t_iwM (hN : N ≤ 6) (h38 : m.1 70 38 = nI N) (x : Int32) : semZ shP wS (d + 2) 136 [.ref 68, .int x] m = some (some (.int (iwF (m.1 70) x N 0 0)), m) := by
  have i := t_iwM_l wS d hN h38 x N 0 0 (by omega)
  rw [nI_0] at i
  rw [se_X7_inWay, r_X7_inWay_0]
  simp only [EV, LV, CB, OI, OL, NP, CZ, popN, CT, OZ, List.map_nil, List.map_cons, List.sum_nil, List.sum_cons, Option.toList, List.nil_append, List.cons_append, Int.reduceToNat, Nat.reduceAdd, Nat.reduceLT, Nat.reduceLeDiff, List.length_cons, List.length_nil, Nat.zero_add, if_true, if_false, reduceIte, and_self, and_true, true_and, eq_self, reduceCtorEq]
  exact i
end Qm
theorem i189 : inR 38 189 = true ∧ (38 : Int32).toNatClampNeg = 38 ∧ inR 39 189 = true ∧ (39 : Int32).toNatClampNeg = 39 ∧ inR 40 189 = true ∧ (40 : Int32).toNatClampNeg = 40 ∧ inR 41 189 = true ∧ (41 : Int32).toNatClampNeg = 41 ∧ inR 42 189 = true ∧ (42 : Int32).toNatClampNeg = 42 ∧ inR 43 189 = true ∧ (43 : Int32).toNatClampNeg = 43 ∧ inR 44 189 = true ∧ (44 : Int32).toNatClampNeg = 44 := by decide +kernel
/-- one of 0 to N, or none -/
theorem sw_or {x : Int32} (n : Nat) (hn : n < 100) : (∃ k, k ≤ n ∧ x = nI k) ∨ (decide (0 ≤ x) && decide (x ≤ nI n)) = false := by
  cases h : (decide (0 ≤ x) && decide (x ≤ nI n)) with
  | false => exact Or.inr rfl
  | true => exact Or.inl (in_nI (by omega) h)
theorem sw_out {d n : Int} {offs : Array Int} {x : Int32} {k : Nat} (hk : k < 2 ^ 31) (hn : n = (k : Int)) (h : (decide (0 ≤ x) && decide (x ≤ nI k)) = false) : swT d 0 n offs x = d.toNat := by
  unfold swT
  have : x.toInt < 0 ∨ n < x.toInt := by
    rw [Bool.and_eq_false_iff, decide_eq_false_iff_not, decide_eq_false_iff_not, Int32.le_iff_toInt_le, Int32.le_iff_toInt_le, nI_toInt hk, show (0 : Int32).toInt = 0 from by decide] at h
    omega
  rw [if_pos this]
end
section
/-! QUERIES: a copy of the land runs on -/
variable {kb : Nat}
def SpF (m m' : Mm) : Prop := ∀ o, o < 10 ∨ 18 < o → m'.1 o = m.1 o
theorem SpF_rf {m : Mm} : SpF m m := fun _ _ => rfl
theorem SpF_tr {m m1 m2 : Mm} (h : SpF m m1) (h2 : SpF m1 m2) : SpF m m2 := fun o ho => (h2 o ho).trans (h o ho)
theorem SpF_w {m m1 : Mm} (h : SpF m m1) {o : Nat} (j : Nat) (x : Int32) (h1 : 10 ≤ o) (h2 : o ≤ 18) : SpF m (wI m1 o j x) := fun q hq => by
  rw [wI_n _ _ _ _ (by omega)]
  exact h q hq
def CQ (V N : Nat) (F : Nat → Int32) (m : Mm) : Prop := CW 1 V N F m ∧ ∀ j, j < 4 → m.1 4 j = nI j
theorem CQ_s {V N : Nat} {F : Nat → Int32} {m m' : Mm} (h : CQ V N F m) (hs : SpF m m') : CQ V N F m' := ⟨CW_e h.1 (fun _ _ => rfl) (fun o j a b _ => by rw [hs o (by omega)]), fun j hj => by rw [hs 4 (by omega)]; exact h.2 j hj⟩
/-- what was paid in n nights -/
def pd (V N n : Nat) (f : Nat → Int32) : Int32 := smM f V 0 0 - smM (nsF V N id n f 0) V 0 0
def MQr (V : Nat) (G T : Nat → Int32) (M : Mm) : Prop := M.1 68 3 = nI V ∧ M.1 69 = G ∧ ∀ j, 63 ≤ j → M.1 70 j = T j
theorem id_lt {V : Nat} : ∀ i, i < V → id i < V := fun i hi => hi
theorem ns38 {V N : Nat} {t : Nat → Nat} (ht : ∀ i, i < V → t i < V) (hV : V ≤ 4) (hN : N ≤ 6) {j : Nat} (hj : 38 ≤ j) (h2 : j ≠ 42) (h3 : j ≠ 43) : ∀ n f r, AtB kb V N f → nsF V N t n f r j = f j := by
  intro n
  induction n with
  | zero => intro f r _; rfl
  | succ n ih =>
    intro f r ha
    have na := ng_at ht hV hN r ha
    unfold nsF
    rw [ih _ _ na.1]
    exact na.2.1 j hj h2 h3
section Qq
variable {wS : List Value → Mm → Option Rs} (d : Nat) {V N : Nat} {F G T : Nat → Int32} {m M : Mm}
/-- the spare world as a copy -/
theorem c_from (h : CQ V N F m) : ∃ m', semZ shP wS (d + 2) 100 [.ref 0] m = some (some (.ref 10), m') ∧ CW 10 V N F m' ∧ m'.1 10 6 = 0 ∧ m'.1 10 7 = 0 ∧ (∀ i, i < 4 → m'.1 13 i = nI i) ∧ SpF m m' := by
  obtain ⟨m1, r1, a0, a1, a2, a3, a4, a5, a6, a7, a8, aF⟩ := t_becomeW wS d WP10 WP1 (Or.inl (by omega)) m
  have c1 : CW 10 V N F m1 := CW_c h.1 a0 a1 a2 a4 a5 a6 a7 a8
  refine ⟨wI (wI m1 10 6 0) 10 7 0, ?_, CW_6 (CW_6 c1 (j := 6) (by omega) 0) (j := 7) (by omega) 0, ?_, wI_s _ _ _ _, fun i hi => ?_, SpF_w (SpF_w (fun o ho => aF o (by omega)) _ _ (by omega) (by omega)) _ _ (by omega) (by omega)⟩
  · rw [se_X6_fromNow, r_X6_fromNow_0]
    simp only [EV, LV, CB, OI, OL, NP, CZ, popN, CT, OZ, List.map_nil, List.map_cons, List.sum_nil, List.sum_cons, Option.toList, List.nil_append, List.cons_append, Int.reduceToNat, Nat.reduceAdd, Nat.reduceLT, Nat.reduceLeDiff, List.length_cons, List.length_nil, Nat.zero_add, if_true, if_false, reduceIte, and_self, and_true, true_and, eq_self, reduceCtorEq, gP0, gW WP10, gW WP1, pW WP10, r1]
  · rw [wI_j _ _ _ _ _ (by omega), wI_s]
  · rw [wI_n _ _ _ _ (by omega), wI_n _ _ _ _ (by omega)]
    exact (a3 i hi).trans (h.2 i hi)
theorem c_pass {f : Nat → Int32} (hC : CW 10 V N f m) (hA : AtB kb V N f) (hr : 0 < f 41) (h6 : m.1 10 6 = 0) (h7 : m.1 10 7 = 0) (hT : ∀ i, i < 4 → m.1 13 i = nI i) {n : Nat} (hn : n < 2 ^ 31) : ∃ m', semZ shP wS (d + 4) 37 [.ref 10, .int (nI n)] m = some (some (.int (pd V N n f)), m') ∧ CW 10 V N (nsF V N id n f 0) m' ∧ m'.1 10 7 = nsC V N id n f 0 0 ∧ m'.1 10 6 = nsR V N id n f 0 ∧ SpF m m' ∧ AtB kb V N (nsF V N id n f 0) := by
  have hV := hC.1
  obtain ⟨m1, r1, k1, k7, k6, kF, kA⟩ := t_passC wS d WP10 (t := id) id_lt hn hC hA (fun i hi => hT i (by omega)) hr 0
  refine ⟨m1, r1, k1, by rw [k7, h7], by rw [k6, h6]; exact nsQ_0 V N id n f 0, fun o ho => kF.1 o (by omega), kA⟩
theorem m_start (h : MQr V G T M) : ∃ P, semZ shP wS (d + 1) 123 [.ref 68] M = some (none, P) ∧ P.1 70 = fillR G T 63 ∧ (∀ i, i < 4 → P.1 74 i = nI i) ∧ MQr V G T P := by
  obtain ⟨P, ts, p70, p74, po⟩ := t_stM (wS := wS) d M
  have e : P.1 70 = fillR G T 63 := by
    rw [p70, h.2.1]
    funext j
    unfold fillR
    split
    · rfl
    · exact h.2.2 j (by omega)
  refine ⟨P, ts, e, p74, by rw [po 68 (by omega) (by omega)]; exact h.1, by rw [po 69 (by omega) (by omega)]; exact h.2.1, fun j hj => ?_⟩
  rw [e]
  unfold fillR
  rw [if_neg (by omega)]
theorem m_paid (h : MQr V G T M) (hV : V ≤ 4) (hN : N ≤ 6) (h38 : M.1 70 38 = nI N) (hA : AtB kb V N (M.1 70)) (h74 : ∀ i, i < 4 → M.1 74 i = nI i) (hr : 0 < M.1 70 41) {n : Nat} (hn : n < 2 ^ 31) : ∃ P, semZ shP wS (d + 6) 135 [.ref 68, .int (nI n)] M = some (some (.int (pd V N n (M.1 70))), P) ∧ P.1 70 = nsF V N id n (M.1 70) 0 ∧ P.1 68 17 = nsC V N id n (M.1 70) 0 0 ∧ P.1 68 18 = nsR V N id n (M.1 70) 0 ∧ MQr V G T P := by
  obtain ⟨P, r2, g70, g17, g18, gF⟩ := t_paidM wS d (t := id) hV hN id_lt hn h.1 h38 hA (fun i hi => h74 i (by omega)) hr
  refine ⟨P, r2, g70, g17, g18, by rw [gF.2.1 3 (by omega) (by omega)]; exact h.1, by rw [gF.1 69 (by omega) (by omega)]; exact h.2.1, fun j hj => ?_⟩
  rw [g70, nsF_o id_lt hV hN (by omega) n _ 0 hA]
  exact h.2.2 j hj
/-- paidWith -/
theorem m_with {f : Nat → Int32} (h : MQr V G T M) (hV : V ≤ 4) (hN : N ≤ 6) {c : Nat} (hc : c < 63) (v : Int32) (ef : f = upd (fillR G T 63) c v) (h38 : f 38 = nI N) (hA : AtB kb V N f) (hr : 0 < f 41) {n : Nat} (hn : n < 2 ^ 31) : ∃ P, semZ shP wS (d + 7) 154 [.ref 68, .int (nI c), .int v, .int (nI n)] M = some (some (.int (pd V N n f)), P) ∧ P.1 70 = nsF V N id n f 0 ∧ P.1 68 17 = nsC V N id n f 0 0 ∧ P.1 68 18 = nsR V N id n f 0 ∧ MQr V G T P := by
  obtain ⟨P, ts, p70, p74, pQ⟩ := m_start (wS := wS) (d + 5) h
  have ts : semZ shP wS (d + 6) 123 [.ref 68] M = some (none, P) := ts
  obtain ⟨Q, eQ⟩ : ∃ Q, Q = wI P 70 c v := ⟨_, rfl⟩
  have q70 : Q.1 70 = f := by rw [eQ, wI_r, p70, ef]
  have qQ : MQr V G T Q := ⟨by rw [eQ, wI_n _ _ _ _ (by omega)]; exact pQ.1, by rw [eQ, wI_n _ _ _ _ (by omega)]; exact pQ.2.1, fun j hj => by rw [eQ, wI_j _ _ _ _ _ (by omega)]; exact pQ.2.2 j hj⟩
  obtain ⟨R, r2, g70, g17, g18, gQ⟩ := m_paid (wS := wS) d qQ hV hN (by rw [q70]; exact h38) (by rw [q70]; exact hA) (fun i hi => by rw [eQ, wI_n _ _ _ _ (by omega)]; exact p74 i hi) (by rw [q70]; exact hr) hn
  rw [q70] at r2 g70 g17 g18
  refine ⟨R, ?_, g70, g17, g18, gQ⟩
  have e1 : inR (nI c) 63 = true := inR_nI (by omega) (by omega)
  have e2 : (nI c).toNatClampNeg = c := nI_clamp (by omega)
  rw [se_X7_paidWith, r_X7_paidWith_0]
  simp only [EV, LV, CB, OI, OL, NP, CZ, popN, CT, OZ, List.map_nil, List.map_cons, List.sum_nil, List.sum_cons, Option.toList, List.nil_append, List.cons_append, Int.reduceToNat, Nat.reduceAdd, Nat.reduceLT, Nat.reduceLeDiff, List.length_cons, List.length_nil, Nat.zero_add, if_true, if_false, reduceIte, and_self, and_true, true_and, eq_self, reduceCtorEq, gM MP68, sM MP68, ts, e1, e2, ← eQ, r2]
theorem q_init (hI : InvT TV m) (h : LNow V N m) : ∃ F, F = fillR (m.1 69) (m.1 70) 63 ∧ (∀ j, j < 63 → F j = m.1 69 j) ∧ CQ V N F m ∧ Atf V N F ∧ 0 < F 41 ∧ F 38 = nI N ∧ ∀ m1, SpF m m1 → MQr V (m.1 69) (m.1 70) m1 := by
  obtain ⟨h3, hC, h6, hT, hA, hMB⟩ := h
  have e : ∀ j, j < 63 → fillR (m.1 69) (m.1 70) 63 j = m.1 69 j := fun j hj => fl_lo hj
  refine ⟨_, rfl, e, ⟨CW_e hC (fun j hj => e j (by omega)) (fun _ _ _ _ _ => rfl), hT⟩, Atf_e hA hC.2.1 (fun j hj => e j (by omega)), by rw [e 41 (by omega)]; exact r41 hI, by rw [e 38 (by omega)]; exact hC.2.2.2.2.1, fun m1 hs => ⟨by rw [hs 68 (by omega)]; exact h3, by rw [hs 69 (by omega)], fun j _ => by rw [hs 70 (by omega)]⟩⟩
end Qq
end
section
/-! drift of both -/
def dfS (s : Int32) : Int32 := s * 1103515245 + 12345
def dfG (s : Int32) : Int32 := s >>> (16 &&& 31) &&& 32767
def dfI (V : Nat) (s : Int32) : Int32 := dfG s - dfG s / nI V * nI V
def dfW (s : Int32) : Int32 := dfG s / 8 - dfG s / 8 / 10 * 10
def dfU (V : Nat) (f : Nat → Int32) (s : Int32) : Nat → Int32 := upd f (2 * (dfI V s).toNatClampNeg + 1) (dfW s)
def dfF (V N : Nat) : Nat → Int32 → (Nat → Int32) → Int32 → Nat → Int32
  | 0, _, f, _ => f
  | k + 1, s, f, r => dfF V N k (dfS s) (ngF V N id (dfU V f (dfS s)) r) (ngR V N id (dfU V f (dfS s)) r)
theorem dfI_lt {V : Nat} (hV : V ≤ 4) (h0 : 0 < V) (s : Int32) : ∃ e, e < V ∧ dfI V s = nI e ∧ (dfI V s).toNatClampNeg = e := by
  have hg := and_i (x := s >>> (16 &&& 31)) (y := 32767) (by decide)
  have hg1 : 0 ≤ (dfG s).toInt := hg.1
  have hy : 0 < (nI V).toInt := by rw [nI_toInt (by omega)]; omega
  have e := rem_i (x := dfG s) hy
  rw [nI_toInt (by omega)] at e
  have q1 := Int.tmod_lt_of_pos (dfG s).toInt (b := (V : Int)) (by omega)
  have q2 := Int.tmod_nonneg (a := (dfG s).toInt) (V : Int) hg1
  have e2 : (dfI V s).toInt = (dfG s).toInt.tmod V := e
  obtain ⟨e, he⟩ : ∃ e : Nat, (dfI V s).toInt = e := ⟨(dfI V s).toInt.toNat, by omega⟩
  have e3 : dfI V s = nI e := by
    have := i_nI (y := dfI V s) (by omega)
    rw [he, Int.toNat_natCast] at this
    exact this
  exact ⟨e, by omega, e3, by rw [e3]; exact nI_clamp (by omega)⟩
theorem sb_sb (a b c : Int32) : a - b + (b - c) = a - c := by
  rw [Int32.sub_eq_add_neg, Int32.sub_eq_add_neg, Int32.sub_eq_add_neg, Int32.add_assoc, ← Int32.add_assoc (-b) b (-c), Int32.add_left_neg, Int32.zero_add]
theorem smM_u {f : Nat → Int32} {V : Nat} {e : Nat} (v : Int32) : ∀ k g s, smM (upd f (2 * e + 1) v) k g s = smM f k g s := by
  intro k
  induction k with
  | zero => intro g s; rfl
  | succ k ih =>
    intro g s
    unfold smM
    rw [upd_n _ _ (by omega)]
    exact ih _ _
theorem nI_ne {V : Nat} (hV : V ≤ 4) (h0 : 0 < V) : ¬ nI V = (0 : Int32) := nI_ne0 h0 (by omega)
section Qx
variable {kb : Nat} {wS : List Value → Mm → Option Rs} (d : Nat) {V N : Nat} {F G T : Nat → Int32} {m M : Mm}
theorem At_g (hA : AtB kb V N F) {e : Nat} (he : e < 4) (v : Int32) : AtB kb V N (upd F (2 * e + 1) v) := Atf_u hA v (fun b _ => by omega)
theorem df_C (hV : V ≤ 4) (h0 : 0 < V) (s0 x A : Int32) {n : Nat} (hn : n ≤ 60) : ∀ k i f s r m (v8 : Value), i + k = n → (v8 = noV ∨ ∃ y : Int32, v8 = .int y) → CW 10 V N f m → Atf V N f → (∀ j, j < 4 → m.1 13 j = nI j) → 0 < f 41 → ∃ m', rn shP tb0 mN mO (semZ shP wS (d + 4)) (some .int) (codeZ 91) 49 [.ref 0, .int s0, .int (nI n), .int x, .ref 10, .int (A - smM f V 0 0), .int s, .int (nI i), v8] [] m = some (some (.int (if x = 0 then A - smM (dfF V N k s f r) V 0 0 else iwF (dfF V N k s f r) 2 N 0 0)), m') ∧ SpF m m' := by
  intro k
  induction k with
  | zero =>
    intro i f s r m v8 hi h8 hC hA hT hr
    have ei : i = n := by omega
    subst ei
    have e1 : nI i ≤ nI i := Int32.le_refl _
    have tc : semZ shP wS (d + 4) 34 [.ref 10, .int 2] m = some (some (.int (iwF f 2 N 0 0)), m) := t_iwC wS (d + 3) WP10 hC 2
    refine ⟨m, ?_, SpF_rf⟩
    rw [r_X6_drift_49]
    unfold dfF
    by_cases hx : x = 0
    · simp only [EV, LV, CB, OI, OL, NP, CZ, popN, CT, OZ, List.map_nil, List.map_cons, List.sum_nil, List.sum_cons, Option.toList, List.nil_append, List.cons_append, Int.reduceToNat, Nat.reduceAdd, Nat.reduceLT, Nat.reduceLeDiff, List.length_cons, List.length_nil, Nat.zero_add, if_true, if_false, reduceIte, and_self, and_true, true_and, eq_self, reduceCtorEq, e1, r_X6_drift_117, hx, not_true_eq_false, r_X6_drift_132]
    · simp only [EV, LV, CB, OI, OL, NP, CZ, popN, CT, OZ, List.map_nil, List.map_cons, List.sum_nil, List.sum_cons, Option.toList, List.nil_append, List.cons_append, Int.reduceToNat, Nat.reduceAdd, Nat.reduceLT, Nat.reduceLeDiff, List.length_cons, List.length_nil, Nat.zero_add, if_true, if_false, reduceIte, and_self, and_true, true_and, eq_self, reduceCtorEq, gW WP10, e1, r_X6_drift_117, hx, not_false_eq_true, r_X6_drift_126, tc]
  | succ k ih =>
    intro i f s r m v8 hi h8 hC hA hT hr
    have hN := hC.2.1
    have c0 := hC.2.2.1
    have e1 : ¬ nI n ≤ nI i := nI_ge (by omega) (by omega)
    obtain ⟨e, he, ee, ec⟩ := dfI_lt hV h0 (dfS s)
    have ee : dfG (dfS s) - dfG (dfS s) / nI V * nI V = nI e := ee
    have z1 := nI_ne hV h0
    have z8 : ¬ (8 : Int32) = 0 := by decide
    have zt : ¬ (10 : Int32) = 0 := by decide
    have e4 : inR (nI e) 4 = true := inR_nI (by omega) (by omega)
    have e5 : (nI e).toNatClampNeg = e := nI_clamp (by omega)
    obtain ⟨M, eM⟩ : ∃ M, M = wI m (10 + 2) e (dfW (dfS s)) := ⟨_, rfl⟩
    have eU : dfU V f (dfS s) = upd f (2 * e + 1) (dfW (dfS s)) := by unfold dfU; rw [ec]
    have cM : CW 10 V N (dfU V f (dfS s)) M := by rw [eM, eU]; exact CW_w hC he _
    have aM' : Atf V N (dfU V f (dfS s)) := by rw [eU]; exact At_g hA (by omega) _
    have rM : 0 < dfU V f (dfS s) 41 := by rw [eU, upd_n _ _ (by omega)]; exact hr
    obtain ⟨m1, r1, k1, k7, k6, kF, kA⟩ := t_passC wS d WP10 (t := id) id_lt (n := 1) (by omega) cM aM' (fun i hi => by rw [eM, wI_n _ _ _ _ (by omega)]; exact hT i (by omega)) rM r
    have eN : nsF V N id 1 (dfU V f (dfS s)) r = ngF V N id (dfU V f (dfS s)) r := rfl
    have eS : smM (dfU V f (dfS s)) V 0 0 = smM f V 0 0 := by rw [eU]; exact smM_u (V := V) _ V 0 0
    rw [eN, eS] at r1
    rw [eN] at k1 kA
    have r1 : semZ shP wS (d + 4) 37 [.ref 10, .int 1] M = _ := r1
    have hS : SpF m m1 := SpF_tr (SpF_w (o := 10 + 2) SpF_rf e (dfW (dfS s)) (by omega) (by omega)) (by rw [← eM]; exact fun o ho => kF.1 o (by omega))
    have na := ng_at (t := id) id_lt hV hN r aM'
    obtain ⟨m2, r2, a2⟩ := ih (i + 1) _ (dfS s) (ngR V N id (dfU V f (dfS s)) r) m1 (.int (dfG (dfS s))) (by omega) (Or.inr ⟨_, rfl⟩) k1 kA (fun j hj => by rw [show m1.1 13 = M.1 13 from kF.2, eM, wI_n _ _ _ _ (by omega)]; exact hT j hj) (by rw [na.2.1 41 (by omega) (by omega) (by omega)]; exact rM)
    refine ⟨m2, ?_, SpF_tr hS a2⟩
    rw [r_X6_drift_49]
    have g1 : (s * 1103515245 + 12345) = dfS s := rfl
    have g2 : dfS s >>> (16 &&& 31) &&& 32767 = dfG (dfS s) := rfl
    have g3 : dfG (dfS s) / 8 - dfG (dfS s) / 8 / 10 * 10 = dfW (dfS s) := rfl
    rcases h8 with rfl | ⟨y, rfl⟩
    · simp only [EV, LV, CB, OI, OL, NP, CZ, popN, CT, OZ, List.map_nil, List.map_cons, List.sum_nil, List.sum_cons, Option.toList, List.nil_append, List.cons_append, Int.reduceToNat, Nat.reduceAdd, Nat.reduceLT, Nat.reduceLeDiff, List.length_cons, List.length_nil, Nat.zero_add, if_true, if_false, reduceIte, and_self, and_true, true_and, eq_self, reduceCtorEq, gW WP10, sW WP10, e1, g1, g2, c0, z1, z8, zt, ee, g3, e4, e5, ← eM, r1, sb_sb, nI_1]
      exact r2
    · simp only [EV, LV, CB, OI, OL, NP, CZ, popN, CT, OZ, List.map_nil, List.map_cons, List.sum_nil, List.sum_cons, Option.toList, List.nil_append, List.cons_append, Int.reduceToNat, Nat.reduceAdd, Nat.reduceLT, Nat.reduceLeDiff, List.length_cons, List.length_nil, Nat.zero_add, if_true, if_false, reduceIte, and_self, and_true, true_and, eq_self, reduceCtorEq, gW WP10, sW WP10, e1, g1, g2, c0, z1, z8, zt, ee, g3, e4, e5, ← eM, r1, sb_sb, nI_1]
      exact r2
theorem df_M (hV : V ≤ 4) (hN : N ≤ 6) (h0 : 0 < V) (s0 x A : Int32) {n : Nat} (hn : n ≤ 60) : ∀ k i s m (v7 : Value), i + k = n → (v7 = noV ∨ ∃ y : Int32, v7 = .int y) → m.1 68 3 = nI V → m.1 70 38 = nI N → Atf V N (m.1 70) → (∀ j, j < 4 → m.1 74 j = nI j) → 0 < m.1 70 41 → ∃ m', rn shP tb0 mN mO (semZ shP wS (d + 5)) (some .int) (codeZ 175) 47 [.ref 68, .int s0, .int (nI n), .int x, .int s, .int A, .int (nI i), v7] [] m = some (some (.int (if x = 0 then A - smM (dfF V N k s (m.1 70) (m.1 68 18)) V 0 0 else iwF (dfF V N k s (m.1 70) (m.1 68 18)) 2 N 0 0)), m') := by
  intro k
  induction k with
  | zero =>
    intro i s m v7 hi h7 h3 h38 hA hT hr
    have ei : i = n := by omega
    subst ei
    have e1 : nI i ≤ nI i := Int32.le_refl _
    have tc : semZ shP wS (d + 5) 136 [.ref 68, .int 2] m = some (some (.int (iwF (m.1 70) 2 N 0 0)), m) := t_iwM wS (d + 3) hN h38 2
    have ta : semZ shP wS (d + 5) 134 [.ref 68] m = some (some (.int (smM (m.1 70) V 0 0)), m) := t_meansM wS (d + 4) hV h3
    refine ⟨m, ?_⟩
    rw [r_X7_drift_47]
    unfold dfF
    by_cases hx : x = 0
    · simp only [EV, LV, CB, OI, OL, NP, CZ, popN, CT, OZ, List.map_nil, List.map_cons, List.sum_nil, List.sum_cons, Option.toList, List.nil_append, List.cons_append, Int.reduceToNat, Nat.reduceAdd, Nat.reduceLT, Nat.reduceLeDiff, List.length_cons, List.length_nil, Nat.zero_add, if_true, if_false, reduceIte, and_self, and_true, true_and, eq_self, reduceCtorEq, gM MP68, e1, r_X7_drift_110, hx, not_true_eq_false, ta, r_X7_drift_129]
    · simp only [EV, LV, CB, OI, OL, NP, CZ, popN, CT, OZ, List.map_nil, List.map_cons, List.sum_nil, List.sum_cons, Option.toList, List.nil_append, List.cons_append, Int.reduceToNat, Nat.reduceAdd, Nat.reduceLT, Nat.reduceLeDiff, List.length_cons, List.length_nil, Nat.zero_add, if_true, if_false, reduceIte, and_self, and_true, true_and, eq_self, reduceCtorEq, gM MP68, e1, r_X7_drift_110, hx, not_false_eq_true, r_X7_drift_124, tc]
  | succ k ih =>
    intro i s m v7 hi h7 h3 h38 hA hT hr
    have e1 : ¬ nI n ≤ nI i := nI_ge (by omega) (by omega)
    obtain ⟨e, he, ee, ec⟩ := dfI_lt hV h0 (dfS s)
    have ee : dfG (dfS s) - dfG (dfS s) / nI V * nI V = nI e := ee
    have z1 := nI_ne hV h0
    have z8 : ¬ (8 : Int32) = 0 := by decide
    have zt : ¬ (10 : Int32) = 0 := by decide
    have i1 := (ix_20 e (by omega)).2
    have e4 : inR (nI (2 * e + 1)) 63 = true := inR_nI (by omega) (by omega)
    have e5 : (nI (2 * e + 1)).toNatClampNeg = 2 * e + 1 := nI_clamp (by omega)
    obtain ⟨M, eM⟩ : ∃ M, M = wI m 70 (2 * e + 1) (dfW (dfS s)) := ⟨_, rfl⟩
    have M70 : M.1 70 = dfU V (m.1 70) (dfS s) := by rw [eM, wI_r]; unfold dfU; rw [ec]
    have M68 : M.1 68 = m.1 68 := by rw [eM, wI_n _ _ _ _ (by omega)]
    have eU : dfU V (m.1 70) (dfS s) = upd (m.1 70) (2 * e + 1) (dfW (dfS s)) := by unfold dfU; rw [ec]
    have aM' : Atf V N (M.1 70) := by rw [M70, eU]; exact At_g hA (by omega) _
    have rM : 0 < M.1 70 41 := by rw [M70, eU, upd_n _ _ (by omega)]; exact hr
    have nM : M.1 70 38 = nI N := by rw [M70, eU, upd_n _ _ (by omega)]; exact h38
    obtain ⟨m1, r1, g70, g17, g18, gF⟩ := t_nightM wS d (t := id) hV hN id_lt (by rw [M68]; exact h3) nM aM' (fun i hi => by rw [eM, wI_n _ _ _ _ (by omega)]; exact hT i (by omega)) rM
    have na := ng_at (t := id) id_lt hV hN (M.1 68 18) aM'
    obtain ⟨m2, r2⟩ := ih (i + 1) (dfS s) m1 (.int (dfG (dfS s))) (by omega) (Or.inr ⟨_, rfl⟩) (by rw [gF.2.1 3 (by omega) (by omega), M68]; exact h3) (by rw [g70, na.2.1 38 (by omega) (by omega) (by omega)]; exact nM) (by rw [g70]; exact na.1) (fun j hj => by rw [gF.1 74 (by omega) (by omega), eM, wI_n _ _ _ _ (by omega)]; exact hT j hj) (by rw [g70, na.2.1 41 (by omega) (by omega) (by omega)]; exact rM)
    rw [g70, g18, M70, M68] at r2
    refine ⟨m2, ?_⟩
    rw [r_X7_drift_47]
    have g1 : (s * 1103515245 + 12345) = dfS s := rfl
    have g2 : dfS s >>> (16 &&& 31) &&& 32767 = dfG (dfS s) := rfl
    have g3 : dfG (dfS s) / 8 - dfG (dfS s) / 8 / 10 * 10 = dfW (dfS s) := rfl
    rcases h7 with rfl | ⟨y, rfl⟩
    · simp only [EV, LV, CB, OI, OL, NP, CZ, popN, CT, OZ, List.map_nil, List.map_cons, List.sum_nil, List.sum_cons, Option.toList, List.nil_append, List.cons_append, Int.reduceToNat, Nat.reduceAdd, Nat.reduceLT, Nat.reduceLeDiff, List.length_cons, List.length_nil, Nat.zero_add, if_true, if_false, reduceIte, and_self, and_true, true_and, eq_self, reduceCtorEq, gM MP68, sM MP68, e1, g1, g2, h3, z1, z8, zt, ee, g3, i1, e4, e5, ← eM, r1, nI_1]
      exact r2
    · simp only [EV, LV, CB, OI, OL, NP, CZ, popN, CT, OZ, List.map_nil, List.map_cons, List.sum_nil, List.sum_cons, Option.toList, List.nil_append, List.cons_append, Int.reduceToNat, Nat.reduceAdd, Nat.reduceLT, Nat.reduceLeDiff, List.length_cons, List.length_nil, Nat.zero_add, if_true, if_false, reduceIte, and_self, and_true, true_and, eq_self, reduceCtorEq, gM MP68, sM MP68, e1, g1, g2, h3, z1, z8, zt, ee, g3, i1, e4, e5, ← eM, r1, nI_1]
      exact r2
theorem b_drift (s n x : Int32) (hI : InvT TV m) (h : LNow V N m) : ∃ v m1 m2, semZ shP wS (d + 30) 91 [.ref 0, .int s, .int n, .int x] m = some (some (.int v), m1) ∧ semZ shP wS (d + 30) 175 [.ref 68, .int s, .int n, .int x] m1 = some (some (.int v), m2) ∧ True := by
  have h3 := h.1
  obtain ⟨F, eF, fl, hQ, hA, hr, h38, hM⟩ := q_init hI h
  have hV := hQ.1.1
  have hN := hQ.1.2.1
  have c0 := hQ.1.2.2.1
  have e10 : ¬ (1 : Int32) = 0 := by decide
  have d1 := dec64 n 1 60 1 60 (by decide) (by decide)
  have d2 := dec64 x 0 1 0 1 (by decide) (by decide)
  rw [se_X6_drift, r_X6_drift_0]
  cases hn : (decide (1 ≤ n) && decide (n ≤ 60)) with
  | false =>
    refine ⟨-1, m, m, ?_, ?_, trivial⟩
    · simp only [EV, LV, CB, OI, OL, NP, CZ, popN, CT, OZ, List.map_nil, List.map_cons, List.sum_nil, List.sum_cons, Option.toList, List.nil_append, List.cons_append, Int.reduceToNat, Nat.reduceAdd, Nat.reduceLT, Nat.reduceLeDiff, List.length_cons, List.length_nil, Nat.zero_add, if_true, if_false, reduceIte, and_self, and_true, true_and, eq_self, reduceCtorEq, t_within wS (d + 28), hn, bI_f, r_X6_drift_19]
    · rw [se_X7_drift, r_X7_drift_0]
      simp only [EV, LV, CB, OI, OL, NP, CZ, popN, CT, OZ, List.map_nil, List.map_cons, List.sum_nil, List.sum_cons, Option.toList, List.nil_append, List.cons_append, Int.reduceToNat, Nat.reduceAdd, Nat.reduceLT, Nat.reduceLeDiff, List.length_cons, List.length_nil, Nat.zero_add, if_true, if_false, reduceIte, and_self, and_true, true_and, eq_self, reduceCtorEq, t_in wS (d + 28), d1, hn, bI_f, r_X7_drift_19]
  | true =>
    cases hx : (decide (0 ≤ x) && decide (x ≤ 1)) with
    | false =>
      refine ⟨-1, m, m, ?_, ?_, trivial⟩
      · simp only [EV, LV, CB, OI, OL, NP, CZ, popN, CT, OZ, List.map_nil, List.map_cons, List.sum_nil, List.sum_cons, Option.toList, List.nil_append, List.cons_append, Int.reduceToNat, Nat.reduceAdd, Nat.reduceLT, Nat.reduceLeDiff, List.length_cons, List.length_nil, Nat.zero_add, if_true, if_false, reduceIte, and_self, and_true, true_and, eq_self, reduceCtorEq, t_within wS (d + 28), hn, hx, bI_t, bI_f, e10, not_true_eq_false]
      · rw [se_X7_drift, r_X7_drift_0]
        simp only [EV, LV, CB, OI, OL, NP, CZ, popN, CT, OZ, List.map_nil, List.map_cons, List.sum_nil, List.sum_cons, Option.toList, List.nil_append, List.cons_append, Int.reduceToNat, Nat.reduceAdd, Nat.reduceLT, Nat.reduceLeDiff, List.length_cons, List.length_nil, Nat.zero_add, if_true, if_false, reduceIte, and_self, and_true, true_and, eq_self, reduceCtorEq, t_in wS (d + 28), t_isPart wS (d + 27), d1, d2, hn, hx, bI_t, bI_f, e10, not_true_eq_false]
    | true =>
      by_cases v0 : V = 0
      · have z0 : nI V = (0 : Int32) := by rw [v0]; rfl
        refine ⟨-2, m, m, ?_, ?_, trivial⟩
        · simp only [EV, LV, CB, OI, OL, NP, CZ, popN, CT, OZ, List.map_nil, List.map_cons, List.sum_nil, List.sum_cons, Option.toList, List.nil_append, List.cons_append, Int.reduceToNat, Nat.reduceAdd, Nat.reduceLT, Nat.reduceLeDiff, List.length_cons, List.length_nil, Nat.zero_add, if_true, if_false, reduceIte, and_self, and_true, true_and, eq_self, reduceCtorEq, gP0, gW WP1, t_within wS (d + 28), hn, hx, bI_t, e10, not_false_eq_true, r_X6_drift_21, c0, z0, not_true_eq_false]
        · rw [se_X7_drift, r_X7_drift_0]
          simp only [EV, LV, CB, OI, OL, NP, CZ, popN, CT, OZ, List.map_nil, List.map_cons, List.sum_nil, List.sum_cons, Option.toList, List.nil_append, List.cons_append, Int.reduceToNat, Nat.reduceAdd, Nat.reduceLT, Nat.reduceLeDiff, List.length_cons, List.length_nil, Nat.zero_add, if_true, if_false, reduceIte, and_self, and_true, true_and, eq_self, reduceCtorEq, gM MP68, t_in wS (d + 28), t_isPart wS (d + 27), d1, d2, hn, hx, bI_t, e10, not_false_eq_true, r_X7_drift_21, h3, z0, not_true_eq_false]
      · have hb := wi_i hn
        rw [show (1 : Int32).toInt = 1 from by decide, show (60 : Int32).toInt = 60 from by decide] at hb
        obtain ⟨K, hK, rfl⟩ : ∃ K, K ≤ 60 ∧ n = nI K := ⟨n.toInt.toNat, by omega, i_nI (by omega)⟩
        have z1 := nI_ne hV (by omega)
        obtain ⟨m1, r1, a1, a6, a7, aT, aF⟩ := c_from (wS := wS) (d + 27) hQ
        have r1 : semZ shP wS (d + 29) 100 [.ref 0] m = some (some (.ref 10), m1) := r1
        obtain ⟨m2, r2, a2⟩ := df_C (wS := wS) (d + 25) hV (by omega) s x (smM F V 0 0) hK K 0 F s (m.1 68 18) m1 noV (by omega) (Or.inl rfl) a1 hA aT hr
        rw [nI_0, Int32.sub_self] at r2
        have e68 : m2.1 68 = m.1 68 := SpF_tr aF a2 68 (by omega)
        obtain ⟨P, ts, p70, p74, po⟩ := t_stM (wS := wS) (d + 28) m2
        have ts : semZ shP wS (d + 29) 123 [.ref 68] m2 = some (none, P) := ts
        have p70 : P.1 70 = F := by rw [p70, SpF_tr aF a2 69 (by omega), SpF_tr aF a2 70 (by omega), eF]
        have p68 : P.1 68 = m.1 68 := by rw [po 68 (by omega) (by omega), e68]
        have ta : semZ shP wS (d + 29) 134 [.ref 68] P = some (some (.int (smM F V 0 0)), P) := by
          have t := t_meansM wS (d + 28) (m := P) hV (by rw [p68]; exact h3)
          rw [p70] at t
          exact t
        obtain ⟨R, r3⟩ := df_M (wS := wS) (d + 24) hV hN (by omega) s x (smM F V 0 0) hK K 0 s P noV (by omega) (Or.inl rfl) (by rw [p68]; exact h3) (by rw [p70]; exact h38) (by rw [p70]; exact hA) p74 (by rw [p70]; exact hr)
        rw [nI_0, p70, p68] at r3
        have h3' : m2.1 68 3 = nI V := by rw [e68]; exact h3
        refine ⟨if x = 0 then smM F V 0 0 - smM (dfF V N K s F (m.1 68 18)) V 0 0 else iwF (dfF V N K s F (m.1 68 18)) 2 N 0 0, m2, R, ?_, ?_, trivial⟩
        · simp only [EV, LV, CB, OI, OL, NP, CZ, popN, CT, OZ, List.map_nil, List.map_cons, List.sum_nil, List.sum_cons, Option.toList, List.nil_append, List.cons_append, Int.reduceToNat, Nat.reduceAdd, Nat.reduceLT, Nat.reduceLeDiff, List.length_cons, List.length_nil, Nat.zero_add, if_true, if_false, reduceIte, and_self, and_true, true_and, eq_self, reduceCtorEq, gP0, gW WP1, t_within wS (d + 28), hn, hx, bI_t, e10, not_false_eq_true, r_X6_drift_21, c0, z1, r_X6_drift_34, r1]
          exact r2
        · rw [se_X7_drift, r_X7_drift_0]
          simp only [EV, LV, CB, OI, OL, NP, CZ, popN, CT, OZ, List.map_nil, List.map_cons, List.sum_nil, List.sum_cons, Option.toList, List.nil_append, List.cons_append, Int.reduceToNat, Nat.reduceAdd, Nat.reduceLT, Nat.reduceLeDiff, List.length_cons, List.length_nil, Nat.zero_add, if_true, if_false, reduceIte, and_self, and_true, true_and, eq_self, reduceCtorEq, gM MP68, t_in wS (d + 28), t_isPart wS (d + 27), d1, d2, hn, hx, bI_t, e10, not_false_eq_true, r_X7_drift_21, h3', z1, r_X7_drift_31, ts, ta]
          exact r3
end Qx
end
