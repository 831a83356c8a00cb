/-! find, nights of both -/
theorem CW_x {w V N : Nat} {f : Nat → Int32} {m : Mm} (h : CW w V N f m) (hN : N < 6) (x : Int32) : CW w V N (upd f (8 + 5 * N + 4) x) m := by
  obtain ⟨c1, c2, c3, c4, c5, c6, c7, c8, c9, hg, hb⟩ := h
  refine ⟨c1, c2, c3, c4, by rw [upd_n _ _ (by omega)]; exact c5, by rw [upd_n _ _ (by omega)]; exact c6, by rw [upd_n _ _ (by omega)]; exact c7, by rw [upd_n _ _ (by omega)]; exact c8, by rw [upd_n _ _ (by omega)]; exact c9, fun g hg2 => ?_, fun q hq => ?_⟩
  · rw [upd_n _ _ (by omega), upd_n _ _ (by omega)]
    exact hg g hg2
  · rw [upd_n _ _ (by omega), upd_n _ _ (by omega), upd_n _ _ (by omega), upd_n _ _ (by omega), upd_n _ _ (by omega)]
    exact hb q hq
def fdF (f : Nat → Int32) (N : Nat) (k g a b : Int32) : Nat → Int32 := upd (upd (upd (upd (upd (upd f (8 + 5 * N) k) (8 + 5 * N + 1) g) (8 + 5 * N + 2) a) (8 + 5 * N + 3) b) (8 + 5 * N + 4) 0) 38 (nI (N + 1))
theorem bdF_4 (f : Nat → Int32) (N : Nat) (k g a b : Int32) : bdF (upd f (8 + 5 * N + 4) 0) N k g a b = fdF f N k g a b := by
  unfold bdF fdF
  rw [upd_cm f 0 k (show 8 + 5 * N + 4 ≠ 8 + 5 * N by omega), upd_cm _ 0 g (show 8 + 5 * N + 4 ≠ 8 + 5 * N + 1 by omega), upd_cm _ 0 a (show 8 + 5 * N + 4 ≠ 8 + 5 * N + 2 by omega), upd_cm _ 0 b (show 8 + 5 * N + 4 ≠ 8 + 5 * N + 3 by omega)]
theorem fdF_at {V N : Nat} {f : Nat → Int32} (h : Atf V N f) (hN : N < 6) {K G : Nat} (hK : K < 4) (hG : G < V) {x y : Nat} (hx : x < 10) (hy : y < 10) : Atf V (N + 1) (fdF f N (nI K) (nI G) (nI x) (nI y)) := by
  unfold fdF
  refine ⟨fun c hc => ?_, fun c hc => ?_, fun c hc => ?_⟩
  · by_cases e : c = N
    · rw [e, upd_n _ _ (by omega), upd_n _ _ (by omega), upd_n _ _ (by omega), upd_n _ _ (by omega), upd_s]
      exact ⟨G, hG, rfl⟩
    · rw [upd_n _ _ (by omega), upd_n _ _ (by omega), upd_n _ _ (by omega), upd_n _ _ (by omega), upd_n _ _ (by omega), upd_n _ _ (by omega)]
      exact h.1 c (by omega)
  · by_cases e : c = N
    · rw [e, upd_n _ _ (by omega), upd_n _ _ (by omega), upd_n _ _ (by omega), upd_n _ _ (by omega), upd_n _ _ (by omega), upd_s]
      exact ⟨K, hK, rfl⟩
    · rw [upd_n _ _ (by omega), upd_n _ _ (by omega), upd_n _ _ (by omega), upd_n _ _ (by omega), upd_n _ _ (by omega), upd_n _ _ (by omega)]
      exact h.2.1 c (by omega)
  · by_cases e : c = N
    · rw [e, upd_n _ _ (show 8 + 5 * N + 2 ≠ 38 by omega), upd_n _ _ (show 8 + 5 * N + 2 ≠ 8 + 5 * N + 4 by omega), upd_n _ _ (show 8 + 5 * N + 2 ≠ 8 + 5 * N + 3 by omega), upd_s, upd_n _ _ (show 8 + 5 * N + 3 ≠ 38 by omega), upd_n _ _ (show 8 + 5 * N + 3 ≠ 8 + 5 * N + 4 by omega), upd_s]
      exact ⟨⟨x, hx, rfl⟩, y, hy, rfl⟩
    · have z : ∀ i, i < 5 → upd (upd (upd (upd (upd (upd f (8 + 5 * N) (nI K)) (8 + 5 * N + 1) (nI G)) (8 + 5 * N + 2) (nI x)) (8 + 5 * N + 3) (nI y)) (8 + 5 * N + 4) 0) 38 (nI (N + 1)) (8 + 5 * c + i) = f (8 + 5 * c + i) := fun i hi => by rw [upd_n _ _ (by omega), upd_n _ _ (by omega), upd_n _ _ (by omega), upd_n _ _ (by omega), upd_n _ _ (by omega), upd_n _ _ (by omega)]
      rw [z 2 (by omega), z 3 (by omega)]
      exact h.2.2 c (by omega)
theorem LNow_g {V N N' : Nat} {F : Nat → Int32} {m m1 m2 : Mm} (h : LNow V N m) (q9 : ∀ j, j < 44 → m2.1 69 j = F j) (hC : CW 1 V N' F m1) (hA : Atf V N' F) (e6 : m1.1 1 6 = F 43) (e4 : m1.1 4 = m.1 4) (e3 : m2.1 68 3 = m.1 68 3) (eo : ∀ o, 1 ≤ o → o ≤ 9 → m2.1 o = m1.1 o) : LNow V N' m2 := by
  obtain ⟨h3, -, -, hT, -⟩ := h
  refine ⟨by rw [e3]; exact h3, CW_e hC q9 (fun o j a b _ => by rw [eo o (by omega) (by omega)]), ?_, fun j hj => by rw [eo 4 (by omega) (by omega), e4]; exact hT j hj, Atf_e hA hC.2.1 q9⟩
  rw [eo 1 (by omega) (by omega), q9 43 (by omega)]
  exact e6
section Bf
variable {wS : List Value → Mm → Option Rs} (d : Nat) {V N : Nat} {m : Mm}
theorem t_addF {w : Nat} (hw : WSh shP w) (h0 : m.1 w 1 = nI 6) (k v a b : Int32) : semZ shP wS (d + 1) 29 [.ref w, .int k, .int v, .int a, .int b] m = some (some (.int 0), m) := by
  have e1 : ¬ nI 6 < (6 : Int32) := by decide
  rw [se_X5_addBody, r_X5_addBody_0]
  simp only [EV, LV, CB, OI, OL, NP, CZ, popN, CT, OZ, List.map_nil, List.map_cons, List.sum_nil, List.sum_cons, Option.toList, List.nil_append, List.cons_append, Int.reduceToNat, Nat.reduceAdd, Nat.reduceLT, Nat.reduceLeDiff, List.length_cons, List.length_nil, Nat.zero_add, if_true, if_false, reduceIte, and_self, and_true, true_and, eq_self, reduceCtorEq, gW hw, h0, e1]
/-- find of both -/
theorem b_find (k g a b : Int32) (h : LNow V N m) : ∃ x m1 m2, semZ shP wS (d + 30) 54 [.ref 0, .int k, .int g, .int a, .int b] m = some (some (.int x), m1) ∧ semZ shP wS (d + 30) 147 [.ref 68, .int k, .int g, .int a, .int b] m1 = some (some (.int x), m2) ∧ ∃ N', N ≤ N' ∧ LNow V N' m2 := by
  have h0 := h
  obtain ⟨h3, hC, h6, hT, hA⟩ := h
  have hV := hC.1
  have hN := hC.2.1
  have c0 := hC.2.2.1
  have c1 := hC.2.2.2.1
  have c38 := hC.2.2.2.2.1
  have e10 : ¬ (1 : Int32) = 0 := by decide
  have l1 := ltm (V := V) (by omega) g
  have d1 := dec64 k 0 3 0 3 (by decide) (by decide)
  have d2 := dec64 a 0 9 0 9 (by decide) (by decide)
  have d3 := dec64 b 0 9 0 9 (by decide) (by decide)
  rw [se_X6_find, r_X6_find_0]
  simp only [EV, LV, CB, OI, OL, NP, CZ, popN, CT, OZ, List.map_nil, List.map_cons, List.sum_nil, List.sum_cons, Option.toList, List.nil_append, List.cons_append, Int.reduceToNat, Nat.reduceAdd, Nat.reduceLT, Nat.reduceLeDiff, List.length_cons, List.length_nil, Nat.zero_add, if_true, if_false, reduceIte, and_self, and_true, true_and, eq_self, reduceCtorEq, gP0]
  rw [se_X6_addFound, r_X6_addFound_0]
  cases hk : (decide (0 ≤ k) && decide (k ≤ 3)) with
  | false =>
    refine ⟨-1, m, m, ?_, ?_, N, Nat.le_refl _, h0⟩
    · simp only [EV, LV, CB, OI, OL, NP, CZ, popN, CT, OZ, List.map_nil, List.map_cons, List.sum_nil, List.sum_cons, Option.toList, List.nil_append, List.cons_append, Int.reduceToNat, Nat.reduceAdd, Nat.reduceLT, Nat.reduceLeDiff, List.length_cons, List.length_nil, Nat.zero_add, if_true, if_false, reduceIte, and_self, and_true, true_and, eq_self, reduceCtorEq, t_within wS (d + 27), hk, bI_f, r_X6_addFound_20]
    · rw [se_X7_find, r_X7_find_0]
      simp only [EV, LV, CB, OI, OL, NP, CZ, popN, CT, OZ, List.map_nil, List.map_cons, List.sum_nil, List.sum_cons, Option.toList, List.nil_append, List.cons_append, Int.reduceToNat, Nat.reduceAdd, Nat.reduceLT, Nat.reduceLeDiff, List.length_cons, List.length_nil, Nat.zero_add, if_true, if_false, reduceIte, and_self, and_true, true_and, eq_self, reduceCtorEq, t_in wS (d + 28), d1, hk, bI_f, r_X7_find_45]
  | true =>
    cases hg : (decide (0 ≤ g) && decide (g < nI V)) with
    | false =>
      refine ⟨-1, m, m, ?_, ?_, N, Nat.le_refl _, h0⟩
      · simp only [EV, LV, CB, OI, OL, NP, CZ, popN, CT, OZ, List.map_nil, List.map_cons, List.sum_nil, List.sum_cons, Option.toList, List.nil_append, List.cons_append, Int.reduceToNat, Nat.reduceAdd, Nat.reduceLT, Nat.reduceLeDiff, List.length_cons, List.length_nil, Nat.zero_add, if_true, if_false, reduceIte, and_self, and_true, true_and, eq_self, reduceCtorEq, t_within wS (d + 27), hk, bI_t, e10, gP0, gW WP1, t_hasVillage wS (d + 27) WP1, c0, hg, bI_f, not_true_eq_false]
      · rw [se_X7_find, r_X7_find_0]
        simp only [EV, LV, CB, OI, OL, NP, CZ, popN, CT, OZ, List.map_nil, List.map_cons, List.sum_nil, List.sum_cons, Option.toList, List.nil_append, List.cons_append, Int.reduceToNat, Nat.reduceAdd, Nat.reduceLT, Nat.reduceLeDiff, List.length_cons, List.length_nil, Nat.zero_add, if_true, if_false, reduceIte, and_self, and_true, true_and, eq_self, reduceCtorEq, gM MP68, t_in wS (d + 28), d1, hk, bI_t, e10, t_isVillage wS (d + 27) MP68, h3, l1, hg, bI_f, r_X7_find_45]
    | true =>
      cases ha : (decide (0 ≤ a) && decide (a ≤ 9)) with
      | false =>
        refine ⟨-1, m, m, ?_, ?_, N, Nat.le_refl _, h0⟩
        · simp only [EV, LV, CB, OI, OL, NP, CZ, popN, CT, OZ, List.map_nil, List.map_cons, List.sum_nil, List.sum_cons, Option.toList, List.nil_append, List.cons_append, Int.reduceToNat, Nat.reduceAdd, Nat.reduceLT, Nat.reduceLeDiff, List.length_cons, List.length_nil, Nat.zero_add, if_true, if_false, reduceIte, and_self, and_true, true_and, eq_self, reduceCtorEq, t_within wS (d + 27), hk, bI_t, e10, gP0, gW WP1, t_hasVillage wS (d + 27) WP1, c0, hg, not_false_eq_true, r_X6_addFound_22, ha, bI_f, r_X6_addFound_43]
        · rw [se_X7_find, r_X7_find_0]
          simp only [EV, LV, CB, OI, OL, NP, CZ, popN, CT, OZ, List.map_nil, List.map_cons, List.sum_nil, List.sum_cons, Option.toList, List.nil_append, List.cons_append, Int.reduceToNat, Nat.reduceAdd, Nat.reduceLT, Nat.reduceLeDiff, List.length_cons, List.length_nil, Nat.zero_add, if_true, if_false, reduceIte, and_self, and_true, true_and, eq_self, reduceCtorEq, gM MP68, t_in wS (d + 28), d1, d2, hk, bI_t, e10, t_isVillage wS (d + 27) MP68, h3, l1, hg, ha, bI_f, r_X7_find_45]
      | true =>
        cases hb : (decide (0 ≤ b) && decide (b ≤ 9)) with
        | false =>
          refine ⟨-1, m, m, ?_, ?_, N, Nat.le_refl _, h0⟩
          · simp only [EV, LV, CB, OI, OL, NP, CZ, popN, CT, OZ, List.map_nil, List.map_cons, List.sum_nil, List.sum_cons, Option.toList, List.nil_append, List.cons_append, Int.reduceToNat, Nat.reduceAdd, Nat.reduceLT, Nat.reduceLeDiff, List.length_cons, List.length_nil, Nat.zero_add, if_true, if_false, reduceIte, and_self, and_true, true_and, eq_self, reduceCtorEq, t_within wS (d + 27), hk, bI_t, e10, gP0, gW WP1, t_hasVillage wS (d + 27) WP1, c0, hg, not_false_eq_true, r_X6_addFound_22, ha, hb, bI_f, not_true_eq_false]
          · rw [se_X7_find, r_X7_find_0]
            simp only [EV, LV, CB, OI, OL, NP, CZ, popN, CT, OZ, List.map_nil, List.map_cons, List.sum_nil, List.sum_cons, Option.toList, List.nil_append, List.cons_append, Int.reduceToNat, Nat.reduceAdd, Nat.reduceLT, Nat.reduceLeDiff, List.length_cons, List.length_nil, Nat.zero_add, if_true, if_false, reduceIte, and_self, and_true, true_and, eq_self, reduceCtorEq, gM MP68, t_in wS (d + 28), d1, d2, d3, hk, bI_t, e10, t_isVillage wS (d + 27) MP68, h3, l1, hg, ha, hb, bI_f, not_true_eq_false]
        | true =>
          have i38 : inR 38 189 = true ∧ (38 : Int32).toNatClampNeg = 38 := by decide +kernel
          by_cases n6 : N = 6
          · subst n6
            have tf := t_addF (wS := wS) (d + 27) WP1 c1 k g a b
            have z6 : nI 6 = (6 : Int32) := by decide
            refine ⟨-3, m, m, ?_, ?_, 6, Nat.le_refl _, h0⟩
            · simp only [EV, LV, CB, OI, OL, NP, CZ, popN, CT, OZ, List.map_nil, List.map_cons, List.sum_nil, List.sum_cons, Option.toList, List.nil_append, List.cons_append, Int.reduceToNat, Nat.reduceAdd, Nat.reduceLT, Nat.reduceLeDiff, List.length_cons, List.length_nil, Nat.zero_add, if_true, if_false, reduceIte, and_self, and_true, true_and, eq_self, reduceCtorEq, t_within wS (d + 27), hk, bI_t, e10, gP0, gW WP1, t_hasVillage wS (d + 27) WP1, c0, hg, not_false_eq_true, r_X6_addFound_22, ha, hb, r_X6_addFound_45, tf, r_X6_addFound_72]
            · rw [se_X7_find, r_X7_find_0]
              simp only [EV, LV, CB, OI, OL, NP, CZ, popN, CT, OZ, List.map_nil, List.map_cons, List.sum_nil, List.sum_cons, Option.toList, List.nil_append, List.cons_append, Int.reduceToNat, Nat.reduceAdd, Nat.reduceLT, Nat.reduceLeDiff, List.length_cons, List.length_nil, Nat.zero_add, if_true, if_false, reduceIte, and_self, and_true, true_and, eq_self, reduceCtorEq, gM MP68, aM MP68, t_in wS (d + 28), d1, d2, d3, hk, bI_t, e10, t_isVillage wS (d + 27) MP68, h3, l1, hg, ha, hb, not_false_eq_true, r_X7_find_47, i38, c38, z6, not_true_eq_false]
          · have hN6 : N < 6 := by omega
            obtain ⟨K, hK, rfl⟩ := in_nI (N := 3) (by decide) hk
            obtain ⟨G, hG, rfl⟩ := in_lt hg (by omega)
            have z6 : ¬ nI N = (6 : Int32) := fun z => by
              have := (nI_eq (a := N) (b := 6) (by omega) (by omega)).mp z
              omega
            obtain ⟨M, eM⟩ : ∃ M, M = wI (wI (wI (wI (wI (wI m (1 + 4) N (nI K)) (1 + 5) N (nI G)) (1 + 6) N a) (1 + 7) N b) (1 + 8) N 0) 1 1 (nI (N + 1)) := ⟨_, rfl⟩
            have ta := t_addB wS (d + 27) WP1 hN6 (nI K) (nI G) a b m c1
            have cb := CW_b (CW_x hC hN6 0) (upd_s _ _ _) hN6 (nI K) (nI G) a b
            rw [bdF_4] at cb
            rw [← eM] at ta cb
            have m11 : M.1 1 1 = nI (N + 1) := by rw [eM, wI_s]
            have mo : ∀ o, 10 ≤ o → M.1 o = m.1 o := fun o ho => by rw [eM, wI_n _ _ _ _ (by omega), wI_n _ _ _ _ (by omega), wI_n _ _ _ _ (by omega), wI_n _ _ _ _ (by omega), wI_n _ _ _ _ (by omega), wI_n _ _ _ _ (by omega)]
            have m9 := mo 69 (by omega)
            have m3 : M.1 68 3 = nI V := by rw [mo 68 (by omega)]; exact h3
            have m38 : M.1 69 38 = nI N := by rw [m9]; exact c38
            have m16 : M.1 1 6 = m.1 1 6 := by rw [eM, wI_j _ _ _ _ _ (by omega), wI_o _ _ _ _ _ (by omega), wI_o _ _ _ _ _ (by omega), wI_o _ _ _ _ _ (by omega), wI_o _ _ _ _ _ (by omega), wI_o _ _ _ _ _ (by omega)]
            have m4 : M.1 4 = m.1 4 := by rw [eM, wI_n _ _ _ _ (by omega), wI_n _ _ _ _ (by omega), wI_n _ _ _ _ (by omega), wI_n _ _ _ _ (by omega), wI_n _ _ _ _ (by omega), wI_n _ _ _ _ (by omega)]
            obtain ⟨P, eP⟩ : ∃ P, P = wI (wI (wI (wI (wI M 69 (8 + 5 * N) (nI K)) 69 (8 + 5 * N + 1) (nI G)) 69 (8 + 5 * N + 2) a) 69 (8 + 5 * N + 3) b) 69 (8 + 5 * N + 4) 0 := ⟨_, rfl⟩
            have p38 : P.1 69 38 = nI N := by rw [eP, wI_j _ _ _ _ _ (by omega), wI_j _ _ _ _ _ (by omega), wI_j _ _ _ _ _ (by omega), wI_j _ _ _ _ _ (by omega), wI_j _ _ _ _ _ (by omega)]; exact m38
            have p38' : (wI P 69 38 (nI (N + 1))).1 69 38 = nI (N + 1) := wI_s _ _ _ _
            have i0 : (8 : Int32) + 5 * nI N + 0 = nI (8 + 5 * N) := ix_85 N hN6 0 (by omega)
            have i1 : (8 : Int32) + 5 * nI N + 1 = nI (8 + 5 * N + 1) := ix_85 N hN6 1 (by omega)
            have i2 : (8 : Int32) + 5 * nI N + 2 = nI (8 + 5 * N + 2) := ix_85 N hN6 2 (by omega)
            have i3 : (8 : Int32) + 5 * nI N + 3 = nI (8 + 5 * N + 3) := ix_85 N hN6 3 (by omega)
            have i4 : (8 : Int32) + 5 * nI N + 4 = nI (8 + 5 * N + 4) := ix_85 N hN6 4 (by omega)
            have r0 : inR (nI (8 + 5 * N)) 189 = true ∧ (nI (8 + 5 * N)).toNatClampNeg = 8 + 5 * N := ⟨inR_nI (by omega) (by omega), nI_clamp (by omega)⟩
            have r1 : inR (nI (8 + 5 * N + 1)) 189 = true ∧ (nI (8 + 5 * N + 1)).toNatClampNeg = 8 + 5 * N + 1 := ⟨inR_nI (by omega) (by omega), nI_clamp (by omega)⟩
            have r2 : inR (nI (8 + 5 * N + 2)) 189 = true ∧ (nI (8 + 5 * N + 2)).toNatClampNeg = 8 + 5 * N + 2 := ⟨inR_nI (by omega) (by omega), nI_clamp (by omega)⟩
            have r3 : inR (nI (8 + 5 * N + 3)) 189 = true ∧ (nI (8 + 5 * N + 3)).toNatClampNeg = 8 + 5 * N + 3 := ⟨inR_nI (by omega) (by omega), nI_clamp (by omega)⟩
            have r4 : inR (nI (8 + 5 * N + 4)) 189 = true ∧ (nI (8 + 5 * N + 4)).toNatClampNeg = 8 + 5 * N + 4 := ⟨inR_nI (by omega) (by omega), nI_clamp (by omega)⟩
            have f9 : (wI P 69 38 (nI (N + 1))).1 69 = fdF (m.1 69) N (nI K) (nI G) a b := by rw [wI_r, eP, wI_r, wI_r, wI_r, wI_r, wI_r, m9]; rfl
            have f43 : fdF (m.1 69) N (nI K) (nI G) a b 43 = m.1 69 43 := by
              unfold fdF
              rw [upd_n _ _ (by omega), upd_n _ _ (by omega), upd_n _ _ (by omega), upd_n _ _ (by omega), upd_n _ _ (by omega), upd_n _ _ (by omega)]
            have po : ∀ o, o ≠ 69 → (wI P 69 38 (nI (N + 1))).1 o = M.1 o := fun o ho => by rw [wI_n _ _ _ _ ho, eP, wI_n _ _ _ _ ho, wI_n _ _ _ _ ho, wI_n _ _ _ _ ho, wI_n _ _ _ _ ho, wI_n _ _ _ _ ho]
            refine ⟨nI (N + 1) - 1, M, wI P 69 38 (nI (N + 1)), ?_, ?_, N + 1, by omega, LNow_g h0 (fun j _ => by rw [f9]) cb (by obtain ⟨x, hx, rfl⟩ := in_nI (N := 9) (by decide) ha; obtain ⟨y, hy, rfl⟩ := in_nI (N := 9) (by decide) hb; exact fdF_at hA hN6 (by omega) hG (by omega) (by omega)) (by rw [f43, m16]; exact h6) m4 (by rw [po 68 (by omega), mo 68 (by omega)]) (fun o _ _ => po o (by omega))⟩
            · simp only [EV, LV, CB, OI, OL, NP, CZ, popN, CT, OZ, List.map_nil, List.map_cons, List.sum_nil, List.sum_cons, Option.toList, List.nil_append, List.cons_append, Int.reduceToNat, Nat.reduceAdd, Nat.reduceLT, Nat.reduceLeDiff, List.length_cons, List.length_nil, Nat.zero_add, if_true, if_false, reduceIte, and_self, and_true, true_and, eq_self, reduceCtorEq, t_within wS (d + 27), hk, bI_t, e10, gP0, gW WP1, t_hasVillage wS (d + 27) WP1, c0, hg, not_false_eq_true, r_X6_addFound_22, ha, hb, r_X6_addFound_45, ta, m11, r_X6_addFound_74]
            · rw [se_X7_find, r_X7_find_0]
              simp only [EV, LV, CB, OI, OL, NP, CZ, popN, CT, OZ, List.map_nil, List.map_cons, List.sum_nil, List.sum_cons, Option.toList, List.nil_append, List.cons_append, Int.reduceToNat, Nat.reduceAdd, Nat.reduceLT, Nat.reduceLeDiff, List.length_cons, List.length_nil, Nat.zero_add, if_true, if_false, reduceIte, and_self, and_true, true_and, eq_self, reduceCtorEq, gM MP68, aM MP68, sM MP68, t_in wS (d + 28), d1, d2, d3, hk, bI_t, e10, t_isVillage wS (d + 27) MP68, m3, l1, hg, ha, hb, not_false_eq_true, r_X7_find_47, i38, m38, z6, r_X7_find_62, i0, i1, i2, i3, i4, r0, r1, r2, r3, r4, ← eP, p38, nI_1, p38']
end Bf
