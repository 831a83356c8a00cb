/-! hire of both -/
theorem lkF_c : ∀ k, k < 4 → ∀ X, X < 10 → (posI (fneed (nI k) - nI X) ≤ 0 ↔ fneed (nI k) ≤ nI X) := by decide +kernel
theorem kin9 : ∀ x, x < 10 → (decide (0 ≤ nI x) && decide (nI x ≤ 9)) = true := by decide +kernel
theorem kinF : ∀ k, k < 4 → ∀ X, X < 10 → ¬ fneed (nI k) ≤ nI X → X < 4 := by decide +kernel
theorem kinM : ∀ k, k < 4 → ∀ X, X < 10 → ∀ Y, Y < 10 → fneed (nI k) ≤ nI X → ¬ posI (fneed (nI k) - nI X) + posI (mneed (nI k) - nI Y) = 0 → Y < 2 := by decide +kernel
section Bh
variable {wS : List Value → Mm → Option Rs} (d : Nat) {V N : Nat} {m : Mm}
theorem t_lofC {w : Nat} {f : Nat → Int32} (hw : WSh shP w) (h : CW w V N f m) (ha : Atf V N f) {b : Nat} (hb : b < N) : semZ shP wS (d + 1) 31 [.ref w, .int (nI b)] m = some (some (.int (bI (decide (¬ fneed (f (8 + 5 * b)) ≤ f (8 + 5 * b + 2))))), m) := by
  obtain ⟨c1, c2, -, -, -, -, -, -, -, -, hB⟩ := h
  obtain ⟨b1, b2, b3, b4, b5⟩ := hB b hb
  obtain ⟨k, hk, ek⟩ := ha.2.1 b hb
  have e2 : inR (nI b) 6 = true := inR_nI (by omega) (by omega)
  have e3 : (nI b).toNatClampNeg = b := nI_clamp (by omega)
  have o1 : okZ (some .boolean) 1 = true := by decide
  have o0 : okZ (some .boolean) 0 = true := by decide
  rw [ek] at b1
  rw [se_X5_lacksOfFather, r_X5_lacksOfFather_0, ek]
  by_cases q : fneed (nI k) ≤ f (8 + 5 * b + 2)
  · rw [decide_eq_false (fun z => z q)]
    simp only [EV, LV, CB, OI, OL, NP, CZ, popN, CT, OZ, List.map_nil, List.map_cons, List.sum_nil, List.sum_cons, Option.toList, List.nil_append, List.cons_append, Int.reduceToNat, Nat.reduceAdd, Nat.reduceLT, Nat.reduceLeDiff, List.length_cons, List.length_nil, Nat.zero_add, if_true, if_false, reduceIte, and_self, and_true, true_and, eq_self, reduceCtorEq, gW hw, aW hw, e2, e3, b1, b3, al_f hk, q, r_X5_lacksOfFather_23, bI_f, o0]
  · rw [decide_eq_true q]
    simp only [EV, LV, CB, OI, OL, NP, CZ, popN, CT, OZ, List.map_nil, List.map_cons, List.sum_nil, List.sum_cons, Option.toList, List.nil_append, List.cons_append, Int.reduceToNat, Nat.reduceAdd, Nat.reduceLT, Nat.reduceLeDiff, List.length_cons, List.length_nil, Nat.zero_add, if_true, if_false, reduceIte, and_self, and_true, true_and, eq_self, reduceCtorEq, gW hw, aW hw, e2, e3, b1, b3, al_f hk, q, r_X5_lacksOfFather_24, bI_t, o1]
theorem b_hire (b : Int32) (h : LNow V N m) : ∃ x m1 m2, semZ shP wS (d + 30) 56 [.ref 0, .int b] m = some (some (.int x), m1) ∧ semZ shP wS (d + 30) 148 [.ref 68, .int b] m1 = some (some (.int x), m2) ∧ LNow V N m2 ∧ ∀ j, 44 ≤ j → j ≤ 62 → m2.1 69 j = m.1 69 j := by
  have h0 := h
  have hL := h
  obtain ⟨h3, hC, h6, hT, hA⟩ := h
  have hV := hC.1
  have hN := hC.2.1
  have c1 := hC.2.2.2.1
  have c38 := hC.2.2.2.2.1
  have e10 : ¬ (1 : Int32) = 0 := by decide
  have l1 := ltm (V := N) (by omega) b
  rw [se_X6_hire, r_X6_hire_0]
  cases hb : (decide (0 ≤ b) && decide (b < nI N)) with
  | false =>
    refine ⟨-1, m, m, ?_, ?_, h0, fun _ _ _ => rfl⟩
    · simp only [EV, LV, CB, OI, OL, NP, CZ, popN, CT, OZ, List.map_nil, List.map_cons, List.sum_nil, List.sum_cons, Option.toList, List.nil_append, List.cons_append, Int.reduceToNat, Nat.reduceAdd, Nat.reduceLT, Nat.reduceLeDiff, List.length_cons, List.length_nil, Nat.zero_add, if_true, if_false, reduceIte, and_self, and_true, true_and, eq_self, reduceCtorEq, gP0, gW WP1, t_hasBody wS (d + 28) WP1, c1, hb, bI_f, not_true_eq_false]
    · rw [se_X7_hire, r_X7_hire_0]
      simp only [EV, LV, CB, OI, OL, NP, CZ, popN, CT, OZ, List.map_nil, List.map_cons, List.sum_nil, List.sum_cons, Option.toList, List.nil_append, List.cons_append, Int.reduceToNat, Nat.reduceAdd, Nat.reduceLT, Nat.reduceLeDiff, List.length_cons, List.length_nil, Nat.zero_add, if_true, if_false, reduceIte, and_self, and_true, true_and, eq_self, reduceCtorEq, gM MP68, t_isBody wS (d + 27) MP68, c38, l1, hb, bI_f, not_true_eq_false]
  | true =>
    obtain ⟨B, hB, rfl⟩ := in_lt hb (by omega)
    obtain ⟨F, eF⟩ : ∃ F, F = fillR (m.1 69) (m.1 70) 63 := ⟨_, rfl⟩
    have eF' : ∀ j, j < 63 → F j = m.1 69 j := fun j hj => by
      rw [eF]
      unfold fillR
      rw [if_pos hj]
    have hC' : CW 1 V N F m := CW_e hC (fun j hj => eF' j (by omega)) (fun _ _ _ _ _ => rfl)
    have hA' : Atf V N F := Atf_e hA hN (fun j hj => eF' j (by omega))
    obtain ⟨a, ha, ea⟩ := hA'.1 B hB
    obtain ⟨k, hk, ek⟩ := hA'.2.1 B hB
    have c2 : m.1 1 2 = F 39 := hC'.2.2.2.2.2.1
    have g1 := (hC'.2.2.2.2.2.2.2.2.2.1 a ha).1
    obtain ⟨b0, b1, b2, b3, b4⟩ := hC'.2.2.2.2.2.2.2.2.2.2 B hB
    rw [ea] at b1
    have e2 : inR (nI B) 6 = true := inR_nI (by omega) (by omega)
    have e3 : (nI B).toNatClampNeg = B := nI_clamp (by omega)
    have e4 : inR (nI a) 4 = true := inR_nI (by omega) (by omega)
    have e5 : (nI a).toNatClampNeg = a := nI_clamp (by omega)
    have e6 : inR (nI (2 * a)) 63 = true := inR_nI (by omega) (by omega)
    have e7 : (nI (2 * a)).toNatClampNeg = 2 * a := nI_clamp (by omega)
    have ix := (ix_20 a (by omega)).1
    have hl := t_lacksC wS (d + 28) WP1 hC' hA' hB
    have hB6 : B < 6 := by omega
    -- the model's begin, from any memory that has the same land
    have mb : ∀ M : Mm, M.1 68 3 = nI V → M.1 69 = m.1 69 → M.1 70 = m.1 70 → ∃ P, semZ shP wS (d + 29) 123 [.ref 68] M = some (none, P) ∧ P.1 70 = F ∧ ∀ o, o ≠ 70 → o ≠ 74 → P.1 o = M.1 o := fun M q3 q9 q0 => by
      have ts := t_starts (wS := wS) (d + 28) MP68 M
      refine ⟨_, ts, ?_, fun o x y => ?_⟩
      · rw [setR_n _ _ (by omega), setR_s, q9, q0, eF]
      · rw [setR_n _ _ (by omega), setR_n _ _ (by omega)]
    obtain ⟨⟨X, hX, eX⟩, Y, hY, eY⟩ := hA'.2.2 B hB
    have lc := lkF_c k hk X hX
    have lc : lkF F B ≤ 0 ↔ fneed (F (8 + 5 * B)) ≤ F (8 + 5 * B + 2) := by
      unfold lkF
      rw [ek, eX]
      exact lc
    have o1 : ∀ M : Mm, M.1 70 = F → semZ shP wS (d + 29) 125 [.ref 68, .int (nI B), .int 1] M = some (some (.int (nI a)), M) := fun M q => by
      have t := t_ofM wS (d + 28) hB6 (K := 1) (by omega) M
      rw [q, ea] at t
      exact t
    have ly : ∀ M : Mm, M.1 69 = m.1 69 → semZ shP wS (d + 29) 144 [.ref 68, .int (nI B)] M = some (some (.int (bI (decide (F (8 + 5 * B + 4) = 0)))), M) := fun M q => by
      have t := t_lies (wS := wS) (d + 28) hB6 M
      rw [q, ← eF' _ (by omega)] at t
      exact t
    have lkM : ∀ M : Mm, semZ shP wS (d + 29) 129 [.ref 68, .int (nI B)] M = some (some (.int (lk (M.1 70) B)), M) := fun M => t_lacksM wS (d + 26) hB6 M
    have lfM : ∀ M : Mm, M.1 70 = F → semZ shP wS (d + 29) 128 [.ref 68, .int (nI B), .int 1] M = some (some (.int (lkF F B)), M) := fun M q => by
      have t := t_lkF wS (d + 27) hB6 M
      rw [q] at t
      exact t
    have hl : semZ shP wS (d + 29) 32 [.ref 1, .int (nI B)] m = some (some (.int (lk F B)), m) := hl
    obtain ⟨P0, z1, z2, z3⟩ := mb m h3 rfl rfl
    have same : LNow V N P0 := LNow_g hL (fun j _ => by rw [z3 69 (by omega) (by omega)]) hC hA h6 rfl (z3 68 (by omega) (by omega) ▸ rfl) (fun o _ _ => z3 o (by omega) (by omega))
    have c38P : P0.1 69 38 = nI N := by rw [z3 69 (by omega) (by omega)]; exact c38
    by_cases s1 : F (8 + 5 * B + 4) = 0
    · by_cases s2 : lk F B = 0
      · refine ⟨-2, m, P0, ?_, ?_, same, fun j _ _ => by rw [z3 69 (by omega) (by omega)]⟩
        · simp only [EV, LV, CB, OI, OL, NP, CZ, popN, CT, OZ, List.map_nil, List.map_cons, List.sum_nil, List.sum_cons, Option.toList, List.nil_append, List.cons_append, Int.reduceToNat, Nat.reduceAdd, Nat.reduceLT, Nat.reduceLeDiff, List.length_cons, List.length_nil, Nat.zero_add, if_true, if_false, reduceIte, and_self, and_true, true_and, eq_self, reduceCtorEq, gP0, gW WP1, aW WP1, t_hasBody wS (d + 28) WP1, c1, hb, bI_t, e10, not_false_eq_true, r_X6_hire_13, e2, e3, b4, s1, not_true_eq_false, hl, s2, r_X6_hire_63]
        · rw [se_X7_hire, r_X7_hire_0]
          simp only [EV, LV, CB, OI, OL, NP, CZ, popN, CT, OZ, List.map_nil, List.map_cons, List.sum_nil, List.sum_cons, Option.toList, List.nil_append, List.cons_append, Int.reduceToNat, Nat.reduceAdd, Nat.reduceLT, Nat.reduceLeDiff, List.length_cons, List.length_nil, Nat.zero_add, if_true, if_false, reduceIte, and_self, and_true, true_and, eq_self, reduceCtorEq, gM MP68, t_isBody wS (d + 27) MP68, c38, l1, hb, bI_t, e10, not_false_eq_true, r_X7_hire_10, z1, o1 P0 z2, ly P0 (z3 69 (by omega) (by omega)), s1, decide_true, lkM, z2, s2, r_X7_hire_57]
      · by_cases s3 : F 39 ≤ F (2 * a)
        · obtain ⟨A1, eA1⟩ : ∃ A, A = wI m (1 + 1) a (F (2 * a) - F 39) := ⟨_, rfl⟩
          obtain ⟨F1, eF1⟩ : ∃ G, G = upd F (2 * a) (F (2 * a) - F 39) := ⟨_, rfl⟩
          have C1 : CW 1 V N F1 A1 := by
            rw [eA1, eF1]
            exact CW_m hC' ha _
          have A1f : Atf V N F1 := by
            rw [eF1]
            exact Atf_u hA' _ (fun b _ => by omega)
          by_cases w3 : ¬ fneed (F (8 + 5 * B)) ≤ F (8 + 5 * B + 2)
          · have w4 : ¬ lkF F B ≤ 0 := fun z => w3 (lc.mp z)
            obtain ⟨A2, eA⟩ : ∃ A, A = wI A1 (1 + 4 + 2) B (F (8 + 5 * B + 2) + 1) := ⟨_, rfl⟩
            obtain ⟨F2, eF2⟩ : ∃ G, G = upd F1 (8 + 5 * B + 2) (F (8 + 5 * B + 2) + 1) := ⟨_, rfl⟩
            have C2 : CW 1 V N F2 A2 := by
              rw [eA, eF2]
              exact CW_f C1 hB (i := 2) (by omega) _
            have A2f : Atf V N F2 := by
              rw [eF2]
              have h4 := kinF k hk X hX (by rw [← ek, ← eX]; exact w3)
              rw [eX, nI_1]
              exact Atf_v A1f hV hB (A := 2) (by omega) (show (decide (0 ≤ nI (X + 1)) && decide (nI (X + 1) ≤ 9)) = true from kin9 _ (by omega))
            have l2 : semZ shP wS (d + 29) 32 [.ref 1, .int (nI B)] A2 = some (some (.int (lk F2 B)), A2) := t_lacksC wS (d + 28) WP1 C2 A2f hB
            have A2o : ∀ o, 9 < o → A2.1 o = m.1 o := fun o ho => by rw [eA, wI_n _ _ _ _ (by omega), eA1, wI_n _ _ _ _ (by omega)]
            obtain ⟨P, y1, y2, y3⟩ := mb A2 (by rw [A2o 68 (by omega)]; exact h3) (A2o 69 (by omega)) (A2o 70 (by omega))
            have p9 : P.1 69 = m.1 69 := by rw [y3 69 (by omega) (by omega), A2o 69 (by omega)]
            obtain ⟨R1, eR1⟩ : ∃ R, R = wI P 70 (2 * a) (F (2 * a) - F 39) := ⟨_, rfl⟩
            have R170 : R1.1 70 = F1 := by rw [eR1, wI_r, y2, eF1]
            have oi : semZ shP wS (d + 29) 125 [.ref 68, .int (nI B), .int 2] R1 = some (some (.int (F (8 + 5 * B + 2))), R1) := by
              have t := t_ofM wS (d + 28) hB6 (K := 2) (by omega) R1
              rw [R170, eF1, upd_n _ _ (by omega)] at t
              exact t
            obtain ⟨R2, eR2⟩ : ∃ R, R = wI R1 70 (8 + 5 * B + 2) (F (8 + 5 * B + 2) + 1) := ⟨_, rfl⟩
            have si : semZ shP wS (d + 29) 126 [.ref 68, .int (nI B), .int 2, .int (F (8 + 5 * B + 2) + 1)] R1 = some (none, R2) := by
              rw [eR2]
              exact t_setM wS (d + 28) hB6 (K := 2) (by omega) _ R1
            have R270 : R2.1 70 = F2 := by rw [eR2, wI_r, R170, eF2]
            have Ro : ∀ o, o ≠ 70 → R2.1 o = P.1 o := fun o ho => by rw [eR2, wI_n _ _ _ _ ho, eR1, wI_n _ _ _ _ ho]
            have tt : semZ shP wS (d + 29) 124 [.ref 68] R2 = some (none, setR R2 69 (fillR (R2.1 70) (R2.1 69) 63)) := t_settles (wS := wS) (d + 28) MP68 R2
            obtain ⟨Q, eQ⟩ : ∃ Q, Q = setR R2 69 (fillR (R2.1 70) (R2.1 69) 63) := ⟨_, rfl⟩
            rw [← eQ] at tt
            have q9 : ∀ j, j < 63 → Q.1 69 j = F2 j := fun j hj => by
              rw [eQ, setR_s]
              unfold fillR
              rw [if_pos hj, R270]
            have q70 : Q.1 70 = F2 := by rw [eQ, setR_n _ _ (by omega), R270]
            have qo : ∀ o, o ≠ 69 → o ≠ 70 → o ≠ 74 → Q.1 o = A2.1 o := fun o x y z => by rw [eQ, setR_n _ _ x, Ro o y, y3 o y z]
            have f2o : ∀ j, 38 ≤ j → F2 j = F j := fun j hj => by rw [eF2, upd_n _ _ (by omega), eF1, upd_n _ _ (by omega)]
            have c38A : A2.1 69 38 = nI N := by rw [A2o 69 (by omega)]; exact c38
            refine ⟨lk F2 B, A2, Q, ?_, ?_, LNow_g hL (fun j hj => q9 j (by omega)) C2 A2f ?_ ?_ (by rw [qo 68 (by omega) (by omega) (by omega), A2o 68 (by omega)]) (fun o _ _ => qo o (by omega) (by omega) (by omega)), fun j x y => by rw [q9 j (by omega), f2o j (by omega), eF' j (by omega)]⟩
            · have lo : semZ shP wS (d + 29) 31 [.ref 1, .int (nI B)] A1 = some (some (.int (bI true)), A1) := by
                have t := t_lofC (wS := wS) (d + 28) WP1 C1 A1f hB
                rw [eF1, upd_n _ _ (by omega), upd_n _ _ (by omega), decide_eq_true w3] at t
                exact t
              have bi : A1.1 (1 + 4 + 2) B = F (8 + 5 * B + 2) := by rw [eA1, wI_o _ _ _ _ _ (by omega)]; exact b2
              simp only [EV, LV, CB, OI, OL, NP, CZ, popN, CT, OZ, List.map_nil, List.map_cons, List.sum_nil, List.sum_cons, Option.toList, List.nil_append, List.cons_append, Int.reduceToNat, Nat.reduceAdd, Nat.reduceLT, Nat.reduceLeDiff, List.length_cons, List.length_nil, Nat.zero_add, if_true, if_false, reduceIte, and_self, and_true, true_and, eq_self, reduceCtorEq, gP0, gW WP1, aW WP1, sW WP1, t_hasBody wS (d + 28) WP1, c1, hb, bI_t, e10, not_false_eq_true, r_X6_hire_13, e2, e3, e4, e5, b1, b4, s1, not_true_eq_false, hl, s2, g1, c2, s3, r_X6_hire_66, ← eA1, lo, bi, r_X6_hire_133, ← eA, l2]
            · rw [se_X7_hire, r_X7_hire_0]
              simp only [EV, LV, CB, OI, OL, NP, CZ, popN, CT, OZ, List.map_nil, List.map_cons, List.sum_nil, List.sum_cons, Option.toList, List.nil_append, List.cons_append, Int.reduceToNat, Nat.reduceAdd, Nat.reduceLT, Nat.reduceLeDiff, List.length_cons, List.length_nil, Nat.zero_add, if_true, if_false, reduceIte, and_self, and_true, true_and, eq_self, reduceCtorEq, gM MP68, aM MP68, sM MP68, t_isBody wS (d + 27) MP68, c38A, l1, hb, bI_t, e10, not_false_eq_true, r_X7_hire_10, y1, o1 P y2, ly P p9, s1, decide_true, lkM, y2, s2, ix, e6, e7, in63, s3, r_X7_hire_60, lfM P y2, w4, r_X7_hire_74, ← eR1, oi, si, tt, q70]
            · rw [eA, wI_o _ _ _ _ _ (by omega), eA1, wI_o _ _ _ _ _ (by omega), f2o 43 (by omega), eF' 43 (by omega)]; exact h6
            · rw [eA, wI_n _ _ _ _ (by omega), eA1, wI_n _ _ _ _ (by omega)]
          · have w3 : fneed (F (8 + 5 * B)) ≤ F (8 + 5 * B + 2) := Decidable.not_not.mp w3
            have w4 : lkF F B ≤ 0 := lc.mpr w3
            obtain ⟨A2, eA⟩ : ∃ A, A = wI A1 (1 + 4 + 3) B (F (8 + 5 * B + 3) + 1) := ⟨_, rfl⟩
            obtain ⟨F2, eF2⟩ : ∃ G, G = upd F1 (8 + 5 * B + 3) (F (8 + 5 * B + 3) + 1) := ⟨_, rfl⟩
            have C2 : CW 1 V N F2 A2 := by
              rw [eA, eF2]
              exact CW_f C1 hB (i := 3) (by omega) _
            have A2f : Atf V N F2 := by
              rw [eF2]
              have h4 := kinM k hk X hX Y hY (by rw [← ek, ← eX]; exact w3) (by rw [← ek, ← eX, ← eY]; exact s2)
              rw [eY, nI_1]
              exact Atf_v A1f hV hB (A := 3) (by omega) (show (decide (0 ≤ nI (Y + 1)) && decide (nI (Y + 1) ≤ 9)) = true from kin9 _ (by omega))
            have l2 : semZ shP wS (d + 29) 32 [.ref 1, .int (nI B)] A2 = some (some (.int (lk F2 B)), A2) := t_lacksC wS (d + 28) WP1 C2 A2f hB
            have A2o : ∀ o, 9 < o → A2.1 o = m.1 o := fun o ho => by rw [eA, wI_n _ _ _ _ (by omega), eA1, wI_n _ _ _ _ (by omega)]
            obtain ⟨P, y1, y2, y3⟩ := mb A2 (by rw [A2o 68 (by omega)]; exact h3) (A2o 69 (by omega)) (A2o 70 (by omega))
            have p9 : P.1 69 = m.1 69 := by rw [y3 69 (by omega) (by omega), A2o 69 (by omega)]
            obtain ⟨R1, eR1⟩ : ∃ R, R = wI P 70 (2 * a) (F (2 * a) - F 39) := ⟨_, rfl⟩
            have R170 : R1.1 70 = F1 := by rw [eR1, wI_r, y2, eF1]
            have oi : semZ shP wS (d + 29) 125 [.ref 68, .int (nI B), .int 3] R1 = some (some (.int (F (8 + 5 * B + 3))), R1) := by
              have t := t_ofM wS (d + 28) hB6 (K := 3) (by omega) R1
              rw [R170, eF1, upd_n _ _ (by omega)] at t
              exact t
            obtain ⟨R2, eR2⟩ : ∃ R, R = wI R1 70 (8 + 5 * B + 3) (F (8 + 5 * B + 3) + 1) := ⟨_, rfl⟩
            have si : semZ shP wS (d + 29) 126 [.ref 68, .int (nI B), .int 3, .int (F (8 + 5 * B + 3) + 1)] R1 = some (none, R2) := by
              rw [eR2]
              exact t_setM wS (d + 28) hB6 (K := 3) (by omega) _ R1
            have R270 : R2.1 70 = F2 := by rw [eR2, wI_r, R170, eF2]
            have Ro : ∀ o, o ≠ 70 → R2.1 o = P.1 o := fun o ho => by rw [eR2, wI_n _ _ _ _ ho, eR1, wI_n _ _ _ _ ho]
            have tt : semZ shP wS (d + 29) 124 [.ref 68] R2 = some (none, setR R2 69 (fillR (R2.1 70) (R2.1 69) 63)) := t_settles (wS := wS) (d + 28) MP68 R2
            obtain ⟨Q, eQ⟩ : ∃ Q, Q = setR R2 69 (fillR (R2.1 70) (R2.1 69) 63) := ⟨_, rfl⟩
            rw [← eQ] at tt
            have q9 : ∀ j, j < 63 → Q.1 69 j = F2 j := fun j hj => by
              rw [eQ, setR_s]
              unfold fillR
              rw [if_pos hj, R270]
            have q70 : Q.1 70 = F2 := by rw [eQ, setR_n _ _ (by omega), R270]
            have qo : ∀ o, o ≠ 69 → o ≠ 70 → o ≠ 74 → Q.1 o = A2.1 o := fun o x y z => by rw [eQ, setR_n _ _ x, Ro o y, y3 o y z]
            have f2o : ∀ j, 38 ≤ j → F2 j = F j := fun j hj => by rw [eF2, upd_n _ _ (by omega), eF1, upd_n _ _ (by omega)]
            have c38A : A2.1 69 38 = nI N := by rw [A2o 69 (by omega)]; exact c38
            refine ⟨lk F2 B, A2, Q, ?_, ?_, LNow_g hL (fun j hj => q9 j (by omega)) C2 A2f ?_ ?_ (by rw [qo 68 (by omega) (by omega) (by omega), A2o 68 (by omega)]) (fun o _ _ => qo o (by omega) (by omega) (by omega)), fun j x y => by rw [q9 j (by omega), f2o j (by omega), eF' j (by omega)]⟩
            · have lo : semZ shP wS (d + 29) 31 [.ref 1, .int (nI B)] A1 = some (some (.int (bI false)), A1) := by
                have t := t_lofC (wS := wS) (d + 28) WP1 C1 A1f hB
                rw [eF1, upd_n _ _ (by omega), upd_n _ _ (by omega), decide_eq_false (fun z => z w3)] at t
                exact t
              have bi : A1.1 (1 + 4 + 3) B = F (8 + 5 * B + 3) := by rw [eA1, wI_o _ _ _ _ _ (by omega)]; exact b3
              simp only [EV, LV, CB, OI, OL, NP, CZ, popN, CT, OZ, List.map_nil, List.map_cons, List.sum_nil, List.sum_cons, Option.toList, List.nil_append, List.cons_append, Int.reduceToNat, Nat.reduceAdd, Nat.reduceLT, Nat.reduceLeDiff, List.length_cons, List.length_nil, Nat.zero_add, if_true, if_false, reduceIte, and_self, and_true, true_and, eq_self, reduceCtorEq, gP0, gW WP1, aW WP1, sW WP1, t_hasBody wS (d + 28) WP1, c1, hb, bI_t, e10, not_false_eq_true, r_X6_hire_13, e2, e3, e4, e5, b1, b4, s1, not_true_eq_false, hl, s2, g1, c2, s3, r_X6_hire_66, ← eA1, lo, bI_f, bi, r_X6_hire_120, ← eA, l2]
            · rw [se_X7_hire, r_X7_hire_0]
              simp only [EV, LV, CB, OI, OL, NP, CZ, popN, CT, OZ, List.map_nil, List.map_cons, List.sum_nil, List.sum_cons, Option.toList, List.nil_append, List.cons_append, Int.reduceToNat, Nat.reduceAdd, Nat.reduceLT, Nat.reduceLeDiff, List.length_cons, List.length_nil, Nat.zero_add, if_true, if_false, reduceIte, and_self, and_true, true_and, eq_self, reduceCtorEq, gM MP68, aM MP68, sM MP68, t_isBody wS (d + 27) MP68, c38A, l1, hb, bI_t, e10, not_false_eq_true, r_X7_hire_10, y1, o1 P y2, ly P p9, s1, decide_true, lkM, y2, s2, ix, e6, e7, in63, s3, r_X7_hire_60, lfM P y2, w4, r_X7_hire_73, ← eR1, oi, si, tt, q70]
            · rw [eA, wI_o _ _ _ _ _ (by omega), eA1, wI_o _ _ _ _ _ (by omega), f2o 43 (by omega), eF' 43 (by omega)]; exact h6
            · rw [eA, wI_n _ _ _ _ (by omega), eA1, wI_n _ _ _ _ (by omega)]
        · refine ⟨-2, m, P0, ?_, ?_, same, fun j _ _ => by rw [z3 69 (by omega) (by omega)]⟩
          · simp only [EV, LV, CB, OI, OL, NP, CZ, popN, CT, OZ, List.map_nil, List.map_cons, List.sum_nil, List.sum_cons, Option.toList, List.nil_append, List.cons_append, Int.reduceToNat, Nat.reduceAdd, Nat.reduceLT, Nat.reduceLeDiff, List.length_cons, List.length_nil, Nat.zero_add, if_true, if_false, reduceIte, and_self, and_true, true_and, eq_self, reduceCtorEq, gP0, gW WP1, aW WP1, t_hasBody wS (d + 28) WP1, c1, hb, bI_t, e10, not_false_eq_true, r_X6_hire_13, e2, e3, e4, e5, b1, b4, s1, not_true_eq_false, hl, s2, g1, c2, s3]
          · rw [se_X7_hire, r_X7_hire_0]
            simp only [EV, LV, CB, OI, OL, NP, CZ, popN, CT, OZ, List.map_nil, List.map_cons, List.sum_nil, List.sum_cons, Option.toList, List.nil_append, List.cons_append, Int.reduceToNat, Nat.reduceAdd, Nat.reduceLT, Nat.reduceLeDiff, List.length_cons, List.length_nil, Nat.zero_add, if_true, if_false, reduceIte, and_self, and_true, true_and, eq_self, reduceCtorEq, gM MP68, aM MP68, t_isBody wS (d + 27) MP68, c38, l1, hb, bI_t, e10, not_false_eq_true, r_X7_hire_10, z1, o1 P0 z2, ly P0 (z3 69 (by omega) (by omega)), s1, decide_true, lkM, z2, s2, ix, e6, e7, in63, s3]
    · refine ⟨-2, m, P0, ?_, ?_, same, fun j _ _ => by rw [z3 69 (by omega) (by omega)]⟩
      · simp only [EV, LV, CB, OI, OL, NP, CZ, popN, CT, OZ, List.map_nil, List.map_cons, List.sum_nil, List.sum_cons, Option.toList, List.nil_append, List.cons_append, Int.reduceToNat, Nat.reduceAdd, Nat.reduceLT, Nat.reduceLeDiff, List.length_cons, List.length_nil, Nat.zero_add, if_true, if_false, reduceIte, and_self, and_true, true_and, eq_self, reduceCtorEq, gP0, gW WP1, aW WP1, t_hasBody wS (d + 28) WP1, c1, hb, bI_t, e10, not_false_eq_true, r_X6_hire_13, e2, e3, b4, s1, r_X6_hire_63]
      · rw [se_X7_hire, r_X7_hire_0]
        simp only [EV, LV, CB, OI, OL, NP, CZ, popN, CT, OZ, List.map_nil, List.map_cons, List.sum_nil, List.sum_cons, Option.toList, List.nil_append, List.cons_append, Int.reduceToNat, Nat.reduceAdd, Nat.reduceLT, Nat.reduceLeDiff, List.length_cons, List.length_nil, Nat.zero_add, if_true, if_false, reduceIte, and_self, and_true, true_and, eq_self, reduceCtorEq, gM MP68, t_isBody wS (d + 27) MP68, c38, l1, hb, bI_t, e10, not_false_eq_true, r_X7_hire_10, z1, o1 P0 z2, ly P0 (z3 69 (by omega) (by omega)), s1, decide_false, bI_f, r_X7_hire_57]
end Bh
