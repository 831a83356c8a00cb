/-! back of both -/
section Bb
variable {wS : List Value → Mm → Option Rs} (d : Nat) {V N : Nat} {m : Mm}
theorem b_back (k : Int32) (h : LNow V N m) (hS : LSn 19 0 N m) (h0 : LIm V 0 m) (h1 : LIm V 1 m) : ∃ x m1 m2, semZ shP wS (d + 30) 93 [.ref 0, .int k] m = some (some (.int x), m1) ∧ semZ shP wS (d + 30) 178 [.ref 68, .int k] m1 = some (some (.int x), m2) ∧ ∃ N', LNow V N' m2 ∧ LSn 19 0 N' m2 := by
  have hL := h
  obtain ⟨h3, hC, h6, hT, hA⟩ := h
  have e10 : ¬ (1 : Int32) = 0 := by decide
  have d1 := dec64 k 0 1 0 1 (by decide) (by decide)
  rw [se_X6_back, r_X6_back_0]
  cases hk : (decide (0 ≤ k) && decide (k ≤ 1)) with
  | false =>
    refine ⟨-1, m, m, ?_, ?_, N, hL, hS⟩
    · simp only [EV, LV, CB, OI, OL, NP, CZ, popN, CT, OZ, List.map_nil, List.map_cons, List.sum_nil, List.sum_cons, Option.toList, List.nil_append, List.cons_append, Int.reduceToNat, Nat.reduceAdd, Nat.reduceLT, Nat.reduceLeDiff, List.length_cons, List.length_nil, Nat.zero_add, if_true, if_false, reduceIte, and_self, and_true, true_and, eq_self, reduceCtorEq, t_within wS (d + 28), hk, bI_f, not_true_eq_false]
    · rw [se_X7_back, r_X7_back_0]
      simp only [EV, LV, CB, OI, OL, NP, CZ, popN, CT, OZ, List.map_nil, List.map_cons, List.sum_nil, List.sum_cons, Option.toList, List.nil_append, List.cons_append, Int.reduceToNat, Nat.reduceAdd, Nat.reduceLT, Nat.reduceLeDiff, List.length_cons, List.length_nil, Nat.zero_add, if_true, if_false, reduceIte, and_self, and_true, true_and, eq_self, reduceCtorEq, t_in wS (d + 28), d1, hk, bI_f, not_true_eq_false]
  | true =>
    obtain ⟨K, hK, rfl⟩ := in_nI (N := 1) (by decide) hk
    have hK : K < 2 := by omega
    obtain ⟨i1, i2, i3, i4⟩ := gI hK
    have j1 : inR (nI K) 2 = true := inR_nI (by omega) (by omega)
    have j2 : (nI K).toNatClampNeg = K := nI_clamp (by omega)
    have i42 : inR 42 189 = true ∧ (42 : Int32).toNatClampNeg = 42 := by decide +kernel
    have im : LIm V K m := by
      match K, hK with
      | 0, _ => exact h0
      | 1, _ => exact h1
    rcases im with ⟨x1, x2⟩ | ⟨x1, x2, N', g3, g4, g5, g6, g7⟩
    · refine ⟨-2, m, m, ?_, ?_, N, hL, hS⟩
      · simp only [EV, LV, CB, OI, OL, NP, CZ, popN, CT, OZ, List.map_nil, List.map_cons, List.sum_nil, List.sum_cons, Option.toList, List.nil_append, List.cons_append, Int.reduceToNat, Nat.reduceAdd, Nat.reduceLT, Nat.reduceLeDiff, List.length_cons, List.length_nil, Nat.zero_add, if_true, if_false, reduceIte, and_self, and_true, true_and, eq_self, reduceCtorEq, t_within wS (d + 28), hk, bI_t, e10, not_false_eq_true, r_X6_back_11, gP0, i1, i2, x1, not_true_eq_false]
      · rw [se_X7_back, r_X7_back_0]
        simp only [EV, LV, CB, OI, OL, NP, CZ, popN, CT, OZ, List.map_nil, List.map_cons, List.sum_nil, List.sum_cons, Option.toList, List.nil_append, List.cons_append, Int.reduceToNat, Nat.reduceAdd, Nat.reduceLT, Nat.reduceLeDiff, List.length_cons, List.length_nil, Nat.zero_add, if_true, if_false, reduceIte, and_self, and_true, true_and, eq_self, reduceCtorEq, gM MP68, aM MP68, t_in wS (d + 28), d1, hk, bI_t, e10, not_false_eq_true, r_X7_back_12, j1, j2, x2, not_true_eq_false]
    · obtain ⟨m1, r1, a0, a1, a2, a3, a4, a5, a6, a7, a8, aF⟩ := t_becomeW wS (d + 28) WP1 i3 (Or.inr (by omega)) m
      obtain ⟨m2, r2, s0, s1, s2, s3, sF⟩ := t_becomeS wS (d + 28) SP19 i4 (Or.inr (by omega)) m1
      have r1 : semZ shP wS (d + 29) 25 [.ref 1, .ref (33 + 14 * K)] m = some (none, m1) := r1
      have r2 : semZ shP wS (d + 29) 6 [.ref 19, .ref (42 + 14 * K)] m1 = some (none, m2) := r2
      have mo : ∀ o, 22 < o → m2.1 o = m.1 o := fun o ho => by rw [sF o (by omega), aF o (by omega)]
      have tc := t_copies (wS := wS) (d + 28) MP68 m2 0 (63 * (K + 1)) (by omega) (by omega) (by omega)
      have tc : semZ shP wS (d + 29) 176 [.ref 68, .int 0, .int (nI (63 * (K + 1)))] m2 = some (none, setR m2 69 (cpR (m2.1 69) 0 (63 * (K + 1)) 63)) := tc
      obtain ⟨Q, eQ⟩ : ∃ Q, Q = setR m2 69 (cpR (m2.1 69) 0 (63 * (K + 1)) 63) := ⟨_, rfl⟩
      rw [← eQ] at tc
      have q9 : ∀ j, j < 63 → Q.1 69 j = m.1 69 (63 * (K + 1) + j) := fun j hj => by
        rw [eQ, setR_s]
        unfold cpR
        rw [if_pos (by omega), mo 69 (by omega), Nat.sub_zero]
      have qo : ∀ o, o ≠ 69 → Q.1 o = m2.1 o := fun o x => by rw [eQ, setR_n _ _ x]
      have qw : ∀ o, o < 10 → Q.1 o = m1.1 o := fun o x => by rw [qo o (by omega), sF o (by omega)]
      have cc : CW 1 V N' (fun j => m.1 69 (63 * (K + 1) + j)) m1 := CW_c g3 a0 a1 a2 a4 a5 a6 a7 a8
      have e42 : m1.1 1 5 = m.1 69 (63 * (K + 1) + 42) := cc.2.2.2.2.2.2.2.2.1
      have m15 : m2.1 1 5 = m.1 69 (63 * (K + 1) + 42) := by rw [sF 1 (by omega)]; exact e42
      have q42 : Q.1 69 42 = m.1 69 (63 * (K + 1) + 42) := q9 42 (by omega)
      have e1 : ∀ o, 42 + 14 * K ≤ o → o ≤ 45 + 14 * K → m1.1 o = m.1 o := fun o _ _ => aF o (by omega)
      refine ⟨m.1 69 (63 * (K + 1) + 42), m2, Q, ?_, ?_, N', ⟨?_, CW_e cc (fun j hj => q9 j (by omega)) (fun o j _ _ _ => by rw [qw o (by omega)]), ?_, fun j hj => ?_, Atf_e g6 g3.2.1 (fun j hj => q9 j (by omega))⟩, LSn_c (p := 63 * (K + 1)) g7 ?_ (fun j hj => ?_) (fun j hj => ?_) (fun j hj => ?_) (fun j hj => by rw [Nat.zero_add]; exact q9 j hj)⟩
      · simp only [EV, LV, CB, OI, OL, NP, CZ, popN, CT, OZ, List.map_nil, List.map_cons, List.sum_nil, List.sum_cons, Option.toList, List.nil_append, List.cons_append, Int.reduceToNat, Nat.reduceAdd, Nat.reduceLT, Nat.reduceLeDiff, List.length_cons, List.length_nil, Nat.zero_add, if_true, if_false, reduceIte, and_self, and_true, true_and, eq_self, reduceCtorEq, t_within wS (d + 28), hk, bI_t, e10, not_false_eq_true, r_X6_back_11, gP0, i1, i2, x1, r_X6_back_28, gW WP1, gS SP19, r1, r2, m15]
      · have m71 : m2.1 71 K = 1 := by rw [mo 71 (by omega)]; exact x2
        rw [se_X7_back, r_X7_back_0]
        simp only [EV, LV, CB, OI, OL, NP, CZ, popN, CT, OZ, List.map_nil, List.map_cons, List.sum_nil, List.sum_cons, Option.toList, List.nil_append, List.cons_append, Int.reduceToNat, Nat.reduceAdd, Nat.reduceLT, Nat.reduceLeDiff, List.length_cons, List.length_nil, Nat.zero_add, if_true, if_false, reduceIte, and_self, and_true, true_and, eq_self, reduceCtorEq, gM MP68, aM MP68, t_in wS (d + 28), d1, hk, bI_t, e10, not_false_eq_true, r_X7_back_12, j1, j2, m71, r_X7_back_24, ix_63 K hK, tc, i42, q42]
      · rw [qo 68 (by omega), mo 68 (by omega)]; exact h3
      · rw [qw 1 (by omega), a0 6 (by omega), q9 43 (by omega)]; exact g4
      · rw [qw 4 (by omega), a3 j hj]; exact g5 j hj
      · rw [qo 19 (by omega), s0 0 (by omega), e1 _ (by omega) (by omega)]
      · rw [qo _ (by omega), s1 j hj, e1 _ (by omega) (by omega)]
      · rw [qo _ (by omega), s2 j hj, e1 _ (by omega) (by omega)]
      · rw [qo _ (by omega), s3 j hj, e1 _ (by omega) (by omega)]
end Bb
