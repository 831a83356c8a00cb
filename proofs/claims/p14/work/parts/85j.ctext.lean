/-! takeLine and tell, whole -/
theorem nr_V {V N : Nat} (h : noRoom 0 V N = false) : V < 4 := by
  apply Nat.lt_of_not_le
  intro z
  have q : Nat.ble 4 V = true := by rw [Nat.ble_eq]; exact z
  unfold noRoom at h
  rw [q] at h
  cases h
theorem nr_N {k V N : Nat} (h1 : 1 ≤ k) (h4 : k ≤ 4) (h : noRoom k V N = false) : N < 6 := by
  apply Nat.lt_of_not_le
  intro z
  have q : Nat.ble 6 N = true := by rw [Nat.ble_eq]; exact z
  have q1 : Nat.ble 1 k = true := by rw [Nat.ble_eq]; exact h1
  have q4 : Nat.ble k 4 = true := by rw [Nat.ble_eq]; exact h4
  unfold noRoom at h
  rw [q, q1, q4, Bool.and_self, Bool.and_self, Bool.or_true] at h
  cases h
section Tw
variable {B : Nat → Int32} {n : Nat} (wS : List Value → Mm → Option Rs) (d : Nat) {m : Mm}
theorem tm_23 (m : Mm) (s e : Nat) : (tm m s e).1 23 = m.1 23 := tm_at m s e (by omega)
theorem t_lineX (hX : WX wS) (hB : Tp B n) (hm : TC B n m) {V N : Nat} {f : Nat → Int32} {c : Nat} (hC : CTx V N f c m) {p : Nat} (hp : p ≤ n) (h0 : (lx B p).1 ≠ 0) : ∃ M, semZ shP wS (d + 4) 13 [.ref 23, .int (nI (lx B p).1), .ref 10] (tm m (lx B p).2.1 (lx B p).2.2) = some (none, M) ∧ LnC B n p m M (line B p V N f c) := by
  have e10 : ¬ (1 : Int32) = 0 := by decide
  have hb := lx_b hB hp
  have hlt := hb.2.2.2.2.2 h0
  rw [se_X4_takeLine, r_X4_takeLine_0]
  unfold line
  by_cases h1 : (lx B p).1 = 1
  · rw [if_pos h1]
    have ey : semZ shP wS (d + 3) 19 [.ref 23, .int (nI 1), .int 1] (tm m (lx B p).2.1 (lx B p).2.2) = _ := t_exY wS (d + 2) 1 (tm m (lx B p).2.1 (lx B p).2.2)
    have lo := t_lineOf wS (d + 1) hX hB hm hb.2.1 hb.2.2.1
    have hl := lnX_le B (lx B p).2.1 (lx B p).2.2
    have e23 : ∀ m : Mm, gfI shP 404 23 (tm m (lx B p).2.1 (lx B p).2.2) = some (.int (m.1 23 4)) := fun m => by rw [(F404 _).1, tm_23]
    rw [h1]
    generalize lnX B (lx B p).2.1 (lx B p).2.2 = k at lo hl
    by_cases h8 : k = 8
    · rw [if_pos h8]
      subst h8
      have el : lnI 8 = -4 := rfl
      rw [el] at lo
      refine ⟨tm (wI (wI m 23 1 2) 23 2 (nI (lx B p).2.1)) (lx B p).2.1 (lx B p).2.2, ?_, FltC_of (x := (2, (lx B p).2.1)) FrC_rf _ _, (by decide : ¬ (2 : Int32) = 0)⟩
      simp only [EV, LV, CB, OI, OL, NP, CZ, popN, CT, OZ, List.map_nil, List.map_cons, List.sum_nil, List.sum_cons, Option.toList, List.nil_append, List.cons_append, Int.reduceToNat, Nat.reduceAdd, Nat.reduceLT, Nat.reduceLeDiff, List.length_cons, List.length_nil, Nat.zero_add, if_true, if_false, reduceIte, and_self, and_true, true_and, eq_self, reduceCtorEq, C23, G23, ey, e10, not_false_eq_true, not_true_eq_false, r_X4_takeLine_10, lo, F24i, t_refuse wS (d + 2), tm_o _ _ _ _ _ (show (23 : Nat) ≠ 24 by omega), r_X4_takeLine_116]
    · rw [if_neg h8]
      have k8 : k < 8 := by omega
      have el : lnI k = nI k := by
        unfold lnI
        rw [if_neg h8]
      have n4 : ¬ nI k = -4 := fun z => by
        have := nI_pos' (n := k) (by omega)
        rw [z] at this
        exact absurd this (by decide)
      rw [el] at lo
      obtain ⟨t1, t2⟩ := tl_is c hC.2.2.2.1 k k8
      cases ht : toldX c k with
      | true =>
        have t1 := t1.mpr ht
        refine ⟨tm (wI (wI m 23 1 4) 23 2 (nI (lx B p).2.1)) (lx B p).2.1 (lx B p).2.2, ?_, FltC_of (x := (4, (lx B p).2.1)) FrC_rf _ _, (by decide : ¬ (4 : Int32) = 0)⟩
        simp only [EV, LV, CB, OI, OL, NP, CZ, popN, CT, OZ, List.map_nil, List.map_cons, List.sum_nil, List.sum_cons, Option.toList, List.nil_append, List.cons_append, Int.reduceToNat, Nat.reduceAdd, Nat.reduceLT, Nat.reduceLeDiff, List.length_cons, List.length_nil, Nat.zero_add, if_true, if_false, reduceIte, and_self, and_true, true_and, eq_self, reduceCtorEq, C23, G23, ey, e10, not_false_eq_true, not_true_eq_false, r_X4_takeLine_10, lo, n4, r_X4_takeLine_36, e23, hC.2.2.1, t1, F24i, t_refuse wS (d + 2), tm_o _ _ _ _ _ (show (23 : Nat) ≠ 24 by omega), r_X4_takeLine_116]
      | false =>
        have t2 := t2.mpr ht
        have e01 : ¬ (0 : Int32) = 1 := by decide
        have rm := t_roomX wS (d + 2) k8 hC.1.1 hC.1.2.1 (tm m (lx B p).2.1 (lx B p).2.2) (by rw [tm_at _ _ _ (by omega)]; exact hC.1.2.2.1) (by rw [tm_at _ _ _ (by omega)]; exact hC.1.2.2.2.1)
        cases hr : noRoom k V N with
        | true =>
          rw [hr] at rm
          refine ⟨tm (wI (wI m 23 1 5) 23 2 (nI (lx B p).2.1)) (lx B p).2.1 (lx B p).2.2, ?_, FltC_of (x := (5, (lx B p).2.1)) FrC_rf _ _, (by decide : ¬ (5 : Int32) = 0)⟩
          simp only [EV, LV, CB, OI, OL, NP, CZ, popN, CT, OZ, List.map_nil, List.map_cons, List.sum_nil, List.sum_cons, Option.toList, List.nil_append, List.cons_append, Int.reduceToNat, Nat.reduceAdd, Nat.reduceLT, Nat.reduceLeDiff, List.length_cons, List.length_nil, Nat.zero_add, if_true, if_false, reduceIte, and_self, and_true, true_and, eq_self, reduceCtorEq, C23, G23, ey, e10, e01, not_false_eq_true, not_true_eq_false, r_X4_takeLine_10, lo, n4, r_X4_takeLine_36, e23, hC.2.2.1, t2, r_X4_takeLine_63, rm, bI_t, F24i, t_refuse wS (d + 2), tm_o _ _ _ _ _ (show (23 : Nat) ≠ 24 by omega), r_X4_takeLine_116]
        | false =>
          rw [hr] at rm
          rw [if_neg (by decide), if_neg (by decide)]
          have st : rn shP tb0 mN mO (semZ shP wS (d + 3)) none (codeZ 13) 0 [.ref 23, .int (nI 1), .ref 10, noV] [] (tm m (lx B p).2.1 (lx B p).2.2) = rn shP tb0 mN mO (semZ shP wS (d + 3)) none (codeZ 13) 87 [.ref 23, .int (nI 1), .ref 10, .int (nI k)] [] (tm m (lx B p).2.1 (lx B p).2.2) := by
            rw [r_X4_takeLine_0]
            simp only [EV, LV, CB, OI, OL, NP, CZ, popN, CT, OZ, List.map_nil, List.map_cons, List.sum_nil, List.sum_cons, Option.toList, List.nil_append, List.cons_append, Int.reduceToNat, Nat.reduceAdd, Nat.reduceLT, Nat.reduceLeDiff, List.length_cons, List.length_nil, Nat.zero_add, if_true, if_false, reduceIte, and_self, and_true, true_and, eq_self, reduceCtorEq, C23, G23, ey, e10, e01, not_false_eq_true, not_true_eq_false, r_X4_takeLine_10, lo, n4, r_X4_takeLine_36, e23, hC.2.2.1, t2, r_X4_takeLine_63, rm, bI_f]
          rw [r_X4_takeLine_0] at st
          rw [st]
          have hs : p ≤ (lx B p).2.1 := hb.1
          match k, k8 with
          | 0, _ =>
            have hV : V < 4 := nr_V hr
            exact liV_c wS d hB hm hC hV (lx B p).2.1 (by omega) hb.2.2.1 (nI 1)
          | 1, _ =>
            have hN : N < 6 := nr_N (by omega) (by omega) hr
            exact liB_c wS d hB hm hC hN (k := 1) (by omega) (by omega) (lx B p).2.1 (by omega) hb.2.2.1 (nI 1)
          | 2, _ =>
            have hN : N < 6 := nr_N (by omega) (by omega) hr
            exact liB_c wS d hB hm hC hN (k := 2) (by omega) (by omega) (lx B p).2.1 (by omega) hb.2.2.1 (nI 1)
          | 3, _ =>
            have hN : N < 6 := nr_N (by omega) (by omega) hr
            exact liB_c wS d hB hm hC hN (k := 3) (by omega) (by omega) (lx B p).2.1 (by omega) hb.2.2.1 (nI 1)
          | 4, _ =>
            have hN : N < 6 := nr_N (by omega) (by omega) hr
            exact liB_c wS d hB hm hC hN (k := 4) (by omega) (by omega) (lx B p).2.1 (by omega) hb.2.2.1 (nI 1)
          | 5, _ => exact liS_c wS d hB hm hC (k := 5) (by omega) (by omega) ht (lx B p).2.1 (by omega) hb.2.2.1 (nI 1)
          | 6, _ => exact liS_c wS d hB hm hC (k := 6) (by omega) (by omega) ht (lx B p).2.1 (by omega) hb.2.2.1 (nI 1)
          | 7, _ => exact liS_c wS d hB hm hC (k := 7) (by omega) (by omega) ht (lx B p).2.1 (by omega) hb.2.2.1 (nI 1)
  · rw [if_neg h1]
    have ex : semZ shP wS (d + 3) 19 [.ref 23, .int (nI (lx B p).1), .int 1] (tm m (lx B p).2.1 (lx B p).2.2) = _ := t_exN wS (d + 1) hB hp (b := 1) (by omega) h1 m
    refine ⟨tm (wI (wI m 23 1 (bad (lx B p).1)) 23 2 (nI (lx B p).2.1)) (lx B p).2.1 (lx B p).2.2, ?_, FltC_of (x := (bad (lx B p).1, (lx B p).2.1)) FrC_rf _ _, bad_n _⟩
    simp only [EV, LV, CB, OI, OL, NP, CZ, popN, CT, OZ, List.map_nil, List.map_cons, List.sum_nil, List.sum_cons, Option.toList, List.nil_append, List.cons_append, Int.reduceToNat, Nat.reduceAdd, Nat.reduceLT, Nat.reduceLeDiff, List.length_cons, List.length_nil, Nat.zero_add, if_true, if_false, reduceIte, and_self, and_true, true_and, eq_self, reduceCtorEq, C23, ex, not_true_eq_false]
/-! the places of all bodies -/
theorem ck_l (hm : TC B n m) {V N : Nat} (hV : V ≤ 4) (hN : N ≤ 6) (s e : Nat) : ∀ (k b : Nat), b + k = N → ∀ m : Mm, m.1 24 0 = nI n → m.1 10 0 = nI V → m.1 10 1 = nI N → ∃ M, rn shP tb0 mN mO (semZ shP wS (d + 1)) none (codeZ 18) 2 [.ref 23, .ref 10, .int (nI b)] [] (tm m s e) = some (none, tm M s e) ∧ FrC m M ∧ M.1 10 = m.1 10 ∧ M.1 15 = m.1 15 ∧ (∀ o, 10 ≤ o → o ≤ 18 → M.1 o = m.1 o) ∧ ((∀ q, b ≤ q → q < N → 0 ≤ m.1 15 q ∧ m.1 15 q < nI V) → M = m) ∧ (((∃ q, b ≤ q ∧ q < N ∧ ¬ (0 ≤ m.1 15 q ∧ m.1 15 q < nI V)) ∨ (m.1 23 1 = 6 ∧ m.1 23 2 = nI n)) → M.1 23 1 = 6 ∧ M.1 23 2 = nI n) := by
  have e10 : ¬ (1 : Int32) = 0 := by decide
  intro k
  induction k with
  | zero =>
    intro b hb m h24 h0 h1
    have e0 : b = N := by omega
    subst e0
    have q : nI b ≤ nI b := Int32.le_refl _
    have h1' : (tm m s e).1 10 1 = nI b := by rw [tm_at _ _ _ (by omega)]; exact h1
    refine ⟨m, ?_, FrC_rf, rfl, rfl, fun _ _ _ => rfl, fun _ => rfl, fun z => z.elim (fun ⟨q, q1, q2, _⟩ => by omega) (fun y => y)⟩
    rw [r_X4_checkPlaces_2]
    simp only [EV, LV, CB, OI, OL, NP, CZ, popN, CT, OZ, List.map_nil, List.map_cons, List.sum_nil, List.sum_cons, Option.toList, List.nil_append, List.cons_append, Int.reduceToNat, Nat.reduceAdd, Nat.reduceLT, Nat.reduceLeDiff, List.length_cons, List.length_nil, Nat.zero_add, if_true, if_false, reduceIte, and_self, and_true, true_and, eq_self, reduceCtorEq, gW WP10, h1', q, r_X4_checkPlaces_42]
  | succ k ih =>
    intro b hb m h24 h0 h1
    have q : ¬ nI N ≤ nI b := nI_ge (by omega) (by omega)
    have e2 : inR (nI b) 6 = true := inR_nI (by omega) (by omega)
    have e3 : (nI b).toNatClampNeg = b := nI_clamp (by omega)
    have h1' : (tm m s e).1 10 1 = nI N := by rw [tm_at _ _ _ (by omega)]; exact h1
    have h0' : (tm m s e).1 10 0 = nI V := by rw [tm_at _ _ _ (by omega)]; exact h0
    have h15 : (tm m s e).1 15 = m.1 15 := tm_at _ _ _ (by omega)
    have hv := t_hasVillage wS d WP10 (m.1 15 b) (tm m s e)
    rw [h0'] at hv
    by_cases c : 0 ≤ m.1 15 b ∧ m.1 15 b < nI V
    · have cd : (decide (0 ≤ m.1 15 b) && decide (m.1 15 b < nI V)) = true := by simp only [c.1, c.2, decide_true, Bool.and_self]
      rw [cd] at hv
      obtain ⟨M, a1, a2, a3, a4, a4b, a5, a6⟩ := ih (b + 1) (by omega) m h24 h0 h1
      refine ⟨M, ?_, a2, a3, a4, a4b, fun z => a5 (fun q q1 q2 => z q (by omega) q2), fun z => a6 (z.elim (fun ⟨q, q1, q2, q3⟩ => Or.inl ⟨q, ?_, q2, q3⟩) Or.inr)⟩
      · rw [r_X4_checkPlaces_2]
        simp only [EV, LV, CB, OI, OL, NP, CZ, popN, CT, OZ, List.map_nil, List.map_cons, List.sum_nil, List.sum_cons, Option.toList, List.nil_append, List.cons_append, Int.reduceToNat, Nat.reduceAdd, Nat.reduceLT, Nat.reduceLeDiff, List.length_cons, List.length_nil, Nat.zero_add, if_true, if_false, reduceIte, and_self, and_true, true_and, eq_self, reduceCtorEq, gW WP10, aW WP10, h1', h15, q, e2, e3, C10, hv, bI_t, e10, not_false_eq_true, r_X4_checkPlaces_36, nI_1]
        exact a1
      · apply Nat.lt_of_not_le
        intro y
        have : q = b := by omega
        subst this
        exact q3 c
    · have cd : (decide (0 ≤ m.1 15 b) && decide (m.1 15 b < nI V)) = false := by
        cases z : (decide (0 ≤ m.1 15 b) && decide (m.1 15 b < nI V)) with
        | false => rfl
        | true =>
          simp only [Bool.and_eq_true, decide_eq_true_eq] at z
          exact absurd z c
      rw [cd] at hv
      have w : ∀ o, o ≠ 23 → (wI (wI m 23 1 6) 23 2 (nI n)).1 o = m.1 o := fun o ho => by rw [wI_n _ _ _ _ ho, wI_n _ _ _ _ ho]
      obtain ⟨M, a1, a2, a3, a4, a4b, a5, a6⟩ := ih (b + 1) (by omega) (wI (wI m 23 1 6) 23 2 (nI n)) (by rw [w 24 (by omega)]; exact h24) (by rw [w 10 (by omega)]; exact h0) (by rw [w 10 (by omega)]; exact h1)
      have fin := a6 (Or.inr ⟨by rw [wI_j _ _ _ _ _ (by omega), wI_s], wI_s _ _ _ _⟩)
      refine ⟨M, ?_, fun o o1 o2 o3 => (a2 o o1 o2 o3).trans (w o o2), a3.trans (w 10 (by omega)), a4.trans (w 15 (by omega)), fun o o1 o2 => (a4b o o1 o2).trans (w o (by omega)), fun z => absurd (z b (Nat.le_refl _) (by omega)) c, fun _ => fin⟩
      rw [r_X4_checkPlaces_2]
      simp only [EV, LV, CB, OI, OL, NP, CZ, popN, CT, OZ, List.map_nil, List.map_cons, List.sum_nil, List.sum_cons, Option.toList, List.nil_append, List.cons_append, Int.reduceToNat, Nat.reduceAdd, Nat.reduceLT, Nat.reduceLeDiff, List.length_cons, List.length_nil, Nat.zero_add, if_true, if_false, reduceIte, and_self, and_true, true_and, eq_self, reduceCtorEq, gW WP10, aW WP10, h1', h15, q, e2, e3, C10, C23, G23, hv, bI_f, not_true_eq_false, F24i, h24, t_refuse wS d, tm_o _ _ _ _ _ (show (23 : Nat) ≠ 24 by omega), nI_1]
      exact a1
theorem t_check (hm : TC B n m) {V N : Nat} {f : Nat → Int32} (hC : CW 10 V N f m) (hnn : ∀ b, b < N → 0 ≤ m.1 15 b) (s e : Nat) : ∃ M, semZ shP wS (d + 2) 18 [.ref 23, .ref 10] (tm m s e) = some (none, tm M s e) ∧ FrC m M ∧ (if (List.range N).all (fun b => decide (f (8 + 5 * b + 1) < nI V)) = true then M = m else M.1 23 1 = 6 ∧ M.1 23 2 = nI n) := by
  obtain ⟨M, a1, a2, a3, a4, -, a5, a6⟩ := ck_l wS d hm hC.1 hC.2.1 s e N 0 (by omega) m hm.1 hC.2.2.1 hC.2.2.2.1
  refine ⟨M, ?_, a2, ?_⟩
  · rw [se_X4_checkPlaces, r_X4_checkPlaces_0]
    simp only [EV, LV, CB, OI, OL, NP, CZ, popN, CT, OZ, List.map_nil, List.map_cons, List.sum_nil, List.sum_cons, Option.toList, List.nil_append, List.cons_append, Int.reduceToNat, Nat.reduceAdd, Nat.reduceLT, Nat.reduceLeDiff, List.length_cons, List.length_nil, Nat.zero_add, if_true, if_false, reduceIte, and_self, and_true, true_and, eq_self, reduceCtorEq]
    exact a1
  · have eq : ∀ b, b < N → m.1 15 b = f (8 + 5 * b + 1) := fun b hb => (hC.2.2.2.2.2.2.2.2.2.2 b hb).2.1
    by_cases h : (List.range N).all (fun b => decide (f (8 + 5 * b + 1) < nI V)) = true
    · rw [if_pos h]
      refine a5 (fun q _ q2 => ⟨hnn q q2, ?_⟩)
      rw [eq q q2]
      exact of_decide_eq_true (List.all_eq_true.mp h q (List.mem_range.mpr q2))
    · rw [if_neg h]
      refine a6 (Or.inl ?_)
      have h' : ¬ ∀ q ∈ List.range N, decide (f (8 + 5 * q + 1) < nI V) = true := fun z => h (List.all_eq_true.mpr z)
      have ⟨q, hq⟩ := Classical.not_forall.mp h'
      have ⟨hq1, hq2⟩ := Classical.not_imp.mp hq
      have q2 := List.mem_range.mp hq1
      refine ⟨q, Nat.zero_le _, q2, fun z => hq2 ?_⟩
      rw [← eq q q2]
      exact decide_eq_true z.2
end Tw
