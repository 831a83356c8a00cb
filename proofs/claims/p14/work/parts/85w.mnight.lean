/-! THE MODEL'S NIGHTS -/
theorem upd_id (f : Nat → Int32) (j : Nat) : upd f j (f j) = f := by
  funext i
  unfold upd
  by_cases h : i = j
  · rw [if_pos h, h]
  · rw [if_neg h]
theorem wI_r (m : Mm) (o j : Nat) (x : Int32) : (wI m o j x).1 o = upd (m.1 o) j x := by rw [wI_R, setR_s]
/-- what a night of the model leaves -/
def MFr (m m' : Mm) : Prop := (∀ q, q ≠ 70 → q ≠ 68 → m'.1 q = m.1 q) ∧ ∀ j, j ≠ 17 → j ≠ 18 → m'.1 68 j = m.1 68 j
theorem MFr_rf {m : Mm} : MFr m m := ⟨fun _ _ _ => rfl, fun _ _ _ => rfl⟩
theorem MFr_tr {m m1 m2 : Mm} (h : MFr m m1) (h2 : MFr m1 m2) : MFr m m2 := ⟨fun q q1 q2 => (h2.1 q q1 q2).trans (h.1 q q1 q2), fun j j1 j2 => (h2.2 j j1 j2).trans (h.2 j j1 j2)⟩
theorem MFr_w {m m1 : Mm} (h : MFr m m1) (j : Nat) (x : Int32) : MFr m (wI m1 70 j x) := by
  refine ⟨fun q q1 q2 => ?_, fun i i1 i2 => ?_⟩
  · rw [wI_n _ _ _ _ q1]; exact h.1 q q1 q2
  · rw [wI_o _ _ _ _ _ (by omega)]; exact h.2 i i1 i2
theorem MFr_f {m m1 : Mm} (h : MFr m m1) {j : Nat} (x : Int32) (hj : j = 17 ∨ j = 18) : MFr m (wI m1 68 j x) := by
  refine ⟨fun q q1 q2 => ?_, fun i i1 i2 => ?_⟩
  · rw [wI_n _ _ _ _ q2]; exact h.1 q q1 q2
  · rw [wI_j _ _ _ _ _ (by omega)]; exact h.2 i i1 i2
theorem ix_20 : ∀ g, g < 4 → (2 : Int32) * nI g + 0 = nI (2 * g) ∧ (2 : Int32) * nI g + 1 = nI (2 * g + 1) := by decide +kernel
theorem rm_nx : ∀ V, V < 5 → ∀ g, g < V → nI (g + 1) - nI (g + 1) / nI V * nI V = nI (nxV V g) := by decide +kernel
theorem in63 : inR 38 63 = true ∧ (38 : Int32).toNatClampNeg = 38 ∧ inR 39 63 = true ∧ (39 : Int32).toNatClampNeg = 39 ∧ inR 40 63 = true ∧ (40 : Int32).toNatClampNeg = 40 ∧ inR 41 63 = true ∧ (41 : Int32).toNatClampNeg = 41 ∧ inR 42 63 = true ∧ (42 : Int32).toNatClampNeg = 42 ∧ inR 43 63 = true ∧ (43 : Int32).toNatClampNeg = 43 := by decide +kernel
section Nm
variable {V N : Nat} {f : Nat → Int32} (wS : List Value → Mm → Option Rs) (d : Nat) {m : Mm}
theorem t_ofM {B K : Nat} (hB : B < 6) (hK : K < 5) (m : Mm) : semZ shP wS (d + 1) 125 [.ref 68, .int (nI B), .int (nI K)] m = some (some (.int (m.1 70 (8 + 5 * B + K))), m) := by
  have e := ix_85 B hB K hK
  have e2 : inR (nI (8 + 5 * B + K)) 63 = true := inR_nI (by omega) (by omega)
  have e3 : (nI (8 + 5 * B + K)).toNatClampNeg = 8 + 5 * B + K := nI_clamp (by omega)
  rw [se_X7_of, r_X7_of_0]
  simp only [EV, LV, CB, OI, OL, NP, CZ, popN, CT, OZ, List.map_nil, List.map_cons, List.sum_nil, List.sum_cons, Option.toList, List.nil_append, List.cons_append, Int.reduceToNat, Nat.reduceAdd, Nat.reduceLT, Nat.reduceLeDiff, List.length_cons, List.length_nil, Nat.zero_add, if_true, if_false, reduceIte, and_self, and_true, true_and, eq_self, reduceCtorEq, gM MP68, aM MP68, e, e2, e3]
theorem t_setM {B K : Nat} (hB : B < 6) (hK : K < 5) (v : Int32) (m : Mm) : semZ shP wS (d + 1) 126 [.ref 68, .int (nI B), .int (nI K), .int v] m = some (none, wI m 70 (8 + 5 * B + K) v) := t_becomesOf wS d MP68 hB hK v m
theorem t_needF (k : Int32) (m : Mm) : semZ shP wS (d + 1) 127 [.int k, .int 1] m = some (some (.int (fneed k)), m) := by
  have e10 : ¬ (1 : Int32) = 0 := by decide
  rw [se_X7_needOf, r_X7_needOf_0]
  unfold fneed
  by_cases h0 : k = 0
  · simp only [EV, LV, CB, OI, OL, NP, CZ, popN, CT, OZ, List.map_nil, List.map_cons, List.sum_nil, List.sum_cons, Option.toList, List.nil_append, List.cons_append, Int.reduceToNat, Nat.reduceAdd, Nat.reduceLT, Nat.reduceLeDiff, List.length_cons, List.length_nil, Nat.zero_add, if_true, if_false, reduceIte, and_self, and_true, true_and, eq_self, reduceCtorEq, e10, h0, not_true_eq_false, r_X7_needOf_22]
  · by_cases h3 : k = 3
    · simp only [EV, LV, CB, OI, OL, NP, CZ, popN, CT, OZ, List.map_nil, List.map_cons, List.sum_nil, List.sum_cons, Option.toList, List.nil_append, List.cons_append, Int.reduceToNat, Nat.reduceAdd, Nat.reduceLT, Nat.reduceLeDiff, List.length_cons, List.length_nil, Nat.zero_add, if_true, if_false, reduceIte, and_self, and_true, true_and, eq_self, reduceCtorEq, e10, h0, h3, not_false_eq_true, not_true_eq_false, r_X7_needOf_12, r_X7_needOf_22]
      rfl
    · simp only [EV, LV, CB, OI, OL, NP, CZ, popN, CT, OZ, List.map_nil, List.map_cons, List.sum_nil, List.sum_cons, Option.toList, List.nil_append, List.cons_append, Int.reduceToNat, Nat.reduceAdd, Nat.reduceLT, Nat.reduceLeDiff, List.length_cons, List.length_nil, Nat.zero_add, if_true, if_false, reduceIte, and_self, and_true, true_and, eq_self, reduceCtorEq, e10, h0, h3, not_false_eq_true, r_X7_needOf_12, r_X7_needOf_21]
theorem t_needM (k : Int32) (m : Mm) : semZ shP wS (d + 1) 127 [.int k, .int 0] m = some (some (.int (mneed k)), m) := by
  rw [se_X7_needOf, r_X7_needOf_0]
  simp only [EV, LV, CB, OI, OL, NP, CZ, popN, CT, OZ, List.map_nil, List.map_cons, List.sum_nil, List.sum_cons, Option.toList, List.nil_append, List.cons_append, Int.reduceToNat, Nat.reduceAdd, Nat.reduceLT, Nat.reduceLeDiff, List.length_cons, List.length_nil, Nat.zero_add, if_true, if_false, reduceIte, and_self, and_true, true_and, eq_self, reduceCtorEq, r_X7_needOf_23]
  unfold mneed
  by_cases h0 : k = 2
  · simp only [EV, LV, CB, OI, OL, NP, CZ, popN, CT, OZ, List.map_nil, List.map_cons, List.sum_nil, List.sum_cons, Option.toList, List.nil_append, List.cons_append, Int.reduceToNat, Nat.reduceAdd, Nat.reduceLT, Nat.reduceLeDiff, List.length_cons, List.length_nil, Nat.zero_add, if_true, if_false, reduceIte, and_self, and_true, true_and, eq_self, reduceCtorEq, h0, not_true_eq_false, r_X7_needOf_42]
  · by_cases h3 : k = 3
    · have n32 : ¬ (3 : Int32) = 2 := by decide
      simp only [EV, LV, CB, OI, OL, NP, CZ, popN, CT, OZ, List.map_nil, List.map_cons, List.sum_nil, List.sum_cons, Option.toList, List.nil_append, List.cons_append, Int.reduceToNat, Nat.reduceAdd, Nat.reduceLT, Nat.reduceLeDiff, List.length_cons, List.length_nil, Nat.zero_add, if_true, if_false, reduceIte, and_self, and_true, true_and, eq_self, reduceCtorEq, h3, n32, not_false_eq_true, not_true_eq_false, r_X7_needOf_32, r_X7_needOf_42]
    · simp only [EV, LV, CB, OI, OL, NP, CZ, popN, CT, OZ, List.map_nil, List.map_cons, List.sum_nil, List.sum_cons, Option.toList, List.nil_append, List.cons_append, Int.reduceToNat, Nat.reduceAdd, Nat.reduceLT, Nat.reduceLeDiff, List.length_cons, List.length_nil, Nat.zero_add, if_true, if_false, reduceIte, and_self, and_true, true_and, eq_self, reduceCtorEq, h0, h3, not_false_eq_true, r_X7_needOf_32, r_X7_needOf_41]
theorem t_lkF {b : Nat} (hb : b < 6) (m : Mm) : semZ shP wS (d + 2) 128 [.ref 68, .int (nI b), .int 1] m = some (some (.int (lkF (m.1 70) b)), m) := by
  have e10 : ¬ (1 : Int32) = 0 := by decide
  have o0 := t_ofM wS d hb (K := 0) (by omega) m
  have o0 : semZ shP wS (d + 1) 125 [.ref 68, .int (nI b), .int 0] m = some (some (.int (m.1 70 (8 + 5 * b))), m) := o0
  have o2 := t_ofM wS d hb (K := 2) (by omega) m
  have o2 : semZ shP wS (d + 1) 125 [.ref 68, .int (nI b), .int 2] m = some (some (.int (m.1 70 (8 + 5 * b + 2))), m) := o2
  rw [se_X7_lacksOf, r_X7_lacksOf_0]
  unfold lkF posI
  by_cases h : fneed (m.1 70 (8 + 5 * b)) - m.1 70 (8 + 5 * b + 2) ≤ 0
  · simp only [EV, LV, CB, OI, OL, NP, CZ, popN, CT, OZ, List.map_nil, List.map_cons, List.sum_nil, List.sum_cons, Option.toList, List.nil_append, List.cons_append, Int.reduceToNat, Nat.reduceAdd, Nat.reduceLT, Nat.reduceLeDiff, List.length_cons, List.length_nil, Nat.zero_add, if_true, if_false, reduceIte, and_self, and_true, true_and, eq_self, reduceCtorEq, gM MP68, o0, t_needF wS d, e10, r_X7_lacksOf_21, o2, h, r_X7_lacksOf_34]
  · simp only [EV, LV, CB, OI, OL, NP, CZ, popN, CT, OZ, List.map_nil, List.map_cons, List.sum_nil, List.sum_cons, Option.toList, List.nil_append, List.cons_append, Int.reduceToNat, Nat.reduceAdd, Nat.reduceLT, Nat.reduceLeDiff, List.length_cons, List.length_nil, Nat.zero_add, if_true, if_false, reduceIte, and_self, and_true, true_and, eq_self, reduceCtorEq, gM MP68, o0, t_needF wS d, e10, r_X7_lacksOf_21, o2, h, r_X7_lacksOf_35]
theorem t_lkM {b : Nat} (hb : b < 6) (m : Mm) : semZ shP wS (d + 2) 128 [.ref 68, .int (nI b), .int 0] m = some (some (.int (lkM (m.1 70) b)), m) := by
  have o0 := t_ofM wS d hb (K := 0) (by omega) m
  have o0 : semZ shP wS (d + 1) 125 [.ref 68, .int (nI b), .int 0] m = some (some (.int (m.1 70 (8 + 5 * b))), m) := o0
  have o2 := t_ofM wS d hb (K := 3) (by omega) m
  have o2 : semZ shP wS (d + 1) 125 [.ref 68, .int (nI b), .int 3] m = some (some (.int (m.1 70 (8 + 5 * b + 3))), m) := o2
  rw [se_X7_lacksOf, r_X7_lacksOf_0]
  unfold lkM posI
  by_cases h : mneed (m.1 70 (8 + 5 * b)) - m.1 70 (8 + 5 * b + 3) ≤ 0
  · simp only [EV, LV, CB, OI, OL, NP, CZ, popN, CT, OZ, List.map_nil, List.map_cons, List.sum_nil, List.sum_cons, Option.toList, List.nil_append, List.cons_append, Int.reduceToNat, Nat.reduceAdd, Nat.reduceLT, Nat.reduceLeDiff, List.length_cons, List.length_nil, Nat.zero_add, if_true, if_false, reduceIte, and_self, and_true, true_and, eq_self, reduceCtorEq, gM MP68, o0, t_needM wS d, r_X7_lacksOf_20, o2, h, r_X7_lacksOf_34]
  · simp only [EV, LV, CB, OI, OL, NP, CZ, popN, CT, OZ, List.map_nil, List.map_cons, List.sum_nil, List.sum_cons, Option.toList, List.nil_append, List.cons_append, Int.reduceToNat, Nat.reduceAdd, Nat.reduceLT, Nat.reduceLeDiff, List.length_cons, List.length_nil, Nat.zero_add, if_true, if_false, reduceIte, and_self, and_true, true_and, eq_self, reduceCtorEq, gM MP68, o0, t_needM wS d, r_X7_lacksOf_20, o2, h, r_X7_lacksOf_35]
theorem t_lacksM {b : Nat} (hb : b < 6) (m : Mm) : semZ shP wS (d + 3) 129 [.ref 68, .int (nI b)] m = some (some (.int (lk (m.1 70) b)), m) := by
  rw [se_X7_lacks, r_X7_lacks_0]
  simp only [EV, LV, CB, OI, OL, NP, CZ, popN, CT, OZ, List.map_nil, List.map_cons, List.sum_nil, List.sum_cons, Option.toList, List.nil_append, List.cons_append, Int.reduceToNat, Nat.reduceAdd, Nat.reduceLT, Nat.reduceLeDiff, List.length_cons, List.length_nil, Nat.zero_add, if_true, if_false, reduceIte, and_self, and_true, true_and, eq_self, reduceCtorEq, gM MP68, t_lkF wS d hb, t_lkM wS d hb]
  rfl
theorem t_frM_l (hN : N ≤ 6) (h38 : m.1 70 38 = nI N) (x : Int32) : ∀ k b, b + k = N → rn shP tb0 mN mO (semZ shP wS (d + 1)) (some .int) (codeZ 130) 2 [.ref 68, .int x, .int (nI b)] [] m = some (some (.int (fbI (fsB (m.1 70) x k b))), m) := by
  intro k
  have i38 := in63
  induction k with
  | zero =>
    intro b hb
    have e1 : nI N ≤ nI b := nI_le (by omega) (by omega)
    rw [r_X7_firstAt_2]
    simp only [EV, LV, CB, OI, OL, NP, CZ, popN, CT, OZ, List.map_nil, List.map_cons, List.sum_nil, List.sum_cons, Option.toList, List.nil_append, List.cons_append, Int.reduceToNat, Nat.reduceAdd, Nat.reduceLT, Nat.reduceLeDiff, List.length_cons, List.length_nil, Nat.zero_add, if_true, if_false, reduceIte, and_self, and_true, true_and, eq_self, reduceCtorEq, gM MP68, aM MP68, in63, h38, e1, r_X7_firstAt_40]
    rfl
  | succ k ih =>
    intro b hb
    have e1 : ¬ nI N ≤ nI b := nI_ge (by omega) (by omega)
    have e9 : ¬ b = 9 := by omega
    have o4 := t_ofM wS d (show b < 6 by omega) (K := 4) (by omega) m
    have o4 : semZ shP wS (d + 1) 125 [.ref 68, .int (nI b), .int 4] m = some (some (.int (m.1 70 (8 + 5 * b + 4))), m) := o4
    have o1 := t_ofM wS d (show b < 6 by omega) (K := 1) (by omega) m
    have o1 : semZ shP wS (d + 1) 125 [.ref 68, .int (nI b), .int 1] m = some (some (.int (m.1 70 (8 + 5 * b + 1))), m) := o1
    rw [r_X7_firstAt_2]
    unfold fsB
    by_cases q2 : m.1 70 (8 + 5 * b + 4) = 0
    · by_cases q1 : m.1 70 (8 + 5 * b + 1) = x
      · rw [if_pos ⟨q1, q2⟩]
        simp only [EV, LV, CB, OI, OL, NP, CZ, popN, CT, OZ, List.map_nil, List.map_cons, List.sum_nil, List.sum_cons, Option.toList, List.nil_append, List.cons_append, Int.reduceToNat, Nat.reduceAdd, Nat.reduceLT, Nat.reduceLeDiff, List.length_cons, List.length_nil, Nat.zero_add, if_true, if_false, reduceIte, and_self, and_true, true_and, eq_self, reduceCtorEq, gM MP68, aM MP68, in63, h38, e1, o4, o1, q1, q2, not_true_eq_false, fbI, e9]
      · rw [if_neg (fun z => q1 z.1)]
        simp only [EV, LV, CB, OI, OL, NP, CZ, popN, CT, OZ, List.map_nil, List.map_cons, List.sum_nil, List.sum_cons, Option.toList, List.nil_append, List.cons_append, Int.reduceToNat, Nat.reduceAdd, Nat.reduceLT, Nat.reduceLeDiff, List.length_cons, List.length_nil, Nat.zero_add, if_true, if_false, reduceIte, and_self, and_true, true_and, eq_self, reduceCtorEq, gM MP68, aM MP68, in63, h38, e1, o4, o1, q1, q2, not_true_eq_false, not_false_eq_true, r_X7_firstAt_34, nI_1]
        exact ih (b + 1) (by omega)
    · rw [if_neg (fun z => q2 z.2)]
      simp only [EV, LV, CB, OI, OL, NP, CZ, popN, CT, OZ, List.map_nil, List.map_cons, List.sum_nil, List.sum_cons, Option.toList, List.nil_append, List.cons_append, Int.reduceToNat, Nat.reduceAdd, Nat.reduceLT, Nat.reduceLeDiff, List.length_cons, List.length_nil, Nat.zero_add, if_true, if_false, reduceIte, and_self, and_true, true_and, eq_self, reduceCtorEq, gM MP68, aM MP68, in63, h38, e1, o4, q2, not_false_eq_true, r_X7_firstAt_34, nI_1]
      exact ih (b + 1) (by omega)
theorem t_firstM (hN : N ≤ 6) (h38 : m.1 70 38 = nI N) (x : Int32) : semZ shP wS (d + 2) 130 [.ref 68, .int x] m = some (some (.int (fbI (fsB (m.1 70) x N 0))), m) := by
  have i := t_frM_l wS d hN h38 x N 0 (by omega)
  rw [nI_0] at i
  rw [se_X7_firstAt, r_X7_firstAt_0]
  simp only [EV, LV, CB, OI, OL, NP, CZ, popN, CT, OZ, List.map_nil, List.map_cons, List.sum_nil, List.sum_cons, Option.toList, List.nil_append, List.cons_append, Int.reduceToNat, Nat.reduceAdd, Nat.reduceLT, Nat.reduceLeDiff, List.length_cons, List.length_nil, Nat.zero_add, if_true, if_false, reduceIte, and_self, and_true, true_and, eq_self, reduceCtorEq]
  exact i
theorem t_goM (hV : V ≤ 4) (hN : N ≤ 6) (h3 : m.1 68 3 = nI V) (h38 : m.1 70 38 = nI N) {g : Nat} (hg : g < V) : ∃ m', semZ shP wS (d + 4) 131 [.ref 68, .int (nI g)] m = some (none, m') ∧ m'.1 70 = (vgo V N g (m.1 70) (m.1 68 17)).1 ∧ m'.1 68 17 = (vgo V N g (m.1 70) (m.1 68 17)).2 ∧ m'.1 68 18 = m.1 68 18 ∧ MFr m m' := by
  have hf := t_firstM wS (d + 1) hN h38 (nI g)
  have hx := nxV_lt hg
  have hbb := fsB_lt (m.1 70) (nI g) N 0
  unfold vgo
  obtain ⟨b, eb⟩ : ∃ b, b = fsB (m.1 70) (nI g) N 0 := ⟨_, rfl⟩
  rw [← eb] at hf hbb ⊢
  rw [se_X7_villageGoes, r_X7_villageGoes_0]
  by_cases q9 : b = 9
  · rw [if_pos q9]
    have e9 : fbI b = -4 := by
      unfold fbI
      rw [if_pos q9]
    refine ⟨m, ?_, rfl, rfl, rfl, MFr_rf⟩
    simp only [EV, LV, CB, OI, OL, NP, CZ, popN, CT, OZ, List.map_nil, List.map_cons, List.sum_nil, List.sum_cons, Option.toList, List.nil_append, List.cons_append, Int.reduceToNat, Nat.reduceAdd, Nat.reduceLT, Nat.reduceLeDiff, List.length_cons, List.length_nil, Nat.zero_add, if_true, if_false, reduceIte, and_self, and_true, true_and, eq_self, reduceCtorEq, gM MP68, hf, e9, not_true_eq_false]
  · rw [if_neg q9]
    have hb : b < 6 := by omega
    have e9 : fbI b = nI b := by
      unfold fbI
      rw [if_neg q9]
    rw [e9] at hf
    have n4 : ¬ nI b = -4 := nI_n4 (by omega)
    have hl := t_lacksM wS d hb m
    have v0 : ¬ nI V = 0 := nI_ne0 (by omega) (by omega)
    have rx := rm_nx V (by omega) g hg
    have i0 := (ix_20 g (by omega)).1
    have i1 := (ix_20 (nxV V g) (by omega)).2
    have e4 : inR (nI (2 * g)) 63 = true := inR_nI (by omega) (by omega)
    have e5 : (nI (2 * g)).toNatClampNeg = 2 * g := nI_clamp (by omega)
    have e6 : inR (nI (2 * nxV V g + 1)) 63 = true := inR_nI (by omega) (by omega)
    have e7 : (nI (2 * nxV V g + 1)).toNatClampNeg = 2 * nxV V g + 1 := nI_clamp (by omega)
    have s4 : ∀ m, semZ shP wS (d + 3) 126 [.ref 68, .int (nI b), .int 4, .int 1] m = some (none, wI m 70 (8 + 5 * b + 4) 1) := fun m => t_setM wS (d + 2) hb (K := 4) (by omega) 1 m
    have s1 : ∀ m x, semZ shP wS (d + 3) 126 [.ref 68, .int (nI b), .int 1, .int x] m = some (none, wI m 70 (8 + 5 * b + 1) x) := fun m x => t_setM wS (d + 2) hb (K := 1) (by omega) x m
    simp only [EV, LV, CB, OI, OL, NP, CZ, popN, CT, OZ, List.map_nil, List.map_cons, List.sum_nil, List.sum_cons, Option.toList, List.nil_append, List.cons_append, Int.reduceToNat, Nat.reduceAdd, Nat.reduceLT, Nat.reduceLeDiff, List.length_cons, List.length_nil, Nat.zero_add, if_true, if_false, reduceIte, and_self, and_true, true_and, eq_self, reduceCtorEq, gM MP68, aM MP68, in63, hf, n4, not_false_eq_true, r_X7_villageGoes_13, hl, h3, nI_1, v0, rx]
    by_cases l0 : lk (m.1 70) b = 0
    · rw [if_pos l0]
      refine ⟨wI m 70 (8 + 5 * b + 4) 1, ?_, wI_r _ _ _ _, wI_o _ _ _ _ _ (by omega), wI_o _ _ _ _ _ (by omega), MFr_w MFr_rf _ _⟩
      simp only [EV, LV, CB, OI, OL, NP, CZ, popN, CT, OZ, List.map_nil, List.map_cons, List.sum_nil, List.sum_cons, Option.toList, List.nil_append, List.cons_append, Int.reduceToNat, Nat.reduceAdd, Nat.reduceLT, Nat.reduceLeDiff, List.length_cons, List.length_nil, Nat.zero_add, if_true, if_false, reduceIte, and_self, and_true, true_and, eq_self, reduceCtorEq, gM MP68, l0, not_true_eq_false, s4, r_X7_villageGoes_170]
    · rw [if_neg l0]
      simp only [l0, not_false_eq_true, if_true, EV, LV, CB, OI, OL, NP, CZ, popN, CT, OZ, List.map_nil, List.map_cons, List.sum_nil, List.sum_cons, Option.toList, List.nil_append, List.cons_append, Int.reduceToNat, Nat.reduceAdd, Nat.reduceLT, Nat.reduceLeDiff, List.length_cons, List.length_nil, Nat.zero_add, if_true, if_false, reduceIte, and_self, and_true, true_and, eq_self, reduceCtorEq]
      rw [r_X7_villageGoes_55]
      by_cases p1 : m.1 70 39 * lk (m.1 70) b < m.1 70 40 ∧ m.1 70 39 * lk (m.1 70) b ≤ m.1 70 (2 * g)
      · rw [if_pos p1]
        have n1 : ¬ m.1 70 40 ≤ m.1 70 39 * lk (m.1 70) b := Int32.not_le.mpr p1.1
        have n2 : ¬ m.1 70 (2 * g) < m.1 70 39 * lk (m.1 70) b := Int32.not_lt.mpr p1.2
        refine ⟨wI (wI m 70 (2 * g) (m.1 70 (2 * g) - m.1 70 39 * lk (m.1 70) b)) 70 (8 + 5 * b + 4) 1, ?_, by rw [wI_r, wI_r], by rw [wI_o _ _ _ _ _ (by omega), wI_o _ _ _ _ _ (by omega)], by rw [wI_o _ _ _ _ _ (by omega), wI_o _ _ _ _ _ (by omega)], MFr_w (MFr_w MFr_rf _ _) _ _⟩
        simp only [EV, LV, CB, OI, OL, NP, CZ, popN, CT, OZ, List.map_nil, List.map_cons, List.sum_nil, List.sum_cons, Option.toList, List.nil_append, List.cons_append, Int.reduceToNat, Nat.reduceAdd, Nat.reduceLT, Nat.reduceLeDiff, List.length_cons, List.length_nil, Nat.zero_add, if_true, if_false, reduceIte, and_self, and_true, true_and, eq_self, reduceCtorEq, gM MP68, aM MP68, sM MP68, in63, i0, n1, n2, e4, e5, s4, r_X7_villageGoes_170]
      · rw [if_neg p1]
        have go : exI shP tb0 mN mO (semZ shP wS (d + 3)) none (rn shP tb0 mN mO (semZ shP wS (d + 3)) none (codeZ 131)) [.iload 3, .aload 0, .getfield 701, .sipush (40), .iaload, .if_icmp .ge 104, .iload 3, .aload 0, .getfield 701, .sipush (2), .iload 1, .imul, .sipush (0), .iadd, .iaload, .if_icmp .gt 104, .aload 0, .getfield 701, .sipush (2), .iload 1, .imul, .sipush (0), .iadd, .dup2, .iaload, .iload 3, .isub, .iastore, .aload 0, .iload 2, .sipush (4), .sipush (1), .invokevirtual 126, .goto 170] [.ref 68, .int (nI g), .int (nI b), .int (m.1 70 39 * lk (m.1 70) b), .int (nI (nxV V g))] [] m = rn shP tb0 mN mO (semZ shP wS (d + 3)) none (codeZ 131) 104 [.ref 68, .int (nI g), .int (nI b), .int (m.1 70 39 * lk (m.1 70) b), .int (nI (nxV V g))] [] m := by
          by_cases p2 : m.1 70 40 ≤ m.1 70 39 * lk (m.1 70) b
          · simp only [EV, LV, CB, OI, OL, NP, CZ, popN, CT, OZ, List.map_nil, List.map_cons, List.sum_nil, List.sum_cons, Option.toList, List.nil_append, List.cons_append, Int.reduceToNat, Nat.reduceAdd, Nat.reduceLT, Nat.reduceLeDiff, List.length_cons, List.length_nil, Nat.zero_add, if_true, if_false, reduceIte, and_self, and_true, true_and, eq_self, reduceCtorEq, gM MP68, aM MP68, in63, p2]
          · have p3 : m.1 70 (2 * g) < m.1 70 39 * lk (m.1 70) b := Int32.not_le.mp (fun z => p1 ⟨Int32.not_le.mp p2, z⟩)
            simp only [EV, LV, CB, OI, OL, NP, CZ, popN, CT, OZ, List.map_nil, List.map_cons, List.sum_nil, List.sum_cons, Option.toList, List.nil_append, List.cons_append, Int.reduceToNat, Nat.reduceAdd, Nat.reduceLT, Nat.reduceLeDiff, List.length_cons, List.length_nil, Nat.zero_add, if_true, if_false, reduceIte, and_self, and_true, true_and, eq_self, reduceCtorEq, gM MP68, aM MP68, in63, p2, i0, e4, e5, p3]
        rw [go, r_X7_villageGoes_104]
        by_cases v1 : V ≤ 1
        · have w1 : nI V ≤ 1 := nI_le (b := 1) v1 (by omega)
          rw [if_pos v1]
          refine ⟨m, ?_, rfl, rfl, rfl, MFr_rf⟩
          simp only [EV, LV, CB, OI, OL, NP, CZ, popN, CT, OZ, List.map_nil, List.map_cons, List.sum_nil, List.sum_cons, Option.toList, List.nil_append, List.cons_append, Int.reduceToNat, Nat.reduceAdd, Nat.reduceLT, Nat.reduceLeDiff, List.length_cons, List.length_nil, Nat.zero_add, if_true, if_false, reduceIte, and_self, and_true, true_and, eq_self, reduceCtorEq, gM MP68, h3, w1, r_X7_villageGoes_147, r_X7_villageGoes_170]
        · have w1 : ¬ nI V ≤ 1 := nI_ge (a := 1) (by omega) (by omega)
          rw [if_neg v1]
          by_cases z : m.1 70 (2 * nxV V g + 1) = 0
          · rw [if_pos z]
            have q17 : (wI m 70 (8 + 5 * b + 1) (nI (nxV V g))).1 68 17 = m.1 68 17 := wI_o _ _ _ _ _ (by omega)
            refine ⟨wI (wI m 70 (8 + 5 * b + 1) (nI (nxV V g))) 68 17 (m.1 68 17 + 1), ?_, by rw [wI_n _ _ _ _ (by omega), wI_r], wI_s _ _ _ _, by rw [wI_j _ _ _ _ _ (by omega), wI_o _ _ _ _ _ (by omega)], MFr_f (MFr_w MFr_rf _ _) _ (Or.inl rfl)⟩
            simp only [EV, LV, CB, OI, OL, NP, CZ, popN, CT, OZ, List.map_nil, List.map_cons, List.sum_nil, List.sum_cons, Option.toList, List.nil_append, List.cons_append, Int.reduceToNat, Nat.reduceAdd, Nat.reduceLT, Nat.reduceLeDiff, List.length_cons, List.length_nil, Nat.zero_add, if_true, if_false, reduceIte, and_self, and_true, true_and, eq_self, reduceCtorEq, gM MP68, aM MP68, pM MP68, h3, w1, i1, e6, e7, z, not_true_eq_false, s1, q17, r_X7_villageGoes_170]
          · rw [if_neg z]
            refine ⟨wI m 70 (2 * nxV V g + 1) (m.1 70 (2 * nxV V g + 1) - 1), ?_, wI_r _ _ _ _, wI_o _ _ _ _ _ (by omega), wI_o _ _ _ _ _ (by omega), MFr_w MFr_rf _ _⟩
            simp only [EV, LV, CB, OI, OL, NP, CZ, popN, CT, OZ, List.map_nil, List.map_cons, List.sum_nil, List.sum_cons, Option.toList, List.nil_append, List.cons_append, Int.reduceToNat, Nat.reduceAdd, Nat.reduceLT, Nat.reduceLeDiff, List.length_cons, List.length_nil, Nat.zero_add, if_true, if_false, reduceIte, and_self, and_true, true_and, eq_self, reduceCtorEq, gM MP68, aM MP68, sM MP68, h3, w1, i1, e6, e7, z, not_false_eq_true, r_X7_villageGoes_147]
theorem t_flag1 (m : Mm) : semZ shP wS (d + 1) 102 [.int 1] m = some (some (.int 1), m) := by
  have e10 : ¬ (1 : Int32) = 0 := by decide
  rw [se_X7_flag, r_X7_flag_0]
  simp only [EV, LV, CB, OI, OL, NP, CZ, popN, CT, OZ, List.map_nil, List.map_cons, List.sum_nil, List.sum_cons, Option.toList, List.nil_append, List.cons_append, Int.reduceToNat, Nat.reduceAdd, Nat.reduceLT, Nat.reduceLeDiff, List.length_cons, List.length_nil, Nat.zero_add, if_true, if_false, reduceIte, and_self, and_true, true_and, eq_self, reduceCtorEq, e10, r_X7_flag_9]
theorem t_flag0 (m : Mm) : semZ shP wS (d + 1) 102 [.int 0] m = some (some (.int 0), m) := by
  rw [se_X7_flag, r_X7_flag_0]
  simp only [EV, LV, CB, OI, OL, NP, CZ, popN, CT, OZ, List.map_nil, List.map_cons, List.sum_nil, List.sum_cons, Option.toList, List.nil_append, List.cons_append, Int.reduceToNat, Nat.reduceAdd, Nat.reduceLT, Nat.reduceLeDiff, List.length_cons, List.length_nil, Nat.zero_add, if_true, if_false, reduceIte, and_self, and_true, true_and, eq_self, reduceCtorEq, r_X7_flag_8]
theorem or_sh0 (r y : Int32) : r ||| (0 : Int32) <<< y = r := by
  rw [Int32.zero_shiftLeft, Int32.or_zero]
end Nm
section Nn
variable {V N : Nat} (wS : List Value → Mm → Option Rs) (d : Nat)
theorem t_crM (hV : V ≤ 4) (hN : N ≤ 6) : ∀ k b m (v2 v3 : Value), b + k = N → m.1 70 38 = nI N → Atf V N (m.1 70) → ∃ m', rn shP tb0 mN mO (semZ shP wS (d + 1)) none (codeZ 132) 2 [.ref 68, .int (nI b), v2, v3] [] m = some (none, m') ∧ m'.1 70 = crF N k b (m.1 70) ∧ m'.1 68 18 = crR N k b (m.1 70) (m.1 68 18) ∧ m'.1 68 17 = m.1 68 17 ∧ MFr m m' := by
  intro k
  induction k with
  | zero =>
    intro b m v2 v3 hb h38 ha
    have e1 : nI N ≤ nI b := nI_le (by omega) (by omega)
    refine ⟨m, ?_, rfl, rfl, rfl, MFr_rf⟩
    rw [r_X7_crownerComes_2]
    simp only [EV, LV, CB, OI, OL, NP, CZ, popN, CT, OZ, List.map_nil, List.map_cons, List.sum_nil, List.sum_cons, Option.toList, List.nil_append, List.cons_append, Int.reduceToNat, Nat.reduceAdd, Nat.reduceLT, Nat.reduceLeDiff, List.length_cons, List.length_nil, Nat.zero_add, if_true, if_false, reduceIte, and_self, and_true, true_and, eq_self, reduceCtorEq, gM MP68, aM MP68, in63, h38, e1, r_X7_crownerComes_119]
  | succ k ih =>
    intro b m v2 v3 hb h38 ha
    have e1 : ¬ nI N ≤ nI b := nI_ge (by omega) (by omega)
    have hb6 : b < 6 := by omega
    have o4 := t_ofM wS d hb6 (K := 4) (by omega) m
    have o4 : semZ shP wS (d + 1) 125 [.ref 68, .int (nI b), .int 4] m = some (some (.int (m.1 70 (8 + 5 * b + 4))), m) := o4
    have o1 := t_ofM wS d hb6 (K := 1) (by omega) m
    have o1 : semZ shP wS (d + 1) 125 [.ref 68, .int (nI b), .int 1] m = some (some (.int (m.1 70 (8 + 5 * b + 1))), m) := o1
    have s4 : ∀ m, semZ shP wS (d + 1) 126 [.ref 68, .int (nI b), .int 4, .int 2] m = some (none, wI m 70 (8 + 5 * b + 4) 2) := fun m => t_setM wS d hb6 (K := 4) (by omega) 2 m
    unfold crF crR
    by_cases q : m.1 70 (8 + 5 * b + 4) = 0
    · rw [if_pos q, if_pos q]
      obtain ⟨a, ha1, ha2⟩ := ha.1 b (by omega)
      have ec : (m.1 70 (8 + 5 * b + 1)).toNatClampNeg = a := by rw [ha2]; exact nI_clamp (by omega)
      rw [ec, ha2]
      rw [ha2] at o1
      have i0 := (ix_20 a (by omega)).1
      have e4 : inR (nI (2 * a)) 63 = true := inR_nI (by omega) (by omega)
      have e5 : (nI (2 * a)).toNatClampNeg = 2 * a := nI_clamp (by omega)
      have e10 : ¬ (1 : Int32) = 0 := by decide
      by_cases p : m.1 70 (2 * a) < m.1 70 40
      · rw [if_pos p, if_pos p]
        have p' : ¬ m.1 70 40 ≤ m.1 70 (2 * a) := Int32.not_le.mpr p
        obtain ⟨M, eM⟩ : ∃ M, M = wI (wI (wI m 68 18 (m.1 68 18 ||| 1 <<< (nI a &&& 31))) 70 (2 * a) 0) 70 (8 + 5 * b + 4) 2 := ⟨_, rfl⟩
        have M70 : M.1 70 = upd (upd (m.1 70) (2 * a) 0) (8 + 5 * b + 4) 2 := by rw [eM, wI_r, wI_r, wI_n _ _ _ _ (by omega)]
        have M18 : M.1 68 18 = m.1 68 18 ||| 1 <<< (nI a &&& 31) := by rw [eM, wI_o _ _ _ _ _ (by omega), wI_o _ _ _ _ _ (by omega), wI_s]
        have M17 : M.1 68 17 = m.1 68 17 := by rw [eM, wI_o _ _ _ _ _ (by omega), wI_o _ _ _ _ _ (by omega), wI_j _ _ _ _ _ (by omega)]
        have MF : MFr m M := by rw [eM]; exact MFr_w (MFr_w (MFr_f MFr_rf _ (Or.inr rfl)) _ _) _ _
        obtain ⟨m2, r2, k1, k6, k7, kF⟩ := ih (b + 1) M (.int (nI a)) (.int 1) (by omega) (by rw [M70, upd_n _ _ (by omega), upd_n _ _ (by omega)]; exact h38) (by rw [M70]; exact Atf_u (Atf_u ha (j := 2 * a) 0 (fun b _ => by omega)) (j := 8 + 5 * b + 4) 2 (fun b _ => by omega))
        rw [M70] at k1 k6
        rw [M18] at k6
        rw [M17] at k7
        refine ⟨m2, ?_, k1, k6, k7, MFr_tr MF kF⟩
        rw [r_X7_crownerComes_2]
        simp only [EV, LV, CB, OI, OL, NP, CZ, popN, CT, OZ, List.map_nil, List.map_cons, List.sum_nil, List.sum_cons, Option.toList, List.nil_append, List.cons_append, Int.reduceToNat, Nat.reduceAdd, Nat.reduceLT, Nat.reduceLeDiff, List.length_cons, List.length_nil, Nat.zero_add, if_true, if_false, reduceIte, and_self, and_true, true_and, eq_self, reduceCtorEq, gM MP68, aM MP68, sM MP68, pM MP68, in63, h38, e1, o4, q, o1, i0, e4, e5, p', not_true_eq_false, r_X7_crownerComes_54, t_flag1 wS d, e10, r_X7_crownerComes_105, s4, nI_1]
        rw [eM] at r2
        exact r2
      · rw [if_neg p, if_neg p]
        have p' : m.1 70 40 ≤ m.1 70 (2 * a) := Int32.not_lt.mp p
        have w8 : wI m 68 18 (m.1 68 18) = m := by rw [wI_R, upd_id, setR_id]
        obtain ⟨M, eM⟩ : ∃ M, M = wI (wI m 70 (2 * a) (m.1 70 (2 * a) - m.1 70 40)) 70 (8 + 5 * b + 4) 2 := ⟨_, rfl⟩
        have M70 : M.1 70 = upd (upd (m.1 70) (2 * a) (m.1 70 (2 * a) - m.1 70 40)) (8 + 5 * b + 4) 2 := by rw [eM, wI_r, wI_r]
        have M18 : M.1 68 18 = m.1 68 18 := by rw [eM, wI_o _ _ _ _ _ (by omega), wI_o _ _ _ _ _ (by omega)]
        have M17 : M.1 68 17 = m.1 68 17 := by rw [eM, wI_o _ _ _ _ _ (by omega), wI_o _ _ _ _ _ (by omega)]
        have MF : MFr m M := by rw [eM]; exact MFr_w (MFr_w MFr_rf _ _) _ _
        obtain ⟨m2, r2, k1, k6, k7, kF⟩ := ih (b + 1) M (.int (nI a)) (.int 0) (by omega) (by rw [M70, upd_n _ _ (by omega), upd_n _ _ (by omega)]; exact h38) (by rw [M70]; exact Atf_u (Atf_u ha (j := 2 * a) _ (fun b _ => by omega)) (j := 8 + 5 * b + 4) 2 (fun b _ => by omega))
        rw [M70] at k1 k6
        rw [M18] at k6
        rw [M17] at k7
        refine ⟨m2, ?_, k1, k6, k7, MFr_tr MF kF⟩
        rw [r_X7_crownerComes_2]
        simp only [EV, LV, CB, OI, OL, NP, CZ, popN, CT, OZ, List.map_nil, List.map_cons, List.sum_nil, List.sum_cons, Option.toList, List.nil_append, List.cons_append, Int.reduceToNat, Nat.reduceAdd, Nat.reduceLT, Nat.reduceLeDiff, List.length_cons, List.length_nil, Nat.zero_add, if_true, if_false, reduceIte, and_self, and_true, true_and, eq_self, reduceCtorEq, gM MP68, aM MP68, sM MP68, pM MP68, in63, h38, e1, o4, q, o1, i0, e4, e5, p', not_true_eq_false, r_X7_crownerComes_53, t_flag0 wS d, or_sh0, w8, r_X7_crownerComes_87, s4, nI_1]
        rw [eM] at r2
        exact r2
    · rw [if_neg q, if_neg q]
      obtain ⟨m2, r2, k⟩ := ih (b + 1) m v2 v3 (by omega) h38 ha
      refine ⟨m2, ?_, k⟩
      rw [r_X7_crownerComes_2]
      simp only [EV, LV, CB, OI, OL, NP, CZ, popN, CT, OZ, List.map_nil, List.map_cons, List.sum_nil, List.sum_cons, Option.toList, List.nil_append, List.cons_append, Int.reduceToNat, Nat.reduceAdd, Nat.reduceLT, Nat.reduceLeDiff, List.length_cons, List.length_nil, Nat.zero_add, if_true, if_false, reduceIte, and_self, and_true, true_and, eq_self, reduceCtorEq, gM MP68, aM MP68, in63, h38, e1, o4, q, not_false_eq_true, r_X7_crownerComes_113, nI_1]
      exact r2
theorem t_crownM {m : Mm} (hV : V ≤ 4) (hN : N ≤ 6) (h38 : m.1 70 38 = nI N) (ha : Atf V N (m.1 70)) : ∃ m', semZ shP wS (d + 2) 132 [.ref 68] m = some (none, m') ∧ m'.1 70 = crF N N 0 (m.1 70) ∧ m'.1 68 18 = crR N N 0 (m.1 70) (m.1 68 18) ∧ m'.1 68 17 = m.1 68 17 ∧ MFr m m' := by
  obtain ⟨m', r, k⟩ := t_crM wS d hV hN N 0 m noV noV (by omega) h38 ha
  refine ⟨m', ?_, k⟩
  rw [nI_0] at r
  rw [se_X7_crownerComes, r_X7_crownerComes_0]
  simp only [EV, LV, CB, OI, OL, NP, CZ, popN, CT, OZ, List.map_nil, List.map_cons, List.sum_nil, List.sum_cons, Option.toList, List.nil_append, List.cons_append, Int.reduceToNat, Nat.reduceAdd, Nat.reduceLT, Nat.reduceLeDiff, List.length_cons, List.length_nil, Nat.zero_add, if_true, if_false, reduceIte, and_self, and_true, true_and, eq_self, reduceCtorEq]
  exact r
theorem t_gosM {t : Nat → Nat} (hV : V ≤ 4) (hN : N ≤ 6) (ht : ∀ i, i < V → t i < V) : ∀ k i m, i + k = V → m.1 68 3 = nI V → m.1 70 38 = nI N → Atf V N (m.1 70) → (∀ i, i < V → m.1 74 i = nI (t i)) → ∃ m', rn shP tb0 mN mO (semZ shP wS (d + 4)) none (codeZ 133) 2 [.ref 68, .int (nI i)] [] m = rn shP tb0 mN mO (semZ shP wS (d + 4)) none (codeZ 133) 26 [.ref 68, .int (nI V)] [] m' ∧ m'.1 70 = (vgs V N t k i (m.1 70) (m.1 68 17)).1 ∧ m'.1 68 17 = (vgs V N t k i (m.1 70) (m.1 68 17)).2 ∧ m'.1 68 18 = m.1 68 18 ∧ MFr m m' := by
  intro k
  induction k with
  | zero =>
    intro i m hi h3 h38 ha hT
    have ei : i = V := by omega
    subst ei
    have e1 : nI i ≤ nI i := Int32.le_refl _
    refine ⟨m, ?_, rfl, rfl, rfl, MFr_rf⟩
    rw [r_X7_nightGoes_2]
    simp only [EV, LV, CB, OI, OL, NP, CZ, popN, CT, OZ, List.map_nil, List.map_cons, List.sum_nil, List.sum_cons, Option.toList, List.nil_append, List.cons_append, Int.reduceToNat, Nat.reduceAdd, Nat.reduceLT, Nat.reduceLeDiff, List.length_cons, List.length_nil, Nat.zero_add, if_true, if_false, reduceIte, and_self, and_true, true_and, eq_self, reduceCtorEq, gM MP68, h3, e1]
  | succ k ih =>
    intro i m hi h3 h38 ha hT
    have e1 : ¬ nI V ≤ nI i := nI_ge (by omega) (by omega)
    have e4 : inR (nI i) 4 = true := inR_nI (by omega) (by omega)
    have e5 : (nI i).toNatClampNeg = i := nI_clamp (by omega)
    have eT := hT i (by omega)
    obtain ⟨m1, r1, h70, h17, h18, hF⟩ := t_goM wS d hV hN h3 h38 (ht i (by omega))
    obtain ⟨m2, r2, k70, k17, k18, kF⟩ := ih (i + 1) m1 (by omega) (by rw [hF.2 3 (by omega) (by omega)]; exact h3) (by rw [h70, vgo_o _ (ht i (by omega)) hV hN (by omega)]; exact h38) (by rw [h70]; exact vgo_at _ ha (ht i (by omega)) hV) (fun j hj => by rw [hF.1 74 (by omega) (by omega)]; exact hT j hj)
    rw [h70, h17] at k70 k17
    refine ⟨m2, ?_, k70, k17, k18.trans h18, MFr_tr hF kF⟩
    rw [r_X7_nightGoes_2]
    simp only [EV, LV, CB, OI, OL, NP, CZ, popN, CT, OZ, List.map_nil, List.map_cons, List.sum_nil, List.sum_cons, Option.toList, List.nil_append, List.cons_append, Int.reduceToNat, Nat.reduceAdd, Nat.reduceLT, Nat.reduceLeDiff, List.length_cons, List.length_nil, Nat.zero_add, if_true, if_false, reduceIte, and_self, and_true, true_and, eq_self, reduceCtorEq, gM MP68, aM MP68, h3, e1, e4, e5, eT, r1, nI_1]
    exact r2
theorem t_nightM {t : Nat → Nat} {m : Mm} (hV : V ≤ 4) (hN : N ≤ 6) (ht : ∀ i, i < V → t i < V) (h3 : m.1 68 3 = nI V) (h38 : m.1 70 38 = nI N) (ha : Atf V N (m.1 70)) (hT : ∀ i, i < V → m.1 74 i = nI (t i)) (hr : 0 < m.1 70 41) : ∃ m', semZ shP wS (d + 5) 133 [.ref 68] m = some (none, m') ∧ m'.1 70 = ngF V N t (m.1 70) (m.1 68 18) ∧ m'.1 68 17 = ngC V N t (m.1 70) (m.1 68 17) ∧ m'.1 68 18 = ngR V N t (m.1 70) (m.1 68 18) ∧ MFr m m' := by
  obtain ⟨m1, r1, h70, h17, h18, hF⟩ := t_gosM wS d hV hN ht V 0 m (by omega) h3 h38 ha hT
  have av := vgs_at ht hV hN V 0 (m.1 70) (m.1 68 17) (by omega) ha
  have ec := vgs_c V N t V 0 (m.1 70) 0 (m.1 68 17)
  unfold ngF ngC ngR
  rw [ec]
  rw [← h70] at av ⊢
  have r41 : m1.1 70 41 = m.1 70 41 := av.2 41 (by omega)
  have n1 : ¬ m1.1 70 41 = 0 := fun z => Int32.not_le.mpr hr (by rw [← r41, z]; exact Int32.le_refl _)
  have h38' : m1.1 70 38 = nI N := by rw [av.2 38 (by omega)]; exact h38
  rw [se_X7_nightGoes, r_X7_nightGoes_0]
  rw [nI_0] at r1
  simp only [EV, LV, CB, OI, OL, NP, CZ, popN, CT, OZ, List.map_nil, List.map_cons, List.sum_nil, List.sum_cons, Option.toList, List.nil_append, List.cons_append, Int.reduceToNat, Nat.reduceAdd, Nat.reduceLT, Nat.reduceLeDiff, List.length_cons, List.length_nil, Nat.zero_add, if_true, if_false, reduceIte, and_self, and_true, true_and, eq_self, reduceCtorEq]
  rw [r1, r_X7_nightGoes_26]
  by_cases z : remI (m1.1 70 42 + 1) (m1.1 70 41) = 0
  · rw [if_pos z, if_pos z]
    obtain ⟨m2, r2, k70, k18, k17, kF⟩ := t_crownM wS (d + 2) hV hN h38' av.1
    rw [h18] at k18
    rw [← k18, ← k70]
    refine ⟨wI (wI m2 70 43 (m2.1 70 43 ||| m2.1 68 18)) 70 42 (m2.1 70 42 + 1), ?_, by rw [wI_r, wI_r], ?_, ?_, MFr_tr hF (MFr_w (MFr_w kF _ _) _ _)⟩
    · have z' : m1.1 70 42 + 1 - (m1.1 70 42 + 1) / m1.1 70 41 * m1.1 70 41 = 0 := z
      have q42 : (wI m2 70 43 (m2.1 70 43 ||| m2.1 68 18)).1 70 42 = m2.1 70 42 := wI_j _ _ _ _ _ (by omega)
      simp only [EV, LV, CB, OI, OL, NP, CZ, popN, CT, OZ, List.map_nil, List.map_cons, List.sum_nil, List.sum_cons, Option.toList, List.nil_append, List.cons_append, Int.reduceToNat, Nat.reduceAdd, Nat.reduceLT, Nat.reduceLeDiff, List.length_cons, List.length_nil, Nat.zero_add, if_true, if_false, reduceIte, and_self, and_true, true_and, eq_self, reduceCtorEq, gM MP68, aM MP68, sM MP68, in63, n1, z', not_true_eq_false, r2, q42]
    · rw [wI_o _ _ _ _ _ (by omega), wI_o _ _ _ _ _ (by omega), k17]; exact h17
    · rw [wI_o _ _ _ _ _ (by omega), wI_o _ _ _ _ _ (by omega)]
  · rw [if_neg z, if_neg z]
    refine ⟨wI m1 70 42 (m1.1 70 42 + 1), ?_, wI_r _ _ _ _, ?_, ?_, MFr_w hF _ _⟩
    · have z' : ¬ m1.1 70 42 + 1 - (m1.1 70 42 + 1) / m1.1 70 41 * m1.1 70 41 = 0 := z
      simp only [EV, LV, CB, OI, OL, NP, CZ, popN, CT, OZ, List.map_nil, List.map_cons, List.sum_nil, List.sum_cons, Option.toList, List.nil_append, List.cons_append, Int.reduceToNat, Nat.reduceAdd, Nat.reduceLT, Nat.reduceLeDiff, List.length_cons, List.length_nil, Nat.zero_add, if_true, if_false, reduceIte, and_self, and_true, true_and, eq_self, reduceCtorEq, gM MP68, aM MP68, sM MP68, in63, n1, z', not_false_eq_true, r_X7_nightGoes_64]
    · rw [wI_o _ _ _ _ _ (by omega)]; exact h17
    · rw [wI_o _ _ _ _ _ (by omega)]; exact h18
theorem t_meansM_l {m : Mm} (hV : V ≤ 4) (h3 : m.1 68 3 = nI V) : ∀ k g s, g + k = V → rn shP tb0 mN mO (semZ shP wS d) (some .int) (codeZ 134) 4 [.ref 68, .int s, .int (nI g)] [] m = some (some (.int (smM (m.1 70) k g s)), m) := by
  intro k
  induction k with
  | zero =>
    intro g s hg
    have e1 : nI V ≤ nI g := nI_le (by omega) (by omega)
    rw [r_X7_allMeans_4]
    simp only [EV, LV, CB, OI, OL, NP, CZ, popN, CT, OZ, List.map_nil, List.map_cons, List.sum_nil, List.sum_cons, Option.toList, List.nil_append, List.cons_append, Int.reduceToNat, Nat.reduceAdd, Nat.reduceLT, Nat.reduceLeDiff, List.length_cons, List.length_nil, Nat.zero_add, if_true, if_false, reduceIte, and_self, and_true, true_and, eq_self, reduceCtorEq, gM MP68, h3, e1, r_X7_allMeans_31]
    rfl
  | succ k ih =>
    intro g s hg
    have e1 : ¬ nI V ≤ nI g := nI_ge (by omega) (by omega)
    have i0 := (ix_20 g (by omega)).1
    have e4 : inR (nI (2 * g)) 63 = true := inR_nI (by omega) (by omega)
    have e5 : (nI (2 * g)).toNatClampNeg = 2 * g := nI_clamp (by omega)
    rw [r_X7_allMeans_4]
    simp only [EV, LV, CB, OI, OL, NP, CZ, popN, CT, OZ, List.map_nil, List.map_cons, List.sum_nil, List.sum_cons, Option.toList, List.nil_append, List.cons_append, Int.reduceToNat, Nat.reduceAdd, Nat.reduceLT, Nat.reduceLeDiff, List.length_cons, List.length_nil, Nat.zero_add, if_true, if_false, reduceIte, and_self, and_true, true_and, eq_self, reduceCtorEq, gM MP68, aM MP68, h3, e1, i0, e4, e5, nI_1]
    exact ih (g + 1) _ (by omega)
theorem t_meansM {m : Mm} (hV : V ≤ 4) (h3 : m.1 68 3 = nI V) : semZ shP wS (d + 1) 134 [.ref 68] m = some (some (.int (smM (m.1 70) V 0 0)), m) := by
  have i := t_meansM_l wS d hV h3 V 0 0 (by omega)
  rw [nI_0] at i
  rw [se_X7_allMeans, r_X7_allMeans_0]
  simp only [EV, LV, CB, OI, OL, NP, CZ, popN, CT, OZ, List.map_nil, List.map_cons, List.sum_nil, List.sum_cons, Option.toList, List.nil_append, List.cons_append, Int.reduceToNat, Nat.reduceAdd, Nat.reduceLT, Nat.reduceLeDiff, List.length_cons, List.length_nil, Nat.zero_add, if_true, if_false, reduceIte, and_self, and_true, true_and, eq_self, reduceCtorEq]
  exact i
theorem t_paidM_l {t : Nat → Nat} (hV : V ≤ 4) (hN : N ≤ 6) (ht : ∀ i, i < V → t i < V) (u : Int32) {n : Nat} (hn : n < 2 ^ 31) : ∀ k i m, i + k = n → m.1 68 3 = nI V → m.1 70 38 = nI N → Atf V N (m.1 70) → (∀ i, i < V → m.1 74 i = nI (t i)) → 0 < m.1 70 41 → ∃ m', rn shP tb0 mN mO (semZ shP wS (d + 5)) (some .int) (codeZ 135) 17 [.ref 68, .int (nI n), .int u, .int (nI i)] [] m = rn shP tb0 mN mO (semZ shP wS (d + 5)) (some .int) (codeZ 135) 32 [.ref 68, .int (nI n), .int u, .int (nI n)] [] m' ∧ m'.1 70 = nsF V N t k (m.1 70) (m.1 68 18) ∧ m'.1 68 17 = nsC V N t k (m.1 70) (m.1 68 18) (m.1 68 17) ∧ m'.1 68 18 = nsR V N t k (m.1 70) (m.1 68 18) ∧ MFr m m' := by
  intro k
  induction k with
  | zero =>
    intro i m hi h3 h38 ha hT hr
    have ei : i = n := by omega
    subst ei
    have e1 : nI i ≤ nI i := Int32.le_refl _
    refine ⟨m, ?_, rfl, rfl, rfl, MFr_rf⟩
    rw [r_X7_paidIn_17]
    simp only [EV, LV, CB, OI, OL, NP, CZ, popN, CT, OZ, List.map_nil, List.map_cons, List.sum_nil, List.sum_cons, Option.toList, List.nil_append, List.cons_append, Int.reduceToNat, Nat.reduceAdd, Nat.reduceLT, Nat.reduceLeDiff, List.length_cons, List.length_nil, Nat.zero_add, if_true, if_false, reduceIte, and_self, and_true, true_and, eq_self, reduceCtorEq, e1]
  | succ k ih =>
    intro i m hi h3 h38 ha hT hr
    have e1 : ¬ nI n ≤ nI i := nI_ge (by omega) (by omega)
    have na := ng_at ht hV hN (m.1 68 18) ha
    obtain ⟨m1, r1, h70, h17, h18, hF⟩ := t_nightM wS d hV hN ht h3 h38 ha hT hr
    obtain ⟨m2, r2, k70, k17, k18, kF⟩ := ih (i + 1) m1 (by omega) (by rw [hF.2 3 (by omega) (by omega)]; exact h3) (by rw [h70, na.2.1 38 (by omega) (by omega) (by omega)]; exact h38) (by rw [h70]; exact na.1) (fun j hj => by rw [hF.1 74 (by omega) (by omega)]; exact hT j hj) (by rw [h70, na.2.1 41 (by omega) (by omega) (by omega)]; exact hr)
    rw [h70, h18] at k70 k18
    rw [h70, h18, h17] at k17
    refine ⟨m2, ?_, k70, k17, k18, MFr_tr hF kF⟩
    rw [r_X7_paidIn_17]
    simp only [EV, LV, CB, OI, OL, NP, CZ, popN, CT, OZ, List.map_nil, List.map_cons, List.sum_nil, List.sum_cons, Option.toList, List.nil_append, List.cons_append, Int.reduceToNat, Nat.reduceAdd, Nat.reduceLT, Nat.reduceLeDiff, List.length_cons, List.length_nil, Nat.zero_add, if_true, if_false, reduceIte, and_self, and_true, true_and, eq_self, reduceCtorEq, gM MP68, e1, r1, nI_1]
    exact r2
theorem t_paidM {t : Nat → Nat} {m : Mm} (hV : V ≤ 4) (hN : N ≤ 6) (ht : ∀ i, i < V → t i < V) {n : Nat} (hn : n < 2 ^ 31) (h3 : m.1 68 3 = nI V) (h38 : m.1 70 38 = nI N) (ha : Atf V N (m.1 70)) (hT : ∀ i, i < V → m.1 74 i = nI (t i)) (hr : 0 < m.1 70 41) : ∃ m', semZ shP wS (d + 6) 135 [.ref 68, .int (nI n)] m = some (some (.int (smM (m.1 70) V 0 0 - smM (nsF V N t n (m.1 70) 0) V 0 0)), m') ∧ m'.1 70 = nsF V N t n (m.1 70) 0 ∧ m'.1 68 17 = nsC V N t n (m.1 70) 0 0 ∧ m'.1 68 18 = nsR V N t n (m.1 70) 0 ∧ MFr m m' := by
  obtain ⟨M, eM⟩ : ∃ M, M = wI (wI m 68 17 0) 68 18 0 := ⟨_, rfl⟩
  have MF : MFr m M := by rw [eM]; exact MFr_f (MFr_f MFr_rf _ (Or.inl rfl)) _ (Or.inr rfl)
  have M70 : M.1 70 = m.1 70 := by rw [eM, wI_n _ _ _ _ (by omega), wI_n _ _ _ _ (by omega)]
  have M17 : M.1 68 17 = 0 := by rw [eM, wI_j _ _ _ _ _ (by omega), wI_s]
  have M18 : M.1 68 18 = 0 := by rw [eM, wI_s]
  obtain ⟨m', r, k70, k17, k18, kF⟩ := t_paidM_l wS d hV hN ht (smM (m.1 70) V 0 0) hn n 0 M (by omega) (by rw [MF.2 3 (by omega) (by omega)]; exact h3) (by rw [M70]; exact h38) (by rw [M70]; exact ha) (fun j hj => by rw [MF.1 74 (by omega) (by omega)]; exact hT j hj) (by rw [M70]; exact hr)
  rw [M70, M18] at k70 k18
  rw [M70, M18, M17] at k17
  have s0 := t_meansM wS (d + 4) hV h3
  have s1 := t_meansM wS (d + 4) (m := m') hV (by rw [kF.2 3 (by omega) (by omega), MF.2 3 (by omega) (by omega)]; exact h3)
  rw [k70] at s1
  refine ⟨m', ?_, k70, k17, k18, MFr_tr MF kF⟩
  rw [nI_0, eM] at r
  rw [se_X7_paidIn, r_X7_paidIn_0]
  simp only [EV, LV, CB, OI, OL, NP, CZ, popN, CT, OZ, List.map_nil, List.map_cons, List.sum_nil, List.sum_cons, Option.toList, List.nil_append, List.cons_append, Int.reduceToNat, Nat.reduceAdd, Nat.reduceLT, Nat.reduceLeDiff, List.length_cons, List.length_nil, Nat.zero_add, if_true, if_false, reduceIte, and_self, and_true, true_and, eq_self, reduceCtorEq, gM MP68, pM MP68, s0]
  rw [r, r_X7_paidIn_32]
  simp only [EV, LV, CB, OI, OL, NP, CZ, popN, CT, OZ, List.map_nil, List.map_cons, List.sum_nil, List.sum_cons, Option.toList, List.nil_append, List.cons_append, Int.reduceToNat, Nat.reduceAdd, Nat.reduceLT, Nat.reduceLeDiff, List.length_cons, List.length_nil, Nat.zero_add, if_true, if_false, reduceIte, and_self, and_true, true_and, eq_self, reduceCtorEq, gM MP68, s1]
end Nn
