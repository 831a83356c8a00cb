/-! alter of both -/
def mayA (V : Nat) (a v : Int32) : Bool := if a = 0 then (decide (0 ≤ v) && decide (v ≤ 3)) else if a = 1 then (decide (0 ≤ v) && decide (v < nI V)) else ((decide (2 ≤ a) && decide (a ≤ 3)) && (decide (0 ≤ v) && decide (v ≤ 9)))
theorem sw_row : ∀ k, k < 4 → swT 43 0 2 #[28, 33, 38] (nI k) = ([28, 33, 38, 43] : List Nat).getD k 43 := by decide +kernel
theorem sw_may : ∀ k, k < 4 → swL 44 (#[((0 : Int), (28 : Int)), (1, 35)] : Array (Int × Int)).toList (nI k) = ([28, 35, 44, 44] : List Nat).getD k 44 := by decide +kernel
theorem mayA_n {V : Nat} {a v : Int32} (h : (decide (0 ≤ a) && decide (a ≤ 3)) = false) : mayA V a v = false := by
  unfold mayA
  have n0 : ¬ a = 0 := fun z => by rw [z] at h; exact absurd h (by decide)
  have n1 : ¬ a = 1 := fun z => by rw [z] at h; exact absurd h (by decide)
  rw [if_neg n0, if_neg n1]
  cases h2 : (decide (2 ≤ a) && decide (a ≤ 3)) with
  | false => rfl
  | true =>
    have hb := wi_i h2
    rw [show (2 : Int32).toInt = 2 from by decide, show (3 : Int32).toInt = 3 from by decide] at hb
    have : (decide (0 ≤ a) && decide (a ≤ 3)) = true := by
      simp only [Bool.and_eq_true, decide_eq_true_eq, Int32.le_iff_toInt_le]
      rw [show (0 : Int32).toInt = 0 from by decide, show (3 : Int32).toInt = 3 from by decide]
      omega
    rw [this] at h
    cases h
theorem CW_at {w V N : Nat} {f : Nat → Int32} {m : Mm} (h : CW w V N f m) {B A : Nat} (hB : B < N) (hA : A < 4) : m.1 (w + 4 + A) B = f (8 + 5 * B + A) := by
  obtain ⟨b0, b1, b2, b3, -⟩ := h.2.2.2.2.2.2.2.2.2.2 B hB
  clear h hB
  match A, hA with
  | 0, _ => exact b0
  | 1, _ => exact b1
  | 2, _ => exact b2
  | 3, _ => exact b3
theorem arr1 : ∀ A, A < 4 → shP[1 + 4 + A]? = some (.inr (0, 6, []))
  | 0, _ => rfl
  | 1, _ => rfl
  | 2, _ => rfl
  | 3, _ => rfl
section Ba
variable {wS : List Value → Mm → Option Rs} (d : Nat) {V N : Nat} {m : Mm}
theorem t_row {w : Nat} (hw : WSh shP w) {A : Nat} (hA : A < 4) (m : Mm) : semZ shP wS (d + 1) 30 [.ref w, .int (nI A)] m = some (some (.ref (w + 4 + A)), m) := by
  rw [se_X5_bodyRow, r_X5_bodyRow_0]
  simp only [EV, LV, CB, OI, OL, NP, CZ, popN, CT, OZ, List.map_nil, List.map_cons, List.sum_nil, List.sum_cons, Option.toList, List.nil_append, List.cons_append, Int.reduceToNat, Nat.reduceAdd, Nat.reduceLT, Nat.reduceLeDiff, List.length_cons, List.length_nil, Nat.zero_add, if_true, if_false, reduceIte, and_self, and_true, true_and, eq_self, reduceCtorEq, sw_row A hA]
  match A, hA with
  | 0, _ =>
    show rn shP tb0 mN mO (semZ shP wS d) _ (codeZ 30) 28 [.ref w, .int (nI 0)] [] m = _
    simp only [EV, LV, CB, OI, OL, NP, CZ, popN, CT, OZ, List.map_nil, List.map_cons, List.sum_nil, List.sum_cons, Option.toList, List.nil_append, List.cons_append, Int.reduceToNat, Nat.reduceAdd, Nat.reduceLT, Nat.reduceLeDiff, List.length_cons, List.length_nil, Nat.zero_add, if_true, if_false, reduceIte, and_self, and_true, true_and, eq_self, reduceCtorEq, gW hw, r_X5_bodyRow_28, Nat.add_zero]
  | 1, _ =>
    show rn shP tb0 mN mO (semZ shP wS d) _ (codeZ 30) 33 [.ref w, .int (nI 1)] [] m = _
    simp only [EV, LV, CB, OI, OL, NP, CZ, popN, CT, OZ, List.map_nil, List.map_cons, List.sum_nil, List.sum_cons, Option.toList, List.nil_append, List.cons_append, Int.reduceToNat, Nat.reduceAdd, Nat.reduceLT, Nat.reduceLeDiff, List.length_cons, List.length_nil, Nat.zero_add, if_true, if_false, reduceIte, and_self, and_true, true_and, eq_self, reduceCtorEq, gW hw, r_X5_bodyRow_33]
  | 2, _ =>
    show rn shP tb0 mN mO (semZ shP wS d) _ (codeZ 30) 38 [.ref w, .int (nI 2)] [] m = _
    simp only [EV, LV, CB, OI, OL, NP, CZ, popN, CT, OZ, List.map_nil, List.map_cons, List.sum_nil, List.sum_cons, Option.toList, List.nil_append, List.cons_append, Int.reduceToNat, Nat.reduceAdd, Nat.reduceLT, Nat.reduceLeDiff, List.length_cons, List.length_nil, Nat.zero_add, if_true, if_false, reduceIte, and_self, and_true, true_and, eq_self, reduceCtorEq, gW hw, r_X5_bodyRow_38]
  | 3, _ =>
    show rn shP tb0 mN mO (semZ shP wS d) _ (codeZ 30) 43 [.ref w, .int (nI 3)] [] m = _
    simp only [EV, LV, CB, OI, OL, NP, CZ, popN, CT, OZ, List.map_nil, List.map_cons, List.sum_nil, List.sum_cons, Option.toList, List.nil_append, List.cons_append, Int.reduceToNat, Nat.reduceAdd, Nat.reduceLT, Nat.reduceLeDiff, List.length_cons, List.length_nil, Nat.zero_add, if_true, if_false, reduceIte, and_self, and_true, true_and, eq_self, reduceCtorEq, gW hw, r_X5_bodyRow_43]
theorem t_may {A : Nat} (hA : A < 4) (c0 : m.1 1 0 = nI V) (v : Int32) : semZ shP wS (d + 2) 52 [.ref 0, .int (nI A), .int v] m = some (some (.int (bI (mayA V (nI A) v))), m) := by
  rw [se_X6_mayBecome, r_X6_mayBecome_0]
  simp only [EV, LV, CB, OI, OL, NP, CZ, popN, CT, OZ, List.map_nil, List.map_cons, List.sum_nil, List.sum_cons, Option.toList, List.nil_append, List.cons_append, Int.reduceToNat, Nat.reduceAdd, Nat.reduceLT, Nat.reduceLeDiff, List.length_cons, List.length_nil, Nat.zero_add, if_true, if_false, reduceIte, and_self, and_true, true_and, eq_self, reduceCtorEq, sw_may A hA]
  match A, hA with
  | 0, _ =>
    show rn shP tb0 mN mO (semZ shP wS (d + 1)) _ (codeZ 52) 28 [.ref 0, .int (nI 0), .int v] [] m = _
    simp only [EV, LV, CB, OI, OL, NP, CZ, popN, CT, OZ, List.map_nil, List.map_cons, List.sum_nil, List.sum_cons, Option.toList, List.nil_append, List.cons_append, Int.reduceToNat, Nat.reduceAdd, Nat.reduceLT, Nat.reduceLeDiff, List.length_cons, List.length_nil, Nat.zero_add, if_true, if_false, reduceIte, and_self, and_true, true_and, eq_self, reduceCtorEq, t_within wS d, r_X6_mayBecome_28, okb]
    rfl
  | 1, _ =>
    show rn shP tb0 mN mO (semZ shP wS (d + 1)) _ (codeZ 52) 35 [.ref 0, .int (nI 1), .int v] [] m = _
    simp only [EV, LV, CB, OI, OL, NP, CZ, popN, CT, OZ, List.map_nil, List.map_cons, List.sum_nil, List.sum_cons, Option.toList, List.nil_append, List.cons_append, Int.reduceToNat, Nat.reduceAdd, Nat.reduceLT, Nat.reduceLeDiff, List.length_cons, List.length_nil, Nat.zero_add, if_true, if_false, reduceIte, and_self, and_true, true_and, eq_self, reduceCtorEq, gP0, gW WP1, t_hasVillage wS d WP1, c0, r_X6_mayBecome_35, okb]
    rfl
  | 2, _ =>
    show rn shP tb0 mN mO (semZ shP wS (d + 1)) _ (codeZ 52) 44 [.ref 0, .int (nI 2), .int v] [] m = _
    simp only [EV, LV, CB, OI, OL, NP, CZ, popN, CT, OZ, List.map_nil, List.map_cons, List.sum_nil, List.sum_cons, Option.toList, List.nil_append, List.cons_append, Int.reduceToNat, Nat.reduceAdd, Nat.reduceLT, Nat.reduceLeDiff, List.length_cons, List.length_nil, Nat.zero_add, if_true, if_false, reduceIte, and_self, and_true, true_and, eq_self, reduceCtorEq, t_within wS d, r_X6_mayBecome_44, okb]
    rfl
  | 3, _ =>
    show rn shP tb0 mN mO (semZ shP wS (d + 1)) _ (codeZ 52) 44 [.ref 0, .int (nI 3), .int v] [] m = _
    simp only [EV, LV, CB, OI, OL, NP, CZ, popN, CT, OZ, List.map_nil, List.map_cons, List.sum_nil, List.sum_cons, Option.toList, List.nil_append, List.cons_append, Int.reduceToNat, Nat.reduceAdd, Nat.reduceLT, Nat.reduceLeDiff, List.length_cons, List.length_nil, Nat.zero_add, if_true, if_false, reduceIte, and_self, and_true, true_and, eq_self, reduceCtorEq, t_within wS d, r_X6_mayBecome_44, okb]
    rfl
theorem al59 (C : CallS) (L : List Value) (m : Mm) : rn shP tb0 mN mO C (some .int) (codeZ 145) 59 L [] m = rn shP tb0 mN mO C (some .int) (codeZ 145) 60 L [.int 0] m := by
  rw [r_X7_alter_59, r_X7_alter_60]
  rfl
theorem al_in (hV : V ≤ 4) (h3 : m.1 68 3 = nI V) (b a v : Int32) : semZ shP wS (d + 4) 145 [.ref 68, .int b, .int a, .int v] m = rn shP tb0 mN mO (semZ shP wS (d + 3)) (some .int) (codeZ 145) 60 [.ref 68, .int b, .int a, .int v, noV] [.int (bI (mayA V a v))] m := by
  have l1 := ltm (V := V) (by omega) v
  have d1 := dec64 v 0 3 0 3 (by decide) (by decide)
  have d2 := dec64 a 2 3 2 3 (by decide) (by decide)
  have d3 := dec64 v 0 9 0 9 (by decide) (by decide)
  have e10 : ¬ (1 : Int32) = 0 := by decide
  rw [se_X7_alter, r_X7_alter_0]
  unfold mayA
  by_cases a0 : a = 0
  · rw [if_pos a0]
    simp only [EV, LV, CB, OI, OL, NP, CZ, popN, CT, OZ, List.map_nil, List.map_cons, List.sum_nil, List.sum_cons, Option.toList, List.nil_append, List.cons_append, Int.reduceToNat, Nat.reduceAdd, Nat.reduceLT, Nat.reduceLeDiff, List.length_cons, List.length_nil, Nat.zero_add, if_true, if_false, reduceIte, and_self, and_true, true_and, eq_self, reduceCtorEq, a0, not_true_eq_false, t_in wS (d + 2), d1]
  · rw [if_neg a0]
    by_cases a1 : a = 1
    · rw [if_pos a1]
      subst a1
      simp only [EV, LV, CB, OI, OL, NP, CZ, popN, CT, OZ, List.map_nil, List.map_cons, List.sum_nil, List.sum_cons, Option.toList, List.nil_append, List.cons_append, Int.reduceToNat, Nat.reduceAdd, Nat.reduceLT, Nat.reduceLeDiff, List.length_cons, List.length_nil, Nat.zero_add, if_true, if_false, reduceIte, and_self, and_true, true_and, eq_self, reduceCtorEq, e10, not_false_eq_true, not_true_eq_false, gM MP68, r_X7_alter_16, t_isVillage wS (d + 1) MP68, h3, l1]
    · rw [if_neg a1]
      cases h2 : (decide (2 ≤ a) && decide (a ≤ 3)) with
      | false =>
        simp only [EV, LV, CB, OI, OL, NP, CZ, popN, CT, OZ, List.map_nil, List.map_cons, List.sum_nil, List.sum_cons, Option.toList, List.nil_append, List.cons_append, Int.reduceToNat, Nat.reduceAdd, Nat.reduceLT, Nat.reduceLeDiff, List.length_cons, List.length_nil, Nat.zero_add, if_true, if_false, reduceIte, and_self, and_true, true_and, eq_self, reduceCtorEq, a0, a1, not_false_eq_true, r_X7_alter_16, r_X7_alter_29, t_in wS (d + 2), d2, h2, bI_f, Bool.false_and]
        exact al59 _ _ _
      | true =>
        cases h9 : (decide (0 ≤ v) && decide (v ≤ 9)) with
        | false =>
          simp only [EV, LV, CB, OI, OL, NP, CZ, popN, CT, OZ, List.map_nil, List.map_cons, List.sum_nil, List.sum_cons, Option.toList, List.nil_append, List.cons_append, Int.reduceToNat, Nat.reduceAdd, Nat.reduceLT, Nat.reduceLeDiff, List.length_cons, List.length_nil, Nat.zero_add, if_true, if_false, reduceIte, and_self, and_true, true_and, eq_self, reduceCtorEq, a0, a1, not_false_eq_true, r_X7_alter_16, r_X7_alter_29, t_in wS (d + 2), d2, d3, h2, h9, bI_t, bI_f, e10, Bool.and_false]
          exact al59 _ _ _
        | true => simp only [EV, LV, CB, OI, OL, NP, CZ, popN, CT, OZ, List.map_nil, List.map_cons, List.sum_nil, List.sum_cons, Option.toList, List.nil_append, List.cons_append, Int.reduceToNat, Nat.reduceAdd, Nat.reduceLT, Nat.reduceLeDiff, List.length_cons, List.length_nil, Nat.zero_add, if_true, if_false, reduceIte, and_self, and_true, true_and, eq_self, reduceCtorEq, a0, a1, not_false_eq_true, r_X7_alter_16, r_X7_alter_29, t_in wS (d + 2), d2, d3, h2, h9, bI_t, e10, Bool.and_self]
theorem t_lies {B : Nat} (hB : B < 6) (m : Mm) : semZ shP wS (d + 1) 144 [.ref 68, .int (nI B)] m = some (some (.int (bI (decide (m.1 69 (8 + 5 * B + 4) = 0)))), m) := by
  have e := ix_85 B hB 4 (by omega)
  have e : (8 : Int32) + 5 * nI B + 4 = nI (8 + 5 * B + 4) := e
  have e2 : inR (nI (8 + 5 * B + 4)) 189 = true := inR_nI (by omega) (by omega)
  have e3 : (nI (8 + 5 * B + 4)).toNatClampNeg = 8 + 5 * B + 4 := nI_clamp (by omega)
  have o1 : okZ (some .boolean) 1 = true := by decide
  have o0 : okZ (some .boolean) 0 = true := by decide
  rw [se_X7_liesStill, r_X7_liesStill_0]
  by_cases q : m.1 69 (8 + 5 * B + 4) = 0
  · rw [decide_eq_true q]
    simp only [EV, LV, CB, OI, OL, NP, CZ, popN, CT, OZ, List.map_nil, List.map_cons, List.sum_nil, List.sum_cons, Option.toList, List.nil_append, List.cons_append, Int.reduceToNat, Nat.reduceAdd, Nat.reduceLT, Nat.reduceLeDiff, List.length_cons, List.length_nil, Nat.zero_add, if_true, if_false, reduceIte, and_self, and_true, true_and, eq_self, reduceCtorEq, gM MP68, aM MP68, e, e2, e3, q, not_true_eq_false, r_X7_liesStill_21, bI_t, o1]
  · rw [decide_eq_false q]
    simp only [EV, LV, CB, OI, OL, NP, CZ, popN, CT, OZ, List.map_nil, List.map_cons, List.sum_nil, List.sum_cons, Option.toList, List.nil_append, List.cons_append, Int.reduceToNat, Nat.reduceAdd, Nat.reduceLT, Nat.reduceLeDiff, List.length_cons, List.length_nil, Nat.zero_add, if_true, if_false, reduceIte, and_self, and_true, true_and, eq_self, reduceCtorEq, gM MP68, aM MP68, e, e2, e3, q, not_false_eq_true, r_X7_liesStill_20, bI_f, o0]
theorem Atf_v {f : Nat → Int32} (h : Atf V N f) (hV : V ≤ 4) {B A : Nat} (hB : B < N) (hA : A < 4) {v : Int32} (hm : mayA V (nI A) v = true) : Atf V N (upd f (8 + 5 * B + A) v) := by
  match A, hA, hm with
  | 0, _, hm =>
    have hm : (decide (0 ≤ v) && decide (v ≤ nI 3)) = true := hm
    obtain ⟨k, hk, rfl⟩ := in_nI (by omega) hm
    refine ⟨fun b hb => ?_, fun b hb => ?_, fun b hb => ?_⟩
    · rw [upd_n _ _ (by omega)]; exact h.1 b hb
    · by_cases e : b = B
      · rw [e]; exact ⟨k, by omega, upd_s _ _ _⟩
      · rw [upd_n _ _ (by omega)]; exact h.2.1 b hb
    · rw [upd_n _ _ (by omega), upd_n _ _ (by omega)]; exact h.2.2 b hb
  | 1, _, hm =>
    have hm : (decide (0 ≤ v) && decide (v < nI V)) = true := hm
    obtain ⟨k, hk, rfl⟩ := in_lt hm (by omega)
    refine ⟨fun b hb => ?_, fun b hb => ?_, fun b hb => ?_⟩
    · by_cases e : b = B
      · rw [e]; exact ⟨k, hk, upd_s _ _ _⟩
      · rw [upd_n _ _ (by omega)]; exact h.1 b hb
    · rw [upd_n _ _ (by omega)]; exact h.2.1 b hb
    · rw [upd_n _ _ (by omega), upd_n _ _ (by omega)]; exact h.2.2 b hb
  | 2, _, hm =>
    have hm : (decide (0 ≤ v) && decide (v ≤ nI 9)) = true := hm
    obtain ⟨k, hk, rfl⟩ := in_nI (by omega) hm
    refine ⟨fun b hb => ?_, fun b hb => ?_, fun b hb => ?_⟩
    · rw [upd_n _ _ (by omega)]; exact h.1 b hb
    · rw [upd_n _ _ (by omega)]; exact h.2.1 b hb
    · rw [upd_n _ _ (show 8 + 5 * b + 3 ≠ 8 + 5 * B + 2 by omega)]
      by_cases e : b = B
      · rw [e, upd_s]; exact ⟨⟨k, by omega, rfl⟩, (h.2.2 B hB).2⟩
      · rw [upd_n _ _ (by omega)]; exact h.2.2 b hb
  | 3, _, hm =>
    have hm : (decide (0 ≤ v) && decide (v ≤ nI 9)) = true := hm
    obtain ⟨k, hk, rfl⟩ := in_nI (by omega) hm
    refine ⟨fun b hb => ?_, fun b hb => ?_, fun b hb => ?_⟩
    · rw [upd_n _ _ (by omega)]; exact h.1 b hb
    · rw [upd_n _ _ (by omega)]; exact h.2.1 b hb
    · rw [upd_n _ _ (show 8 + 5 * b + 2 ≠ 8 + 5 * B + 3 by omega)]
      by_cases e : b = B
      · rw [e, upd_s]; exact ⟨(h.2.2 B hB).1, k, by omega, rfl⟩
      · rw [upd_n _ _ (by omega)]; exact h.2.2 b hb
theorem b_alter (b a v : Int32) (h : LNow V N m) : ∃ x m1 m2, semZ shP wS (d + 30) 51 [.ref 0, .int b, .int a, .int v] m = some (some (.int x), m1) ∧ semZ shP wS (d + 30) 145 [.ref 68, .int b, .int a, .int v] m1 = some (some (.int x), m2) ∧ LNow V N m2 := by
  have h0 := h
  obtain ⟨h3, hC, h6, hT, hA⟩ := h
  have hV := hC.1
  have hN := hC.2.1
  have c0 := hC.2.2.1
  have c1 := hC.2.2.2.1
  have c38 := hC.2.2.2.2.1
  have e10 : ¬ (1 : Int32) = 0 := by decide
  have l1 := ltm (V := N) (by omega) b
  have al := al_in (wS := wS) (d + 26) hV h3 b a v
  have al : semZ shP wS (d + 30) 145 [.ref 68, .int b, .int a, .int v] m = _ := al
  rw [se_X6_alter, r_X6_alter_0]
  cases hb : (decide (0 ≤ b) && decide (b < nI N)) with
  | false =>
    refine ⟨-1, m, m, ?_, ?_, h0⟩
    · simp only [EV, LV, CB, OI, OL, NP, CZ, popN, CT, OZ, List.map_nil, List.map_cons, List.sum_nil, List.sum_cons, Option.toList, List.nil_append, List.cons_append, Int.reduceToNat, Nat.reduceAdd, Nat.reduceLT, Nat.reduceLeDiff, List.length_cons, List.length_nil, Nat.zero_add, if_true, if_false, reduceIte, and_self, and_true, true_and, eq_self, reduceCtorEq, gP0, gW WP1, t_hasBody wS (d + 28) WP1, c1, hb, bI_f, r_X6_alter_29]
    · rw [al, r_X7_alter_60]
      simp only [EV, LV, CB, OI, OL, NP, CZ, popN, CT, OZ, List.map_nil, List.map_cons, List.sum_nil, List.sum_cons, Option.toList, List.nil_append, List.cons_append, Int.reduceToNat, Nat.reduceAdd, Nat.reduceLT, Nat.reduceLeDiff, List.length_cons, List.length_nil, Nat.zero_add, if_true, if_false, reduceIte, and_self, and_true, true_and, eq_self, reduceCtorEq, gM MP68, t_isBody wS (d + 27) MP68, c38, l1, hb, bI_f, r_X7_alter_75]
  | true =>
    obtain ⟨B, hB, rfl⟩ := in_lt hb (by omega)
    cases ha : (decide (0 ≤ a) && decide (a ≤ 3)) with
    | false =>
      rw [mayA_n ha] at al
      refine ⟨-1, m, m, ?_, ?_, h0⟩
      · simp only [EV, LV, CB, OI, OL, NP, CZ, popN, CT, OZ, List.map_nil, List.map_cons, List.sum_nil, List.sum_cons, Option.toList, List.nil_append, List.cons_append, Int.reduceToNat, Nat.reduceAdd, Nat.reduceLT, Nat.reduceLeDiff, List.length_cons, List.length_nil, Nat.zero_add, if_true, if_false, reduceIte, and_self, and_true, true_and, eq_self, reduceCtorEq, gP0, gW WP1, t_hasBody wS (d + 28) WP1, c1, hb, bI_t, e10, t_within wS (d + 28), ha, bI_f, r_X6_alter_29]
      · rw [al, r_X7_alter_60]
        simp only [EV, LV, CB, OI, OL, NP, CZ, popN, CT, OZ, List.map_nil, List.map_cons, List.sum_nil, List.sum_cons, Option.toList, List.nil_append, List.cons_append, Int.reduceToNat, Nat.reduceAdd, Nat.reduceLT, Nat.reduceLeDiff, List.length_cons, List.length_nil, Nat.zero_add, if_true, if_false, reduceIte, and_self, and_true, true_and, eq_self, reduceCtorEq, gM MP68, t_isBody wS (d + 27) MP68, c38, l1, hb, bI_t, bI_f, e10, not_true_eq_false]
    | true =>
      obtain ⟨A, hA1, rfl⟩ := in_nI (N := 3) (by decide) ha
      have hA1 : A < 4 := by omega
      have tm := t_may (wS := wS) (d + 27) hA1 c0 v
      cases hq : mayA V (nI A) v with
      | false =>
        rw [hq] at al tm
        refine ⟨-1, m, m, ?_, ?_, h0⟩
        · simp only [EV, LV, CB, OI, OL, NP, CZ, popN, CT, OZ, List.map_nil, List.map_cons, List.sum_nil, List.sum_cons, Option.toList, List.nil_append, List.cons_append, Int.reduceToNat, Nat.reduceAdd, Nat.reduceLT, Nat.reduceLeDiff, List.length_cons, List.length_nil, Nat.zero_add, if_true, if_false, reduceIte, and_self, and_true, true_and, eq_self, reduceCtorEq, gP0, gW WP1, t_hasBody wS (d + 28) WP1, c1, hb, bI_t, e10, t_within wS (d + 28), ha, tm, bI_f, not_true_eq_false]
        · rw [al, r_X7_alter_60]
          simp only [EV, LV, CB, OI, OL, NP, CZ, popN, CT, OZ, List.map_nil, List.map_cons, List.sum_nil, List.sum_cons, Option.toList, List.nil_append, List.cons_append, Int.reduceToNat, Nat.reduceAdd, Nat.reduceLT, Nat.reduceLeDiff, List.length_cons, List.length_nil, Nat.zero_add, if_true, if_false, reduceIte, and_self, and_true, true_and, eq_self, reduceCtorEq, gM MP68, t_isBody wS (d + 27) MP68, c38, l1, hb, bI_t, bI_f, e10, not_true_eq_false]
      | true =>
        rw [hq] at al tm
        have e4 : inR (nI B) 6 = true := inR_nI (by omega) (by omega)
        have e5 : (nI B).toNatClampNeg = B := nI_clamp (by omega)
        obtain ⟨b0, b1, b2, b3, b4⟩ := hC.2.2.2.2.2.2.2.2.2.2 B hB
        by_cases q : m.1 69 (8 + 5 * B + 4) = 0
        · have rw1 := t_row (wS := wS) (d + 28) WP1 hA1 m
          have ix := ix_85 B (by omega) A (by omega)
          have bA : m.1 (1 + 4 + A) B = m.1 69 (8 + 5 * B + A) := CW_at hC hB hA1
          have arr := arr1 A hA1
          have tb := t_becomes (wS := wS) (d + 28) (j := 8 + 5 * B + A) (by omega) v (wI m (1 + 4 + A) B v)
          rw [wI_o _ _ _ _ _ (by omega)] at tb
          have q3 : (wI m (1 + 4 + A) B v).1 68 3 = nI V := by rw [wI_o _ _ _ _ _ (by omega)]; exact h3
          have q38 : (wI m (1 + 4 + A) B v).1 69 38 = nI N := by rw [wI_o _ _ _ _ _ (by omega)]; exact c38
          have q4 : decide ((wI m (1 + 4 + A) B v).1 69 (8 + 5 * B + 4) = 0) = true := by rw [wI_o _ _ _ _ _ (by omega)]; exact decide_eq_true q
          have al2 := al_in (wS := wS) (d + 26) hV q3 (nI B) (nI A) v
          have al2 : semZ shP wS (d + 30) 145 [.ref 68, .int (nI B), .int (nI A), .int v] (wI m (1 + 4 + A) B v) = _ := al2
          rw [hq] at al2
          refine ⟨m.1 69 (8 + 5 * B + A), wI m (1 + 4 + A) B v, wI (wI m (1 + 4 + A) B v) 69 (8 + 5 * B + A) v, ?_, ?_, LNow_u h0 (by omega) (CW_f hC hB (by omega) v) (Atf_v hA hV hB hA1 hq) (wI_o _ _ _ _ _ (by omega)) (wI_n _ _ _ _ (by omega)) (wI_o _ _ _ _ _ (by omega)) (wI_n _ _ _ _ (by omega))⟩
          · have g1 := al_of arr
            have g2 := as_of arr
            simp only [EV, LV, CB, OI, OL, NP, CZ, popN, CT, OZ, List.map_nil, List.map_cons, List.sum_nil, List.sum_cons, Option.toList, List.nil_append, List.cons_append, Int.reduceToNat, Nat.reduceAdd, Nat.reduceLT, Nat.reduceLeDiff, List.length_cons, List.length_nil, Nat.zero_add, if_true, if_false, reduceIte, and_self, and_true, true_and, eq_self, reduceCtorEq, gP0, gW WP1, aW WP1, t_hasBody wS (d + 28) WP1, c1, hb, bI_t, e10, t_within wS (d + 28), ha, tm, not_false_eq_true, r_X6_alter_31, e4, e5, b4, q, r_X6_alter_46, rw1]
            simp only [g1, g2, e4, e5, bA, if_true, EV, LV, CB, OI, OL, NP, CZ, popN, CT, OZ, List.map_nil, List.map_cons, List.sum_nil, List.sum_cons, Option.toList, List.nil_append, List.cons_append, Int.reduceToNat, Nat.reduceAdd, Nat.reduceLT, Nat.reduceLeDiff, List.length_cons, List.length_nil, Nat.zero_add, if_true, if_false, reduceIte, and_self, and_true, true_and, eq_self, reduceCtorEq]
          · rw [al2, r_X7_alter_60]
            simp only [EV, LV, CB, OI, OL, NP, CZ, popN, CT, OZ, List.map_nil, List.map_cons, List.sum_nil, List.sum_cons, Option.toList, List.nil_append, List.cons_append, Int.reduceToNat, Nat.reduceAdd, Nat.reduceLT, Nat.reduceLeDiff, List.length_cons, List.length_nil, Nat.zero_add, if_true, if_false, reduceIte, and_self, and_true, true_and, eq_self, reduceCtorEq, gM MP68, t_isBody wS (d + 27) MP68, q38, l1, hb, bI_t, e10, not_false_eq_true, r_X7_alter_77, t_lies (d + 28) (show B < 6 by omega), q4, ix, tb, r_X7_alter_103]
        · refine ⟨-2, m, m, ?_, ?_, h0⟩
          · simp only [EV, LV, CB, OI, OL, NP, CZ, popN, CT, OZ, List.map_nil, List.map_cons, List.sum_nil, List.sum_cons, Option.toList, List.nil_append, List.cons_append, Int.reduceToNat, Nat.reduceAdd, Nat.reduceLT, Nat.reduceLeDiff, List.length_cons, List.length_nil, Nat.zero_add, if_true, if_false, reduceIte, and_self, and_true, true_and, eq_self, reduceCtorEq, gP0, gW WP1, aW WP1, t_hasBody wS (d + 28) WP1, c1, hb, bI_t, e10, t_within wS (d + 28), ha, tm, not_false_eq_true, r_X6_alter_31, e4, e5, b4, q]
          · rw [al, r_X7_alter_60]
            simp only [EV, LV, CB, OI, OL, NP, CZ, popN, CT, OZ, List.map_nil, List.map_cons, List.sum_nil, List.sum_cons, Option.toList, List.nil_append, List.cons_append, Int.reduceToNat, Nat.reduceAdd, Nat.reduceLT, Nat.reduceLeDiff, List.length_cons, List.length_nil, Nat.zero_add, if_true, if_false, reduceIte, and_self, and_true, true_and, eq_self, reduceCtorEq, gM MP68, t_isBody wS (d + 27) MP68, c38, l1, hb, bI_t, e10, not_false_eq_true, r_X7_alter_77, t_lies (d + 28) (show B < 6 by omega), decide_eq_false q, bI_f, r_X7_alter_101]
end Ba
