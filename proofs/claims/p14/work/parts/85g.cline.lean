/-! THE CLASS' LINES, whole -/
/-- a fault of the class's text -/
def FltC (m M : Mm) (x : Flt) : Prop := ∃ (m' : Mm) (s' e' : Nat), M = tm m' s' e' ∧ FrC m m' ∧ m'.1 23 1 = x.1 ∧ m'.1 23 2 = nI x.2
theorem FltC_of {m m' : Mm} (h : FrC m m') (x : Flt) (s' e' : Nat) : FltC m (tm (wI (wI m' 23 1 x.1) 23 2 (nI x.2)) s' e') x := by
  refine ⟨_, _, _, rfl, FrC_w (FrC_w h (by omega)) (by omega), ?_, ?_⟩
  · rw [wI_at, if_neg (by omega), wI_at, if_pos ⟨rfl, rfl⟩]
  · rw [wI_at, if_pos ⟨rfl, rfl⟩]
section Cm
variable {B : Nat → Int32} {n : Nat} (wS : List Value → Mm → Option Rs) (d : Nat) {m : Mm}
theorem t_tn1 (hB : Tp B n) (hm : TC B n m) {k : Nat} (h5 : 5 ≤ k) (hk : k < 8) (s0 : Nat) {p : Nat} (hp : p ≤ n) : ∃ (v : Int32) (M : Mm), semZ shP wS (d + 3) 15 [.ref 23, .int (nI k)] (tm m s0 p) = some (some (.int v), M) ∧ (match num1 B (mst k 0) (k == 7) p with
    | .inl x => v = 0 ∧ FltC m M x
    | .inr y => v = 1 ∧ ∃ s', M = tm (wI m 26 0 y.1) s' y.2) := by
  have h0 : ¬ nI k = 0 := nI_ne0 (by omega) (by omega)
  have h4 : (4 : Int32) < nI k := nI_lt (a := 4) (by omega) (by omega)
  have i0 := tni wS d hB hm hk (many := 1) (i := 0) (by omega) (by omega) s0 hp noV
  have i0 : rn shP tb0 mN mO (semZ shP wS (d + 2)) (some .boolean) (codeZ 15) 21 [.ref 23, .int (nI k), .int 1, .int 0, noV] [] (tm m s0 p) = _ := i0
  rw [se_X4_takeNumbers, r_X4_takeNumbers_0]
  simp only [EV, LV, CB, OI, OL, NP, CZ, popN, CT, OZ, List.map_nil, List.map_cons, List.sum_nil, List.sum_cons, Option.toList, List.nil_append, List.cons_append, Int.reduceToNat, Nat.reduceAdd, Nat.reduceLT, Nat.reduceLeDiff, List.length_cons, List.length_nil, Nat.zero_add, if_true, if_false, reduceIte, and_self, and_true, true_and, eq_self, reduceCtorEq, h0, h4, not_false_eq_true, r_X4_takeNumbers_8, r_X4_takeNumbers_17]
  rw [i0]
  cases e : num1 B (mst k 0) (k == 7) p with
  | inl x => exact ⟨_, _, rfl, rfl, FltC_of FrC_rf x _ _⟩
  | inr y =>
    have q : nI 1 ≤ nI (0 + 1) := Int32.le_refl _
    refine ⟨1, tm (wI m 26 0 y.1) (lx B p).2.1 y.2, ?_, rfl, _, rfl⟩
    simp only
    rw [r_X4_takeNumbers_21]
    simp only [EV, LV, CB, OI, OL, NP, CZ, popN, CT, OZ, List.map_nil, List.map_cons, List.sum_nil, List.sum_cons, Option.toList, List.nil_append, List.cons_append, Int.reduceToNat, Nat.reduceAdd, Nat.reduceLT, Nat.reduceLeDiff, List.length_cons, List.length_nil, Nat.zero_add, if_true, if_false, reduceIte, and_self, and_true, true_and, eq_self, reduceCtorEq, q, r_X4_takeNumbers_101]
theorem num1_p {hi : Int32} {z : Bool} {p : Nat} (hB : Tp B n) (hp : p ≤ n) {y : Int32 × Nat} (h : num1 B hi z p = .inr y) : p < y.2 ∧ y.2 ≤ n := by
  have hb := lx_b hB hp
  unfold num1 at h
  split at h
  · rename_i q
    split at h
    · cases h
    · cases h
      have := hb.2.2.2.2.2 (by omega)
      exact ⟨by show p < (lx B p).2.2; omega, hb.2.2.1⟩
  · cases h
theorem TC_26 (hm : TC B n m) (i : Nat) (x : Int32) : TC B n (wI m 26 i x) := TC_fr hm (FrC_w FrC_rf (by omega))
theorem t_tn2 (hB : Tp B n) (hm : TC B n m) (s0 : Nat) {p : Nat} (hp : p ≤ n) : ∃ (v : Int32) (M : Mm), semZ shP wS (d + 3) 15 [.ref 23, .int (nI 0)] (tm m s0 p) = some (some (.int v), M) ∧ (match num1 B 99 false p with
    | .inl x => v = 0 ∧ FltC m M x
    | .inr y => (match num1 B 9 false y.2 with
      | .inl x => v = 0 ∧ FltC m M x
      | .inr y2 => v = 1 ∧ ∃ s', M = tm (wI (wI m 26 0 y.1) 26 1 y2.1) s' y2.2)) := by
  have h0 : nI 0 = 0 := nI_0
  have i0 := tni wS d hB hm (k := 0) (by omega) (many := 2) (i := 0) (by omega) (by omega) s0 hp noV
  have i0 : rn shP tb0 mN mO (semZ shP wS (d + 2)) (some .boolean) (codeZ 15) 21 [.ref 23, .int (nI 0), .int 2, .int 0, noV] [] (tm m s0 p) = (match num1 B 99 false p with
    | .inl x => some (some (.int 0), tm (wI (wI m 23 1 x.1) 23 2 (nI x.2)) (lx B p).2.1 (lx B p).2.2)
    | .inr y => rn shP tb0 mN mO (semZ shP wS (d + 2)) (some .boolean) (codeZ 15) 21 [.ref 23, .int (nI 0), .int 2, .int (nI 1), .int y.1] [] (tm (wI m 26 0 y.1) (lx B p).2.1 y.2)) := i0
  rw [se_X4_takeNumbers, r_X4_takeNumbers_0]
  simp only [EV, LV, CB, OI, OL, NP, CZ, popN, CT, OZ, List.map_nil, List.map_cons, List.sum_nil, List.sum_cons, Option.toList, List.nil_append, List.cons_append, Int.reduceToNat, Nat.reduceAdd, Nat.reduceLT, Nat.reduceLeDiff, List.length_cons, List.length_nil, Nat.zero_add, if_true, if_false, reduceIte, and_self, and_true, true_and, eq_self, reduceCtorEq, h0, not_true_eq_false, r_X4_takeNumbers_18]
  rw [h0] at i0
  rw [i0]
  cases e : num1 B 99 false p with
  | inl x => exact ⟨_, _, rfl, rfl, FltC_of FrC_rf x _ _⟩
  | inr y =>
    have hy := num1_p hB hp e
    have i1 := tni wS d hB (TC_26 hm 0 y.1) (k := 0) (by omega) (many := 2) (i := 1) (by omega) (by omega) (lx B p).2.1 hy.2 (.int y.1)
    have i1 : rn shP tb0 mN mO (semZ shP wS (d + 2)) (some .boolean) (codeZ 15) 21 [.ref 23, .int 0, .int 2, .int (nI 1), .int y.1] [] (tm (wI m 26 0 y.1) (lx B p).2.1 y.2) = (match num1 B 9 false y.2 with
      | .inl x => some (some (.int 0), tm (wI (wI (wI m 26 0 y.1) 23 1 x.1) 23 2 (nI x.2)) (lx B y.2).2.1 (lx B y.2).2.2)
      | .inr y2 => rn shP tb0 mN mO (semZ shP wS (d + 2)) (some .boolean) (codeZ 15) 21 [.ref 23, .int 0, .int 2, .int (nI 2), .int y2.1] [] (tm (wI (wI m 26 0 y.1) 26 1 y2.1) (lx B y.2).2.1 y2.2)) := i1
    simp only
    rw [i1]
    cases e2 : num1 B 9 false y.2 with
    | inl x => exact ⟨_, _, rfl, rfl, FltC_of (FrC_w FrC_rf (by omega)) x _ _⟩
    | inr y2 =>
      have q : (2 : Int32) ≤ nI 2 := Int32.le_refl _
      refine ⟨1, tm (wI (wI m 26 0 y.1) 26 1 y2.1) (lx B y.2).2.1 y2.2, ?_, rfl, _, rfl⟩
      simp only
      rw [r_X4_takeNumbers_21]
      simp only [EV, LV, CB, OI, OL, NP, CZ, popN, CT, OZ, List.map_nil, List.map_cons, List.sum_nil, List.sum_cons, Option.toList, List.nil_append, List.cons_append, Int.reduceToNat, Nat.reduceAdd, Nat.reduceLT, Nat.reduceLeDiff, List.length_cons, List.length_nil, Nat.zero_add, if_true, if_false, reduceIte, and_self, and_true, true_and, eq_self, reduceCtorEq, q, r_X4_takeNumbers_101]
theorem mst_b {k : Nat} (h1 : 1 ≤ k) (h4 : k ≤ 4) : mst k 0 = 3 ∧ mst k 1 = 9 ∧ mst k 2 = 9 ∧ (k == 7) = false := by
  match k, h1, h4 with
  | 1, _, _ => exact ⟨rfl, rfl, rfl, rfl⟩
  | 2, _, _ => exact ⟨rfl, rfl, rfl, rfl⟩
  | 3, _, _ => exact ⟨rfl, rfl, rfl, rfl⟩
  | 4, _, _ => exact ⟨rfl, rfl, rfl, rfl⟩
theorem t_tn3 (hB : Tp B n) (hm : TC B n m) {k : Nat} (h1 : 1 ≤ k) (h4 : k ≤ 4) (s0 : Nat) {p : Nat} (hp : p ≤ n) : ∃ (v : Int32) (M : Mm), semZ shP wS (d + 3) 15 [.ref 23, .int (nI k)] (tm m s0 p) = some (some (.int v), M) ∧ (match num1 B 3 false p with
    | .inl x => v = 0 ∧ FltC m M x
    | .inr y => (match num1 B 9 false y.2 with
      | .inl x => v = 0 ∧ FltC m M x
      | .inr y2 => (match num1 B 9 false y2.2 with
        | .inl x => v = 0 ∧ FltC m M x
        | .inr y3 => v = 1 ∧ ∃ s', M = tm (wI (wI (wI m 26 0 y.1) 26 1 y2.1) 26 2 y3.1) s' y3.2))) := by
  have h0 : ¬ nI k = 0 := nI_ne0 (by omega) (by omega)
  have h4' : ¬ (4 : Int32) < nI k := nI_nlt (a := 4) (by omega) (by omega)
  obtain ⟨m0, m1, m2, m7⟩ := mst_b h1 h4
  have i0 := tni wS d hB hm (k := k) (by omega) (many := 3) (i := 0) (by omega) (by omega) s0 hp noV
  rw [m0, m7] at i0
  have i0 : rn shP tb0 mN mO (semZ shP wS (d + 2)) (some .boolean) (codeZ 15) 21 [.ref 23, .int (nI k), .int 3, .int 0, noV] [] (tm m s0 p) = (match num1 B 3 false p with
    | .inl x => some (some (.int 0), tm (wI (wI m 23 1 x.1) 23 2 (nI x.2)) (lx B p).2.1 (lx B p).2.2)
    | .inr y => rn shP tb0 mN mO (semZ shP wS (d + 2)) (some .boolean) (codeZ 15) 21 [.ref 23, .int (nI k), .int (nI 3), .int (nI 1), .int y.1] [] (tm (wI m 26 0 y.1) (lx B p).2.1 y.2)) := i0
  rw [se_X4_takeNumbers, r_X4_takeNumbers_0]
  simp only [EV, LV, CB, OI, OL, NP, CZ, popN, CT, OZ, List.map_nil, List.map_cons, List.sum_nil, List.sum_cons, Option.toList, List.nil_append, List.cons_append, Int.reduceToNat, Nat.reduceAdd, Nat.reduceLT, Nat.reduceLeDiff, List.length_cons, List.length_nil, Nat.zero_add, if_true, if_false, reduceIte, and_self, and_true, true_and, eq_self, reduceCtorEq, h0, h4', not_false_eq_true, r_X4_takeNumbers_8, r_X4_takeNumbers_18]
  rw [i0]
  cases e : num1 B 3 false p with
  | inl x => exact ⟨_, _, rfl, rfl, FltC_of FrC_rf x _ _⟩
  | inr y =>
    have hy := num1_p hB hp e
    have i1 := tni wS d hB (TC_26 hm 0 y.1) (k := k) (by omega) (many := 3) (i := 1) (by omega) (by omega) (lx B p).2.1 hy.2 (.int y.1)
    rw [m1, m7] at i1
    simp only
    rw [i1]
    cases e2 : num1 B 9 false y.2 with
    | inl x => exact ⟨_, _, rfl, rfl, FltC_of (FrC_w FrC_rf (by omega)) x _ _⟩
    | inr y2 =>
      have hy2 := num1_p hB hy.2 e2
      have i2 := tni wS d hB (TC_26 (TC_26 hm 0 y.1) 1 y2.1) (k := k) (by omega) (many := 3) (i := 2) (by omega) (by omega) (lx B y.2).2.1 hy2.2 (.int y2.1)
      rw [m2, m7] at i2
      simp only
      rw [i2]
      cases e3 : num1 B 9 false y2.2 with
      | inl x => exact ⟨_, _, rfl, rfl, FltC_of (FrC_w (FrC_w FrC_rf (by omega)) (by omega)) x _ _⟩
      | inr y3 =>
        have q : nI 3 ≤ nI (2 + 1) := Int32.le_refl _
        refine ⟨1, tm (wI (wI (wI m 26 0 y.1) 26 1 y2.1) 26 2 y3.1) (lx B y2.2).2.1 y3.2, ?_, rfl, _, rfl⟩
        simp only
        rw [r_X4_takeNumbers_21]
        simp only [EV, LV, CB, OI, OL, NP, CZ, popN, CT, OZ, List.map_nil, List.map_cons, List.sum_nil, List.sum_cons, Option.toList, List.nil_append, List.cons_append, Int.reduceToNat, Nat.reduceAdd, Nat.reduceLT, Nat.reduceLeDiff, List.length_cons, List.length_nil, Nat.zero_add, if_true, if_false, reduceIte, and_self, and_true, true_and, eq_self, reduceCtorEq, q, r_X4_takeNumbers_101]
/-! which line -/
theorem se_isWord (As : List Value) (m : Mm) : semZ shP wS (d + 1) 11 As m = wS As m := by
  show (if 11 = zX3_isWord then wS As m else _) = _
  rw [if_pos rfl]
theorem sw_word : ∀ k, k < 8 → swT 65 0 6 #[44, 47, 50, 53, 56, 59, 62] (nI k) = ([44, 47, 50, 53, 56, 59, 62, 65] : List Nat).getD k 65 := by decide +kernel
theorem t_word {k : Nat} (hk : k < 8) (m : Mm) : semZ shP wS (d + 1) 22 [.int (nI k)] m = some (some (.ref (2000 + k)), m) := by
  rw [se_X4_word, r_X4_word_0]
  simp only [EV, LV, CB, OI, OL, NP, CZ, popN, CT, OZ, List.map_nil, List.map_cons, List.sum_nil, List.sum_cons, Option.toList, List.nil_append, List.cons_append, Int.reduceToNat, Nat.reduceAdd, Nat.reduceLT, Nat.reduceLeDiff, List.length_cons, List.length_nil, Nat.zero_add, if_true, if_false, reduceIte, and_self, and_true, true_and, eq_self, reduceCtorEq, sw_word k hk]
  match k, hk with
  | 0, _ =>
    show rn shP tb0 mN mO (semZ shP wS d) _ (codeZ 22) 44 [.int (nI 0)] [] m = _
    simp only [EV, LV, CB, OI, OL, NP, CZ, popN, CT, OZ, List.map_nil, List.map_cons, List.sum_nil, List.sum_cons, Option.toList, List.nil_append, List.cons_append, Int.reduceToNat, Nat.reduceAdd, Nat.reduceLT, Nat.reduceLeDiff, List.length_cons, List.length_nil, Nat.zero_add, if_true, if_false, reduceIte, and_self, and_true, true_and, eq_self, reduceCtorEq, r_X4_word_44]
  | 1, _ =>
    show rn shP tb0 mN mO (semZ shP wS d) _ (codeZ 22) 47 [.int (nI 1)] [] m = _
    simp only [EV, LV, CB, OI, OL, NP, CZ, popN, CT, OZ, List.map_nil, List.map_cons, List.sum_nil, List.sum_cons, Option.toList, List.nil_append, List.cons_append, Int.reduceToNat, Nat.reduceAdd, Nat.reduceLT, Nat.reduceLeDiff, List.length_cons, List.length_nil, Nat.zero_add, if_true, if_false, reduceIte, and_self, and_true, true_and, eq_self, reduceCtorEq, r_X4_word_47]
  | 2, _ =>
    show rn shP tb0 mN mO (semZ shP wS d) _ (codeZ 22) 50 [.int (nI 2)] [] m = _
    simp only [EV, LV, CB, OI, OL, NP, CZ, popN, CT, OZ, List.map_nil, List.map_cons, List.sum_nil, List.sum_cons, Option.toList, List.nil_append, List.cons_append, Int.reduceToNat, Nat.reduceAdd, Nat.reduceLT, Nat.reduceLeDiff, List.length_cons, List.length_nil, Nat.zero_add, if_true, if_false, reduceIte, and_self, and_true, true_and, eq_self, reduceCtorEq, r_X4_word_50]
  | 3, _ =>
    show rn shP tb0 mN mO (semZ shP wS d) _ (codeZ 22) 53 [.int (nI 3)] [] m = _
    simp only [EV, LV, CB, OI, OL, NP, CZ, popN, CT, OZ, List.map_nil, List.map_cons, List.sum_nil, List.sum_cons, Option.toList, List.nil_append, List.cons_append, Int.reduceToNat, Nat.reduceAdd, Nat.reduceLT, Nat.reduceLeDiff, List.length_cons, List.length_nil, Nat.zero_add, if_true, if_false, reduceIte, and_self, and_true, true_and, eq_self, reduceCtorEq, r_X4_word_53]
  | 4, _ =>
    show rn shP tb0 mN mO (semZ shP wS d) _ (codeZ 22) 56 [.int (nI 4)] [] m = _
    simp only [EV, LV, CB, OI, OL, NP, CZ, popN, CT, OZ, List.map_nil, List.map_cons, List.sum_nil, List.sum_cons, Option.toList, List.nil_append, List.cons_append, Int.reduceToNat, Nat.reduceAdd, Nat.reduceLT, Nat.reduceLeDiff, List.length_cons, List.length_nil, Nat.zero_add, if_true, if_false, reduceIte, and_self, and_true, true_and, eq_self, reduceCtorEq, r_X4_word_56]
  | 5, _ =>
    show rn shP tb0 mN mO (semZ shP wS d) _ (codeZ 22) 59 [.int (nI 5)] [] m = _
    simp only [EV, LV, CB, OI, OL, NP, CZ, popN, CT, OZ, List.map_nil, List.map_cons, List.sum_nil, List.sum_cons, Option.toList, List.nil_append, List.cons_append, Int.reduceToNat, Nat.reduceAdd, Nat.reduceLT, Nat.reduceLeDiff, List.length_cons, List.length_nil, Nat.zero_add, if_true, if_false, reduceIte, and_self, and_true, true_and, eq_self, reduceCtorEq, r_X4_word_59]
  | 6, _ =>
    show rn shP tb0 mN mO (semZ shP wS d) _ (codeZ 22) 62 [.int (nI 6)] [] m = _
    simp only [EV, LV, CB, OI, OL, NP, CZ, popN, CT, OZ, List.map_nil, List.map_cons, List.sum_nil, List.sum_cons, Option.toList, List.nil_append, List.cons_append, Int.reduceToNat, Nat.reduceAdd, Nat.reduceLT, Nat.reduceLeDiff, List.length_cons, List.length_nil, Nat.zero_add, if_true, if_false, reduceIte, and_self, and_true, true_and, eq_self, reduceCtorEq, r_X4_word_62]
  | 7, _ =>
    show rn shP tb0 mN mO (semZ shP wS d) _ (codeZ 22) 65 [.int (nI 7)] [] m = _
    simp only [EV, LV, CB, OI, OL, NP, CZ, popN, CT, OZ, List.map_nil, List.map_cons, List.sum_nil, List.sum_cons, Option.toList, List.nil_append, List.cons_append, Int.reduceToNat, Nat.reduceAdd, Nat.reduceLT, Nat.reduceLeDiff, List.length_cons, List.length_nil, Nat.zero_add, if_true, if_false, reduceIte, and_self, and_true, true_and, eq_self, reduceCtorEq, r_X4_word_65]
def lnI (k : Nat) : Int32 := if k = 8 then -4 else nI k
theorem lineOf_l (hX : WX wS) (hB : Tp B n) (hm : TC B n m) {s e : Nat} (hse : s ≤ e) (he : e ≤ n) : ∀ (k i : Nat), i + k = 8 → (∀ j, j < i → nmX B s e j = false) → rn shP tb0 mN mO (semZ shP wS (d + 1)) (some .int) (codeZ 21) 2 [.ref 23, .int (nI i)] [] (tm m s e) = some (some (.int (lnI (lnX B s e))), tm m s e) := by
  have e10 : ¬ (1 : Int32) = 0 := by decide
  intro k
  induction k with
  | zero =>
    intro i hi hn
    have e0 : i = 8 := by omega
    subst e0
    have e1 : (8 : Int32) ≤ nI 8 := by decide +kernel
    have e8 : lnX B s e = 8 := by
      unfold lnX
      simp only [hn 0 (by omega), hn 1 (by omega), hn 2 (by omega), hn 3 (by omega), hn 4 (by omega), hn 5 (by omega), hn 6 (by omega), hn 7 (by omega), Bool.false_eq_true, if_false]
    rw [e8, r_X4_lineOf_2]
    simp only [EV, LV, CB, OI, OL, NP, CZ, popN, CT, OZ, List.map_nil, List.map_cons, List.sum_nil, List.sum_cons, Option.toList, List.nil_append, List.cons_append, Int.reduceToNat, Nat.reduceAdd, Nat.reduceLT, Nat.reduceLeDiff, List.length_cons, List.length_nil, Nat.zero_add, if_true, if_false, reduceIte, and_self, and_true, true_and, eq_self, reduceCtorEq, e1, r_X4_lineOf_30]
    rfl
  | succ k ih =>
    intro i hi hn
    have e1 : ¬ (8 : Int32) ≤ nI i := nI_ge (b := 8) (by omega) (by omega)
    have w := hX B n m s e i hB hm hse he (by omega)
    rw [r_X4_lineOf_2]
    cases h : nmX B s e i with
    | true =>
      rw [h] at w
      have el := lnX_is (by omega) h
      have ei : lnI (lnX B s e) = nI i := by
        rw [el]
        unfold lnI
        rw [if_neg (by omega)]
      rw [ei]
      simp only [EV, LV, CB, OI, OL, NP, CZ, popN, CT, OZ, List.map_nil, List.map_cons, List.sum_nil, List.sum_cons, Option.toList, List.nil_append, List.cons_append, Int.reduceToNat, Nat.reduceAdd, Nat.reduceLT, Nat.reduceLeDiff, List.length_cons, List.length_nil, Nat.zero_add, if_true, if_false, reduceIte, and_self, and_true, true_and, eq_self, reduceCtorEq, e1, G23, t_word wS d (show i < 8 by omega), C24, se_isWord wS d, w, bI_t, e10]
    | false =>
      rw [h] at w
      simp only [EV, LV, CB, OI, OL, NP, CZ, popN, CT, OZ, List.map_nil, List.map_cons, List.sum_nil, List.sum_cons, Option.toList, List.nil_append, List.cons_append, Int.reduceToNat, Nat.reduceAdd, Nat.reduceLT, Nat.reduceLeDiff, List.length_cons, List.length_nil, Nat.zero_add, if_true, if_false, reduceIte, and_self, and_true, true_and, eq_self, reduceCtorEq, e1, G23, t_word wS d (show i < 8 by omega), C24, se_isWord wS d, w, bI_f, r_X4_lineOf_24, nI_1]
      refine ih (i + 1) (by omega) (fun j hj => ?_)
      by_cases q : j = i
      · rw [q]; exact h
      · exact hn j (by omega)
theorem t_lineOf (hX : WX wS) (hB : Tp B n) (hm : TC B n m) {s e : Nat} (hse : s ≤ e) (he : e ≤ n) : semZ shP wS (d + 2) 21 [.ref 23] (tm m s e) = some (some (.int (lnI (lnX B s e))), tm m s e) := by
  rw [se_X4_lineOf, r_X4_lineOf_0]
  simp only [EV, LV, CB, OI, OL, NP, CZ, popN, CT, OZ, List.map_nil, List.map_cons, List.sum_nil, List.sum_cons, Option.toList, List.nil_append, List.cons_append, Int.reduceToNat, Nat.reduceAdd, Nat.reduceLT, Nat.reduceLeDiff, List.length_cons, List.length_nil, Nat.zero_add, if_true, if_false, reduceIte, and_self, and_true, true_and, eq_self, reduceCtorEq]
  exact lineOf_l wS d hX hB hm hse he 8 0 rfl (fun j hj => by omega)
theorem t_roomX {k V N : Nat} (hk : k < 8) (hV : V ≤ 4) (hN : N ≤ 6) (m : Mm) (h0 : m.1 10 0 = nI V) (h1 : m.1 10 1 = nI N) : semZ shP wS (d + 1) 14 [.ref 23, .int (nI k), .ref 10] m = some (some (.int (bI (noRoom k V N))), m) := by
  have g := (gW WP10).2 m
  rw [se_X4_hasNoRoom, r_X4_hasNoRoom_0]
  unfold noRoom
  by_cases c0 : k = 0
  · subst c0
    have z0 : nI 0 = 0 := nI_0
    by_cases v : V < 4
    · have a : nI V < (4 : Int32) := nI_lt (b := 4) v (by omega)
      have b : Nat.ble 4 V = false := by
        cases h : Nat.ble 4 V with
        | false => rfl
        | true => rw [Nat.ble_eq] at h; omega
      simp only [EV, LV, CB, OI, OL, NP, CZ, popN, CT, OZ, List.map_nil, List.map_cons, List.sum_nil, List.sum_cons, Option.toList, List.nil_append, List.cons_append, Int.reduceToNat, Nat.reduceAdd, Nat.reduceLT, Nat.reduceLeDiff, List.length_cons, List.length_nil, Nat.zero_add, if_true, if_false, reduceIte, and_self, and_true, true_and, eq_self, reduceCtorEq, z0, not_true_eq_false, g, h0, a, r_X4_hasNoRoom_16, b]
      rfl
    · have v4 : V = 4 := by omega
      subst v4
      have a : ¬ nI 4 < (4 : Int32) := by decide +kernel
      simp only [EV, LV, CB, OI, OL, NP, CZ, popN, CT, OZ, List.map_nil, List.map_cons, List.sum_nil, List.sum_cons, Option.toList, List.nil_append, List.cons_append, Int.reduceToNat, Nat.reduceAdd, Nat.reduceLT, Nat.reduceLeDiff, List.length_cons, List.length_nil, Nat.zero_add, if_true, if_false, reduceIte, and_self, and_true, true_and, eq_self, reduceCtorEq, z0, not_true_eq_false, g, h0, a, r_X4_hasNoRoom_17]
      rfl
  · have z0 : ¬ nI k = 0 := nI_ne0 (by omega) (by omega)
    have k0 : (k == 0) = false := by simpa using c0
    by_cases c4 : k ≤ 4
    · have z4 : ¬ (4 : Int32) < nI k := nI_nlt (a := 4) (by omega) (by omega)
      have k1 : Nat.ble 1 k = true := by rw [Nat.ble_eq]; omega
      have k4 : Nat.ble k 4 = true := by rw [Nat.ble_eq]; omega
      by_cases v : N < 6
      · have a : nI N < (6 : Int32) := nI_lt (b := 6) v (by omega)
        have b : Nat.ble 6 N = false := by
          cases h : Nat.ble 6 N with
          | false => rfl
          | true => rw [Nat.ble_eq] at h; omega
        simp only [EV, LV, CB, OI, OL, NP, CZ, popN, CT, OZ, List.map_nil, List.map_cons, List.sum_nil, List.sum_cons, Option.toList, List.nil_append, List.cons_append, Int.reduceToNat, Nat.reduceAdd, Nat.reduceLT, Nat.reduceLeDiff, List.length_cons, List.length_nil, Nat.zero_add, if_true, if_false, reduceIte, and_self, and_true, true_and, eq_self, reduceCtorEq, z0, z4, not_false_eq_true, g, h1, a, r_X4_hasNoRoom_18, r_X4_hasNoRoom_36, b, k0, k1, k4]
        rfl
      · have v6 : N = 6 := by omega
        subst v6
        have a : ¬ nI 6 < (6 : Int32) := by decide +kernel
        simp only [EV, LV, CB, OI, OL, NP, CZ, popN, CT, OZ, List.map_nil, List.map_cons, List.sum_nil, List.sum_cons, Option.toList, List.nil_append, List.cons_append, Int.reduceToNat, Nat.reduceAdd, Nat.reduceLT, Nat.reduceLeDiff, List.length_cons, List.length_nil, Nat.zero_add, if_true, if_false, reduceIte, and_self, and_true, true_and, eq_self, reduceCtorEq, z0, z4, not_false_eq_true, g, h1, a, r_X4_hasNoRoom_18, r_X4_hasNoRoom_37, k0, k1, k4]
        rfl
    · have z4 : (4 : Int32) < nI k := nI_lt (a := 4) (by omega) (by omega)
      have k4 : Nat.ble k 4 = false := by
        cases h : Nat.ble k 4 with
        | false => rfl
        | true => rw [Nat.ble_eq] at h; omega
      simp only [EV, LV, CB, OI, OL, NP, CZ, popN, CT, OZ, List.map_nil, List.map_cons, List.sum_nil, List.sum_cons, Option.toList, List.nil_append, List.cons_append, Int.reduceToNat, Nat.reduceAdd, Nat.reduceLT, Nat.reduceLeDiff, List.length_cons, List.length_nil, Nat.zero_add, if_true, if_false, reduceIte, and_self, and_true, true_and, eq_self, reduceCtorEq, z0, z4, not_false_eq_true, r_X4_hasNoRoom_18, r_X4_hasNoRoom_36, k0, k4, Bool.and_false, Bool.false_and, Bool.or_self, bI_f]
end Cm
