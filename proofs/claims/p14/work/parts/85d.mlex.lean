/-! the model's tokens, exactly -/
def TM (B : Nat → Int32) (n : Nat) (m : Mm) : Prop := m.1 68 9 = nI n ∧ ∀ j, j < n → m.1 73 j = B j
def soX (B : Nat → Int32) (s : Nat) : Int32 := if B s < 0 then 0 else if 97 ≤ B s ∧ B s ≤ 122 then 1 else if 48 ≤ B s ∧ B s ≤ 57 then 2 else 3
def vaX (B : Nat → Int32) (s e : Nat) (va : Int32) : Int32 := if 48 ≤ B s ∧ B s ≤ 57 then vq B s e else va
theorem dA (x : Int32) : (decide ((97 : Int64) ≤ x.toInt64) && decide (x.toInt64 ≤ 122)) = decide (97 ≤ x ∧ x ≤ 122) := by
  rw [dec64 x 97 122 97 122 (by decide) (by decide), Bool.decide_and]
theorem dD (x : Int32) : (decide ((48 : Int64) ≤ x.toInt64) && decide (x.toInt64 ≤ 57)) = decide (48 ≤ x ∧ x ≤ 57) := by
  rw [dec64 x 48 57 48 57 (by decide) (by decide), Bool.decide_and]
theorem lx_so {B : Nat → Int32} {p : Nat} (h : (lx B p).1 ≠ 4) : soX B (lx B p).2.1 = nI (lx B p).1 := by
  revert h
  unfold lx
  generalize skp B (160 - p) p = s
  unfold lxA
  split
  · rename_i q
    intro _
    unfold soX
    rw [if_pos q]
    rfl
  · rename_i q
    split
    · rename_i r
      intro _
      show soX B s = _
      unfold soX
      rw [if_neg q, if_pos r]
      rfl
    · rename_i r
      split
      · rename_i t
        intro z
        show soX B s = nI (if _ then 2 else 4)
        have z : (if rng B 48 57 (160 - s) s ≤ s + 2 then 2 else 4) ≠ 4 := z
        unfold soX
        rw [if_neg q, if_neg r, if_pos t]
        split
        · rfl
        · rename_i y
          rw [if_neg y] at z
          exact absurd rfl z
      · rename_i t
        intro z
        show soX B s = nI (if _ then 3 else 4)
        have z : (if B s = 59 then 3 else 4) ≠ 4 := z
        unfold soX
        rw [if_neg q, if_neg r, if_neg t]
        split
        · rfl
        · rename_i y
          rw [if_neg y] at z
          exact absurd rfl z
theorem vq_s (B : Nat → Int32) (s : Nat) : vq B s s = 0 := by
  unfold vq
  rw [if_pos (Nat.le_refl _)]
theorem vq_step (B : Nat → Int32) {s q : Nat} (h : s ≤ q) (h2 : q < s + 2) : 10 * vq B s q + B q - 48 = vq B s (q + 1) := by
  unfold vq
  by_cases e : q = s
  · subst e
    rw [if_pos (Nat.le_refl _), if_neg (by omega), if_pos rfl]
  · have e2 : q = s + 1 := by omega
    subst e2
    rw [if_neg (by omega), if_pos rfl, if_neg (by omega), if_neg (by omega)]
theorem vq_far (B : Nat → Int32) {s q : Nat} (h2 : s + 2 ≤ q) : vq B s q = vq B s (q + 1) := by
  unfold vq
  rw [if_neg (by omega), if_neg (by omega), if_neg (by omega), if_neg (by omega)]
section Lm
variable {B : Nat → Int32} {n : Nat} (wS : List Value → Mm → Option Rs) (d : Nat) {m : Mm}
theorem bA_B (hB : Tp B n) (hm : TM B n m) {p : Nat} (hp : p < 2 ^ 31) : bA m p = B p := by
  have h160 := hB.1
  unfold bA
  rw [hm.1]
  by_cases h : p < n
  · rw [if_pos (nI_lt h (by omega)), hm.2 p h]
  · rw [if_neg (nI_nlt (by omega) hp), hB.2.1 p (by omega)]
theorem hTm (hB : Tp B n) (hm : TM B n m) : (m.1 68 9).toInt ≤ 160 := by
  have h160 := hB.1
  rw [hm.1, nI_toInt (by omega)]
  omega
theorem byX (hB : Tp B n) (hm : TM B n m) (fr : Nat) (so va fa wr : Int32) {p : Nat} (hp : p < 2 ^ 31) (ps : Nat) : semZ shP wS (d + 1) 108 [.ref 68, .int (nI p)] (pm m ps fr so va fa wr) = some (some (.int (B p)), pm m ps fr so va fa wr) := by
  rw [t_byteAt wS d m fr so va fa wr (hTm hB hm) hp ps, bA_B hB hm hp]
theorem tk8x (hB : Tp B n) (hm : TM B n m) (fr : Nat) (so va fa wr : Int32) : ∀ (k p : Nat), p + k = 160 → rn shP tb0 mN mO (semZ shP wS (d + 1)) none (codeZ 113) 8 [.ref 68, noV] [] (pm m p fr so va fa wr) = rn shP tb0 mN mO (semZ shP wS (d + 1)) none (codeZ 113) 34 [.ref 68, noV] [] (pm m (skp B k p) fr so va fa wr) := by
  have h160 := hB.1
  intro k
  induction k with
  | zero =>
    intro p hp
    have e := hB.2.1 p (by omega)
    have e2 : ¬ (-1 : Int32) = 32 := by decide
    rw [r_X7_takes_8]
    simp only [EV, LV, CB, OI, OL, NP, CZ, popN, CT, OZ, List.map_nil, List.map_cons, List.sum_nil, List.sum_cons, Option.toList, List.nil_append, List.cons_append, Int.reduceToNat, Nat.reduceAdd, Nat.reduceLT, Nat.reduceLeDiff, List.length_cons, List.length_nil, Nat.zero_add, if_true, if_false, reduceIte, and_self, and_true, true_and, eq_self, reduceCtorEq, C68, G68, byX wS d hB hm fr so va fa wr (by omega : p < 2 ^ 31), e, e2, not_false_eq_true, skp]
  | succ k ih =>
    intro p hp
    rw [r_X7_takes_8]
    by_cases h : B p = 32
    · simp only [EV, LV, CB, OI, OL, NP, CZ, popN, CT, OZ, List.map_nil, List.map_cons, List.sum_nil, List.sum_cons, Option.toList, List.nil_append, List.cons_append, Int.reduceToNat, Nat.reduceAdd, Nat.reduceLT, Nat.reduceLeDiff, List.length_cons, List.length_nil, Nat.zero_add, if_true, if_false, reduceIte, and_self, and_true, true_and, eq_self, reduceCtorEq, C68, G68, P68, byX wS d hB hm fr so va fa wr (by omega : p < 2 ^ 31), h, nI_1, pm_w10, not_true_eq_false, skp]
      exact ih (p + 1) (by omega)
    · simp only [EV, LV, CB, OI, OL, NP, CZ, popN, CT, OZ, List.map_nil, List.map_cons, List.sum_nil, List.sum_cons, Option.toList, List.nil_append, List.cons_append, Int.reduceToNat, Nat.reduceAdd, Nat.reduceLT, Nat.reduceLeDiff, List.length_cons, List.length_nil, Nat.zero_add, if_true, if_false, reduceIte, and_self, and_true, true_and, eq_self, reduceCtorEq, C68, G68, byX wS d hB hm fr so va fa wr (by omega : p < 2 ^ 31), h, not_false_eq_true, skp]
theorem tk82x (hB : Tp B n) (hm : TM B n m) (fr : Nat) (so va fa wr c : Int32) : ∀ (k p : Nat), p + k = 160 → rn shP tb0 mN mO (semZ shP wS (d + 1)) none (codeZ 113) 82 [.ref 68, .int c] [] (pm m p fr so va fa wr) = some (none, pm m (rng B 97 122 k p) fr so va fa wr) := by
  have h160 := hB.1
  have e10 : ¬ (1 : Int32) = 0 := by decide
  intro k
  induction k with
  | zero =>
    intro p hp
    have e : ¬ (97 ≤ B p ∧ B p ≤ 122) := Tp_no hB (by omega) (by decide)
    rw [r_X7_takes_82]
    simp only [EV, LV, CB, OI, OL, NP, CZ, popN, CT, OZ, List.map_nil, List.map_cons, List.sum_nil, List.sum_cons, Option.toList, List.nil_append, List.cons_append, Int.reduceToNat, Nat.reduceAdd, Nat.reduceLT, Nat.reduceLeDiff, List.length_cons, List.length_nil, Nat.zero_add, if_true, if_false, reduceIte, and_self, and_true, true_and, eq_self, reduceCtorEq, C68, G68, byX wS d hB hm fr so va fa wr (by omega : p < 2 ^ 31), t_in wS d, dA, e, decide_false, bI_f, r_X7_takes_274, rng]
  | succ k ih =>
    intro p hp
    rw [r_X7_takes_82]
    by_cases h : 97 ≤ B p ∧ B p ≤ 122
    · unfold rng
      rw [if_pos h]
      simp only [EV, LV, CB, OI, OL, NP, CZ, popN, CT, OZ, List.map_nil, List.map_cons, List.sum_nil, List.sum_cons, Option.toList, List.nil_append, List.cons_append, Int.reduceToNat, Nat.reduceAdd, Nat.reduceLT, Nat.reduceLeDiff, List.length_cons, List.length_nil, Nat.zero_add, if_true, if_false, reduceIte, and_self, and_true, true_and, eq_self, reduceCtorEq, C68, G68, P68, byX wS d hB hm fr so va fa wr (by omega : p < 2 ^ 31), t_in wS d, dA, decide_eq_true h, bI_t, e10, nI_1, pm_w10]
      exact ih (p + 1) (by omega)
    · rw [rng_no h]
      simp only [EV, LV, CB, OI, OL, NP, CZ, popN, CT, OZ, List.map_nil, List.map_cons, List.sum_nil, List.sum_cons, Option.toList, List.nil_append, List.cons_append, Int.reduceToNat, Nat.reduceAdd, Nat.reduceLT, Nat.reduceLeDiff, List.length_cons, List.length_nil, Nat.zero_add, if_true, if_false, reduceIte, and_self, and_true, true_and, eq_self, reduceCtorEq, C68, G68, byX wS d hB hm fr so va fa wr (by omega : p < 2 ^ 31), t_in wS d, dA, decide_eq_false h, bI_f, r_X7_takes_274]
theorem tk140x (hB : Tp B n) (hm : TM B n m) (s : Nat) (so fa wr c : Int32) : ∀ (k p : Nat), p + k = 160 → s ≤ p → rn shP tb0 mN mO (semZ shP wS (d + 1)) none (codeZ 113) 140 [.ref 68, .int c] [] (pm m p s so (vq B s p) fa wr) = rn shP tb0 mN mO (semZ shP wS (d + 1)) none (codeZ 113) 217 [.ref 68, .int c] [] (pm m (rng B 48 57 k p) s so (vq B s (rng B 48 57 k p)) fa wr) := by
  have h160 := hB.1
  have e10 : ¬ (1 : Int32) = 0 := by decide
  intro k
  induction k with
  | zero =>
    intro p hp hs
    have e : ¬ (48 ≤ B p ∧ B p ≤ 57) := Tp_no hB (by omega) (by decide)
    rw [r_X7_takes_140]
    simp only [EV, LV, CB, OI, OL, NP, CZ, popN, CT, OZ, List.map_nil, List.map_cons, List.sum_nil, List.sum_cons, Option.toList, List.nil_append, List.cons_append, Int.reduceToNat, Nat.reduceAdd, Nat.reduceLT, Nat.reduceLeDiff, List.length_cons, List.length_nil, Nat.zero_add, if_true, if_false, reduceIte, and_self, and_true, true_and, eq_self, reduceCtorEq, C68, G68, byX wS d hB hm s so (vq B s p) fa wr (by omega : p < 2 ^ 31), t_in wS d, dD, decide_eq_false e, bI_f, rng]
  | succ k ih =>
    intro p hp hs
    rw [r_X7_takes_140]
    by_cases h : 48 ≤ B p ∧ B p ≤ 57
    · unfold rng
      rw [if_pos h]
      have es := nI_sub (a := p) (b := s) hs
      by_cases h2 : s + 2 ≤ p
      · have e2 : (2 : Int32) ≤ nI (p - s) := nI_le (a := 2) (by omega) (by omega)
        simp only [EV, LV, CB, OI, OL, NP, CZ, popN, CT, OZ, List.map_nil, List.map_cons, List.sum_nil, List.sum_cons, Option.toList, List.nil_append, List.cons_append, Int.reduceToNat, Nat.reduceAdd, Nat.reduceLT, Nat.reduceLeDiff, List.length_cons, List.length_nil, Nat.zero_add, if_true, if_false, reduceIte, and_self, and_true, true_and, eq_self, reduceCtorEq, C68, G68, byX wS d hB hm s so (vq B s p) fa wr (by omega : p < 2 ^ 31), t_in wS d, dD, decide_eq_true h, bI_t, e10, es, e2, r_X7_takes_197, P68, pm_w13, nI_1, pm_w10]
        rw [vq_far B h2]
        exact ih (p + 1) (by omega) (by omega)
      · have e2 : ¬ (2 : Int32) ≤ nI (p - s) := nI_ge (b := 2) (by omega) (by omega)
        simp only [EV, LV, CB, OI, OL, NP, CZ, popN, CT, OZ, List.map_nil, List.map_cons, List.sum_nil, List.sum_cons, Option.toList, List.nil_append, List.cons_append, Int.reduceToNat, Nat.reduceAdd, Nat.reduceLT, Nat.reduceLeDiff, List.length_cons, List.length_nil, Nat.zero_add, if_true, if_false, reduceIte, and_self, and_true, true_and, eq_self, reduceCtorEq, C68, G68, byX wS d hB hm s so (vq B s p) fa wr (by omega : p < 2 ^ 31), t_in wS d, dD, decide_eq_true h, bI_t, e10, es, e2, r_X7_takes_201, P68, pm_w13, nI_1, pm_w10]
        rw [vq_step B hs (by omega)]
        exact ih (p + 1) (by omega) (by omega)
    · rw [rng_no h]
      simp only [EV, LV, CB, OI, OL, NP, CZ, popN, CT, OZ, List.map_nil, List.map_cons, List.sum_nil, List.sum_cons, Option.toList, List.nil_append, List.cons_append, Int.reduceToNat, Nat.reduceAdd, Nat.reduceLT, Nat.reduceLeDiff, List.length_cons, List.length_nil, Nat.zero_add, if_true, if_false, reduceIte, and_self, and_true, true_and, eq_self, reduceCtorEq, C68, G68, byX wS d hB hm s so (vq B s p) fa wr (by omega : p < 2 ^ 31), t_in wS d, dD, decide_eq_false h, bI_f]
theorem t_takesX (hB : Tp B n) (hm : TM B n m) {p : Nat} (hp : p ≤ n) (fr : Nat) (so va wr : Int32) : semZ shP wS (d + 2) 113 [.ref 68] (pm m p fr so va 0 wr) = some (none, pm m (lx B p).2.2 (lx B p).2.1 (soX B (lx B p).2.1) (vaX B (lx B p).2.1 (lx B p).2.2 va) (if (lx B p).1 = 4 then 1 else 0) (if (lx B p).1 = 4 then nI (lx B p).2.1 else wr)) := by
  have h160 := hB.1
  have e00 : (0 : Int32) ≤ 0 := by decide
  have e10 : ¬ (1 : Int32) = 0 := by decide
  have b := skp_n hB (160 - p) p hp
  rw [se_X7_takes, r_X7_takes_0]
  simp only [EV, LV, CB, OI, OL, NP, CZ, popN, CT, OZ, List.map_nil, List.map_cons, List.sum_nil, List.sum_cons, Option.toList, List.nil_append, List.cons_append, Int.reduceToNat, Nat.reduceAdd, Nat.reduceLT, Nat.reduceLeDiff, List.length_cons, List.length_nil, Nat.zero_add, if_true, if_false, reduceIte, and_self, and_true, true_and, eq_self, reduceCtorEq, G68, e00]
  rw [tk8x wS d hB hm fr so va 0 wr (160 - p) p (by omega), r_X7_takes_34]
  unfold lx
  generalize skp B (160 - p) p = s at b
  unfold lxA soX vaX
  by_cases h1 : B s < 0
  · have e1 : ¬ 0 ≤ B s := Int32.not_le.mpr h1
    have e2 : ¬ (48 ≤ B s ∧ B s ≤ 57) := fun z => absurd (Int32.le_trans (by decide) z.1) e1
    have e04 : ¬ (0 : Nat) = 4 := by decide
    simp only [EV, LV, CB, OI, OL, NP, CZ, popN, CT, OZ, List.map_nil, List.map_cons, List.sum_nil, List.sum_cons, Option.toList, List.nil_append, List.cons_append, Int.reduceToNat, Nat.reduceAdd, Nat.reduceLT, Nat.reduceLeDiff, List.length_cons, List.length_nil, Nat.zero_add, if_true, if_false, reduceIte, and_self, and_true, true_and, eq_self, reduceCtorEq, C68, G68, P68, pm_w11, pm_w12, byX wS d hB hm s so va 0 wr (by omega : s < 2 ^ 31), e1, h1, e2, e04, r_X7_takes_274]
  · have e1 : 0 ≤ B s := Int32.not_lt.mp h1
    by_cases h2 : 97 ≤ B s ∧ B s ≤ 122
    · have e2 : ¬ (48 ≤ B s ∧ B s ≤ 57) := fun z => absurd (Int32.le_trans h2.1 z.2) (by decide)
      have e14 : ¬ (1 : Nat) = 4 := by decide
      simp only [EV, LV, CB, OI, OL, NP, CZ, popN, CT, OZ, List.map_nil, List.map_cons, List.sum_nil, List.sum_cons, Option.toList, List.nil_append, List.cons_append, Int.reduceToNat, Nat.reduceAdd, Nat.reduceLT, Nat.reduceLeDiff, List.length_cons, List.length_nil, Nat.zero_add, if_true, if_false, reduceIte, and_self, and_true, true_and, eq_self, reduceCtorEq, C68, G68, P68, pm_w11, pm_w12, byX wS d hB hm s so va 0 wr (by omega : s < 2 ^ 31), e1, h1, e2, h2, e14, r_X7_takes_63, t_in wS d, dA, decide_true, bI_t, e10, tk82x wS d hB hm s 1 va 0 wr (B s) (160 - s) s (by omega)]
    · by_cases h3 : 48 ≤ B s ∧ B s ≤ 57
      · have u := rng_le B 48 57 (160 - s) s
        have es := nI_sub (a := rng B 48 57 (160 - s) s) (b := s) (by omega)
        have k := tk140x wS d hB hm s 2 0 wr (B s) (160 - s) s (by omega) (Nat.le_refl _)
        rw [vq_s] at k
        simp only [EV, LV, CB, OI, OL, NP, CZ, popN, CT, OZ, List.map_nil, List.map_cons, List.sum_nil, List.sum_cons, Option.toList, List.nil_append, List.cons_append, Int.reduceToNat, Nat.reduceAdd, Nat.reduceLT, Nat.reduceLeDiff, List.length_cons, List.length_nil, Nat.zero_add, if_true, if_false, reduceIte, and_self, and_true, true_and, eq_self, reduceCtorEq, C68, G68, P68, pm_w11, pm_w12, pm_w13, byX wS d hB hm s so va 0 wr (by omega : s < 2 ^ 31), e1, h1, h2, h3, r_X7_takes_63, r_X7_takes_116, t_in wS d, dA, dD, decide_true, decide_false, bI_t, bI_f, e10, k, r_X7_takes_217, es]
        by_cases h4 : rng B 48 57 (160 - s) s ≤ s + 2
        · have e4 : ¬ (2 : Int32) < nI (rng B 48 57 (160 - s) s - s) := nI_nlt (a := 2) (by omega) (by omega)
          have e24 : ¬ (2 : Nat) = 4 := by decide
          simp only [EV, LV, CB, OI, OL, NP, CZ, popN, CT, OZ, List.map_nil, List.map_cons, List.sum_nil, List.sum_cons, Option.toList, List.nil_append, List.cons_append, Int.reduceToNat, Nat.reduceAdd, Nat.reduceLT, Nat.reduceLeDiff, List.length_cons, List.length_nil, Nat.zero_add, if_true, if_false, reduceIte, and_self, and_true, true_and, eq_self, reduceCtorEq, e4, h4, e24, r_X7_takes_236, C68, t_needs wS d, e10, false_and, r_X7_takes_274]
        · have e4 : (2 : Int32) < nI (rng B 48 57 (160 - s) s - s) := nI_lt (a := 2) (by omega) (by omega)
          simp only [EV, LV, CB, OI, OL, NP, CZ, popN, CT, OZ, List.map_nil, List.map_cons, List.sum_nil, List.sum_cons, Option.toList, List.nil_append, List.cons_append, Int.reduceToNat, Nat.reduceAdd, Nat.reduceLT, Nat.reduceLeDiff, List.length_cons, List.length_nil, Nat.zero_add, if_true, if_false, reduceIte, and_self, and_true, true_and, eq_self, reduceCtorEq, e4, h4, r_X7_takes_235, C68, t_needs wS d, r_X7_takes_274]
      · by_cases h4 : B s = 59
        · have e34 : ¬ (3 : Nat) = 4 := by decide
          have h4 := eq_true h4
          simp only [EV, LV, CB, OI, OL, NP, CZ, popN, CT, OZ, List.map_nil, List.map_cons, List.sum_nil, List.sum_cons, Option.toList, List.nil_append, List.cons_append, Int.reduceToNat, Nat.reduceAdd, Nat.reduceLT, Nat.reduceLeDiff, List.length_cons, List.length_nil, Nat.zero_add, if_true, if_false, reduceIte, and_self, and_true, true_and, eq_self, reduceCtorEq, C68, G68, P68, pm_w10, pm_w11, pm_w12, pm_w13, byX wS d hB hm s so va 0 wr (by omega : s < 2 ^ 31), e1, h1, h2, h3, r_X7_takes_63, r_X7_takes_116, r_X7_takes_243, t_in wS d, dA, dD, decide_false, bI_f, h4, not_true_eq_false, r_X7_takes_260, t_needs wS d, e10, false_and, nI_1, e34]
        · simp only [EV, LV, CB, OI, OL, NP, CZ, popN, CT, OZ, List.map_nil, List.map_cons, List.sum_nil, List.sum_cons, Option.toList, List.nil_append, List.cons_append, Int.reduceToNat, Nat.reduceAdd, Nat.reduceLT, Nat.reduceLeDiff, List.length_cons, List.length_nil, Nat.zero_add, if_true, if_false, reduceIte, and_self, and_true, true_and, eq_self, reduceCtorEq, C68, G68, P68, pm_w10, pm_w11, pm_w12, pm_w13, byX wS d hB hm s so va 0 wr (by omega : s < 2 ^ 31), e1, h1, h2, h3, r_X7_takes_63, r_X7_takes_116, r_X7_takes_243, t_in wS d, dA, dD, decide_false, bI_f, h4, not_false_eq_true, r_X7_takes_259, t_needs wS d, nI_1]
end Lm
