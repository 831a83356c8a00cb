/-! THE LEXER: the tokens of a tape B (the byte at a place, -1 behind its end) -/
def skp (B : Nat → Int32) : Nat → Nat → Nat
  | 0, p => p
  | k + 1, p => if B p = 32 then skp B k (p + 1) else p
def rng (B : Nat → Int32) (lo hi : Int32) : Nat → Nat → Nat
  | 0, p => p
  | k + 1, p => if lo ≤ B p ∧ B p ≤ hi then rng B lo hi k (p + 1) else p
theorem skp_le (B : Nat → Int32) : ∀ k p, p ≤ skp B k p ∧ skp B k p ≤ p + k := by
  intro k
  induction k with
  | zero => intro p; exact ⟨Nat.le_refl _, Nat.le_refl _⟩
  | succ k ih =>
    intro p
    unfold skp
    split
    · have := ih (p + 1)
      omega
    · omega
theorem rng_le (B : Nat → Int32) (lo hi : Int32) : ∀ k p, p ≤ rng B lo hi k p ∧ rng B lo hi k p ≤ p + k := by
  intro k
  induction k with
  | zero => intro p; exact ⟨Nat.le_refl _, Nat.le_refl _⟩
  | succ k ih =>
    intro p
    unfold rng
    split
    · have := ih (p + 1)
      omega
    · omega
theorem rng_no {B : Nat → Int32} {lo hi : Int32} {k p : Nat} (h : ¬ (lo ≤ B p ∧ B p ≤ hi)) : rng B lo hi k p = p := by
  cases k with
  | zero => rfl
  | succ k => unfold rng; rw [if_neg h]
theorem rng_gt {B : Nat → Int32} {lo hi : Int32} {k p : Nat} (h : lo ≤ B p ∧ B p ≤ hi) (hk : 0 < k) : p < rng B lo hi k p := by
  cases k with
  | zero => omega
  | succ k =>
    unfold rng
    rw [if_pos h]
    have := (rng_le B lo hi k (p + 1)).1
    omega
theorem rng_in {B : Nat → Int32} {lo hi : Int32} : ∀ k p j, p ≤ j → j < rng B lo hi k p → lo ≤ B j ∧ B j ≤ hi := by
  intro k
  induction k with
  | zero => intro p j h1 h2; unfold rng at h2; omega
  | succ k ih =>
    intro p j h1 h2
    unfold rng at h2
    split at h2
    · rename_i h
      by_cases hj : j = p
      · rw [hj]; exact h
      · exact ih (p + 1) j (by omega) h2
    · omega
/-- the token that begins at s: its kind (0 the end, 1 a name, 2 a number, 3 a stop, 4 none), its begin, its end -/
def lxA (B : Nat → Int32) (s : Nat) : Nat × Nat × Nat :=
  if B s < 0 then (0, s, s)
  else if 97 ≤ B s ∧ B s ≤ 122 then (1, s, rng B 97 122 (160 - s) s)
  else if 48 ≤ B s ∧ B s ≤ 57 then (if rng B 48 57 (160 - s) s ≤ s + 2 then 2 else 4, s, rng B 48 57 (160 - s) s)
  else (if B s = 59 then 3 else 4, s, s + 1)
def lx (B : Nat → Int32) (p : Nat) : Nat × Nat × Nat := lxA B (skp B (160 - p) p)
/-- the number of figures s to e -/
def vq (B : Nat → Int32) (s e : Nat) : Int32 := if e ≤ s then 0 else if e = s + 1 then 10 * 0 + B s - 48 else 10 * (10 * 0 + B s - 48) + B (s + 1) - 48
/-- a tape -/
def Tp (B : Nat → Int32) (n : Nat) : Prop := n ≤ 160 ∧ (∀ j, n ≤ j → B j = -1) ∧ (∀ j, j < n → 0 ≤ B j ∧ B j ≤ 127)
theorem Tp_ge {B : Nat → Int32} {n s : Nat} (h : Tp B n) : (B s < 0) = (n ≤ s) := by
  apply propext
  constructor
  · intro z
    apply Nat.le_of_not_lt
    intro q
    exact absurd (h.2.2 s q).1 (Int32.not_le.mpr z)
  · intro z
    rw [h.2.1 s z]
    decide
theorem Tp_no {B : Nat → Int32} {n s : Nat} (h : Tp B n) (hs : n ≤ s) {lo hi : Int32} (hl : ¬ lo ≤ -1) : ¬ (lo ≤ B s ∧ B s ≤ hi) := by
  rw [h.2.1 s hs]
  exact fun z => hl z.1
theorem rng_n {B : Nat → Int32} {n : Nat} (h : Tp B n) {lo hi : Int32} (hl : ¬ lo ≤ -1) : ∀ k p, p ≤ n → rng B lo hi k p ≤ n := by
  intro k
  induction k with
  | zero => intro p hp; exact hp
  | succ k ih =>
    intro p hp
    unfold rng
    split
    · rename_i q
      refine ih (p + 1) (Nat.lt_of_not_le fun z => ?_)
      exact Tp_no h z hl q
    · exact hp
theorem skp_n {B : Nat → Int32} {n : Nat} (h : Tp B n) : ∀ k p, p ≤ n → skp B k p ≤ n := by
  intro k
  induction k with
  | zero => intro p hp; exact hp
  | succ k ih =>
    intro p hp
    unfold skp
    split
    · rename_i q
      refine ih (p + 1) (Nat.lt_of_not_le fun z => ?_)
      rw [h.2.1 p z] at q
      exact absurd q (by decide)
    · exact hp
/-- the bounds of a token -/
theorem lx_b {B : Nat → Int32} {n : Nat} (h : Tp B n) {p : Nat} (hp : p ≤ n) : p ≤ (lx B p).2.1 ∧ (lx B p).2.1 ≤ (lx B p).2.2 ∧ (lx B p).2.2 ≤ n ∧ (lx B p).1 ≤ 4 ∧ ((lx B p).1 = 0 → (lx B p).2.1 = n ∧ (lx B p).2.2 = n) ∧ ((lx B p).1 ≠ 0 → (lx B p).2.1 < (lx B p).2.2) := by
  have a := skp_le B (160 - p) p
  have b := skp_n h (160 - p) p hp
  unfold lx
  generalize skp B (160 - p) p = s at a b
  have h160 := h.1
  unfold lxA
  split
  · rename_i q
    rw [Tp_ge h] at q
    dsimp only
    exact ⟨a.1, Nat.le_refl _, b, by omega, fun _ => ⟨by omega, by omega⟩, fun z => absurd rfl z⟩
  · rename_i q
    rw [Tp_ge h] at q
    split
    · rename_i r
      have c := rng_gt (k := 160 - s) r (by omega)
      have e := rng_n h (lo := 97) (hi := 122) (by decide) (160 - s) s b
      dsimp only
      exact ⟨a.1, by omega, e, by omega, fun z => absurd z (by omega), fun _ => c⟩
    · split
      · rename_i r
        have c := rng_gt (k := 160 - s) r (by omega)
        have e := rng_n h (lo := 48) (hi := 57) (by decide) (160 - s) s b
        dsimp only
        refine ⟨a.1, by omega, e, ?_, fun z => ?_, fun _ => c⟩
        · show (if _ then 2 else 4) ≤ 4
          split <;> omega
        · have z : (if rng B 48 57 (160 - s) s ≤ s + 2 then 2 else 4) = 0 := z
          split at z <;> omega
      · dsimp only
        refine ⟨a.1, by omega, by omega, ?_, fun z => ?_, fun _ => by omega⟩
        · show (if _ then 3 else 4) ≤ 4
          split <;> omega
        · have z : (if B s = 59 then 3 else 4) = 0 := z
          split at z <;> omega
/-- a number has one or two figures -/
theorem lx_2 {B : Nat → Int32} {n : Nat} (h : Tp B n) {p : Nat} (hp : p ≤ n) (h2 : (lx B p).1 = 2) : (lx B p).2.1 < (lx B p).2.2 ∧ (lx B p).2.2 ≤ (lx B p).2.1 + 2 ∧ ∀ j, (lx B p).2.1 ≤ j → j < (lx B p).2.2 → 48 ≤ B j ∧ B j ≤ 57 := by
  refine ⟨(lx_b h hp).2.2.2.2.2 (by omega), ?_⟩
  revert h2
  unfold lx
  generalize skp B (160 - p) p = s
  unfold lxA
  split
  · intro z; cases z
  · split
    · intro z; cases z
    · split
      · intro z
        have z : (if rng B 48 57 (160 - s) s ≤ s + 2 then 2 else 4) = 2 := z
        split at z
        · rename_i q
          exact ⟨q, fun j h1 h3 => rng_in (160 - s) s j h1 h3⟩
        · omega
      · intro z
        have z : (if B s = 59 then 3 else 4) = 2 := z
        split at z <;> omega
/-! the class -/
def TC (B : Nat → Int32) (n : Nat) (m : Mm) : Prop := m.1 24 0 = nI n ∧ ∀ j, j < n → m.1 25 j = B j
section Lc
variable {B : Nat → Int32} {n : Nat} (hB : Tp B n) (C : CallS) {m : Mm} (hm : TC B n m)
theorem tkx (hB : Tp B n) (hm : TC B n m) (s : Nat) : ∀ (k p : Nat), p + k = 160 → rn shP tb0 mN mO C (some .int) (codeZ 8) 0 [.ref 24] [] (tm m s p) = rn shP tb0 mN mO C (some .int) (codeZ 8) 38 [.ref 24] [] (tm m s (skp B k p)) := by
  have h160 := hB.1
  intro k
  induction k with
  | zero =>
    intro p hp
    have e1 : nI n ≤ nI p := nI_le (by omega) (by omega)
    rw [r_X3_take_0]
    simp only [EV, LV, CB, OI, OL, NP, CZ, popN, CT, OZ, List.map_nil, List.map_cons, List.sum_nil, List.sum_cons, Option.toList, List.nil_append, List.cons_append, Int.reduceToNat, Nat.reduceAdd, Nat.reduceLT, Nat.reduceLeDiff, List.length_cons, List.length_nil, Nat.zero_add, if_true, if_false, reduceIte, and_self, and_true, true_and, eq_self, reduceCtorEq, C24, G24, hm.1, e1, skp]
  | succ k ih =>
    intro p hp
    by_cases hn : n ≤ p
    · have e1 : nI n ≤ nI p := nI_le hn (by omega)
      have e2 : ¬ (-1 : Int32) = 32 := by decide
      rw [r_X3_take_0]
      simp only [EV, LV, CB, OI, OL, NP, CZ, popN, CT, OZ, List.map_nil, List.map_cons, List.sum_nil, List.sum_cons, Option.toList, List.nil_append, List.cons_append, Int.reduceToNat, Nat.reduceAdd, Nat.reduceLT, Nat.reduceLeDiff, List.length_cons, List.length_nil, Nat.zero_add, if_true, if_false, reduceIte, and_self, and_true, true_and, eq_self, reduceCtorEq, C24, G24, hm.1, e1, skp, hB.2.1 p hn, e2]
    · have e1 : ¬ nI n ≤ nI p := nI_ge (by omega) (by omega)
      have e2 : inR (nI p) 160 = true := inR_nI (by omega) (by omega)
      have e3 : (nI p).toNatClampNeg = p := nI_clamp (by omega)
      by_cases h2 : B p = 32
      · rw [r_X3_take_0]
        simp only [EV, LV, CB, OI, OL, NP, CZ, popN, CT, OZ, List.map_nil, List.map_cons, List.sum_nil, List.sum_cons, Option.toList, List.nil_append, List.cons_append, Int.reduceToNat, Nat.reduceAdd, Nat.reduceLT, Nat.reduceLeDiff, List.length_cons, List.length_nil, Nat.zero_add, if_true, if_false, reduceIte, and_self, and_true, true_and, eq_self, reduceCtorEq, C24, G24, A25, hm.1, hm.2 p (by omega), e1, e2, e3, h2, nI_1, tm_w2, not_true_eq_false, skp]
        exact ih (p + 1) (by omega)
      · rw [r_X3_take_0]
        simp only [EV, LV, CB, OI, OL, NP, CZ, popN, CT, OZ, List.map_nil, List.map_cons, List.sum_nil, List.sum_cons, Option.toList, List.nil_append, List.cons_append, Int.reduceToNat, Nat.reduceAdd, Nat.reduceLT, Nat.reduceLeDiff, List.length_cons, List.length_nil, Nat.zero_add, if_true, if_false, reduceIte, and_self, and_true, true_and, eq_self, reduceCtorEq, C24, G24, A25, hm.1, hm.2 p (by omega), e1, e2, e3, h2, not_false_eq_true, skp]
theorem prx (hB : Tp B n) (hm : TC B n m) (s : Nat) {lo hi : Int32} (hl : ¬ lo ≤ -1) : ∀ (k p : Nat), p + k = 160 → rn shP tb0 mN mO C (some .boolean) (codeZ 9) 0 [.ref 24, .int lo, .int hi] [] (tm m s p) = rn shP tb0 mN mO C (some .boolean) (codeZ 9) 50 [.ref 24, .int lo, .int hi] [] (tm m s (rng B lo hi k p)) := by
  have h160 := hB.1
  intro k
  induction k with
  | zero =>
    intro p hp
    have e1 : nI n ≤ nI p := nI_le (by omega) (by omega)
    rw [r_X3_passRun_0]
    simp only [EV, LV, CB, OI, OL, NP, CZ, popN, CT, OZ, List.map_nil, List.map_cons, List.sum_nil, List.sum_cons, Option.toList, List.nil_append, List.cons_append, Int.reduceToNat, Nat.reduceAdd, Nat.reduceLT, Nat.reduceLeDiff, List.length_cons, List.length_nil, Nat.zero_add, if_true, if_false, reduceIte, and_self, and_true, true_and, eq_self, reduceCtorEq, C24, G24, hm.1, e1, rng]
  | succ k ih =>
    intro p hp
    by_cases hn : n ≤ p
    · have e1 : nI n ≤ nI p := nI_le hn (by omega)
      rw [rng_no (Tp_no hB hn hl), r_X3_passRun_0]
      simp only [EV, LV, CB, OI, OL, NP, CZ, popN, CT, OZ, List.map_nil, List.map_cons, List.sum_nil, List.sum_cons, Option.toList, List.nil_append, List.cons_append, Int.reduceToNat, Nat.reduceAdd, Nat.reduceLT, Nat.reduceLeDiff, List.length_cons, List.length_nil, Nat.zero_add, if_true, if_false, reduceIte, and_self, and_true, true_and, eq_self, reduceCtorEq, C24, G24, hm.1, e1]
    · have e1 : ¬ nI n ≤ nI p := nI_ge (by omega) (by omega)
      have e2 : inR (nI p) 160 = true := inR_nI (by omega) (by omega)
      have e3 : (nI p).toNatClampNeg = p := nI_clamp (by omega)
      rw [r_X3_passRun_0]
      by_cases h2 : B p < lo
      · rw [rng_no (fun z => absurd z.1 (Int32.not_le.mpr h2))]
        simp only [EV, LV, CB, OI, OL, NP, CZ, popN, CT, OZ, List.map_nil, List.map_cons, List.sum_nil, List.sum_cons, Option.toList, List.nil_append, List.cons_append, Int.reduceToNat, Nat.reduceAdd, Nat.reduceLT, Nat.reduceLeDiff, List.length_cons, List.length_nil, Nat.zero_add, if_true, if_false, reduceIte, and_self, and_true, true_and, eq_self, reduceCtorEq, C24, G24, A25, hm.1, hm.2 p (by omega), e1, e2, e3, h2]
      · by_cases h3 : hi < B p
        · rw [rng_no (fun z => absurd z.2 (Int32.not_le.mpr h3))]
          simp only [EV, LV, CB, OI, OL, NP, CZ, popN, CT, OZ, List.map_nil, List.map_cons, List.sum_nil, List.sum_cons, Option.toList, List.nil_append, List.cons_append, Int.reduceToNat, Nat.reduceAdd, Nat.reduceLT, Nat.reduceLeDiff, List.length_cons, List.length_nil, Nat.zero_add, if_true, if_false, reduceIte, and_self, and_true, true_and, eq_self, reduceCtorEq, C24, G24, A25, hm.1, hm.2 p (by omega), e1, e2, e3, h2, h3]
        · have h4 : lo ≤ B p ∧ B p ≤ hi := ⟨Int32.not_lt.mp h2, Int32.not_lt.mp h3⟩
          unfold rng
          rw [if_pos h4]
          simp only [EV, LV, CB, OI, OL, NP, CZ, popN, CT, OZ, List.map_nil, List.map_cons, List.sum_nil, List.sum_cons, Option.toList, List.nil_append, List.cons_append, Int.reduceToNat, Nat.reduceAdd, Nat.reduceLT, Nat.reduceLeDiff, List.length_cons, List.length_nil, Nat.zero_add, if_true, if_false, reduceIte, and_self, and_true, true_and, eq_self, reduceCtorEq, C24, G24, A25, hm.1, hm.2 p (by omega), e1, e2, e3, h2, h3, nI_1, tm_w2]
          exact ih (p + 1) (by omega)
end Lc
section Ld
variable {B : Nat → Int32} {n : Nat} (wS : List Value → Mm → Option Rs) (d : Nat) {m : Mm}
theorem t_passX (hB : Tp B n) (hm : TC B n m) {s : Nat} (hs : s ≤ 160) {lo hi : Int32} (hl : ¬ lo ≤ -1) : semZ shP wS (d + 1) 9 [.ref 24, .int lo, .int hi] (tm m s s) = some (some (.int (bI (decide (s < rng B lo hi (160 - s) s)))), tm m s (rng B lo hi (160 - s) s)) := by
  have b := rng_le B lo hi (160 - s) s
  rw [se_X3_passRun, prx (semZ shP wS d) hB hm s hl (160 - s) s (by omega), r_X3_passRun_50]
  have e := nI_lt' (a := rng B lo hi (160 - s) s) (b := s) (by omega) (by omega)
  by_cases h : s < rng B lo hi (160 - s) s
  · have h1 : ¬ rng B lo hi (160 - s) s ≤ s := by omega
    simp only [EV, LV, CB, OI, OL, NP, CZ, popN, CT, OZ, List.map_nil, List.map_cons, List.sum_nil, List.sum_cons, Option.toList, List.nil_append, List.cons_append, Int.reduceToNat, Nat.reduceAdd, Nat.reduceLT, Nat.reduceLeDiff, List.length_cons, List.length_nil, Nat.zero_add, if_true, if_false, reduceIte, and_self, and_true, true_and, eq_self, reduceCtorEq, C24, G24, e, h1, r_X3_passRun_66, h, decide_true, bI_t]
  · have h1 : rng B lo hi (160 - s) s ≤ s := by omega
    simp only [EV, LV, CB, OI, OL, NP, CZ, popN, CT, OZ, List.map_nil, List.map_cons, List.sum_nil, List.sum_cons, Option.toList, List.nil_append, List.cons_append, Int.reduceToNat, Nat.reduceAdd, Nat.reduceLT, Nat.reduceLeDiff, List.length_cons, List.length_nil, Nat.zero_add, if_true, if_false, reduceIte, and_self, and_true, true_and, eq_self, reduceCtorEq, C24, G24, e, h1, r_X3_passRun_65, h, decide_false, bI_f]
theorem nI_sub {a b : Nat} (h : b ≤ a) : nI a - nI b = nI (a - b) := by
  have : nI a = nI (a - b) + nI b := by rw [nI_add, show a - b + b = a by omega]
  rw [this, Int32.add_sub_cancel]
theorem t_takeX (hB : Tp B n) (hm : TC B n m) (s0 : Nat) {p : Nat} (hp : p ≤ n) : semZ shP wS (d + 2) 8 [.ref 24] (tm m s0 p) = some (some (.int (nI (lx B p).1)), tm m (lx B p).2.1 (lx B p).2.2) := by
  have h160 := hB.1
  have e10 : ¬ (1 : Int32) = 0 := by decide
  have b := skp_n hB (160 - p) p hp
  rw [se_X3_take, tkx (semZ shP wS (d + 1)) hB hm s0 (160 - p) p (by omega), r_X3_take_38]
  unfold lx
  generalize skp B (160 - p) p = s at b
  unfold lxA
  by_cases h1 : n ≤ s
  · have e1 : ¬ nI s < nI n := nI_nlt h1 (by omega)
    have hb : B s < 0 := by rw [Tp_ge hB]; exact h1
    simp only [EV, LV, CB, OI, OL, NP, CZ, popN, CT, OZ, List.map_nil, List.map_cons, List.sum_nil, List.sum_cons, Option.toList, List.nil_append, List.cons_append, Int.reduceToNat, Nat.reduceAdd, Nat.reduceLT, Nat.reduceLeDiff, List.length_cons, List.length_nil, Nat.zero_add, if_true, if_false, reduceIte, and_self, and_true, true_and, eq_self, reduceCtorEq, C24, G24, tm_w1, hm.1, e1, hb, nI_0]
  · have e1 : nI s < nI n := nI_lt (by omega) (by omega)
    have hb : ¬ B s < 0 := by rw [Tp_ge hB]; exact h1
    rw [if_neg hb]
    by_cases h2 : 97 ≤ B s ∧ B s ≤ 122
    · have g := rng_gt (k := 160 - s) h2 (by omega)
      have c := t_passX wS d hB hm (s := s) (by omega) (lo := 97) (hi := 122) (by decide)
      simp only [g, decide_true, bI_t] at c
      rw [if_pos h2]
      simp only [EV, LV, CB, OI, OL, NP, CZ, popN, CT, OZ, List.map_nil, List.map_cons, List.sum_nil, List.sum_cons, Option.toList, List.nil_append, List.cons_append, Int.reduceToNat, Nat.reduceAdd, Nat.reduceLT, Nat.reduceLeDiff, List.length_cons, List.length_nil, Nat.zero_add, if_true, if_false, reduceIte, and_self, and_true, true_and, eq_self, reduceCtorEq, C24, G24, tm_w1, hm.1, e1, r_X3_take_59, c, e10]
      rfl
    · have g := rng_no (k := 160 - s) h2
      have c := t_passX wS d hB hm (s := s) (by omega) (lo := 97) (hi := 122) (by decide)
      rw [g] at c
      simp only [Nat.lt_irrefl, decide_false, bI_f] at c
      rw [if_neg h2]
      by_cases h3 : 48 ≤ B s ∧ B s ≤ 57
      · have g2 := rng_gt (k := 160 - s) h3 (by omega)
        have u := rng_le B 48 57 (160 - s) s
        have c2 := t_passX wS d hB hm (s := s) (by omega) (lo := 48) (hi := 57) (by decide)
        simp only [g2, decide_true, bI_t] at c2
        rw [if_pos h3]
        have es := nI_sub (a := rng B 48 57 (160 - s) s) (b := s) (by omega)
        by_cases h4 : rng B 48 57 (160 - s) s ≤ s + 2
        · have e4 : nI (rng B 48 57 (160 - s) s - s) ≤ (2 : Int32) := nI_le (b := 2) (by omega) (by omega)
          simp only [EV, LV, CB, OI, OL, NP, CZ, popN, CT, OZ, List.map_nil, List.map_cons, List.sum_nil, List.sum_cons, Option.toList, List.nil_append, List.cons_append, Int.reduceToNat, Nat.reduceAdd, Nat.reduceLT, Nat.reduceLeDiff, List.length_cons, List.length_nil, Nat.zero_add, if_true, if_false, reduceIte, and_self, and_true, true_and, eq_self, reduceCtorEq, C24, G24, tm_w1, hm.1, e1, r_X3_take_59, c, r_X3_take_72, c2, e10, es, e4, r_X3_take_100, h4]
          rfl
        · have e4 : ¬ nI (rng B 48 57 (160 - s) s - s) ≤ (2 : Int32) := nI_ge (a := 2) (by omega) (by omega)
          simp only [EV, LV, CB, OI, OL, NP, CZ, popN, CT, OZ, List.map_nil, List.map_cons, List.sum_nil, List.sum_cons, Option.toList, List.nil_append, List.cons_append, Int.reduceToNat, Nat.reduceAdd, Nat.reduceLT, Nat.reduceLeDiff, List.length_cons, List.length_nil, Nat.zero_add, if_true, if_false, reduceIte, and_self, and_true, true_and, eq_self, reduceCtorEq, C24, G24, tm_w1, hm.1, e1, r_X3_take_59, c, r_X3_take_72, c2, e10, es, e4, r_X3_take_101, h4]
          rfl
      · have g2 := rng_no (k := 160 - s) h3
        have c2 := t_passX wS d hB hm (s := s) (by omega) (lo := 48) (hi := 57) (by decide)
        rw [g2] at c2
        simp only [Nat.lt_irrefl, decide_false, bI_f] at c2
        have e2 : inR (nI s) 160 = true := inR_nI (by omega) (by omega)
        have e3 : (nI s).toNatClampNeg = s := nI_clamp (by omega)
        rw [if_neg h3]
        by_cases h4 : B s = 59
        · simp only [EV, LV, CB, OI, OL, NP, CZ, popN, CT, OZ, List.map_nil, List.map_cons, List.sum_nil, List.sum_cons, Option.toList, List.nil_append, List.cons_append, Int.reduceToNat, Nat.reduceAdd, Nat.reduceLT, Nat.reduceLeDiff, List.length_cons, List.length_nil, Nat.zero_add, if_true, if_false, reduceIte, and_self, and_true, true_and, eq_self, reduceCtorEq, C24, G24, A25, tm_w1, tm_w2, hm.1, hm.2 s (by omega), e1, e2, e3, r_X3_take_59, c, r_X3_take_72, c2, r_X3_take_102, nI_1, h4, not_true_eq_false, r_X3_take_131]
          rfl
        · simp only [EV, LV, CB, OI, OL, NP, CZ, popN, CT, OZ, List.map_nil, List.map_cons, List.sum_nil, List.sum_cons, Option.toList, List.nil_append, List.cons_append, Int.reduceToNat, Nat.reduceAdd, Nat.reduceLT, Nat.reduceLeDiff, List.length_cons, List.length_nil, Nat.zero_add, if_true, if_false, reduceIte, and_self, and_true, true_and, eq_self, reduceCtorEq, C24, G24, A25, tm_w1, tm_w2, hm.1, hm.2 s (by omega), e1, e2, e3, r_X3_take_59, c, r_X3_take_72, c2, r_X3_take_102, nI_1, h4, not_false_eq_true, r_X3_take_130]
          rfl
theorem t_numberX (hB : Tp B n) (hm : TC B n m) {s e : Nat} (h1 : s < e) (h2 : e ≤ s + 2) (he : e ≤ n) : semZ shP wS (d + 1) 10 [.ref 24] (tm m s e) = some (some (.int (vq B s e)), tm m s e) := by
  have h160 := hB.1
  have q1 : ¬ nI e ≤ nI s := nI_ge h1 (by omega)
  have e2 : inR (nI s) 160 = true := inR_nI (by omega) (by omega)
  have e3 : (nI s).toNatClampNeg = s := nI_clamp (by omega)
  rw [se_X3_number, r_X3_number_0]
  simp only [EV, LV, CB, OI, OL, NP, CZ, popN, CT, OZ, List.map_nil, List.map_cons, List.sum_nil, List.sum_cons, Option.toList, List.nil_append, List.cons_append, Int.reduceToNat, Nat.reduceAdd, Nat.reduceLT, Nat.reduceLeDiff, List.length_cons, List.length_nil, Nat.zero_add, if_true, if_false, reduceIte, and_self, and_true, true_and, eq_self, reduceCtorEq, C24, G24]
  rw [r_X3_number_7]
  simp only [EV, LV, CB, OI, OL, NP, CZ, popN, CT, OZ, List.map_nil, List.map_cons, List.sum_nil, List.sum_cons, Option.toList, List.nil_append, List.cons_append, Int.reduceToNat, Nat.reduceAdd, Nat.reduceLT, Nat.reduceLeDiff, List.length_cons, List.length_nil, Nat.zero_add, if_true, if_false, reduceIte, and_self, and_true, true_and, eq_self, reduceCtorEq, C24, G24, A25, q1, e2, e3, hm.2 s (by omega), nI_1]
  unfold vq
  rw [if_neg (by omega)]
  by_cases h3 : e = s + 1
  · subst h3
    have q2 : nI (s + 1) ≤ nI (s + 1) := Int32.le_refl _
    rw [r_X3_number_7]
    simp only [EV, LV, CB, OI, OL, NP, CZ, popN, CT, OZ, List.map_nil, List.map_cons, List.sum_nil, List.sum_cons, Option.toList, List.nil_append, List.cons_append, Int.reduceToNat, Nat.reduceAdd, Nat.reduceLT, Nat.reduceLeDiff, List.length_cons, List.length_nil, Nat.zero_add, if_true, if_false, reduceIte, and_self, and_true, true_and, eq_self, reduceCtorEq, C24, G24, q2, r_X3_number_36, Int32.mul_comm]
  · have h4 : e = s + 2 := by omega
    subst h4
    have q2 : ¬ nI (s + 2) ≤ nI (s + 1) := nI_ge (by omega) (by omega)
    have q3 : nI (s + 2) ≤ nI (s + 1 + 1) := Int32.le_refl _
    have e4 : inR (nI (s + 1)) 160 = true := inR_nI (by omega) (by omega)
    have e5 : (nI (s + 1)).toNatClampNeg = s + 1 := nI_clamp (by omega)
    rw [r_X3_number_7]
    simp only [EV, LV, CB, OI, OL, NP, CZ, popN, CT, OZ, List.map_nil, List.map_cons, List.sum_nil, List.sum_cons, Option.toList, List.nil_append, List.cons_append, Int.reduceToNat, Nat.reduceAdd, Nat.reduceLT, Nat.reduceLeDiff, List.length_cons, List.length_nil, Nat.zero_add, if_true, if_false, reduceIte, and_self, and_true, true_and, eq_self, reduceCtorEq, C24, G24, A25, q2, e4, e5, hm.2 (s + 1) (by omega), nI_1]
    rw [r_X3_number_7]
    simp only [EV, LV, CB, OI, OL, NP, CZ, popN, CT, OZ, List.map_nil, List.map_cons, List.sum_nil, List.sum_cons, Option.toList, List.nil_append, List.cons_append, Int.reduceToNat, Nat.reduceAdd, Nat.reduceLT, Nat.reduceLeDiff, List.length_cons, List.length_nil, Nat.zero_add, if_true, if_false, reduceIte, and_self, and_true, true_and, eq_self, reduceCtorEq, C24, G24, q3, r_X3_number_36, h3, Int32.mul_comm]
end Ld
