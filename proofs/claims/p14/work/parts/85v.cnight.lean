/-! THE CLASS' NIGHTS -/
theorem al_f {k : Nat} (hk : k < 4) (m : Mm) : alI shP tb0 0 1000 (nI k) m = some (fneed (nI k)) := by
  have hs : shP[1000]? = none := rfl
  unfold alI
  rw [hs]
  match k, hk with
  | 0, _ => exact (by decide +kernel : (if (0 : Nat) = 0 ∧ inR (nI 0) 4 = true then some (([2, 3, 3, 4] : List Int32).getD (nI 0).toNatClampNeg 0) else none) = some (fneed (nI 0)))
  | 1, _ => exact (by decide +kernel : (if (0 : Nat) = 0 ∧ inR (nI 1) 4 = true then some (([2, 3, 3, 4] : List Int32).getD (nI 1).toNatClampNeg 0) else none) = some (fneed (nI 1)))
  | 2, _ => exact (by decide +kernel : (if (0 : Nat) = 0 ∧ inR (nI 2) 4 = true then some (([2, 3, 3, 4] : List Int32).getD (nI 2).toNatClampNeg 0) else none) = some (fneed (nI 2)))
  | 3, _ => exact (by decide +kernel : (if (0 : Nat) = 0 ∧ inR (nI 3) 4 = true then some (([2, 3, 3, 4] : List Int32).getD (nI 3).toNatClampNeg 0) else none) = some (fneed (nI 3)))
theorem al_m {k : Nat} (hk : k < 4) (m : Mm) : alI shP tb0 0 1001 (nI k) m = some (mneed (nI k)) := by
  have hs : shP[1001]? = none := rfl
  unfold alI
  rw [hs]
  match k, hk with
  | 0, _ => exact (by decide +kernel : (if (0 : Nat) = 0 ∧ inR (nI 0) 4 = true then some (([1, 1, 0, 2] : List Int32).getD (nI 0).toNatClampNeg 0) else none) = some (mneed (nI 0)))
  | 1, _ => exact (by decide +kernel : (if (0 : Nat) = 0 ∧ inR (nI 1) 4 = true then some (([1, 1, 0, 2] : List Int32).getD (nI 1).toNatClampNeg 0) else none) = some (mneed (nI 1)))
  | 2, _ => exact (by decide +kernel : (if (0 : Nat) = 0 ∧ inR (nI 2) 4 = true then some (([1, 1, 0, 2] : List Int32).getD (nI 2).toNatClampNeg 0) else none) = some (mneed (nI 2)))
  | 3, _ => exact (by decide +kernel : (if (0 : Nat) = 0 ∧ inR (nI 3) 4 = true then some (([1, 1, 0, 2] : List Int32).getD (nI 3).toNatClampNeg 0) else none) = some (mneed (nI 3)))
/-- a body's number, or NONE -/
def fbI (x : Nat) : Int32 := if x = 9 then -4 else nI x
theorem nI_n4 {b : Nat} (hb : b < 100) : ¬ nI b = -4 := fun z => by
  have q := congrArg Int32.toInt z
  rw [nI_toInt (by omega)] at q
  have q2 : (-4 : Int32).toInt = -4 := by decide
  omega
theorem nxV_lt {V g : Nat} (hg : g < V) : nxV V g < V := by
  unfold nxV
  split <;> omega
theorem nxV_ne {V g : Nat} (hg : g < V) (h : 1 < V) : nxV V g ≠ g := by
  unfold nxV
  split <;> omega
/-- what a night of the world w leaves -/
def WFr (w : Nat) (m m' : Mm) : Prop := (∀ q, q < w ∨ w + 8 < q → m'.1 q = m.1 q) ∧ m'.1 (w + 3) = m.1 (w + 3)
theorem WFr_rf {w : Nat} {m : Mm} : WFr w m m := ⟨fun _ _ => rfl, rfl⟩
theorem WFr_tr {w : Nat} {m m1 m2 : Mm} (h : WFr w m m1) (h2 : WFr w m1 m2) : WFr w m m2 := ⟨fun q hq => (h2.1 q hq).trans (h.1 q hq), h2.2.trans h.2⟩
theorem WFr_w {w : Nat} {m m1 : Mm} (h : WFr w m m1) {o : Nat} (j : Nat) (x : Int32) (h1 : w ≤ o) (h2 : o ≤ w + 8) (h3 : o ≠ w + 3) : WFr w m (wI m1 o j x) := by
  refine ⟨fun q hq => ?_, ?_⟩
  · rw [wI_n _ _ _ _ (by omega)]; exact h.1 q hq
  · rw [wI_n _ _ _ _ (by omega)]; exact h.2
section Ni
variable {w V N : Nat} {f : Nat → Int32} (wS : List Value → Mm → Option Rs) (d : Nat) {m : Mm}
theorem t_lacksC (hw : WSh shP w) (h : CW w V N f m) (ha : Atf V N f) {b : Nat} (hb : b < N) : semZ shP wS (d + 1) 32 [.ref w, .int (nI b)] m = some (some (.int (lk f b)), m) := by
  obtain ⟨c1, c2, -, -, -, -, -, -, -, -, hB⟩ := h
  obtain ⟨b1, b2, b3, b4, b5⟩ := hB b hb
  obtain ⟨k, hk, ek⟩ := ha.2.1 b hb
  have e2 : inR (nI b) 6 = true := inR_nI (by omega) (by omega)
  have e3 : (nI b).toNatClampNeg = b := nI_clamp (by omega)
  rw [ek] at b1
  rw [se_X5_lacks, r_X5_lacks_0]
  unfold lk lkF lkM posI
  rw [ek]
  by_cases h1 : fneed (nI k) - f (8 + 5 * b + 2) ≤ 0
  · by_cases h2 : mneed (nI k) - f (8 + 5 * b + 3) ≤ 0
    · simp only [EV, LV, CB, OI, OL, NP, CZ, popN, CT, OZ, List.map_nil, List.map_cons, List.sum_nil, List.sum_cons, Option.toList, List.nil_append, List.cons_append, Int.reduceToNat, Nat.reduceAdd, Nat.reduceLT, Nat.reduceLeDiff, List.length_cons, List.length_nil, Nat.zero_add, if_true, if_false, reduceIte, and_self, and_true, true_and, eq_self, reduceCtorEq, gW hw, aW hw, e2, e3, b1, b3, b4, al_f hk, al_m hk, h1, h2, r_X5_lacks_44, r_X5_lacks_53]
    · simp only [EV, LV, CB, OI, OL, NP, CZ, popN, CT, OZ, List.map_nil, List.map_cons, List.sum_nil, List.sum_cons, Option.toList, List.nil_append, List.cons_append, Int.reduceToNat, Nat.reduceAdd, Nat.reduceLT, Nat.reduceLeDiff, List.length_cons, List.length_nil, Nat.zero_add, if_true, if_false, reduceIte, and_self, and_true, true_and, eq_self, reduceCtorEq, gW hw, aW hw, e2, e3, b1, b3, b4, al_f hk, al_m hk, h1, h2, r_X5_lacks_44, r_X5_lacks_54]
  · by_cases h2 : mneed (nI k) - f (8 + 5 * b + 3) ≤ 0
    · simp only [EV, LV, CB, OI, OL, NP, CZ, popN, CT, OZ, List.map_nil, List.map_cons, List.sum_nil, List.sum_cons, Option.toList, List.nil_append, List.cons_append, Int.reduceToNat, Nat.reduceAdd, Nat.reduceLT, Nat.reduceLeDiff, List.length_cons, List.length_nil, Nat.zero_add, if_true, if_false, reduceIte, and_self, and_true, true_and, eq_self, reduceCtorEq, gW hw, aW hw, e2, e3, b1, b3, b4, al_f hk, al_m hk, h1, h2, r_X5_lacks_45, r_X5_lacks_53]
    · simp only [EV, LV, CB, OI, OL, NP, CZ, popN, CT, OZ, List.map_nil, List.map_cons, List.sum_nil, List.sum_cons, Option.toList, List.nil_append, List.cons_append, Int.reduceToNat, Nat.reduceAdd, Nat.reduceLT, Nat.reduceLeDiff, List.length_cons, List.length_nil, Nat.zero_add, if_true, if_false, reduceIte, and_self, and_true, true_and, eq_self, reduceCtorEq, gW hw, aW hw, e2, e3, b1, b3, b4, al_f hk, al_m hk, h1, h2, r_X5_lacks_45, r_X5_lacks_54]
theorem t_frC_l (hw : WSh shP w) (h : CW w V N f m) (x : Int32) : ∀ k b, b + k = N → rn shP tb0 mN mO (semZ shP wS d) (some .int) (codeZ 40) 2 [.ref w, .int x, .int (nI b)] [] m = some (some (.int (fbI (fsB f x k b))), m) := by
  intro k
  have c1 := h.2.2.2.1
  have hN := h.2.1
  induction k with
  | zero =>
    intro b hb
    have e1 : nI N ≤ nI b := nI_le (by omega) (by omega)
    rw [r_X5_firstLyingAt_2]
    simp only [EV, LV, CB, OI, OL, NP, CZ, popN, CT, OZ, List.map_nil, List.map_cons, List.sum_nil, List.sum_cons, Option.toList, List.nil_append, List.cons_append, Int.reduceToNat, Nat.reduceAdd, Nat.reduceLT, Nat.reduceLeDiff, List.length_cons, List.length_nil, Nat.zero_add, if_true, if_false, reduceIte, and_self, and_true, true_and, eq_self, reduceCtorEq, gW hw, c1, e1, r_X5_firstLyingAt_37]
    rfl
  | succ k ih =>
    intro b hb
    have e1 : ¬ nI N ≤ nI b := nI_ge (by omega) (by omega)
    have e2 : inR (nI b) 6 = true := inR_nI (by omega) (by omega)
    have e3 : (nI b).toNatClampNeg = b := nI_clamp (by omega)
    have e9 : ¬ b = 9 := by omega
    obtain ⟨-, b2, -, -, b5⟩ := h.2.2.2.2.2.2.2.2.2.2 b (by omega)
    rw [r_X5_firstLyingAt_2]
    unfold fsB
    by_cases q1 : f (8 + 5 * b + 1) = x
    · by_cases q2 : f (8 + 5 * b + 4) = 0
      · rw [if_pos ⟨q1, q2⟩]
        simp only [EV, LV, CB, OI, OL, NP, CZ, popN, CT, OZ, List.map_nil, List.map_cons, List.sum_nil, List.sum_cons, Option.toList, List.nil_append, List.cons_append, Int.reduceToNat, Nat.reduceAdd, Nat.reduceLT, Nat.reduceLeDiff, List.length_cons, List.length_nil, Nat.zero_add, if_true, if_false, reduceIte, and_self, and_true, true_and, eq_self, reduceCtorEq, gW hw, aW hw, c1, e1, e2, e3, b2, b5, q1, q2, not_true_eq_false, fbI, e9]
      · rw [if_neg (fun z => q2 z.2)]
        simp only [EV, LV, CB, OI, OL, NP, CZ, popN, CT, OZ, List.map_nil, List.map_cons, List.sum_nil, List.sum_cons, Option.toList, List.nil_append, List.cons_append, Int.reduceToNat, Nat.reduceAdd, Nat.reduceLT, Nat.reduceLeDiff, List.length_cons, List.length_nil, Nat.zero_add, if_true, if_false, reduceIte, and_self, and_true, true_and, eq_self, reduceCtorEq, gW hw, aW hw, c1, e1, e2, e3, b2, b5, q1, q2, not_true_eq_false, not_false_eq_true, r_X5_firstLyingAt_31, nI_1]
        exact ih (b + 1) (by omega)
    · rw [if_neg (fun z => q1 z.1)]
      simp only [EV, LV, CB, OI, OL, NP, CZ, popN, CT, OZ, List.map_nil, List.map_cons, List.sum_nil, List.sum_cons, Option.toList, List.nil_append, List.cons_append, Int.reduceToNat, Nat.reduceAdd, Nat.reduceLT, Nat.reduceLeDiff, List.length_cons, List.length_nil, Nat.zero_add, if_true, if_false, reduceIte, and_self, and_true, true_and, eq_self, reduceCtorEq, gW hw, aW hw, c1, e1, e2, e3, b2, q1, not_false_eq_true, r_X5_firstLyingAt_31, nI_1]
      exact ih (b + 1) (by omega)
theorem t_firstC (hw : WSh shP w) (h : CW w V N f m) (x : Int32) : semZ shP wS (d + 1) 40 [.ref w, .int x] m = some (some (.int (fbI (fsB f x N 0))), m) := by
  have i := t_frC_l wS d hw h x N 0 (by omega)
  rw [nI_0] at i
  rw [se_X5_firstLyingAt, r_X5_firstLyingAt_0]
  simp only [EV, LV, CB, OI, OL, NP, CZ, popN, CT, OZ, List.map_nil, List.map_cons, List.sum_nil, List.sum_cons, Option.toList, List.nil_append, List.cons_append, Int.reduceToNat, Nat.reduceAdd, Nat.reduceLT, Nat.reduceLeDiff, List.length_cons, List.length_nil, Nat.zero_add, if_true, if_false, reduceIte, and_self, and_true, true_and, eq_self, reduceCtorEq]
  exact i
theorem t_hand24 (hw : WSh shP w) (h : CW w V N f m) {b g x : Nat} (hb : b < N) (hx : x < V) : rn shP tb0 mN mO (semZ shP wS d) none (codeZ 41) 24 [.ref w, .int (nI b), .int (nI g), .int (nI x)] [] m = some (none, if f (2 * x + 1) = 0 then wI (wI m (w + 5) b (nI x)) w 7 (m.1 w 7 + 1) else wI m (w + 2) x (f (2 * x + 1) - 1)) := by
  obtain ⟨hV, hN, c0, c1, -, -, -, -, -, hG, -⟩ := h
  have g2 := (hG x hx).2
  have e2 : inR (nI b) 6 = true := inR_nI (by omega) (by omega)
  have e3 : (nI b).toNatClampNeg = b := nI_clamp (by omega)
  have e4 : inR (nI x) 4 = true := inR_nI (by omega) (by omega)
  have e5 : (nI x).toNatClampNeg = x := nI_clamp (by omega)
  have e7 : (wI m (w + 5) b (nI x)).1 w 7 = m.1 w 7 := wI_o _ _ _ _ _ (by omega)
  rw [r_X5_handOn_24]
  by_cases q : f (2 * x + 1) = 0
  · simp only [EV, LV, CB, OI, OL, NP, CZ, popN, CT, OZ, List.map_nil, List.map_cons, List.sum_nil, List.sum_cons, Option.toList, List.nil_append, List.cons_append, Int.reduceToNat, Nat.reduceAdd, Nat.reduceLT, Nat.reduceLeDiff, List.length_cons, List.length_nil, Nat.zero_add, if_true, if_false, reduceIte, and_self, and_true, true_and, eq_self, reduceCtorEq, gW hw, aW hw, sW hw, pW hw, e2, e3, e4, e5, e7, g2, q, not_true_eq_false, r_X5_handOn_63]
  · simp only [EV, LV, CB, OI, OL, NP, CZ, popN, CT, OZ, List.map_nil, List.map_cons, List.sum_nil, List.sum_cons, Option.toList, List.nil_append, List.cons_append, Int.reduceToNat, Nat.reduceAdd, Nat.reduceLT, Nat.reduceLeDiff, List.length_cons, List.length_nil, Nat.zero_add, if_true, if_false, reduceIte, and_self, and_true, true_and, eq_self, reduceCtorEq, gW hw, aW hw, sW hw, pW hw, e2, e3, e4, e5, e7, g2, q, not_false_eq_true, r_X5_handOn_53]
theorem t_handC (hw : WSh shP w) (h : CW w V N f m) {b g : Nat} (hb : b < N) (hg : g < V) : semZ shP wS (d + 1) 41 [.ref w, .int (nI b), .int (nI g)] m = some (none, if V ≤ 1 then m else if f (2 * nxV V g + 1) = 0 then wI (wI m (w + 5) b (nI (nxV V g))) w 7 (m.1 w 7 + 1) else wI m (w + 2) (nxV V g) (f (2 * nxV V g + 1) - 1)) := by
  have hV := h.1
  have c0 := h.2.2.1
  rw [se_X5_handOn, r_X5_handOn_0]
  by_cases h1 : g + 1 < V
  · have e1 : ¬ nI V ≤ nI (g + 1) := nI_ge h1 (by omega)
    have e2 : ¬ nI (g + 1) = nI g := fun z => by
      have := (nI_eq (by omega) (by omega)).mp z
      omega
    have ex : nxV V g = g + 1 := by
      unfold nxV
      rw [if_pos h1]
    have k := t_hand24 wS d hw h (b := b) (g := g) (x := g + 1) hb h1
    rw [if_neg (by omega), ex, ← k]
    simp only [EV, LV, CB, OI, OL, NP, CZ, popN, CT, OZ, List.map_nil, List.map_cons, List.sum_nil, List.sum_cons, Option.toList, List.nil_append, List.cons_append, Int.reduceToNat, Nat.reduceAdd, Nat.reduceLT, Nat.reduceLeDiff, List.length_cons, List.length_nil, Nat.zero_add, if_true, if_false, reduceIte, and_self, and_true, true_and, eq_self, reduceCtorEq, gW hw, c0, nI_1, e1]
    rw [r_X5_handOn_17]
    simp only [EV, LV, CB, OI, OL, NP, CZ, popN, CT, OZ, List.map_nil, List.map_cons, List.sum_nil, List.sum_cons, Option.toList, List.nil_append, List.cons_append, Int.reduceToNat, Nat.reduceAdd, Nat.reduceLT, Nat.reduceLeDiff, List.length_cons, List.length_nil, Nat.zero_add, if_true, if_false, reduceIte, and_self, and_true, true_and, eq_self, reduceCtorEq, e2, not_false_eq_true]
  · have e1 : nI V ≤ nI (g + 1) := nI_le (by omega) (by omega)
    have ex : nxV V g = 0 := by
      unfold nxV
      rw [if_neg h1]
    simp only [EV, LV, CB, OI, OL, NP, CZ, popN, CT, OZ, List.map_nil, List.map_cons, List.sum_nil, List.sum_cons, Option.toList, List.nil_append, List.cons_append, Int.reduceToNat, Nat.reduceAdd, Nat.reduceLT, Nat.reduceLeDiff, List.length_cons, List.length_nil, Nat.zero_add, if_true, if_false, reduceIte, and_self, and_true, true_and, eq_self, reduceCtorEq, gW hw, c0, nI_1, e1]
    rw [r_X5_handOn_16]
    by_cases hv : V ≤ 1
    · have q0 : nI g = 0 := by
        rw [show g = 0 by omega]
        exact nI_0
      rw [if_pos hv]
      simp only [EV, LV, CB, OI, OL, NP, CZ, popN, CT, OZ, List.map_nil, List.map_cons, List.sum_nil, List.sum_cons, Option.toList, List.nil_append, List.cons_append, Int.reduceToNat, Nat.reduceAdd, Nat.reduceLT, Nat.reduceLeDiff, List.length_cons, List.length_nil, Nat.zero_add, if_true, if_false, reduceIte, and_self, and_true, true_and, eq_self, reduceCtorEq, q0, not_true_eq_false]
    · have e2 : ¬ (0 : Int32) = nI g := fun z => by
        have := (nI_eq (a := 0) (b := g) (by omega) (by omega)).mp (nI_0.trans z)
        omega
      have k := t_hand24 wS d hw h (b := b) (g := g) (x := 0) hb (by omega)
      rw [if_neg hv, ex, ← k, nI_0]
      simp only [EV, LV, CB, OI, OL, NP, CZ, popN, CT, OZ, List.map_nil, List.map_cons, List.sum_nil, List.sum_cons, Option.toList, List.nil_append, List.cons_append, Int.reduceToNat, Nat.reduceAdd, Nat.reduceLT, Nat.reduceLeDiff, List.length_cons, List.length_nil, Nat.zero_add, if_true, if_false, reduceIte, and_self, and_true, true_and, eq_self, reduceCtorEq, e2, not_false_eq_true]
theorem t_turnC (hw : WSh shP w) (h : CW w V N f m) (ha : Atf V N f) {g : Nat} (hg : g < V) : ∃ m', semZ shP wS (d + 2) 39 [.ref w, .int (nI g)] m = some (none, m') ∧ CW w V N (vgo V N g f (m.1 w 7)).1 m' ∧ m'.1 w 7 = (vgo V N g f (m.1 w 7)).2 ∧ m'.1 w 6 = m.1 w 6 ∧ WFr w m m' := by
  have hf := t_firstC wS d hw h (nI g)
  have hV := h.1
  have hN := h.2.1
  have hx := nxV_lt hg
  have hbb := fsB_lt f (nI g) N 0
  unfold vgo
  obtain ⟨b, eb⟩ : ∃ b, b = fsB f (nI g) N 0 := ⟨_, rfl⟩
  rw [← eb] at hf hbb ⊢
  rw [se_X5_takeTurn, r_X5_takeTurn_0]
  by_cases q9 : b = 9
  · rw [if_pos q9]
    have e9 : fbI b = -4 := by
      unfold fbI
      rw [if_pos q9]
    refine ⟨m, ?_, h, rfl, rfl, WFr_rf⟩
    simp only [EV, LV, CB, OI, OL, NP, CZ, popN, CT, OZ, List.map_nil, List.map_cons, List.sum_nil, List.sum_cons, Option.toList, List.nil_append, List.cons_append, Int.reduceToNat, Nat.reduceAdd, Nat.reduceLT, Nat.reduceLeDiff, List.length_cons, List.length_nil, Nat.zero_add, if_true, if_false, reduceIte, and_self, and_true, true_and, eq_self, reduceCtorEq, gW hw, hf, e9, not_true_eq_false]
  · rw [if_neg q9]
    have hb : b < N := by omega
    have e9 : fbI b = nI b := by
      unfold fbI
      rw [if_neg q9]
    rw [e9] at hf
    have n4 : ¬ nI b = -4 := nI_n4 (by omega)
    have hl := t_lacksC wS d hw h ha hb
    have hh := t_handC wS d hw h hb hg
    have c2 := h.2.2.2.2.2.1
    have c3 := h.2.2.2.2.2.2.1
    have g1 := (h.2.2.2.2.2.2.2.2.2.1 g hg).1
    have e2 : inR (nI b) 6 = true := inR_nI (by omega) (by omega)
    have e3 : (nI b).toNatClampNeg = b := nI_clamp (by omega)
    have e4 : inR (nI g) 4 = true := inR_nI (by omega) (by omega)
    have e5 : (nI g).toNatClampNeg = g := nI_clamp (by omega)
    simp only [EV, LV, CB, OI, OL, NP, CZ, popN, CT, OZ, List.map_nil, List.map_cons, List.sum_nil, List.sum_cons, Option.toList, List.nil_append, List.cons_append, Int.reduceToNat, Nat.reduceAdd, Nat.reduceLT, Nat.reduceLeDiff, List.length_cons, List.length_nil, Nat.zero_add, if_true, if_false, reduceIte, and_self, and_true, true_and, eq_self, reduceCtorEq, gW hw, hf, n4, not_false_eq_true, r_X5_takeTurn_13, hl, c2]
    by_cases l0 : lk f b = 0
    · rw [if_pos l0]
      refine ⟨wI m (w + 8) b 1, ?_, CW_f h hb (i := 4) (by omega) 1, wI_o _ _ _ _ _ (by omega), wI_o _ _ _ _ _ (by omega), WFr_w WFr_rf _ _ (by omega) (by omega) (by omega)⟩
      simp only [EV, LV, CB, OI, OL, NP, CZ, popN, CT, OZ, List.map_nil, List.map_cons, List.sum_nil, List.sum_cons, Option.toList, List.nil_append, List.cons_append, Int.reduceToNat, Nat.reduceAdd, Nat.reduceLT, Nat.reduceLeDiff, List.length_cons, List.length_nil, Nat.zero_add, if_true, if_false, reduceIte, and_self, and_true, true_and, eq_self, reduceCtorEq, gW hw, sW hw, l0, not_true_eq_false, e2, e3, r_X5_takeTurn_88]
    · rw [if_neg l0]
      simp only [l0, not_false_eq_true, if_true, EV, LV, CB, OI, OL, NP, CZ, popN, CT, OZ, List.map_nil, List.map_cons, List.sum_nil, List.sum_cons, Option.toList, List.nil_append, List.cons_append, Int.reduceToNat, Nat.reduceAdd, Nat.reduceLT, Nat.reduceLeDiff, List.length_cons, List.length_nil, Nat.zero_add, if_true, if_false, reduceIte, and_self, and_true, true_and, eq_self, reduceCtorEq]
      rw [r_X5_takeTurn_41]
      by_cases p1 : f 39 * lk f b < f 40 ∧ f 39 * lk f b ≤ f (2 * g)
      · rw [if_pos p1]
        have n1 : ¬ f 40 ≤ f 39 * lk f b := Int32.not_le.mpr p1.1
        have n2 : ¬ f (2 * g) < f 39 * lk f b := Int32.not_lt.mpr p1.2
        have o1 : (w + 1 : Nat) ≠ w := by omega
        refine ⟨wI (wI m (w + 1) g (f (2 * g) - f 39 * lk f b)) (w + 8) b 1, ?_, CW_f (CW_m h hg _) hb (i := 4) (by omega) 1, by rw [wI_o _ _ _ _ _ (by omega), wI_o _ _ _ _ _ (by omega)], by rw [wI_o _ _ _ _ _ (by omega), wI_o _ _ _ _ _ (by omega)], WFr_w (WFr_w WFr_rf _ _ (by omega) (by omega) (by omega)) _ _ (by omega) (by omega) (by omega)⟩
        simp only [EV, LV, CB, OI, OL, NP, CZ, popN, CT, OZ, List.map_nil, List.map_cons, List.sum_nil, List.sum_cons, Option.toList, List.nil_append, List.cons_append, Int.reduceToNat, Nat.reduceAdd, Nat.reduceLT, Nat.reduceLeDiff, List.length_cons, List.length_nil, Nat.zero_add, if_true, if_false, reduceIte, and_self, and_true, true_and, eq_self, reduceCtorEq, gW hw, aW hw, sW hw, c3, g1, n1, n2, e2, e3, e4, e5, r_X5_takeTurn_88]
      · rw [if_neg p1]
        have go : exI shP tb0 mN mO (semZ shP wS (d + 1)) none (rn shP tb0 mN mO (semZ shP wS (d + 1)) none (codeZ 39)) [.iload 4, .aload 0, .getfield 503, .if_icmp .ge 82, .iload 4, .aload 0, .getfield 508, .iload 1, .iaload, .if_icmp .gt 82, .aload 0, .getfield 508, .iload 1, .dup2, .iaload, .iload 4, .isub, .iastore, .aload 0, .getfield 515, .iload 2, .sipush (1), .iastore, .goto 88] [.ref w, .int (nI g), .int (nI b), .int (lk f b), .int (f 39 * lk f b)] [] m = rn shP tb0 mN mO (semZ shP wS (d + 1)) none (codeZ 39) 82 [.ref w, .int (nI g), .int (nI b), .int (lk f b), .int (f 39 * lk f b)] [] m := by
          by_cases p2 : f 40 ≤ f 39 * lk f b
          · simp only [EV, LV, CB, OI, OL, NP, CZ, popN, CT, OZ, List.map_nil, List.map_cons, List.sum_nil, List.sum_cons, Option.toList, List.nil_append, List.cons_append, Int.reduceToNat, Nat.reduceAdd, Nat.reduceLT, Nat.reduceLeDiff, List.length_cons, List.length_nil, Nat.zero_add, if_true, if_false, reduceIte, and_self, and_true, true_and, eq_self, reduceCtorEq, gW hw, c3, p2]
          · have p3 : f (2 * g) < f 39 * lk f b := Int32.not_le.mp (fun z => p1 ⟨Int32.not_le.mp p2, z⟩)
            simp only [EV, LV, CB, OI, OL, NP, CZ, popN, CT, OZ, List.map_nil, List.map_cons, List.sum_nil, List.sum_cons, Option.toList, List.nil_append, List.cons_append, Int.reduceToNat, Nat.reduceAdd, Nat.reduceLT, Nat.reduceLeDiff, List.length_cons, List.length_nil, Nat.zero_add, if_true, if_false, reduceIte, and_self, and_true, true_and, eq_self, reduceCtorEq, gW hw, aW hw, c3, p2, g1, e4, e5, p3]
        rw [go, r_X5_takeTurn_82]
        simp only [EV, LV, CB, OI, OL, NP, CZ, popN, CT, OZ, List.map_nil, List.map_cons, List.sum_nil, List.sum_cons, Option.toList, List.nil_append, List.cons_append, Int.reduceToNat, Nat.reduceAdd, Nat.reduceLT, Nat.reduceLeDiff, List.length_cons, List.length_nil, Nat.zero_add, if_true, if_false, reduceIte, and_self, and_true, true_and, eq_self, reduceCtorEq, gW hw, hh]
        by_cases v1 : V ≤ 1
        · rw [if_pos v1, if_pos v1]
          exact ⟨m, rfl, h, rfl, rfl, WFr_rf⟩
        · rw [if_neg v1, if_neg v1]
          by_cases z : f (2 * nxV V g + 1) = 0
          · rw [if_pos z, if_pos z]
            refine ⟨_, rfl, CW_6 (CW_f h hb (i := 1) (by omega) _) (by omega) _, wI_s _ _ _ _, ?_, WFr_w (WFr_w WFr_rf _ _ (by omega) (by omega) (by omega)) _ _ (by omega) (by omega) (by omega)⟩
            rw [wI_j _ _ _ _ _ (by omega), wI_o _ _ _ _ _ (by omega)]
          · rw [if_neg z, if_neg z]
            exact ⟨_, rfl, CW_w h hx _, wI_o _ _ _ _ _ (by omega), wI_o _ _ _ _ _ (by omega), WFr_w WFr_rf _ _ (by omega) (by omega) (by omega)⟩
end Ni
section Nj
variable {w V N : Nat} (wS : List Value → Mm → Option Rs) (d : Nat)
/-- the villages' turns -/
theorem t_passL {t : Nat → Nat} (hw : WSh shP w) (ht : ∀ i, i < V → t i < V) : ∀ k i f m, i + k = V → CW w V N f m → Atf V N f → (∀ i, i < V → m.1 (w + 3) i = nI (t i)) → ∃ m', rn shP tb0 mN mO (semZ shP wS (d + 2)) none (codeZ 38) 2 [.ref w, .int (nI i)] [] m = rn shP tb0 mN mO (semZ shP wS (d + 2)) none (codeZ 38) 26 [.ref w, .int (nI V)] [] m' ∧ CW w V N (vgs V N t k i f (m.1 w 7)).1 m' ∧ m'.1 w 7 = (vgs V N t k i f (m.1 w 7)).2 ∧ m'.1 w 6 = m.1 w 6 ∧ WFr w m m' := by
  intro k
  induction k with
  | zero =>
    intro i f m hi h ha hT
    have hV := h.1
    have c0 := h.2.2.1
    have ei : i = V := by omega
    subst ei
    have e1 : nI i ≤ nI i := Int32.le_refl _
    refine ⟨m, ?_, h, rfl, rfl, WFr_rf⟩
    rw [r_X5_passOne_2]
    simp only [EV, LV, CB, OI, OL, NP, CZ, popN, CT, OZ, List.map_nil, List.map_cons, List.sum_nil, List.sum_cons, Option.toList, List.nil_append, List.cons_append, Int.reduceToNat, Nat.reduceAdd, Nat.reduceLT, Nat.reduceLeDiff, List.length_cons, List.length_nil, Nat.zero_add, if_true, if_false, reduceIte, and_self, and_true, true_and, eq_self, reduceCtorEq, gW hw, c0, e1]
  | succ k ih =>
    intro i f m hi h ha hT
    have hV := h.1
    have c0 := h.2.2.1
    have e1 : ¬ nI V ≤ nI i := nI_ge (by omega) (by omega)
    have e4 : inR (nI i) 4 = true := inR_nI (by omega) (by omega)
    have e5 : (nI i).toNatClampNeg = i := nI_clamp (by omega)
    have eT := hT i (by omega)
    obtain ⟨m1, r1, h1, h7, h6, hF⟩ := t_turnC wS d hw h ha (ht i (by omega))
    obtain ⟨m2, r2, k1, k7, k6, kF⟩ := ih (i + 1) _ m1 (by omega) h1 (vgo_at _ ha (ht i (by omega)) hV) (fun j hj => by rw [hF.2]; exact hT j hj)
    rw [h7] at k1 k7
    refine ⟨m2, ?_, k1, k7, k6.trans h6, WFr_tr hF kF⟩
    rw [r_X5_passOne_2]
    simp only [EV, LV, CB, OI, OL, NP, CZ, popN, CT, OZ, List.map_nil, List.map_cons, List.sum_nil, List.sum_cons, Option.toList, List.nil_append, List.cons_append, Int.reduceToNat, Nat.reduceAdd, Nat.reduceLT, Nat.reduceLeDiff, List.length_cons, List.length_nil, Nat.zero_add, if_true, if_false, reduceIte, and_self, and_true, true_and, eq_self, reduceCtorEq, gW hw, aW hw, c0, e1, e4, e5, eT, r1, nI_1]
    exact r2
/-- the crowner's -/
theorem t_fineL (hw : WSh shP w) : ∀ k b f m (v2 : Value), b + k = N → CW w V N f m → Atf V N f → ∃ m', rn shP tb0 mN mO (semZ shP wS d) none (codeZ 42) 2 [.ref w, .int (nI b), v2] [] m = some (none, m') ∧ CW w V N (crF N k b f) m' ∧ m'.1 w 6 = crR N k b f (m.1 w 6) ∧ m'.1 w 7 = m.1 w 7 ∧ WFr w m m' := by
  intro k
  induction k with
  | zero =>
    intro b f m v2 hb h ha
    have hN := h.2.1
    have c1 := h.2.2.2.1
    have e1 : nI N ≤ nI b := nI_le (by omega) (by omega)
    refine ⟨m, ?_, h, rfl, rfl, WFr_rf⟩
    rw [r_X5_fineAll_2]
    simp only [EV, LV, CB, OI, OL, NP, CZ, popN, CT, OZ, List.map_nil, List.map_cons, List.sum_nil, List.sum_cons, Option.toList, List.nil_append, List.cons_append, Int.reduceToNat, Nat.reduceAdd, Nat.reduceLT, Nat.reduceLeDiff, List.length_cons, List.length_nil, Nat.zero_add, if_true, if_false, reduceIte, and_self, and_true, true_and, eq_self, reduceCtorEq, gW hw, c1, e1, r_X5_fineAll_87]
  | succ k ih =>
    intro b f m v2 hb h ha
    have hV := h.1
    have hN := h.2.1
    have c1 := h.2.2.2.1
    have c3 := h.2.2.2.2.2.2.1
    have e1 : ¬ nI N ≤ nI b := nI_ge (by omega) (by omega)
    have e2 : inR (nI b) 6 = true := inR_nI (by omega) (by omega)
    have e3 : (nI b).toNatClampNeg = b := nI_clamp (by omega)
    obtain ⟨-, b2, -, -, b5⟩ := h.2.2.2.2.2.2.2.2.2.2 b (by omega)
    unfold crF crR
    by_cases q : f (8 + 5 * b + 4) = 0
    · rw [if_pos q, if_pos q]
      obtain ⟨a, ha1, ha2⟩ := ha.1 b (by omega)
      have ec : (f (8 + 5 * b + 1)).toNatClampNeg = a := by rw [ha2]; exact nI_clamp (by omega)
      rw [ec, ha2]
      rw [ha2] at b2
      have g1 := (h.2.2.2.2.2.2.2.2.2.1 a ha1).1
      have e4 : inR (nI a) 4 = true := inR_nI (by omega) (by omega)
      have e5 : (nI a).toNatClampNeg = a := nI_clamp (by omega)
      by_cases p : f (2 * a) < f 40
      · rw [if_pos p, if_pos p]
        have p' : ¬ f 40 ≤ f (2 * a) := Int32.not_le.mpr p
        have aa := Atf_u (Atf_u ha (j := 2 * a) 0 (fun b _ => by omega)) (j := 8 + 5 * b + 4) 2 (fun b _ => by omega)
        have hh := CW_f (CW_m (CW_6 h (j := 6) (by omega) (m.1 w 6 ||| 1 <<< (nI a &&& 31))) ha1 0) (show b < N by omega) (i := 4) (by omega) 2
        obtain ⟨m2, r2, k1, k6, k7, kF⟩ := ih (b + 1) _ _ (.int (nI a)) (by omega) hh aa
        rw [wI_o _ _ _ _ _ (by omega), wI_o _ _ _ _ _ (by omega), wI_s] at k6
        rw [wI_o _ _ _ _ _ (by omega), wI_o _ _ _ _ _ (by omega), wI_j _ _ _ _ _ (by omega)] at k7
        refine ⟨m2, ?_, k1, k6, k7, WFr_tr (WFr_w (WFr_w (WFr_w WFr_rf _ _ (by omega) (by omega) (by omega)) _ _ (by omega) (by omega) (by omega)) _ _ (by omega) (by omega) (by omega)) kF⟩
        rw [r_X5_fineAll_2]
        simp only [EV, LV, CB, OI, OL, NP, CZ, popN, CT, OZ, List.map_nil, List.map_cons, List.sum_nil, List.sum_cons, Option.toList, List.nil_append, List.cons_append, Int.reduceToNat, Nat.reduceAdd, Nat.reduceLT, Nat.reduceLeDiff, List.length_cons, List.length_nil, Nat.zero_add, if_true, if_false, reduceIte, and_self, and_true, true_and, eq_self, reduceCtorEq, gW hw, aW hw, sW hw, pW hw, c1, c3, e1, e2, e3, e4, e5, b2, b5, q, g1, p', not_true_eq_false, r_X5_fineAll_74, nI_1]
        exact r2
      · rw [if_neg p, if_neg p]
        have p' : f 40 ≤ f (2 * a) := Int32.not_lt.mp p
        have aa := Atf_u (Atf_u ha (j := 2 * a) (f (2 * a) - f 40) (fun b _ => by omega)) (j := 8 + 5 * b + 4) 2 (fun b _ => by omega)
        have hh := CW_f (CW_m h ha1 (f (2 * a) - f 40)) (show b < N by omega) (i := 4) (by omega) 2
        obtain ⟨m2, r2, k1, k6, k7, kF⟩ := ih (b + 1) _ _ (.int (nI a)) (by omega) hh aa
        rw [wI_o _ _ _ _ _ (by omega), wI_o _ _ _ _ _ (by omega)] at k6 k7
        refine ⟨m2, ?_, k1, k6, k7, WFr_tr (WFr_w (WFr_w WFr_rf _ _ (by omega) (by omega) (by omega)) _ _ (by omega) (by omega) (by omega)) kF⟩
        rw [r_X5_fineAll_2]
        simp only [EV, LV, CB, OI, OL, NP, CZ, popN, CT, OZ, List.map_nil, List.map_cons, List.sum_nil, List.sum_cons, Option.toList, List.nil_append, List.cons_append, Int.reduceToNat, Nat.reduceAdd, Nat.reduceLT, Nat.reduceLeDiff, List.length_cons, List.length_nil, Nat.zero_add, if_true, if_false, reduceIte, and_self, and_true, true_and, eq_self, reduceCtorEq, gW hw, aW hw, sW hw, pW hw, c1, c3, e1, e2, e3, e4, e5, b2, b5, q, g1, p', not_true_eq_false, r_X5_fineAll_61, nI_1]
        exact r2
    · rw [if_neg q, if_neg q]
      obtain ⟨m2, r2, k1, k6, k7, kF⟩ := ih (b + 1) f m v2 (by omega) h ha
      refine ⟨m2, ?_, k1, k6, k7, kF⟩
      rw [r_X5_fineAll_2]
      simp only [EV, LV, CB, OI, OL, NP, CZ, popN, CT, OZ, List.map_nil, List.map_cons, List.sum_nil, List.sum_cons, Option.toList, List.nil_append, List.cons_append, Int.reduceToNat, Nat.reduceAdd, Nat.reduceLT, Nat.reduceLeDiff, List.length_cons, List.length_nil, Nat.zero_add, if_true, if_false, reduceIte, and_self, and_true, true_and, eq_self, reduceCtorEq, gW hw, aW hw, c1, e1, e2, e3, b5, q, not_false_eq_true, r_X5_fineAll_81, nI_1]
      exact r2
theorem t_fineC {f : Nat → Int32} {m : Mm} (hw : WSh shP w) (h : CW w V N f m) (ha : Atf V N f) : ∃ m', semZ shP wS (d + 1) 42 [.ref w] m = some (none, m') ∧ CW w V N (crF N N 0 f) m' ∧ m'.1 w 6 = crR N N 0 f (m.1 w 6) ∧ m'.1 w 7 = m.1 w 7 ∧ WFr w m m' := by
  obtain ⟨m', r, k⟩ := t_fineL wS d hw N 0 f m noV (by omega) h ha
  refine ⟨m', ?_, k⟩
  rw [nI_0] at r
  rw [se_X5_fineAll, r_X5_fineAll_0]
  simp only [EV, LV, CB, OI, OL, NP, CZ, popN, CT, OZ, List.map_nil, List.map_cons, List.sum_nil, List.sum_cons, Option.toList, List.nil_append, List.cons_append, Int.reduceToNat, Nat.reduceAdd, Nat.reduceLT, Nat.reduceLeDiff, List.length_cons, List.length_nil, Nat.zero_add, if_true, if_false, reduceIte, and_self, and_true, true_and, eq_self, reduceCtorEq]
  exact r
theorem upd_cm (f : Nat → Int32) {i j : Nat} (x y : Int32) (h : i ≠ j) : upd (upd f i x) j y = upd (upd f j y) i x := by
  funext k
  unfold upd
  by_cases h1 : k = j
  · rw [if_pos h1, if_neg (by omega), if_pos h1]
  · rw [if_neg h1]
    by_cases h2 : k = i
    · rw [if_pos h2, if_pos h2]
    · rw [if_neg h2, if_neg h2, if_neg h1]
theorem cr_42 {V N : Nat} (hV : V ≤ 4) (hN : N ≤ 6) (x : Int32) : ∀ k b f r, b + k = N → Atf V N f → crF N k b (upd f 42 x) = upd (crF N k b f) 42 x ∧ crR N k b (upd f 42 x) r = crR N k b f r := by
  intro k
  induction k with
  | zero => intro b f r _ _; exact ⟨rfl, rfl⟩
  | succ k ih =>
    intro b f r hb ha
    have ac := (at_cl ha hV (show b < N by omega)).1
    unfold crF crR
    rw [upd_n f (j := 42) (i := 8 + 5 * b + 4) x (by omega), upd_n f (j := 42) (i := 8 + 5 * b + 1) x (by omega), upd_n f (j := 42) (i := 2 * (f (8 + 5 * b + 1)).toNatClampNeg) x (by omega), upd_n f (j := 42) (i := 40) x (by omega)]
    by_cases q : f (8 + 5 * b + 4) = 0
    · rw [if_pos q, if_pos q, if_pos q, if_pos q, upd_cm f x _ (show 42 ≠ 2 * (f (8 + 5 * b + 1)).toNatClampNeg by omega), upd_cm _ x _ (show 42 ≠ 8 + 5 * b + 4 by omega)]
      exact ih (b + 1) _ _ (by omega) (Atf_u (Atf_u ha _ (fun b _ => by omega)) _ (fun b _ => by omega))
    · rw [if_neg q, if_neg q, if_neg q, if_neg q]
      exact ih (b + 1) f r (by omega) ha
/-- a night -/
theorem t_nightC {t : Nat → Nat} {f : Nat → Int32} {m : Mm} (hw : WSh shP w) (ht : ∀ i, i < V → t i < V) (h : CW w V N f m) (ha : Atf V N f) (hT : ∀ i, i < V → m.1 (w + 3) i = nI (t i)) (hr : 0 < f 41) (r : Int32) : ∃ m', semZ shP wS (d + 3) 38 [.ref w] m = some (none, m') ∧ CW w V N (ngF V N t f r) m' ∧ m'.1 w 7 = ngC V N t f (m.1 w 7) ∧ m'.1 w 6 = ngR V N t f (m.1 w 6) ∧ WFr w m m' := by
  have hV := h.1
  have hN := h.2.1
  obtain ⟨m1, r1, h1, h7, h6, hF⟩ := t_passL wS d hw ht V 0 f m (by omega) h ha hT
  have av := vgs_at ht hV hN V 0 f (m.1 w 7) (by omega) ha
  have ec := vgs_c V N t V 0 f 0 (m.1 w 7)
  unfold ngF ngC ngR
  rw [ec]
  obtain ⟨F, eF⟩ : ∃ F, F = (vgs V N t V 0 f (m.1 w 7)).1 := ⟨_, rfl⟩
  rw [← eF] at h1 av ⊢
  have r41 : F 41 = f 41 := av.2 41 (by omega)
  have c4 := h1.2.2.2.2.2.2.2.1
  have c5 := h1.2.2.2.2.2.2.2.2.1
  have hd := CW_d h1 (F 42 + 1)
  have s5 : (wI m1 w 5 (F 42 + 1)).1 w 5 = F 42 + 1 := wI_s _ _ _ _
  have s4 : (wI m1 w 5 (F 42 + 1)).1 w 4 = F 41 := by rw [wI_j _ _ _ _ _ (by omega)]; exact c4
  have n0 : ¬ F 41 ≤ 0 := by rw [r41]; exact Int32.not_le.mpr hr
  have n1 : ¬ F 41 = 0 := fun z => n0 (by rw [z]; exact Int32.le_refl _)
  have hF5 : WFr w m (wI m1 w 5 (F 42 + 1)) := WFr_w hF _ _ (by omega) (by omega) (by omega)
  rw [se_X5_passOne, r_X5_passOne_0]
  rw [nI_0] at r1
  simp only [EV, LV, CB, OI, OL, NP, CZ, popN, CT, OZ, List.map_nil, List.map_cons, List.sum_nil, List.sum_cons, Option.toList, List.nil_append, List.cons_append, Int.reduceToNat, Nat.reduceAdd, Nat.reduceLT, Nat.reduceLeDiff, List.length_cons, List.length_nil, Nat.zero_add, if_true, if_false, reduceIte, and_self, and_true, true_and, eq_self, reduceCtorEq]
  rw [r1, r_X5_passOne_26]
  by_cases z : remI (F 42 + 1) (F 41) = 0
  · rw [if_pos z, if_pos z]
    obtain ⟨m2, r2, k1, k6, k7, kF⟩ := t_fineC wS (d + 1) hw hd (Atf_u av.1 (F 42 + 1) (fun b _ => by omega))
    have cr := cr_42 hV hN (F 42 + 1) N 0 F ((wI m1 w 5 (F 42 + 1)).1 w 6) (by omega) av.1
    have e42 : crF N N 0 F 42 = F 42 := (crF_at hV hN N 0 F (by omega) av.1).2 42 (by omega)
    rw [cr.1] at k1
    rw [cr.2, wI_j _ _ _ _ _ (by omega), h6] at k6
    rw [wI_j _ _ _ _ _ (by omega), h7] at k7
    refine ⟨m2, ?_, ?_, k7, k6, WFr_tr hF5 kF⟩
    · have z' : F 42 + 1 - (F 42 + 1) / F 41 * F 41 = 0 := z
      simp only [EV, LV, CB, OI, OL, NP, CZ, popN, CT, OZ, List.map_nil, List.map_cons, List.sum_nil, List.sum_cons, Option.toList, List.nil_append, List.cons_append, Int.reduceToNat, Nat.reduceAdd, Nat.reduceLT, Nat.reduceLeDiff, List.length_cons, List.length_nil, Nat.zero_add, if_true, if_false, reduceIte, and_self, and_true, true_and, eq_self, reduceCtorEq, gW hw, pW hw, c5, s5, s4, n0, n1, z', not_true_eq_false, r2]
    · rw [e42, upd_cm _ _ _ (show 43 ≠ 42 by omega)]
      exact CW_n k1 (by omega) _
  · rw [if_neg z, if_neg z]
    refine ⟨wI m1 w 5 (F 42 + 1), ?_, hd, ?_, ?_, hF5⟩
    · have z' : ¬ F 42 + 1 - (F 42 + 1) / F 41 * F 41 = 0 := z
      simp only [EV, LV, CB, OI, OL, NP, CZ, popN, CT, OZ, List.map_nil, List.map_cons, List.sum_nil, List.sum_cons, Option.toList, List.nil_append, List.cons_append, Int.reduceToNat, Nat.reduceAdd, Nat.reduceLT, Nat.reduceLeDiff, List.length_cons, List.length_nil, Nat.zero_add, if_true, if_false, reduceIte, and_self, and_true, true_and, eq_self, reduceCtorEq, gW hw, pW hw, c5, s5, s4, n0, n1, z', not_false_eq_true, r_X5_passOne_59]
    · rw [wI_j _ _ _ _ _ (by omega)]; exact h7
    · rw [wI_j _ _ _ _ _ (by omega)]; exact h6
/-- all means -/
def smM (f : Nat → Int32) : Nat → Nat → Int32 → Int32
  | 0, _, s => s
  | k + 1, g, s => smM f k (g + 1) (s + f (2 * g))
theorem t_meansC_l {f : Nat → Int32} {m : Mm} (hw : WSh shP w) (h : CW w V N f m) : ∀ k g s, g + k = V → rn shP tb0 mN mO (semZ shP wS d) (some .int) (codeZ 36) 4 [.ref w, .int s, .int (nI g)] [] m = some (some (.int (smM f k g s)), m) := by
  intro k
  have hV := h.1
  have c0 := h.2.2.1
  induction k with
  | zero =>
    intro g s hg
    have e1 : nI V ≤ nI g := nI_le (by omega) (by omega)
    rw [r_X5_allMeans_4]
    simp only [EV, LV, CB, OI, OL, NP, CZ, popN, CT, OZ, List.map_nil, List.map_cons, List.sum_nil, List.sum_cons, Option.toList, List.nil_append, List.cons_append, Int.reduceToNat, Nat.reduceAdd, Nat.reduceLT, Nat.reduceLeDiff, List.length_cons, List.length_nil, Nat.zero_add, if_true, if_false, reduceIte, and_self, and_true, true_and, eq_self, reduceCtorEq, gW hw, c0, e1, r_X5_allMeans_27]
    rfl
  | succ k ih =>
    intro g s hg
    have e1 : ¬ nI V ≤ nI g := nI_ge (by omega) (by omega)
    have e4 : inR (nI g) 4 = true := inR_nI (by omega) (by omega)
    have e5 : (nI g).toNatClampNeg = g := nI_clamp (by omega)
    have g1 := (h.2.2.2.2.2.2.2.2.2.1 g (by omega)).1
    rw [r_X5_allMeans_4]
    simp only [EV, LV, CB, OI, OL, NP, CZ, popN, CT, OZ, List.map_nil, List.map_cons, List.sum_nil, List.sum_cons, Option.toList, List.nil_append, List.cons_append, Int.reduceToNat, Nat.reduceAdd, Nat.reduceLT, Nat.reduceLeDiff, List.length_cons, List.length_nil, Nat.zero_add, if_true, if_false, reduceIte, and_self, and_true, true_and, eq_self, reduceCtorEq, gW hw, aW hw, c0, e1, e4, e5, g1, nI_1]
    exact ih (g + 1) _ (by omega)
theorem t_meansC {f : Nat → Int32} {m : Mm} (hw : WSh shP w) (h : CW w V N f m) : semZ shP wS (d + 1) 36 [.ref w] m = some (some (.int (smM f V 0 0)), m) := by
  have i := t_meansC_l wS d hw h V 0 0 (by omega)
  rw [nI_0] at i
  rw [se_X5_allMeans, r_X5_allMeans_0]
  simp only [EV, LV, CB, OI, OL, NP, CZ, popN, CT, OZ, List.map_nil, List.map_cons, List.sum_nil, List.sum_cons, Option.toList, List.nil_append, List.cons_append, Int.reduceToNat, Nat.reduceAdd, Nat.reduceLT, Nat.reduceLeDiff, List.length_cons, List.length_nil, Nat.zero_add, if_true, if_false, reduceIte, and_self, and_true, true_and, eq_self, reduceCtorEq]
  exact i
/-- n nights: the cells, how often carried, who is ruined -/
def nsF (V N : Nat) (t : Nat → Nat) : Nat → (Nat → Int32) → Int32 → Nat → Int32
  | 0, f, _ => f
  | k + 1, f, r => nsF V N t k (ngF V N t f r) (ngR V N t f r)
def nsC (V N : Nat) (t : Nat → Nat) : Nat → (Nat → Int32) → Int32 → Int32 → Int32
  | 0, _, _, c => c
  | k + 1, f, r, c => nsC V N t k (ngF V N t f r) (ngR V N t f r) (ngC V N t f c)
def nsR (V N : Nat) (t : Nat → Nat) : Nat → (Nat → Int32) → Int32 → Int32
  | 0, _, r => r
  | k + 1, f, r => nsR V N t k (ngF V N t f r) (ngR V N t f r)
/-- what a world that was ruined before is told -/
def nsQ (V N : Nat) (t : Nat → Nat) : Nat → (Nat → Int32) → Int32 → Int32 → Int32
  | 0, _, _, q => q
  | k + 1, f, r, q => nsQ V N t k (ngF V N t f r) (ngR V N t f r) (ngR V N t f q)
theorem t_pssC_l {t : Nat → Nat} (hw : WSh shP w) (ht : ∀ i, i < V → t i < V) (u : Int32) {n : Nat} (hn : n < 2 ^ 31) : ∀ k i f m r, i + k = n → CW w V N f m → Atf V N f → (∀ i, i < V → m.1 (w + 3) i = nI (t i)) → 0 < f 41 → ∃ m', rn shP tb0 mN mO (semZ shP wS (d + 3)) (some .int) (codeZ 37) 7 [.ref w, .int (nI n), .int u, .int (nI i)] [] m = rn shP tb0 mN mO (semZ shP wS (d + 3)) (some .int) (codeZ 37) 22 [.ref w, .int (nI n), .int u, .int (nI n)] [] m' ∧ CW w V N (nsF V N t k f r) m' ∧ m'.1 w 7 = nsC V N t k f r (m.1 w 7) ∧ m'.1 w 6 = nsQ V N t k f r (m.1 w 6) ∧ WFr w m m' ∧ Atf V N (nsF V N t k f r) := by
  intro k
  induction k with
  | zero =>
    intro i f m r hi h ha hT hr
    have ei : i = n := by omega
    subst ei
    have e1 : nI i ≤ nI i := Int32.le_refl _
    refine ⟨m, ?_, h, rfl, rfl, WFr_rf, ha⟩
    rw [r_X5_pass_7]
    simp only [EV, LV, CB, OI, OL, NP, CZ, popN, CT, OZ, List.map_nil, List.map_cons, List.sum_nil, List.sum_cons, Option.toList, List.nil_append, List.cons_append, Int.reduceToNat, Nat.reduceAdd, Nat.reduceLT, Nat.reduceLeDiff, List.length_cons, List.length_nil, Nat.zero_add, if_true, if_false, reduceIte, and_self, and_true, true_and, eq_self, reduceCtorEq, e1]
  | succ k ih =>
    intro i f m r hi h ha hT hr
    have e1 : ¬ nI n ≤ nI i := nI_ge (by omega) (by omega)
    have na := ng_at ht h.1 h.2.1 r ha
    obtain ⟨m1, r1, h1, h7, h6, hF⟩ := t_nightC wS d hw ht h ha hT hr r
    obtain ⟨m2, r2, k1, k7, k6, kF, kA⟩ := ih (i + 1) _ m1 (ngR V N t f r) (by omega) h1 na.1 (fun j hj => by rw [hF.2]; exact hT j hj) (by rw [na.2.1 41 (by omega) (by omega) (by omega)]; exact hr)
    rw [h6] at k6
    rw [h7] at k7
    refine ⟨m2, ?_, k1, k7, k6, WFr_tr hF kF, kA⟩
    rw [r_X5_pass_7]
    simp only [EV, LV, CB, OI, OL, NP, CZ, popN, CT, OZ, List.map_nil, List.map_cons, List.sum_nil, List.sum_cons, Option.toList, List.nil_append, List.cons_append, Int.reduceToNat, Nat.reduceAdd, Nat.reduceLT, Nat.reduceLeDiff, List.length_cons, List.length_nil, Nat.zero_add, if_true, if_false, reduceIte, and_self, and_true, true_and, eq_self, reduceCtorEq, gW hw, e1, r1, nI_1]
    exact r2
theorem t_passC {t : Nat → Nat} {f : Nat → Int32} {m : Mm} (hw : WSh shP w) (ht : ∀ i, i < V → t i < V) {n : Nat} (hn : n < 2 ^ 31) (h : CW w V N f m) (ha : Atf V N f) (hT : ∀ i, i < V → m.1 (w + 3) i = nI (t i)) (hr : 0 < f 41) (r : Int32) : ∃ m', semZ shP wS (d + 4) 37 [.ref w, .int (nI n)] m = some (some (.int (smM f V 0 0 - smM (nsF V N t n f r) V 0 0)), m') ∧ CW w V N (nsF V N t n f r) m' ∧ m'.1 w 7 = nsC V N t n f r (m.1 w 7) ∧ m'.1 w 6 = nsQ V N t n f r (m.1 w 6) ∧ WFr w m m' ∧ Atf V N (nsF V N t n f r) := by
  obtain ⟨m', r0, k1, k⟩ := t_pssC_l wS d hw ht (smM f V 0 0) hn n 0 f m r (by omega) h ha hT hr
  have s0 := t_meansC wS (d + 2) hw h
  have s1 := t_meansC wS (d + 2) hw k1
  refine ⟨m', ?_, k1, k⟩
  rw [nI_0] at r0
  rw [se_X5_pass, r_X5_pass_0]
  simp only [EV, LV, CB, OI, OL, NP, CZ, popN, CT, OZ, List.map_nil, List.map_cons, List.sum_nil, List.sum_cons, Option.toList, List.nil_append, List.cons_append, Int.reduceToNat, Nat.reduceAdd, Nat.reduceLT, Nat.reduceLeDiff, List.length_cons, List.length_nil, Nat.zero_add, if_true, if_false, reduceIte, and_self, and_true, true_and, eq_self, reduceCtorEq, gW hw, s0]
  rw [r0, r_X5_pass_22]
  simp only [EV, LV, CB, OI, OL, NP, CZ, popN, CT, OZ, List.map_nil, List.map_cons, List.sum_nil, List.sum_cons, Option.toList, List.nil_append, List.cons_append, Int.reduceToNat, Nat.reduceAdd, Nat.reduceLT, Nat.reduceLeDiff, List.length_cons, List.length_nil, Nat.zero_add, if_true, if_false, reduceIte, and_self, and_true, true_and, eq_self, reduceCtorEq, gW hw, s1]
end Nj
/-! who is ruined, told in two ways -/
theorem or_as (a b c : Int32) : a ||| b ||| c = a ||| (b ||| c) := Int32.or_assoc a b c
theorem crR_or (N : Nat) : ∀ k b f r, crR N k b f r = r ||| crR N k b f 0 := by
  intro k
  induction k with
  | zero =>
    intro b f r
    show r = r ||| 0
    rw [Int32.or_zero]
  | succ k ih =>
    intro b f r
    unfold crR
    split
    · split
      · rw [ih (b + 1) _ (r ||| _), ih (b + 1) _ (0 ||| _), Int32.zero_or, or_as]
      · rw [ih (b + 1) _ r]
    · rw [ih (b + 1) _ r]
theorem nsQ_43 {V N : Nat} {t : Nat → Nat} (ht : ∀ i, i < V → t i < V) (hV : V ≤ 4) (hN : N ≤ 6) : ∀ k f r, Atf V N f → f 43 ||| r = f 43 → nsQ V N t k f r (f 43) = nsF V N t k f r 43 := by
  intro k
  induction k with
  | zero => intro f r _ _; rfl
  | succ k ih =>
    intro f r ha hr
    have av := vgs_at ht hV hN V 0 f 0 (by omega) ha
    have bv := crF_at hV hN N 0 _ (by omega) av.1
    have q43 : ngF V N t f r 43 = ngR V N t f (f 43) ∧ ngF V N t f r 43 ||| ngR V N t f r = ngF V N t f r 43 := by
      unfold ngF ngR
      by_cases z : remI ((vgs V N t V 0 f 0).1 42 + 1) ((vgs V N t V 0 f 0).1 41) = 0
      · rw [if_pos z, if_pos z, if_pos z, upd_n _ _ (show 43 ≠ 42 by omega), upd_s, bv.2 43 (by omega), av.2 43 (by omega)]
        refine ⟨?_, ?_⟩
        · rw [crR_or N N 0 _ r, crR_or N N 0 _ (f 43), ← or_as, hr]
        · rw [or_as, Int32.or_self]
      · rw [if_neg z, if_neg z, if_neg z, upd_n _ _ (show 43 ≠ 42 by omega), av.2 43 (by omega)]
        exact ⟨rfl, hr⟩
    have na := ng_at ht hV hN r ha
    unfold nsQ nsF
    rw [← q43.1]
    exact ih _ _ na.1 q43.2
theorem nsQ_0 (V N : Nat) (t : Nat → Nat) : ∀ k f r, nsQ V N t k f r r = nsR V N t k f r := by
  intro k
  induction k with
  | zero => intro f r; rfl
  | succ k ih =>
    intro f r
    unfold nsQ nsR
    exact ih _ _
