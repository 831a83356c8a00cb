set_option maxRecDepth 10000 in
theorem t_within (wS : List Value → Mm → Option Rs) (d : Nat) (m : Mm) (x a b : Int32) : semZ shP wS (d + 1) 99 [.int x, .int a, .int b] m = some (some (.int (if a ≤ x ∧ x ≤ b then 1 else 0)), m) := by
  rw [se_X6_within, rn_eq, b_X6_within_0]
  simp only [EV, LV, CB, OI, Int.reduceToNat]
  simp only [rn_eq, b_X6_within_14, b_X6_within_15, EV, LV, CB, OI, Int.reduceToNat]
  trace_state
  sorry
def flA (at_ way : Nat → Int32) (v : Int32) : Nat → Nat → Int32
  | 0, _ => -4
  | k + 1, i => if at_ i = v ∧ way i = 0 then nI i else flA at_ way v k (i + 1)
theorem t_first_l {w : Nat} (hw : isW w) (wS : List Value → Mm → Option Rs) (d : Nat) (m : Mm) (v : Int32) {n : Nat} (hn : n ≤ 6) (hb : m.1 w 1 = nI n) : ∀ (k i : Nat), i + k = n → rn shP tb0 mN mO (semZ shP wS d) (some .int) (codeZ 40) 2 [.ref w, .int v, .int (nI i)] [] m = some (some (.int (flA (m.1 (w + 5)) (m.1 (w + 8)) v k i)), m) := by
  intro k
  induction k with
  | zero =>
    intro i hi
    have e1 : nI n ≤ nI i := by rw [show i = n by omega]; exact Int32.le_refl _
    rw [rn_eq, b_X5_firstLyingAt_2]
    simp only [EV, LV, gW hw, aW hw, CB, hb, e1, if_true, Int.reduceToNat]
    rw [rn_eq, b_X5_firstLyingAt_37]
    simp only [EV, OI, okZ, flA, if_true]
  | succ k ih =>
    intro i hi
    have e1 : ¬ nI n ≤ nI i := nI_ge (by omega) (by omega)
    have e2 : inR (nI i) 6 = true := inR_nI (by omega) (by omega)
    have e3 : (nI i).toNatClampNeg = i := nI_clamp (by omega)
    rw [rn_eq, b_X5_firstLyingAt_2]
    simp only [EV, LV, gW hw, aW hw, CB, hb, e1, e2, e3, if_true, if_false, Int.reduceToNat]
    have j : rn shP tb0 mN mO (semZ shP wS d) (some .int) (codeZ 40) 31 [.ref w, .int v, .int (nI i)] [] m = some (some (.int (flA (m.1 (w + 5)) (m.1 (w + 8)) v k (i + 1))), m) := by
      rw [rn_eq, b_X5_firstLyingAt_31]
      simp only [EV, LV, OI, CB, Int.reduceToNat, List.length_cons, List.length_nil, nI_1]
      trace_state
      exact ih (i + 1) (by omega)
    rw [j]
    trace_state
    simp only [flA, okZ]
    sorry
