section
/-! THE CLASS' TAPE: tokens -/
def rw3 (r : Nat → Int32) (s p : Nat) : Nat → Int32 := fun j => if j = 1 then nI s else if j = 2 then nI p else r j
/-- the tape's start and next -/
def tm (m : Mm) (s p : Nat) : Mm := setR m 24 (rw3 (m.1 24) s p)
theorem tm_id (m : Mm) {s p : Nat} (h1 : m.1 24 1 = nI s) (h2 : m.1 24 2 = nI p) : tm m s p = m := by
  have e : rw3 (m.1 24) s p = m.1 24 := by
    funext j
    unfold rw3
    split
    · rename_i h; rw [h, h1]
    · split
      · rename_i h; rw [h, h2]
      · rfl
  unfold tm
  rw [e, setR_id]
theorem tm_w2 (m : Mm) (s p q : Nat) : wI (tm m s p) 24 2 (nI q) = tm m s q := by
  unfold tm
  rw [wI_R, setR_s, setR_R]
  congr 1
  funext j
  simp only [upd, rw3]
  by_cases h1 : j = 2
  · subst h1; simp
  · rw [if_neg h1]
    by_cases h2 : j = 1
    · rw [if_pos h2, if_pos h2]
    · rw [if_neg h2, if_neg h2, if_neg h1, if_neg h1]
theorem tm_w1 (m : Mm) (s p q : Nat) : wI (tm m s p) 24 1 (nI q) = tm m q p := by
  unfold tm
  rw [wI_R, setR_s, setR_R]
  congr 1
  funext j
  simp only [upd, rw3]
  by_cases h1 : j = 1
  · rw [if_pos h1, if_pos h1]
  · rw [if_neg h1, if_neg h1, if_neg h1]
theorem G24 (m : Mm) (s p : Nat) : clO shP 24 = some 3 ∧ gfI shP 300 24 (tm m s p) = some (.int (m.1 24 0)) ∧ gfI shP 301 24 (tm m s p) = some (.int (nI s)) ∧ gfI shP 302 24 (tm m s p) = some (.int (nI p)) ∧ gfI shP 303 24 (tm m s p) = some (.ref 25) ∧ (∀ x : Int32, pfI shP 301 24 (.int x) (tm m s p) = some (wI (tm m s p) 24 1 x)) ∧ (∀ x : Int32, pfI shP 302 24 (.int x) (tm m s p) = some (wI (tm m s p) 24 2 x)) := ⟨rfl, rfl, rfl, rfl, rfl, fun _ => rfl, fun _ => rfl⟩
theorem C24 : clO shP 24 = some 3 := rfl
theorem A25 (m : Mm) (s p : Nat) (i : Int32) : alI shP tb0 0 25 i (tm m s p) = if inR i 160 = true then some (m.1 25 i.toNatClampNeg) else none := by
  rw [al_of (n := 160) (rs := []) rfl]
  rfl
section Tp
variable (C : CallS) (m : Mm) (hL : (m.1 24 0).toInt ≤ 160)
theorem tk_l (hL : (m.1 24 0).toInt ≤ 160) (s : Nat) : ∀ (k p : Nat), p + k = 160 → ∃ p', p ≤ p' ∧ p' ≤ 160 ∧ rn shP tb0 mN mO C (some .int) (codeZ 8) 0 [.ref 24] [] (tm m s p) = rn shP tb0 mN mO C (some .int) (codeZ 8) 38 [.ref 24] [] (tm m s p') := by
  intro k
  induction k with
  | zero =>
    intro p hp
    refine ⟨p, Nat.le_refl _, by omega, ?_⟩
    have e1 : m.1 24 0 ≤ nI p := by
      rw [Int32.le_iff_toInt_le, nI_toInt (by omega)]
      omega
    rw [rn_eq, b_X3_take_0]
    simp only [EV, LV, CB, OI, OL, NP, CZ, popN, CT, OZ, List.map_nil, List.map_cons, List.sum_nil, List.sum_cons, Option.toList, List.nil_append, List.cons_append, Int.reduceToNat, Nat.reduceAdd, Nat.reduceLT, Nat.reduceLeDiff, List.length_cons, List.length_nil, Nat.zero_add, if_true, if_false, reduceIte, and_self, and_true, true_and, eq_self, reduceCtorEq, C24, G24, e1]
  | succ k ih =>
    intro p hp
    by_cases h1 : m.1 24 0 ≤ nI p
    · refine ⟨p, Nat.le_refl _, by omega, ?_⟩
      rw [rn_eq, b_X3_take_0]
      simp only [EV, LV, CB, OI, OL, NP, CZ, popN, CT, OZ, List.map_nil, List.map_cons, List.sum_nil, List.sum_cons, Option.toList, List.nil_append, List.cons_append, Int.reduceToNat, Nat.reduceAdd, Nat.reduceLT, Nat.reduceLeDiff, List.length_cons, List.length_nil, Nat.zero_add, if_true, if_false, reduceIte, and_self, and_true, true_and, eq_self, reduceCtorEq, C24, G24, h1]
    · have e2 : inR (nI p) 160 = true := inR_nI (by omega) (by omega)
      have e3 : (nI p).toNatClampNeg = p := nI_clamp (by omega)
      by_cases h2 : m.1 25 p = 32
      · obtain ⟨p', a1, a2, a3⟩ := ih (p + 1) (by omega)
        refine ⟨p', by omega, a2, ?_⟩
        rw [rn_eq, b_X3_take_0]
        simp only [EV, LV, CB, OI, OL, NP, CZ, popN, CT, OZ, List.map_nil, List.map_cons, List.sum_nil, List.sum_cons, Option.toList, List.nil_append, List.cons_append, Int.reduceToNat, Nat.reduceAdd, Nat.reduceLT, Nat.reduceLeDiff, List.length_cons, List.length_nil, Nat.zero_add, if_true, if_false, reduceIte, and_self, and_true, true_and, eq_self, reduceCtorEq, C24, G24, A25, h1, e2, e3, h2, nI_1, tm_w2, not_true_eq_false]
        exact a3
      · refine ⟨p, Nat.le_refl _, by omega, ?_⟩
        rw [rn_eq, b_X3_take_0]
        simp only [EV, LV, CB, OI, OL, NP, CZ, popN, CT, OZ, List.map_nil, List.map_cons, List.sum_nil, List.sum_cons, Option.toList, List.nil_append, List.cons_append, Int.reduceToNat, Nat.reduceAdd, Nat.reduceLT, Nat.reduceLeDiff, List.length_cons, List.length_nil, Nat.zero_add, if_true, if_false, reduceIte, and_self, and_true, true_and, eq_self, reduceCtorEq, C24, G24, A25, h1, e2, e3, h2, not_false_eq_true]
theorem pr_l (hL : (m.1 24 0).toInt ≤ 160) (s : Nat) (lo hi : Int32) : ∀ (k p : Nat), p + k = 160 → ∃ p', p ≤ p' ∧ p' ≤ 160 ∧ (∀ j, p ≤ j → j < p' → lo.toInt ≤ (m.1 25 j).toInt ∧ (m.1 25 j).toInt ≤ hi.toInt) ∧ rn shP tb0 mN mO C (some .boolean) (codeZ 9) 0 [.ref 24, .int lo, .int hi] [] (tm m s p) = rn shP tb0 mN mO C (some .boolean) (codeZ 9) 50 [.ref 24, .int lo, .int hi] [] (tm m s p') := by
  intro k
  induction k with
  | zero =>
    intro p hp
    refine ⟨p, Nat.le_refl _, by omega, fun j _ _ => by omega, ?_⟩
    have e1 : m.1 24 0 ≤ nI p := by
      rw [Int32.le_iff_toInt_le, nI_toInt (by omega)]
      omega
    rw [rn_eq, b_X3_passRun_0]
    simp only [EV, LV, CB, OI, OL, NP, CZ, popN, CT, OZ, List.map_nil, List.map_cons, List.sum_nil, List.sum_cons, Option.toList, List.nil_append, List.cons_append, Int.reduceToNat, Nat.reduceAdd, Nat.reduceLT, Nat.reduceLeDiff, List.length_cons, List.length_nil, Nat.zero_add, if_true, if_false, reduceIte, and_self, and_true, true_and, eq_self, reduceCtorEq, C24, G24, e1]
  | succ k ih =>
    intro p hp
    by_cases h1 : m.1 24 0 ≤ nI p
    · refine ⟨p, Nat.le_refl _, by omega, fun j _ _ => by omega, ?_⟩
      rw [rn_eq, b_X3_passRun_0]
      simp only [EV, LV, CB, OI, OL, NP, CZ, popN, CT, OZ, List.map_nil, List.map_cons, List.sum_nil, List.sum_cons, Option.toList, List.nil_append, List.cons_append, Int.reduceToNat, Nat.reduceAdd, Nat.reduceLT, Nat.reduceLeDiff, List.length_cons, List.length_nil, Nat.zero_add, if_true, if_false, reduceIte, and_self, and_true, true_and, eq_self, reduceCtorEq, C24, G24, h1]
    · have e2 : inR (nI p) 160 = true := inR_nI (by omega) (by omega)
      have e3 : (nI p).toNatClampNeg = p := nI_clamp (by omega)
      by_cases h2 : m.1 25 p < lo
      · refine ⟨p, Nat.le_refl _, by omega, fun j _ _ => by omega, ?_⟩
        rw [rn_eq, b_X3_passRun_0]
        simp only [EV, LV, CB, OI, OL, NP, CZ, popN, CT, OZ, List.map_nil, List.map_cons, List.sum_nil, List.sum_cons, Option.toList, List.nil_append, List.cons_append, Int.reduceToNat, Nat.reduceAdd, Nat.reduceLT, Nat.reduceLeDiff, List.length_cons, List.length_nil, Nat.zero_add, if_true, if_false, reduceIte, and_self, and_true, true_and, eq_self, reduceCtorEq, C24, G24, A25, h1, e2, e3, h2]
      · by_cases h3 : hi < m.1 25 p
        · refine ⟨p, Nat.le_refl _, by omega, fun j _ _ => by omega, ?_⟩
          rw [rn_eq, b_X3_passRun_0]
          simp only [EV, LV, CB, OI, OL, NP, CZ, popN, CT, OZ, List.map_nil, List.map_cons, List.sum_nil, List.sum_cons, Option.toList, List.nil_append, List.cons_append, Int.reduceToNat, Nat.reduceAdd, Nat.reduceLT, Nat.reduceLeDiff, List.length_cons, List.length_nil, Nat.zero_add, if_true, if_false, reduceIte, and_self, and_true, true_and, eq_self, reduceCtorEq, C24, G24, A25, h1, e2, e3, h2, h3]
        · obtain ⟨p', a1, a2, a3, a4⟩ := ih (p + 1) (by omega)
          refine ⟨p', by omega, a2, fun j j1 j2 => ?_, ?_⟩
          · by_cases hj : j = p
            · rw [hj]
              have z1 := Int32.le_iff_toInt_le.mp (Int32.not_lt.mp h2)
              have z2 := Int32.le_iff_toInt_le.mp (Int32.not_lt.mp h3)
              exact ⟨z1, z2⟩
            · exact a3 j (by omega) j2
          · rw [rn_eq, b_X3_passRun_0]
            simp only [EV, LV, CB, OI, OL, NP, CZ, popN, CT, OZ, List.map_nil, List.map_cons, List.sum_nil, List.sum_cons, Option.toList, List.nil_append, List.cons_append, Int.reduceToNat, Nat.reduceAdd, Nat.reduceLT, Nat.reduceLeDiff, List.length_cons, List.length_nil, Nat.zero_add, if_true, if_false, reduceIte, and_self, and_true, true_and, eq_self, reduceCtorEq, C24, G24, A25, h1, e2, e3, h2, h3, nI_1, tm_w2]
            exact a4
end Tp
section Tq
variable (wS : List Value → Mm → Option Rs) (d : Nat)
theorem nI_lt' {a b : Nat} (ha : a < 2 ^ 31) (hb : b < 2 ^ 31) : (nI a ≤ nI b) = (a ≤ b) := by
  apply propext
  rw [Int32.le_iff_toInt_le, nI_toInt ha, nI_toInt hb]
  omega
theorem t_passRun (m : Mm) (hL : (m.1 24 0).toInt ≤ 160) {s p : Nat} (hs : s ≤ 160) (hp : p ≤ 160) (lo hi : Int32) : ∃ p', p ≤ p' ∧ p' ≤ 160 ∧ (∀ j, p ≤ j → j < p' → lo.toInt ≤ (m.1 25 j).toInt ∧ (m.1 25 j).toInt ≤ hi.toInt) ∧ semZ shP wS (d + 1) 9 [.ref 24, .int lo, .int hi] (tm m s p) = some (some (.int (bI (decide (s < p')))), tm m s p') := by
  obtain ⟨p', a1, a2, a3, a4⟩ := pr_l (semZ shP wS d) m hL s lo hi (160 - p) p (by omega)
  refine ⟨p', a1, a2, a3, ?_⟩
  rw [se_X3_passRun, a4, rn_eq, b_X3_passRun_50]
  have e := nI_lt' (a := p') (b := s) (by omega) (by omega)
  by_cases h : s < p'
  · have h1 : ¬ p' ≤ s := by omega
    simp only [EV, LV, CB, OI, OL, NP, CZ, popN, CT, OZ, List.map_nil, List.map_cons, List.sum_nil, List.sum_cons, Option.toList, List.nil_append, List.cons_append, Int.reduceToNat, Nat.reduceAdd, Nat.reduceLT, Nat.reduceLeDiff, List.length_cons, List.length_nil, Nat.zero_add, if_true, if_false, reduceIte, and_self, and_true, true_and, eq_self, reduceCtorEq, C24, G24, e, h1]
    rw [rn_eq, b_X3_passRun_66]
    simp only [EV, LV, CB, OI, OL, NP, CZ, popN, CT, OZ, List.map_nil, List.map_cons, List.sum_nil, List.sum_cons, Option.toList, List.nil_append, List.cons_append, Int.reduceToNat, Nat.reduceAdd, Nat.reduceLT, Nat.reduceLeDiff, List.length_cons, List.length_nil, Nat.zero_add, if_true, if_false, reduceIte, and_self, and_true, true_and, eq_self, reduceCtorEq, h, decide_true, bI_t]
  · have h1 : p' ≤ s := by omega
    simp only [EV, LV, CB, OI, OL, NP, CZ, popN, CT, OZ, List.map_nil, List.map_cons, List.sum_nil, List.sum_cons, Option.toList, List.nil_append, List.cons_append, Int.reduceToNat, Nat.reduceAdd, Nat.reduceLT, Nat.reduceLeDiff, List.length_cons, List.length_nil, Nat.zero_add, if_true, if_false, reduceIte, and_self, and_true, true_and, eq_self, reduceCtorEq, C24, G24, e, h1]
    rw [rn_eq, b_X3_passRun_65]
    simp only [EV, LV, CB, OI, OL, NP, CZ, popN, CT, OZ, List.map_nil, List.map_cons, List.sum_nil, List.sum_cons, Option.toList, List.nil_append, List.cons_append, Int.reduceToNat, Nat.reduceAdd, Nat.reduceLT, Nat.reduceLeDiff, List.length_cons, List.length_nil, Nat.zero_add, if_true, if_false, reduceIte, and_self, and_true, true_and, eq_self, reduceCtorEq, h, decide_false, bI_f]
/-- a token: its kind, where it begins, where the next one is looked for -/
theorem t_take (m : Mm) (hI : InvT TV m) : ∃ (t : Int32) (s p : Nat), semZ shP wS (d + 2) 8 [.ref 24] m = some (some (.int t), tm m s p) ∧ s ≤ 160 ∧ p ≤ 160 ∧ (0 ≤ t.toInt ∧ t.toInt ≤ 4) ∧ (t = 2 → s < p ∧ p ≤ s + 2 ∧ ∀ j, s ≤ j → j < p → 48 ≤ (m.1 25 j).toInt ∧ (m.1 25 j).toInt ≤ 57) := by
  have b0 := hI 24 0
  have b1 := hI 24 1
  have b2 := hI 24 2
  rw [show ivO TV 24 0 = (0, 160) from by decide +kernel] at b0
  rw [show ivO TV 24 1 = (0, 160) from by decide +kernel] at b1
  rw [show ivO TV 24 2 = (0, 160) from by decide +kernel] at b2
  have hL : (m.1 24 0).toInt ≤ 160 := b0.2
  have b1a : 0 ≤ (m.1 24 1).toInt := b1.1
  have b2a : 0 ≤ (m.1 24 2).toInt := b2.1
  have b2b : (m.1 24 2).toInt ≤ 160 := b2.2
  have e0 := tm_id m (i_nI b1a) (i_nI b2a)
  have hp0 : (m.1 24 2).toInt.toNat ≤ 160 := by omega
  generalize (m.1 24 1).toInt.toNat = s0 at e0
  generalize (m.1 24 2).toInt.toNat = p0 at e0 hp0
  obtain ⟨p1, a1, a2, a3⟩ := tk_l (semZ shP wS (d + 1)) m hL s0 (160 - p0) p0 (by omega)
  have key : ∃ (t : Int32) (s p : Nat), rn shP tb0 mN mO (semZ shP wS (d + 1)) (some .int) (codeZ 8) 38 [.ref 24] [] (tm m s0 p1) = some (some (.int t), tm m s p) ∧ s ≤ 160 ∧ p ≤ 160 ∧ (0 ≤ t.toInt ∧ t.toInt ≤ 4) ∧ (t = 2 → s < p ∧ p ≤ s + 2 ∧ ∀ j, s ≤ j → j < p → 48 ≤ (m.1 25 j).toInt ∧ (m.1 25 j).toInt ≤ 57) := by
    by_cases h1 : nI p1 < m.1 24 0
    · have h1i := Int32.lt_iff_toInt_lt.mp h1
      rw [nI_toInt (by omega)] at h1i
      obtain ⟨p2, c1, c2, c3, c4⟩ := t_passRun wS d m hL (s := p1) (p := p1) a2 a2 97 122
      by_cases h2 : p1 < p2
      · refine ⟨1, p1, p2, ?_, a2, c2, by decide, fun z => absurd z (by decide)⟩
        have e10 : ¬ (1 : Int32) = 0 := by decide
        simp only [h2, decide_true, bI_t] at c4
        rw [rn_eq, b_X3_take_38]
        simp only [EV, LV, CB, OI, OL, NP, CZ, popN, CT, OZ, List.map_nil, List.map_cons, List.sum_nil, List.sum_cons, Option.toList, List.nil_append, List.cons_append, Int.reduceToNat, Nat.reduceAdd, Nat.reduceLT, Nat.reduceLeDiff, List.length_cons, List.length_nil, Nat.zero_add, if_true, if_false, reduceIte, and_self, and_true, true_and, eq_self, reduceCtorEq, C24, G24, tm_w1, h1]
        rw [rn_eq, b_X3_take_59]
        simp only [EV, LV, CB, OI, OL, NP, CZ, popN, CT, OZ, List.map_nil, List.map_cons, List.sum_nil, List.sum_cons, Option.toList, List.nil_append, List.cons_append, Int.reduceToNat, Nat.reduceAdd, Nat.reduceLT, Nat.reduceLeDiff, List.length_cons, List.length_nil, Nat.zero_add, if_true, if_false, reduceIte, and_self, and_true, true_and, eq_self, reduceCtorEq, C24, G24, c4, e10]
      · have e2 : p2 = p1 := by omega
        subst e2
        simp only [h2, decide_false, bI_f] at c4
        obtain ⟨p3, d1, d2, d3, d4⟩ := t_passRun wS d m hL (s := p2) (p := p2) a2 a2 48 57
        by_cases h3 : p2 < p3
        · have e10 : ¬ (1 : Int32) = 0 := by decide
          simp only [h3, decide_true, bI_t] at d4
          have es : nI p3 - nI p2 = nI (p3 - p2) := by
            apply Int32.toInt_inj.mp
            rw [Int32.toInt_sub, nI_toInt (by omega), nI_toInt (by omega), nI_toInt (by omega)]
            rw [bm32 (by omega) (by omega)]
            omega
          have el : ((nI (p3 - p2) : Int32) ≤ 2) = (p3 - p2 ≤ 2) := nI_lt' (a := p3 - p2) (b := 2) (by omega) (by omega)
          by_cases h4 : p3 - p2 ≤ 2
          · refine ⟨2, p2, p3, ?_, a2, d2, by decide, fun _ => ⟨h3, by omega, fun j j1 j2 => d3 j j1 j2⟩⟩
            rw [rn_eq, b_X3_take_38]
            simp only [EV, LV, CB, OI, OL, NP, CZ, popN, CT, OZ, List.map_nil, List.map_cons, List.sum_nil, List.sum_cons, Option.toList, List.nil_append, List.cons_append, Int.reduceToNat, Nat.reduceAdd, Nat.reduceLT, Nat.reduceLeDiff, List.length_cons, List.length_nil, Nat.zero_add, if_true, if_false, reduceIte, and_self, and_true, true_and, eq_self, reduceCtorEq, C24, G24, tm_w1, h1]
            rw [rn_eq, b_X3_take_59]
            simp only [EV, LV, CB, OI, OL, NP, CZ, popN, CT, OZ, List.map_nil, List.map_cons, List.sum_nil, List.sum_cons, Option.toList, List.nil_append, List.cons_append, Int.reduceToNat, Nat.reduceAdd, Nat.reduceLT, Nat.reduceLeDiff, List.length_cons, List.length_nil, Nat.zero_add, if_true, if_false, reduceIte, and_self, and_true, true_and, eq_self, reduceCtorEq, C24, G24, c4]
            rw [rn_eq, b_X3_take_72]
            simp only [EV, LV, CB, OI, OL, NP, CZ, popN, CT, OZ, List.map_nil, List.map_cons, List.sum_nil, List.sum_cons, Option.toList, List.nil_append, List.cons_append, Int.reduceToNat, Nat.reduceAdd, Nat.reduceLT, Nat.reduceLeDiff, List.length_cons, List.length_nil, Nat.zero_add, if_true, if_false, reduceIte, and_self, and_true, true_and, eq_self, reduceCtorEq, C24, G24, d4, e10, es, el, h4]
            rw [rn_eq, b_X3_take_100]
            simp only [EV, LV, CB, OI, OL, NP, CZ, popN, CT, OZ, List.map_nil, List.map_cons, List.sum_nil, List.sum_cons, Option.toList, List.nil_append, List.cons_append, Int.reduceToNat, Nat.reduceAdd, Nat.reduceLT, Nat.reduceLeDiff, List.length_cons, List.length_nil, Nat.zero_add, if_true, if_false, reduceIte, and_self, and_true, true_and, eq_self, reduceCtorEq]
          · refine ⟨4, p2, p3, ?_, a2, d2, by decide, fun z => absurd z (by decide)⟩
            rw [rn_eq, b_X3_take_38]
            simp only [EV, LV, CB, OI, OL, NP, CZ, popN, CT, OZ, List.map_nil, List.map_cons, List.sum_nil, List.sum_cons, Option.toList, List.nil_append, List.cons_append, Int.reduceToNat, Nat.reduceAdd, Nat.reduceLT, Nat.reduceLeDiff, List.length_cons, List.length_nil, Nat.zero_add, if_true, if_false, reduceIte, and_self, and_true, true_and, eq_self, reduceCtorEq, C24, G24, tm_w1, h1]
            rw [rn_eq, b_X3_take_59]
            simp only [EV, LV, CB, OI, OL, NP, CZ, popN, CT, OZ, List.map_nil, List.map_cons, List.sum_nil, List.sum_cons, Option.toList, List.nil_append, List.cons_append, Int.reduceToNat, Nat.reduceAdd, Nat.reduceLT, Nat.reduceLeDiff, List.length_cons, List.length_nil, Nat.zero_add, if_true, if_false, reduceIte, and_self, and_true, true_and, eq_self, reduceCtorEq, C24, G24, c4]
            rw [rn_eq, b_X3_take_72]
            simp only [EV, LV, CB, OI, OL, NP, CZ, popN, CT, OZ, List.map_nil, List.map_cons, List.sum_nil, List.sum_cons, Option.toList, List.nil_append, List.cons_append, Int.reduceToNat, Nat.reduceAdd, Nat.reduceLT, Nat.reduceLeDiff, List.length_cons, List.length_nil, Nat.zero_add, if_true, if_false, reduceIte, and_self, and_true, true_and, eq_self, reduceCtorEq, C24, G24, d4, e10, es, el, h4]
            rw [rn_eq, b_X3_take_101]
            simp only [EV, LV, CB, OI, OL, NP, CZ, popN, CT, OZ, List.map_nil, List.map_cons, List.sum_nil, List.sum_cons, Option.toList, List.nil_append, List.cons_append, Int.reduceToNat, Nat.reduceAdd, Nat.reduceLT, Nat.reduceLeDiff, List.length_cons, List.length_nil, Nat.zero_add, if_true, if_false, reduceIte, and_self, and_true, true_and, eq_self, reduceCtorEq]
        · have e3 : p3 = p2 := by omega
          subst e3
          simp only [h3, decide_false, bI_f] at d4
          have e4 : inR (nI p3) 160 = true := inR_nI (by omega) (by omega)
          have e5 : (nI p3).toNatClampNeg = p3 := nI_clamp (by omega)
          by_cases h5 : m.1 25 p3 = 59
          · refine ⟨3, p3, p3 + 1, ?_, a2, by omega, by decide, fun z => absurd z (by decide)⟩
            rw [rn_eq, b_X3_take_38]
            simp only [EV, LV, CB, OI, OL, NP, CZ, popN, CT, OZ, List.map_nil, List.map_cons, List.sum_nil, List.sum_cons, Option.toList, List.nil_append, List.cons_append, Int.reduceToNat, Nat.reduceAdd, Nat.reduceLT, Nat.reduceLeDiff, List.length_cons, List.length_nil, Nat.zero_add, if_true, if_false, reduceIte, and_self, and_true, true_and, eq_self, reduceCtorEq, C24, G24, tm_w1, h1]
            rw [rn_eq, b_X3_take_59]
            simp only [EV, LV, CB, OI, OL, NP, CZ, popN, CT, OZ, List.map_nil, List.map_cons, List.sum_nil, List.sum_cons, Option.toList, List.nil_append, List.cons_append, Int.reduceToNat, Nat.reduceAdd, Nat.reduceLT, Nat.reduceLeDiff, List.length_cons, List.length_nil, Nat.zero_add, if_true, if_false, reduceIte, and_self, and_true, true_and, eq_self, reduceCtorEq, C24, G24, c4]
            rw [rn_eq, b_X3_take_72]
            simp only [EV, LV, CB, OI, OL, NP, CZ, popN, CT, OZ, List.map_nil, List.map_cons, List.sum_nil, List.sum_cons, Option.toList, List.nil_append, List.cons_append, Int.reduceToNat, Nat.reduceAdd, Nat.reduceLT, Nat.reduceLeDiff, List.length_cons, List.length_nil, Nat.zero_add, if_true, if_false, reduceIte, and_self, and_true, true_and, eq_self, reduceCtorEq, C24, G24, d4]
            rw [rn_eq, b_X3_take_102]
            simp only [EV, LV, CB, OI, OL, NP, CZ, popN, CT, OZ, List.map_nil, List.map_cons, List.sum_nil, List.sum_cons, Option.toList, List.nil_append, List.cons_append, Int.reduceToNat, Nat.reduceAdd, Nat.reduceLT, Nat.reduceLeDiff, List.length_cons, List.length_nil, Nat.zero_add, if_true, if_false, reduceIte, and_self, and_true, true_and, eq_self, reduceCtorEq, C24, G24, A25, nI_1, tm_w2, e4, e5, h5, not_true_eq_false]
            rw [rn_eq, b_X3_take_131]
            simp only [EV, LV, CB, OI, OL, NP, CZ, popN, CT, OZ, List.map_nil, List.map_cons, List.sum_nil, List.sum_cons, Option.toList, List.nil_append, List.cons_append, Int.reduceToNat, Nat.reduceAdd, Nat.reduceLT, Nat.reduceLeDiff, List.length_cons, List.length_nil, Nat.zero_add, if_true, if_false, reduceIte, and_self, and_true, true_and, eq_self, reduceCtorEq]
          · refine ⟨4, p3, p3 + 1, ?_, a2, by omega, by decide, fun z => absurd z (by decide)⟩
            rw [rn_eq, b_X3_take_38]
            simp only [EV, LV, CB, OI, OL, NP, CZ, popN, CT, OZ, List.map_nil, List.map_cons, List.sum_nil, List.sum_cons, Option.toList, List.nil_append, List.cons_append, Int.reduceToNat, Nat.reduceAdd, Nat.reduceLT, Nat.reduceLeDiff, List.length_cons, List.length_nil, Nat.zero_add, if_true, if_false, reduceIte, and_self, and_true, true_and, eq_self, reduceCtorEq, C24, G24, tm_w1, h1]
            rw [rn_eq, b_X3_take_59]
            simp only [EV, LV, CB, OI, OL, NP, CZ, popN, CT, OZ, List.map_nil, List.map_cons, List.sum_nil, List.sum_cons, Option.toList, List.nil_append, List.cons_append, Int.reduceToNat, Nat.reduceAdd, Nat.reduceLT, Nat.reduceLeDiff, List.length_cons, List.length_nil, Nat.zero_add, if_true, if_false, reduceIte, and_self, and_true, true_and, eq_self, reduceCtorEq, C24, G24, c4]
            rw [rn_eq, b_X3_take_72]
            simp only [EV, LV, CB, OI, OL, NP, CZ, popN, CT, OZ, List.map_nil, List.map_cons, List.sum_nil, List.sum_cons, Option.toList, List.nil_append, List.cons_append, Int.reduceToNat, Nat.reduceAdd, Nat.reduceLT, Nat.reduceLeDiff, List.length_cons, List.length_nil, Nat.zero_add, if_true, if_false, reduceIte, and_self, and_true, true_and, eq_self, reduceCtorEq, C24, G24, d4]
            rw [rn_eq, b_X3_take_102]
            simp only [EV, LV, CB, OI, OL, NP, CZ, popN, CT, OZ, List.map_nil, List.map_cons, List.sum_nil, List.sum_cons, Option.toList, List.nil_append, List.cons_append, Int.reduceToNat, Nat.reduceAdd, Nat.reduceLT, Nat.reduceLeDiff, List.length_cons, List.length_nil, Nat.zero_add, if_true, if_false, reduceIte, and_self, and_true, true_and, eq_self, reduceCtorEq, C24, G24, A25, nI_1, tm_w2, e4, e5, h5, not_false_eq_true]
            rw [rn_eq, b_X3_take_130]
            simp only [EV, LV, CB, OI, OL, NP, CZ, popN, CT, OZ, List.map_nil, List.map_cons, List.sum_nil, List.sum_cons, Option.toList, List.nil_append, List.cons_append, Int.reduceToNat, Nat.reduceAdd, Nat.reduceLT, Nat.reduceLeDiff, List.length_cons, List.length_nil, Nat.zero_add, if_true, if_false, reduceIte, and_self, and_true, true_and, eq_self, reduceCtorEq]
    · refine ⟨0, p1, p1, ?_, a2, a2, by decide, fun z => absurd z (by decide)⟩
      rw [rn_eq, b_X3_take_38]
      simp only [EV, LV, CB, OI, OL, NP, CZ, popN, CT, OZ, List.map_nil, List.map_cons, List.sum_nil, List.sum_cons, Option.toList, List.nil_append, List.cons_append, Int.reduceToNat, Nat.reduceAdd, Nat.reduceLT, Nat.reduceLeDiff, List.length_cons, List.length_nil, Nat.zero_add, if_true, if_false, reduceIte, and_self, and_true, true_and, eq_self, reduceCtorEq, C24, G24, tm_w1, h1]
  obtain ⟨t, s, p, k1, k2⟩ := key
  refine ⟨t, s, p, ?_, k2⟩
  rw [e0] at a3
  rw [se_X3_take, a3]
  exact k1
end Tq
end
section
/-! contracts of the text: written by wip/gen/contracts3.py -/
def h3_0 : CE := (8, [rF [24]], [], iA 0 4, [], ([], [4801, 4802]), []) -- X3_take
def h3_1 : CE := (11, [rF [24], rF [2000, 2001, 2002, 2003, 2004, 2005, 2006, 2007]], [], iA 0 1, [], ([], []), []) -- X3_isWord
def t_12 : List CE := [h3_0, h3_1] ++ t_11
end
section
/-! contracts of the text: written by wip/gen/contracts3.py -/
def c_237 : CE := (10, [rF [24]], [], tI, [], ([], []), []) -- X3_number
def ac_237 : List AnE := [(0, ([rF [24], none, none], [], []), 323, [0, 0, 0]),
  (7, ([rF [24], tI, iA 0 160], [], []), 321, [0, 0, (-2)]),
  (36, ([rF [24], tI, iA 0 160], [], []), 0, [0, 0, 0])]
theorem kc_237 : chkM shP TV t_12 c_237 ac_237 = true := by decide +kernel
abbrev q_X3_number : CE := c_237
def c_238 : CE := (14, [rF [23], iA 0 7, rF [10]], [], iA 0 1, [], ([], []), []) -- X4_hasNoRoom
def ac_238 : List AnE := [(0, ([rF [23], iA 0 7, rF [10]], [], []), 5, [0, 0, 0]),
  (16, ([rF [23], iA 0 0, rF [10]], [], [(2000, 0, 3)]), 3, [0, 0, 0]),
  (17, ([rF [23], iA 0 0, rF [10]], [cst 1], [(2000, 4, 4)]), 4, [0, 0, 0]),
  (18, ([rF [23], iA 1 7, rF [10]], [], []), 2, [0, 0, 0]),
  (36, ([rF [23], iA 1 7, rF [10]], [], []), 0, [0, 0, 0]),
  (37, ([rF [23], iA 1 4, rF [10]], [cst 1], [(2001, 6, 6)]), 1, [0, 0, 0])]
theorem kc_238 : chkM shP TV t_12 c_238 ac_238 = true := by decide +kernel
abbrev q_X4_hasNoRoom : CE := c_238
def c_239 : CE := (16, [iA 0 7, tI], [], iA 3 99, [], ([], []), []) -- X4_most
def ac_239 : List AnE := [(0, ([iA 0 7, tI], [], []), 9, [0, 0]),
  (48, ([iA 0 0, tI], [], []), 2, [0, 0]),
  (57, ([iA 0 0, tI], [], []), 0, [0, 0]),
  (59, ([iA 0 0, iA 0 0], [cst 99], []), 1, [0, 0]),
  (60, ([iA 5 5, tI], [], []), 6, [0, 0]),
  (63, ([iA 6 6, tI], [], []), 7, [0, 0]),
  (66, ([iA 7 7, tI], [], []), 8, [0, 0]),
  (69, ([iA 1 4, tI], [], []), 5, [0, 0]),
  (77, ([iA 1 4, tI], [], []), 3, [0, 0]),
  (79, ([iA 1 4, iA 0 0], [cst 3], []), 4, [0, 0])]
theorem kc_239 : chkM shP TV t_12 c_239 ac_239 = true := by decide +kernel
abbrev q_X4_most : CE := c_239
def c_240 : CE := (17, [rF [23], iA 5 7, rF [10]], [], none, [], ([], [2002, 2003, 2004, 4604]), []) -- X4_enter
def ac_240 : List AnE := [(0, ([rF [23], iA 5 7, rF [10]], [], []), 4, [0, 0, 0]),
  (68, ([rF [23], iA 5 5, rF [10]], [], []), 1, [0, 0, 0]),
  (93, ([rF [23], iA 6 6, rF [10]], [], []), 2, [0, 0, 0]),
  (118, ([rF [23], iA 7 7, rF [10]], [], []), 3, [0, 0, 0]),
  (169, ([rF [23], iA 5 7, rF [10]], [], []), 0, [0, 0, 0])]
theorem kc_240 : chkM shP TV t_12 c_240 ac_240 = true := by decide +kernel
abbrev q_X4_enter : CE := c_240
def c_241 : CE := (20, [rF [23], tI, tI], [], none, [], ([], [4601, 4602]), []) -- X4_refuse
def ac_241 : List AnE := [(0, ([rF [23], tI, tI], [], []), 0, [0, 0, 0])]
theorem kc_241 : chkM shP TV t_12 c_241 ac_241 = true := by decide +kernel
abbrev q_X4_refuse : CE := c_241
def c_242 : CE := (22, [tI], [], rF [2000, 2001, 2002, 2003, 2004, 2005, 2006, 2007], [], ([], []), []) -- X4_word
def ac_242 : List AnE := [(0, ([tI], [], []), 8, [0]),
  (44, ([iA 0 0], [], []), 1, [0]),
  (47, ([iA 1 1], [], []), 2, [0]),
  (50, ([iA 2 2], [], []), 3, [0]),
  (53, ([iA 3 3], [], []), 4, [0]),
  (56, ([iA 4 4], [], []), 5, [0]),
  (59, ([iA 5 5], [], []), 6, [0]),
  (62, ([iA 6 6], [], []), 7, [0]),
  (65, ([tI], [], []), 0, [0])]
theorem kc_242 : chkM shP TV t_12 c_242 ac_242 = true := by decide +kernel
abbrev q_X4_word : CE := c_242
def c_243 : CE := (24, [rF [10]], [], none, [], ([13], []), []) -- X5_takeTurnsByNumber
def ac_243 : List AnE := [(0, ([rF [10], none], [], []), 11, [0, 0]),
  (2, ([rF [10], iA 0 4], [], []), 9, [0, (-2)]),
  (20, ([rF [10], iA 4 4], [], []), 0, [0, 0])]
theorem kc_243 : chkM shP TV t_12 c_243 ac_243 = true := by decide +kernel
abbrev q_X5_takeTurnsByNumber : CE := c_243
def c_244 : CE := (28, [rF [10], tI, tI], [], iA 0 1, [(2000, 1, 4)], ([11, 12], [2000]), []) -- X5_addVillage
def ac_244 : List AnE := [(0, ([rF [10], tI, tI], [], []), 1, [0, 0, 0]),
  (10, ([rF [10], tI, tI], [], [(2000, 0, 3)]), 0, [0, 0, 0])]
theorem kc_244 : chkM shP TV t_12 c_244 ac_244 = true := by decide +kernel
abbrev q_X5_addVillage : CE := c_244
def c_245 : CE := (29, [rF [10], iA 0 3, iA 0 3, tI, tI], [], iA 0 1, [(2001, 1, 6)], ([14, 15, 16, 17, 18], [2001]), []) -- X5_addBody
def ac_245 : List AnE := [(0, ([rF [10], iA 0 3, iA 0 3, tI, tI], [], []), 1, [0, 0, 0, 0, 0]),
  (11, ([rF [10], iA 0 3, iA 0 3, tI, tI], [], [(2001, 0, 5)]), 0, [0, 0, 0, 0, 0])]
theorem kc_245 : chkM shP TV t_12 c_245 ac_245 = true := by decide +kernel
abbrev q_X5_addBody_1 : CE := c_245
def b_13 : List (CE × List AnE) := [(c_237, ac_237), (c_238, ac_238), (c_239, ac_239), (c_240, ac_240), (c_241, ac_241), (c_242, ac_242), (c_243, ac_243), (c_244, ac_244), (c_245, ac_245)]
def t_13 : List CE := [c_237, c_238, c_239, c_240, c_241, c_242, c_243, c_244, c_245] ++ t_12
theorem h_up13 {wS : List Value → Mm → Option Rs} {k : Nat} (h : Hall TV wS k t_12) : Hall TV wS (k + 1) t_13 := by
  refine Hall_step h b_13 ?_
  unfold b_13
  simp only [List.all_cons, List.all_nil, kc_237, kc_238, kc_239, kc_240, kc_241, kc_242, kc_243, kc_244, kc_245, Bool.and_self]
def c_246 : CE := (17, [rF [23], iA 1 4, rF [10]], [(5200, 0, 3)], none, [(2001, 1, 6)], ([14, 15, 16, 17, 18], [2001]), []) -- X4_enter
def ac_246 : List AnE := [(0, ([rF [23], iA 1 4, rF [10]], [], [(5200, 0, 3)]), 1, [0, 0, 0]),
  (143, ([rF [23], iA 1 4, rF [10]], [], [(5200, 0, 3)]), 0, [0, 0, 0])]
theorem kc_246 : chkM shP TV t_13 c_246 ac_246 = true := by decide +kernel
abbrev q_X4_enter_1 : CE := c_246
def c_247 : CE := (17, [rF [23], cst 0, rF [10]], [], none, [(2000, 1, 4)], ([11, 12], [2000]), []) -- X4_enter
def ac_247 : List AnE := [(0, ([rF [23], cst 0, rF [10]], [], []), 2, [0, 0, 0]),
  (48, ([rF [23], iA 0 0, rF [10]], [], []), 1, [0, 0, 0]),
  (169, ([rF [23], iA 0 0, rF [10]], [], [(2000, 1, 4)]), 0, [0, 0, 0])]
theorem kc_247 : chkM shP TV t_13 c_247 ac_247 = true := by decide +kernel
abbrev q_X4_enter_2 : CE := c_247
def c_248 : CE := (18, [rF [23], rF [10]], [], none, [], ([], [4601, 4602]), []) -- X4_checkPlaces
def ac_248 : List AnE := [(0, ([rF [23], rF [10], none], [], []), 22, [0, 0, 0]),
  (2, ([rF [23], rF [10], iA 0 6], [], []), 20, [0, 0, (-3)]),
  (36, ([rF [23], rF [10], iA 0 5], [], [(2001, 1, 6)]), 19, [0, 0, (-3)]),
  (42, ([rF [23], rF [10], iA 0 6], [], []), 0, [0, 0, 0])]
theorem kc_248 : chkM shP TV t_13 c_248 ac_248 = true := by decide +kernel
abbrev q_X4_checkPlaces : CE := c_248
def c_249 : CE := (19, [rF [23], tI, tI], [], iA 0 1, [], ([], [4601, 4602]), []) -- X4_expect
def ac_249 : List AnE := [(0, ([rF [23], tI, tI], [], []), 3, [0, 0, 0]),
  (7, ([rF [23], tI, tI], [], []), 2, [0, 0, 0]),
  (17, ([rF [23], tI, tI], [rF [23]], []), 0, [0, 0, 0]),
  (18, ([rF [23], iA 4 4, tI], [cst 1, rF [23]], []), 1, [0, 0, 0])]
theorem kc_249 : chkM shP TV t_13 c_249 ac_249 = true := by decide +kernel
abbrev q_X4_expect : CE := c_249
def c_250 : CE := (21, [rF [23]], [], some (.inl ((0, 7, 1), some (-4), 0, (0, 0), [])), [], ([], []), []) -- X4_lineOf
def ac_250 : List AnE := [(0, ([rF [23], none], [], []), 28, [0, 0]),
  (2, ([rF [23], iA 0 8], [], []), 26, [0, (-3)]),
  (24, ([rF [23], iA 0 7], [], []), 25, [0, (-3)]),
  (30, ([rF [23], iA 8 8], [], []), 0, [0, 0])]
theorem kc_250 : chkM shP TV t_13 c_250 ac_250 = true := by decide +kernel
abbrev q_X4_lineOf : CE := c_250
def c_251 : CE := (23, [rF [10]], [], none, [(2000, 0, 0), (2001, 0, 0)], ([13], [2000, 2001, 2002, 2003, 2004, 2005, 2006, 2007]), []) -- X5_clear
def ac_251 : List AnE := [(0, ([rF [10]], [], []), 0, [0])]
theorem kc_251 : chkM shP TV t_13 c_251 ac_251 = true := by decide +kernel
abbrev q_X5_clear : CE := c_251
def b_14 : List (CE × List AnE) := [(c_246, ac_246), (c_247, ac_247), (c_248, ac_248), (c_249, ac_249), (c_250, ac_250), (c_251, ac_251)]
def t_14 : List CE := [c_246, c_247, c_248, c_249, c_250, c_251] ++ t_13
theorem h_up14 {wS : List Value → Mm → Option Rs} {k : Nat} (h : Hall TV wS k t_13) : Hall TV wS (k + 1) t_14 := by
  refine Hall_step h b_14 ?_
  unfold b_14
  simp only [List.all_cons, List.all_nil, kc_246, kc_247, kc_248, kc_249, kc_250, kc_251, Bool.and_self]
def c_252 : CE := (15, [rF [23], cst 0], [], iA 0 1, [], ([26], [4601, 4602, 4801, 4802]), []) -- X4_takeNumbers
def ac_252 : List AnE := [(0, ([rF [23], cst 0, none, none, none], [], []), 15, [0, 0, 0, 0, 0]),
  (18, ([rF [23], iA 0 0, none, none, none], [cst 2], []), 14, [0, 0, 0, 0, 0]),
  (21, ([rF [23], iA 0 0, iA 2 2, iA 0 2, none], [], []), 12, [0, 0, 0, (-4), 0]),
  (43, ([rF [23], iA 0 0, iA 2 2, iA 0 1, none], [], []), 11, [0, 0, 0, (-4), 0]),
  (73, ([rF [23], iA 0 0, iA 2 2, iA 0 1, tI], [], []), 1, [0, 0, 0, 0, 0]),
  (87, ([rF [23], iA 0 0, iA 2 2, iA 0 1, tI], [], []), 10, [0, 0, 0, (-4), 0]),
  (101, ([rF [23], iA 0 0, iA 2 2, iA 2 2, none], [], []), 0, [0, 0, 0, 0, 0])]
theorem kc_252 : chkM shP TV t_14 c_252 ac_252 = true := by decide +kernel
abbrev q_X4_takeNumbers : CE := c_252
def c_253 : CE := (15, [rF [23], iA 5 7], [], iA 0 1, [], ([26], [4601, 4602, 4801, 4802]), []) -- X4_takeNumbers
def ac_253 : List AnE := [(0, ([rF [23], iA 5 7, none, none, none], [], []), 12, [0, 0, 0, 0, 0]),
  (8, ([rF [23], iA 5 7, none, none, none], [], []), 11, [0, 0, 0, 0, 0]),
  (17, ([rF [23], iA 5 7, none, none, none], [], []), 10, [0, 0, 0, 0, 0]),
  (21, ([rF [23], iA 5 7, iA 1 1, iA 0 1, none], [], []), 8, [0, 0, 0, (-4), 0]),
  (43, ([rF [23], iA 5 7, iA 1 1, iA 0 0, none], [], []), 7, [0, 0, 0, (-4), 0]),
  (73, ([rF [23], iA 5 7, iA 1 1, iA 0 0, tI], [], []), 1, [0, 0, 0, 0, 0]),
  (87, ([rF [23], iA 5 7, iA 1 1, iA 0 0, tI], [], []), 6, [0, 0, 0, (-4), 0]),
  (101, ([rF [23], iA 5 7, iA 1 1, iA 1 1, none], [], []), 0, [0, 0, 0, 0, 0])]
theorem kc_253 : chkM shP TV t_14 c_253 ac_253 = true := by decide +kernel
abbrev q_X4_takeNumbers_1 : CE := c_253
def b_15 : List (CE × List AnE) := [(c_252, ac_252), (c_253, ac_253)]
def t_15 : List CE := [c_252, c_253] ++ t_14
theorem h_up15 {wS : List Value → Mm → Option Rs} {k : Nat} (h : Hall TV wS k t_14) : Hall TV wS (k + 1) t_15 := by
  refine Hall_step h b_15 ?_
  unfold b_15
  simp only [List.all_cons, List.all_nil, kc_252, kc_253, Bool.and_self]
def h_tn : CE := (15, [rF [23], iA 1 4], [], iA 0 1, [(5200, 0, 3)], ([26], [4601, 4602, 4801, 4802]), []) -- X4_takeNumbers
def a_tn : List AnE := [(21, ([rF [23], iA 1 4, iA 3 3, iA 1 3, tI], [], [(5200, 0, 3)]), 16, [0, 0, 0, (-4), 0]),
  (43, ([rF [23], iA 1 4, iA 3 3, iA 1 2, tI], [], [(5200, 0, 3)]), 15, [0, 0, 0, (-4), 0]),
  (73, ([rF [23], iA 1 4, iA 3 3, iA 1 2, tI], [], [(5200, 0, 3)]), 1, [0, 0, 0, 0, 0]),
  (87, ([rF [23], iA 1 4, iA 3 3, iA 1 2, tI], [], [(5200, 0, 3)]), 14, [0, 0, 0, (-4), 0]),
  (101, ([rF [23], iA 1 4, iA 3 3, iA 3 3, tI], [], [(5200, 0, 3)]), 0, [0, 0, 0, 0, 0])]
theorem k_tn : a_tn.all (blkOK shP TV t_15 (mT 15) h_tn (codeZ 15) a_tn) = true := by decide +kernel
end
section
/-! BY HAND: tokens' contracts; the numbers of a body's line -/
/-- what isWord is taken to answer -/
def WOK (wS : List Value → Mm → Option Rs) : Prop := Hd TV (fun _ As m => wS As m) h3_1
theorem iv_24 : ivO TV 24 1 = (0, 160) ∧ ivO TV 24 2 = (0, 160) := by decide +kernel
theorem Inv_tm {m : Mm} (hI : InvT TV m) {s p : Nat} (hs : s ≤ 160) (hp : p ≤ 160) : InvT TV (tm m s p) := by
  refine Inv_setR hI (fun j => ?_)
  unfold rw3
  split
  · rename_i h
    rw [h, iv_24.1, nI_toInt (by omega)]
    exact ⟨by show (0 : Int) ≤ _; omega, by show _ ≤ (160 : Int); omega⟩
  · split
    · rename_i h
      rw [h, iv_24.2, nI_toInt (by omega)]
      exact ⟨by show (0 : Int) ≤ _; omega, by show _ ≤ (160 : Int); omega⟩
    · exact hI 24 j
theorem frm_tm {W : Wr} {mE m : Mm} (h : frm W mE m) {s p : Nat} (h1 : inW W 24 1 = true) (h2 : inW W 24 2 = true) : frm W mE (tm m s p) := by
  have a := frm_wI (x := nI s) (by decide) h h1
  have b := frm_wI (x := nI p) (by decide) a h2
  have e : wI (wI m 24 1 (nI s)) 24 2 (nI p) = tm m s p := by
    unfold tm
    rw [wI_R, wI_R, setR_s, setR_R]
    congr 1
    funext j
    simp only [upd, rw3]
    by_cases q : j = 2
    · subst q; simp
    · rw [if_neg q, if_neg q]
  rw [e] at b
  exact b
theorem hd_take (wS : List Value → Mm → Option Rs) (d : Nat) : Hd TV (semZ shP wS (d + 2)) h3_0 := by
  intro As m g hI hR
  obtain ⟨v1, vs, rfl, k1, g⟩ := gT_cons g
  cases gT_nil g
  obtain ⟨r', rfl, hr⟩ := k1
  have hr : r' = 24 := List.mem_singleton.mp hr
  subst hr
  obtain ⟨t, s, p, a1, a2, a3, a4, -⟩ := t_take wS d m hI
  exact ⟨_, _, a1, ret_i a4.1 a4.2, Inv_tm hI a2 a3, rho_nil, frm_tm frm_rf (by decide) (by decide), fun _ _ _ q hq => by cases hq⟩
theorem hd_isW {wS : List Value → Mm → Option Rs} (hw : WOK wS) (d : Nat) : Hd TV (semZ shP wS (d + 1)) h3_1 := hw
theorem hall_12 {wS : List Value → Mm → Option Rs} (hw : WOK wS) : Hall TV wS 17 t_12 := by
  intro d c hc
  unfold t_12 at hc
  rcases List.mem_append.mp hc with hc | hc
  · rcases List.mem_cons.mp hc with rfl | hc
    · exact hd_take wS (d + 15)
    rcases List.mem_cons.mp hc with rfl | hc
    · exact hd_isW hw (d + 16)
    cases hc
  · exact Hall_up (hall_11 wS) 1 d c hc
theorem hall_15 {wS : List Value → Mm → Option Rs} (hw : WOK wS) : Hall TV wS 20 t_15 := h_up15 (h_up14 (h_up13 (hall_12 hw)))
section Tn
variable (wS : List Value → Mm → Option Rs) (d : Nat)
theorem C23 : clO shP 23 = some 4 := rfl
theorem G23 (m : Mm) : gfI shP 400 23 m = some (.ref 24) ∧ gfI shP 403 23 m = some (.ref 26) ∧ (∀ x : Int32, pfI shP 401 23 (.int x) m = some (wI m 23 1 x)) ∧ (∀ x : Int32, pfI shP 402 23 (.int x) m = some (wI m 23 2 x)) := ⟨rfl, rfl, fun _ => rfl, fun _ => rfl⟩
theorem G24' (m : Mm) : gfI shP 301 24 m = some (.int (m.1 24 1)) := rfl
theorem t_refuse (a b : Int32) (m : Mm) : semZ shP wS (d + 1) 20 [.ref 23, .int a, .int b] m = some (none, wI (wI m 23 1 a) 23 2 b) := by
  rw [se_X4_refuse, rn_eq, b_X4_refuse_0]
  simp only [EV, LV, CB, OI, OL, NP, CZ, popN, CT, OZ, List.map_nil, List.map_cons, List.sum_nil, List.sum_cons, Option.toList, List.nil_append, List.cons_append, Int.reduceToNat, Nat.reduceAdd, Nat.reduceLT, Nat.reduceLeDiff, List.length_cons, List.length_nil, Nat.zero_add, if_true, if_false, reduceIte, and_self, and_true, true_and, eq_self, reduceCtorEq, G23]
theorem t_expect_y (a : Int32) (m : Mm) : semZ shP wS (d + 1) 19 [.ref 23, .int a, .int a] m = some (some (.int 1), m) := by
  rw [se_X4_expect, rn_eq, b_X4_expect_0]
  simp only [EV, LV, CB, OI, OL, NP, CZ, popN, CT, OZ, List.map_nil, List.map_cons, List.sum_nil, List.sum_cons, Option.toList, List.nil_append, List.cons_append, Int.reduceToNat, Nat.reduceAdd, Nat.reduceLT, Nat.reduceLeDiff, List.length_cons, List.length_nil, Nat.zero_add, if_true, if_false, reduceIte, and_self, and_true, true_and, eq_self, reduceCtorEq, not_true_eq_false]
theorem t_expect_n (a b : Int32) (h : ¬ a = b) (m : Mm) : ∃ x : Int32, semZ shP wS (d + 2) 19 [.ref 23, .int a, .int b] m = some (some (.int 0), wI (wI m 23 1 x) 23 2 (m.1 24 1)) := by
  by_cases h4 : a = 4
  · refine ⟨1, ?_⟩
    rw [se_X4_expect, rn_eq, b_X4_expect_0]
    simp only [EV, LV, CB, OI, OL, NP, CZ, popN, CT, OZ, List.map_nil, List.map_cons, List.sum_nil, List.sum_cons, Option.toList, List.nil_append, List.cons_append, Int.reduceToNat, Nat.reduceAdd, Nat.reduceLT, Nat.reduceLeDiff, List.length_cons, List.length_nil, Nat.zero_add, if_true, if_false, reduceIte, and_self, and_true, true_and, eq_self, reduceCtorEq, h, not_false_eq_true]
    rw [rn_eq, b_X4_expect_7]
    simp only [EV, LV, CB, OI, OL, NP, CZ, popN, CT, OZ, List.map_nil, List.map_cons, List.sum_nil, List.sum_cons, Option.toList, List.nil_append, List.cons_append, Int.reduceToNat, Nat.reduceAdd, Nat.reduceLT, Nat.reduceLeDiff, List.length_cons, List.length_nil, Nat.zero_add, if_true, if_false, reduceIte, and_self, and_true, true_and, eq_self, reduceCtorEq, h4, not_true_eq_false]
    rw [rn_eq, b_X4_expect_18]
    simp only [EV, LV, CB, OI, OL, NP, CZ, popN, CT, OZ, List.map_nil, List.map_cons, List.sum_nil, List.sum_cons, Option.toList, List.nil_append, List.cons_append, Int.reduceToNat, Nat.reduceAdd, Nat.reduceLT, Nat.reduceLeDiff, List.length_cons, List.length_nil, Nat.zero_add, if_true, if_false, reduceIte, and_self, and_true, true_and, eq_self, reduceCtorEq, C23, G23, G24', t_refuse wS d]
  · refine ⟨2, ?_⟩
    rw [se_X4_expect, rn_eq, b_X4_expect_0]
    simp only [EV, LV, CB, OI, OL, NP, CZ, popN, CT, OZ, List.map_nil, List.map_cons, List.sum_nil, List.sum_cons, Option.toList, List.nil_append, List.cons_append, Int.reduceToNat, Nat.reduceAdd, Nat.reduceLT, Nat.reduceLeDiff, List.length_cons, List.length_nil, Nat.zero_add, if_true, if_false, reduceIte, and_self, and_true, true_and, eq_self, reduceCtorEq, h, not_false_eq_true]
    rw [rn_eq, b_X4_expect_7]
    simp only [EV, LV, CB, OI, OL, NP, CZ, popN, CT, OZ, List.map_nil, List.map_cons, List.sum_nil, List.sum_cons, Option.toList, List.nil_append, List.cons_append, Int.reduceToNat, Nat.reduceAdd, Nat.reduceLT, Nat.reduceLeDiff, List.length_cons, List.length_nil, Nat.zero_add, if_true, if_false, reduceIte, and_self, and_true, true_and, eq_self, reduceCtorEq, h4, not_false_eq_true]
    rw [rn_eq, b_X4_expect_17]
    simp only [EV, LV, CB, OI, OL, NP, CZ, popN, CT, OZ, List.map_nil, List.map_cons, List.sum_nil, List.sum_cons, Option.toList, List.nil_append, List.cons_append, Int.reduceToNat, Nat.reduceAdd, Nat.reduceLT, Nat.reduceLeDiff, List.length_cons, List.length_nil, Nat.zero_add, if_true, if_false, reduceIte, and_self, and_true, true_and, eq_self, reduceCtorEq, C23, G23, G24', t_refuse wS d]
theorem num_step (m : Mm) {s p i : Nat} (hi : i < p) (hp : p ≤ 160) (v : Int32) (C : CallS) : rn shP tb0 mN mO C (some .int) (codeZ 10) 7 [.ref 24, .int v, .int (nI i)] [] (tm m s p) = rn shP tb0 mN mO C (some .int) (codeZ 10) 7 [.ref 24, .int (v * 10 + m.1 25 i - 48), .int (nI (i + 1))] [] (tm m s p) := by
  have e1 : ¬ nI p ≤ nI i := nI_ge hi (by omega)
  have e2 : inR (nI i) 160 = true := inR_nI (by omega) (by omega)
  have e3 : (nI i).toNatClampNeg = i := nI_clamp (by omega)
  rw [rn_eq, b_X3_number_7]
  simp only [EV, LV, CB, OI, OL, NP, CZ, popN, CT, OZ, List.map_nil, List.map_cons, List.sum_nil, List.sum_cons, Option.toList, List.nil_append, List.cons_append, Int.reduceToNat, Nat.reduceAdd, Nat.reduceLT, Nat.reduceLeDiff, List.length_cons, List.length_nil, Nat.zero_add, if_true, if_false, reduceIte, and_self, and_true, true_and, eq_self, reduceCtorEq, C24, G24, A25, e1, e2, e3, nI_1]
theorem num_end (m : Mm) {s p : Nat} (v : Int32) (C : CallS) : rn shP tb0 mN mO C (some .int) (codeZ 10) 7 [.ref 24, .int v, .int (nI p)] [] (tm m s p) = some (some (.int v), tm m s p) := by
  have e1 : nI p ≤ nI p := Int32.le_refl _
  rw [rn_eq, b_X3_number_7]
  simp only [EV, LV, CB, OI, OL, NP, CZ, popN, CT, OZ, List.map_nil, List.map_cons, List.sum_nil, List.sum_cons, Option.toList, List.nil_append, List.cons_append, Int.reduceToNat, Nat.reduceAdd, Nat.reduceLT, Nat.reduceLeDiff, List.length_cons, List.length_nil, Nat.zero_add, if_true, if_false, reduceIte, and_self, and_true, true_and, eq_self, reduceCtorEq, C24, G24, e1]
  rw [rn_eq, b_X3_number_36]
  simp only [EV, LV, CB, OI, OL, NP, CZ, popN, CT, OZ, List.map_nil, List.map_cons, List.sum_nil, List.sum_cons, Option.toList, List.nil_append, List.cons_append, Int.reduceToNat, Nat.reduceAdd, Nat.reduceLT, Nat.reduceLeDiff, List.length_cons, List.length_nil, Nat.zero_add, if_true, if_false, reduceIte, and_self, and_true, true_and, eq_self, reduceCtorEq]
theorem dg {b : Int32} (h1 : 48 ≤ b.toInt) (h2 : b.toInt ≤ 57) {v : Int32} (h3 : 0 ≤ v.toInt) (h4 : v.toInt ≤ 9) : (v * 10 + b - 48).toInt = v.toInt * 10 + b.toInt - 48 := by
  have e1 : (v * 10).toInt = v.toInt * 10 := by
    rw [Int32.toInt_mul, show (10 : Int32).toInt = 10 from by decide]
    exact bm32 (by omega) (by omega)
  have e2 : (v * 10 + b).toInt = v.toInt * 10 + b.toInt := by
    rw [Int32.toInt_add, e1]
    exact bm32 (by omega) (by omega)
  rw [Int32.toInt_sub, e2, show (48 : Int32).toInt = 48 from by decide]
  exact bm32 (by omega) (by omega)
theorem t_number (m : Mm) {s p : Nat} (h1 : s < p) (h2 : p ≤ s + 2) (hp : p ≤ 160) (hd : ∀ j, s ≤ j → j < p → 48 ≤ (m.1 25 j).toInt ∧ (m.1 25 j).toInt ≤ 57) : ∃ v : Int32, 0 ≤ v.toInt ∧ semZ shP wS (d + 1) 10 [.ref 24] (tm m s p) = some (some (.int v), tm m s p) := by
  have z0 : (0 : Int32).toInt = 0 := by decide
  have d0 := hd s (Nat.le_refl _) h1
  have a0 := dg d0.1 d0.2 (v := 0) (by omega) (by omega)
  by_cases hc : p = s + 1
  · subst hc
    refine ⟨0 * 10 + m.1 25 s - 48, by omega, ?_⟩
    rw [se_X3_number, rn_eq, b_X3_number_0]
    simp only [EV, LV, CB, OI, OL, NP, CZ, popN, CT, OZ, List.map_nil, List.map_cons, List.sum_nil, List.sum_cons, Option.toList, List.nil_append, List.cons_append, Int.reduceToNat, Nat.reduceAdd, Nat.reduceLT, Nat.reduceLeDiff, List.length_cons, List.length_nil, Nat.zero_add, if_true, if_false, reduceIte, and_self, and_true, true_and, eq_self, reduceCtorEq, C24, G24]
    rw [num_step m (by omega) hp, num_end]
  · have hc : p = s + 2 := by omega
    subst hc
    have d1 := hd (s + 1) (by omega) (by omega)
    have a1 := dg d1.1 d1.2 (v := 0 * 10 + m.1 25 s - 48) (by omega) (by omega)
    refine ⟨(0 * 10 + m.1 25 s - 48) * 10 + m.1 25 (s + 1) - 48, by omega, ?_⟩
    rw [se_X3_number, rn_eq, b_X3_number_0]
    simp only [EV, LV, CB, OI, OL, NP, CZ, popN, CT, OZ, List.map_nil, List.map_cons, List.sum_nil, List.sum_cons, Option.toList, List.nil_append, List.cons_append, Int.reduceToNat, Nat.reduceAdd, Nat.reduceLT, Nat.reduceLeDiff, List.length_cons, List.length_nil, Nat.zero_add, if_true, if_false, reduceIte, and_self, and_true, true_and, eq_self, reduceCtorEq, C24, G24]
    rw [num_step m (by omega) hp, num_step m (by omega) hp, num_end]
theorem sw_most : ∀ L, L < 5 → 1 ≤ L → swT 69 0 7 #[48, 69, 69, 69, 69, 60, 63, 66] (nI L) = 69 := by decide +kernel
theorem t_most (L : Nat) (h1 : 1 ≤ L) (h2 : L < 5) (m : Mm) : semZ shP wS (d + 1) 16 [.int (nI L), .int 0] m = some (some (.int 3), m) := by
  rw [se_X4_most, rn_eq, b_X4_most_0]
  simp only [EV, LV, CB, OI, OL, NP, CZ, popN, CT, OZ, List.map_nil, List.map_cons, List.sum_nil, List.sum_cons, Option.toList, List.nil_append, List.cons_append, Int.reduceToNat, Nat.reduceAdd, Nat.reduceLT, Nat.reduceLeDiff, List.length_cons, List.length_nil, Nat.zero_add, if_true, if_false, reduceIte, and_self, and_true, true_and, eq_self, reduceCtorEq, sw_most L h2 h1]
  rw [rn_eq, b_X4_most_69]
  simp only [EV, LV, CB, OI, OL, NP, CZ, popN, CT, OZ, List.map_nil, List.map_cons, List.sum_nil, List.sum_cons, Option.toList, List.nil_append, List.cons_append, Int.reduceToNat, Nat.reduceAdd, Nat.reduceLT, Nat.reduceLeDiff, List.length_cons, List.length_nil, Nat.zero_add, if_true, if_false, reduceIte, and_self, and_true, true_and, eq_self, reduceCtorEq, not_true_eq_false]
  rw [rn_eq, b_X4_most_79]
  simp only [EV, LV, CB, OI, OL, NP, CZ, popN, CT, OZ, List.map_nil, List.map_cons, List.sum_nil, List.sum_cons, Option.toList, List.nil_append, List.cons_append, Int.reduceToNat, Nat.reduceAdd, Nat.reduceLT, Nat.reduceLeDiff, List.length_cons, List.length_nil, Nat.zero_add, if_true, if_false, reduceIte, and_self, and_true, true_and, eq_self, reduceCtorEq]
end Tn
theorem nI_in4 {x : Int32} (h1 : 1 ≤ x.toInt) (h2 : x.toInt ≤ 4) : ∃ L : Nat, 1 ≤ L ∧ L < 5 ∧ x = nI L := ⟨x.toInt.toNat, by omega, by omega, i_nI (by omega)⟩
theorem mT_15 : mT 15 = some .boolean := by decide +kernel
end
section
/-! contracts of the text: written by wip/gen/contracts3.py -/
def h4_0 : CE := (15, [rF [23], iA 1 4], [], iA 0 1, [], ([26], [4601, 4602, 4801, 4802]), [(6200, 0, 3)]) -- X4_takeNumbers
def t_16 : List CE := [h4_0] ++ t_15
def h_tl : CE := (13, [rF [23], tI, rF [10]], [], none, [], ([11, 12, 14, 15, 16, 17, 18, 26], [2000, 2001, 2002, 2003, 2004, 4601, 4602, 4604, 4801, 4802]), []) -- X4_takeLine
def a_tl0 : List AnE := [(36, ([rF [23], tI, rF [10], cst 0], [], []), 3, [0, 0, 0, 0]),
  (63, ([rF [23], tI, rF [10], cst 0], [], []), 2, [0, 0, 0, 0]),
  (87, ([rF [23], tI, rF [10], cst 0], [], []), 1, [0, 0, 0, 0]),
  (116, ([rF [23], tI, rF [10], cst 0], [], []), 0, [0, 0, 0, 0])]
theorem k_tl0 : a_tl0.all (blkOK shP TV t_16 (mT 13) h_tl (codeZ 13) a_tl0) = true := by decide +kernel
def a_tl1 : List AnE := [(36, ([rF [23], tI, rF [10], iA 1 4], [], []), 3, [0, 0, 0, 0]),
  (63, ([rF [23], tI, rF [10], iA 1 4], [], []), 2, [0, 0, 0, 0]),
  (87, ([rF [23], tI, rF [10], iA 1 4], [], []), 1, [0, 0, 0, 0]),
  (116, ([rF [23], tI, rF [10], iA 1 4], [], []), 0, [0, 0, 0, 0])]
theorem k_tl1 : a_tl1.all (blkOK shP TV t_16 (mT 13) h_tl (codeZ 13) a_tl1) = true := by decide +kernel
def a_tl5 : List AnE := [(36, ([rF [23], tI, rF [10], iA 5 7], [], []), 3, [0, 0, 0, 0]),
  (63, ([rF [23], tI, rF [10], iA 5 7], [], []), 2, [0, 0, 0, 0]),
  (87, ([rF [23], tI, rF [10], iA 5 7], [], []), 1, [0, 0, 0, 0]),
  (116, ([rF [23], tI, rF [10], iA 5 7], [], []), 0, [0, 0, 0, 0])]
theorem k_tl5 : a_tl5.all (blkOK shP TV t_16 (mT 13) h_tl (codeZ 13) a_tl5) = true := by decide +kernel
end
section
/-! BY HAND: takeNumbers of a body's line, takeLine -/
theorem iv_23 : ivO TV 23 1 = (-2147483648, 2147483647) ∧ ivO TV 23 2 = (-2147483648, 2147483647) ∧ ivO TV 26 0 = (-2147483648, 2147483647) := by decide +kernel
theorem Inv_rf {m : Mm} (hI : InvT TV m) (a b : Int32) : InvT TV (wI (wI m 23 1 a) 23 2 b) := Inv_wI (Inv_wI hI (by rw [iv_23.1]; exact (r32 a).1) (by rw [iv_23.1]; exact (r32 a).2)) (by rw [iv_23.2.1]; exact (r32 b).1) (by rw [iv_23.2.1]; exact (r32 b).2)
theorem hd_tn {wS : List Value → Mm → Option Rs} (hw : WOK wS) (d : Nat) : Hd TV (semZ shP wS (d + 21)) h4_0 := by
  intro As m g hI hR
  obtain ⟨v1, vs, rfl, k1, g⟩ := gT_cons g
  obtain ⟨v2, vs, rfl, k2, g⟩ := gT_cons g
  cases gT_nil g
  obtain ⟨r', rfl, hr⟩ := k1
  have hr : r' = 23 := List.mem_singleton.mp hr
  subst hr
  obtain ⟨x, rfl, x1, -⟩ := k2
  have X := gN_hul x1
  have X1 : 1 ≤ x.toInt := X.1
  have X2 : x.toInt ≤ 4 := X.2.1
  obtain ⟨L, hL1, hL2, rfl⟩ := nI_in4 X1 X2
  have n0 : ¬ nI L = 0 := fun z => by rw [z] at X1; exact absurd X1 (by decide)
  have n4 : ¬ (4 : Int32) < nI L := nI_nlt (a := 4) (b := L) (by omega) (by omega)
  have n7 : ¬ nI L = 7 := fun z => by rw [z] at X2; exact absurd X2 (by decide)
  have hC := hall_15 hw d
  have es : semZ shP wS (d + 21) 15 [.ref 23, .int (nI L)] m = rn shP tb0 mN mO (semZ shP wS (d + 20)) (some .boolean) (codeZ 15) 21 [.ref 23, .int (nI L), .int 3, .int 0, noV] [] m := by
    rw [se_X4_takeNumbers, rn_eq, b_X4_takeNumbers_0]
    simp only [EV, LV, CB, OI, OL, NP, CZ, popN, CT, OZ, List.map_nil, List.map_cons, List.sum_nil, List.sum_cons, Option.toList, List.nil_append, List.cons_append, Int.reduceToNat, Nat.reduceAdd, Nat.reduceLT, Nat.reduceLeDiff, List.length_cons, List.length_nil, Nat.zero_add, if_true, if_false, reduceIte, and_self, and_true, true_and, eq_self, reduceCtorEq, n0, not_false_eq_true]
    rw [rn_eq, b_X4_takeNumbers_8]
    simp only [EV, LV, CB, OI, OL, NP, CZ, popN, CT, OZ, List.map_nil, List.map_cons, List.sum_nil, List.sum_cons, Option.toList, List.nil_append, List.cons_append, Int.reduceToNat, Nat.reduceAdd, Nat.reduceLT, Nat.reduceLeDiff, List.length_cons, List.length_nil, Nat.zero_add, if_true, if_false, reduceIte, and_self, and_true, true_and, eq_self, reduceCtorEq, n4]
    rw [rn_eq, b_X4_takeNumbers_18]
    simp only [EV, LV, CB, OI, OL, NP, CZ, popN, CT, OZ, List.map_nil, List.map_cons, List.sum_nil, List.sum_cons, Option.toList, List.nil_append, List.cons_append, Int.reduceToNat, Nat.reduceAdd, Nat.reduceLT, Nat.reduceLeDiff, List.length_cons, List.length_nil, Nat.zero_add, if_true, if_false, reduceIte, and_self, and_true, true_and, eq_self, reduceCtorEq]
  have e30 : ¬ (3 : Int32) ≤ 0 := by decide
  obtain ⟨t, s, p, a1, a2, a3, a4, a5⟩ := t_take wS (d + 18) m hI
  have I1 := Inv_tm hI a2 a3
  have F1 : frm h4_0.2.2.2.2.2.1 m (tm m s p) := frm_tm frm_rf (by decide) (by decide)
  have none0 : ∀ m' : Mm, impG h4_0.2.2.2.2.2.2 [.ref 23, .int (nI L)] (some (.int 0)) m' := fun m' y hy h0 => by
    cases hy
    exact absurd (by decide) h0
  show ∃ v m', semZ shP wS (d + 21) 15 [.ref 23, .int (nI L)] m = some (v, m') ∧ _
  rw [es]
  by_cases ht : t = 2
  · subst ht
    obtain ⟨q1, q2, q3⟩ := a5 rfl
    obtain ⟨v, v0, v1⟩ := t_number wS (d + 19) m q1 q2 a3 q3
    have e10 : ¬ (1 : Int32) = 0 := by decide
    have st43 : rn shP tb0 mN mO (semZ shP wS (d + 20)) (some .boolean) (codeZ 15) 21 [.ref 23, .int (nI L), .int 3, .int 0, noV] [] m = rn shP tb0 mN mO (semZ shP wS (d + 20)) (some .boolean) (codeZ 15) 43 [.ref 23, .int (nI L), .int 3, .int 0, noV] [] (tm m s p) := by
      rw [rn_eq, b_X4_takeNumbers_21]
      simp only [EV, LV, CB, OI, OL, NP, CZ, popN, CT, OZ, List.map_nil, List.map_cons, List.sum_nil, List.sum_cons, Option.toList, List.nil_append, List.cons_append, Int.reduceToNat, Nat.reduceAdd, Nat.reduceLT, Nat.reduceLeDiff, List.length_cons, List.length_nil, Nat.zero_add, if_true, if_false, reduceIte, and_self, and_true, true_and, eq_self, reduceCtorEq, e30, C23, C24, G23, a1, t_expect_y wS (d + 19), e10, not_false_eq_true]
    rw [st43]
    by_cases hv : (3 : Int32) < v
    · refine ⟨some (.int 0), wI (wI (tm m s p) 23 1 3) 23 2 (nI s), ?_, ret_i (by decide) (by decide), Inv_rf I1 _ _, rho_nil, frm_wI (by decide) (frm_wI (by decide) F1 (by decide)) (by decide), none0 _⟩
      rw [rn_eq, b_X4_takeNumbers_43]
      simp only [EV, LV, CB, OI, OL, NP, CZ, popN, CT, OZ, List.map_nil, List.map_cons, List.sum_nil, List.sum_cons, Option.toList, List.nil_append, List.cons_append, Int.reduceToNat, Nat.reduceAdd, Nat.reduceLT, Nat.reduceLeDiff, List.length_cons, List.length_nil, Nat.zero_add, if_true, if_false, reduceIte, and_self, and_true, true_and, eq_self, reduceCtorEq, C23, C24, G23, v1, t_most wS (d + 19) L hL1 hL2, hv]
      rw [rn_eq, b_X4_takeNumbers_73]
      simp only [EV, LV, CB, OI, OL, NP, CZ, popN, CT, OZ, List.map_nil, List.map_cons, List.sum_nil, List.sum_cons, Option.toList, List.nil_append, List.cons_append, Int.reduceToNat, Nat.reduceAdd, Nat.reduceLT, Nat.reduceLeDiff, List.length_cons, List.length_nil, Nat.zero_add, if_true, if_false, reduceIte, and_self, and_true, true_and, eq_self, reduceCtorEq, C23, G23, G24, t_refuse wS (d + 19)]
    · have hv3 : v.toInt ≤ 3 := by
        have := Int32.le_iff_toInt_le.mp (Int32.not_lt.mp hv)
        rw [show (3 : Int32).toInt = 3 from by decide] at this
        exact this
      have I2 : InvT TV (wI (tm m s p) 26 0 v) := Inv_wI I1 (by rw [iv_23.2.2]; exact (r32 v).1) (by rw [iv_23.2.2]; exact (r32 v).2)
      have F2 : frm h4_0.2.2.2.2.2.1 m (wI (tm m s p) 26 0 v) := frm_wI (by decide) F1 (by decide)
      have c0 : cel (wI (tm m s p) 26 0 v) 5200 = v.toInt := by
        unfold cel
        rw [wI_at, if_pos ⟨by decide, by decide⟩]
      obtain ⟨⟨vr, m'⟩, r1, r2⟩ := run_ok (mE := wI (tm m s p) 26 0 v) hC k_tn _ (a_tn.getD 0 (0, ([], [], []), 0, [])) (List.mem_of_getElem? (i := 0) rfl) [.ref 23, .int (nI L), .int 3, .int 1, .int v] [] (wI (tm m s p) 26 0 v) (fun L1 => ⟨gL_of (L1 := L1) ⟨gv_rf 23, gv_i X1 X2, gv_i (by decide) (by decide), gv_i (by decide) (by decide), gv_tI v, trivial⟩, trivial, I2, rho_one (by rw [c0]; exact v0) (by rw [c0]; exact hv3), frm_rf⟩) (Nat.le_refl _)
      have r1 : rn shP tb0 mN mO (semZ shP wS (d + 20)) (mT 15) (codeZ 15) 21 [.ref 23, .int (nI L), .int 3, .int 1, .int v] [] (wI (tm m s p) 26 0 v) = some (vr, m') := r1
      rw [mT_15] at r1
      refine ⟨vr, m', ?_, r2.1, r2.2.1, rho_nil, frm_tr F2 r2.2.2.2.1 (by decide), ?_⟩
      · have e7 : asI shP 0 26 0 v (tm m s p) = some (wI (tm m s p) 26 0 v) := by
          rw [as_of (n := 3) (rs := []) rfl, if_pos (by decide)]
          rfl
        rw [rn_eq, b_X4_takeNumbers_43]
        simp only [EV, LV, CB, OI, OL, NP, CZ, popN, CT, OZ, List.map_nil, List.map_cons, List.sum_nil, List.sum_cons, Option.toList, List.nil_append, List.cons_append, Int.reduceToNat, Nat.reduceAdd, Nat.reduceLT, Nat.reduceLeDiff, List.length_cons, List.length_nil, Nat.zero_add, if_true, if_false, reduceIte, and_self, and_true, true_and, eq_self, reduceCtorEq, C23, C24, G23, v1, t_most wS (d + 19) L hL1 hL2, hv, n7, not_false_eq_true]
        rw [rn_eq, b_X4_takeNumbers_87]
        have e01 : (0 : Int32) + 1 = 1 := by decide
        simp only [EV, LV, CB, OI, OL, NP, CZ, popN, CT, OZ, List.map_nil, List.map_cons, List.sum_nil, List.sum_cons, Option.toList, List.nil_append, List.cons_append, Int.reduceToNat, Nat.reduceAdd, Nat.reduceLT, Nat.reduceLeDiff, List.length_cons, List.length_nil, Nat.zero_add, if_true, if_false, reduceIte, and_self, and_true, true_and, eq_self, reduceCtorEq, G23, e7, e01]
        exact r1
      · intro y hy h0 z hz
        have hz : z = (6200, 0, 3) := List.mem_singleton.mp hz
        subst hz
        have hp := r2.2.2.1 (5200, 0, 3) (List.mem_singleton.mpr rfl)
        exact Or.inr ⟨by decide, hp.1, hp.2⟩
  · obtain ⟨y, hy⟩ := t_expect_n wS (d + 18) t 2 ht (tm m s p)
    refine ⟨some (.int 0), _, ?_, ret_i (by decide) (by decide), Inv_rf I1 y ((tm m s p).1 24 1), rho_nil, frm_wI (by decide) (frm_wI (by decide) F1 (by decide)) (by decide), none0 _⟩
    rw [rn_eq, b_X4_takeNumbers_21]
    simp only [EV, LV, CB, OI, OL, NP, CZ, popN, CT, OZ, List.map_nil, List.map_cons, List.sum_nil, List.sum_cons, Option.toList, List.nil_append, List.cons_append, Int.reduceToNat, Nat.reduceAdd, Nat.reduceLT, Nat.reduceLeDiff, List.length_cons, List.length_nil, Nat.zero_add, if_true, if_false, reduceIte, and_self, and_true, true_and, eq_self, reduceCtorEq, e30, C23, C24, G23, a1, hy, not_true_eq_false]
theorem hall_16 {wS : List Value → Mm → Option Rs} (hw : WOK wS) : Hall TV wS 21 t_16 := by
  intro d c hc
  unfold t_16 at hc
  rcases List.mem_append.mp hc with hc | hc
  · rcases List.mem_cons.mp hc with rfl | hc
    · exact hd_tn hw d
    cases hc
  · exact Hall_up (hall_15 hw) 1 d c hc
theorem lo_mem : q_X4_lineOf ∈ t_16 := by
  unfold q_X4_lineOf t_16 t_15 t_14
  simp only [List.mem_append, List.mem_cons, true_or, or_true]
theorem ex_mem : q_X4_expect ∈ t_16 := by
  unfold q_X4_expect t_16 t_15 t_14
  simp only [List.mem_append, List.mem_cons, true_or, or_true]
theorem mT_13 : mT 13 = none := by decide +kernel
theorem hd_tl {wS : List Value → Mm → Option Rs} (hw : WOK wS) (d : Nat) : Hd TV (semZ shP wS (d + 22)) h_tl := by
  apply Hd_run
  intro As m g hI hR
  obtain ⟨v1, vs, rfl, k1, g⟩ := gT_cons g
  obtain ⟨v2, vs, rfl, k2, g⟩ := gT_cons g
  obtain ⟨v3, vs, rfl, k3, g⟩ := gT_cons g
  cases gT_nil g
  obtain ⟨r', rfl, hr⟩ := k1
  have hr : r' = 23 := List.mem_singleton.mp hr
  subst hr
  obtain ⟨t, rfl, -⟩ := k2
  obtain ⟨r3, rfl, hr⟩ := k3
  have hr : r3 = 10 := List.mem_singleton.mp hr
  subst hr
  have hC := hall_16 hw d
  show ∃ r, semZ shP wS (d + 22) 13 [.ref 23, .int t, .ref 10] m = some r ∧ _
  obtain ⟨v, m1, a1, a2, a3, a4, a5, -⟩ := hC q_X4_expect ex_mem [.ref 23, .int t, .int 1] m ⟨gv_rf 23, gv_tI t, gv_tI 1, trivial⟩ hI rho_nil
  cases v with
  | none => exact a2.elim
  | some v =>
    obtain ⟨y, hy, -⟩ := a2
    subst hy
    have a1 : semZ shP wS (d + 21) 19 [.ref 23, .int t, .int 1] m = some (some (.int y), m1) := a1
    have F1 : frm h_tl.2.2.2.2.2.1 m m1 := frm_w a5 (by decide)
    rw [se_X4_takeLine, rn_eq, b_X4_takeLine_0]
    by_cases hy : y = 0
    · refine ⟨(none, m1), ?_, trivial, a3, rho_nil, F1, rfl⟩
      simp only [EV, LV, CB, OI, OL, NP, CZ, popN, CT, OZ, List.map_nil, List.map_cons, List.sum_nil, List.sum_cons, Option.toList, List.nil_append, List.cons_append, Int.reduceToNat, Nat.reduceAdd, Nat.reduceLT, Nat.reduceLeDiff, List.length_cons, List.length_nil, Nat.zero_add, if_true, if_false, reduceIte, and_self, and_true, true_and, eq_self, reduceCtorEq, C23, a1, hy, not_true_eq_false]
    · simp only [EV, LV, CB, OI, OL, NP, CZ, popN, CT, OZ, List.map_nil, List.map_cons, List.sum_nil, List.sum_cons, Option.toList, List.nil_append, List.cons_append, Int.reduceToNat, Nat.reduceAdd, Nat.reduceLT, Nat.reduceLeDiff, List.length_cons, List.length_nil, Nat.zero_add, if_true, if_false, reduceIte, and_self, and_true, true_and, eq_self, reduceCtorEq, C23, a1, hy, not_false_eq_true]
      obtain ⟨v, m2, b1, b2, b3, b4, b5, -⟩ := hC q_X4_lineOf lo_mem [.ref 23] m1 ⟨gv_rf 23, trivial⟩ a3 rho_nil
      cases v with
      | none => exact b2.elim
      | some v =>
        obtain ⟨k, hk, kk, -⟩ := b2
        subst hk
        have b1 : semZ shP wS (d + 21) 21 [.ref 23] m1 = some (some (.int k), m2) := b1
        have F2 : frm h_tl.2.2.2.2.2.1 m m2 := frm_tr F1 b5 (by decide)
        rw [rn_eq, b_X4_takeLine_10]
        by_cases hk : k = -4
        · refine ⟨(none, wI (wI m2 23 1 2) 23 2 (m2.1 24 1)), ?_, trivial, Inv_rf b3 _ _, rho_nil, frm_wI (by decide) (frm_wI (by decide) F2 (by decide)) (by decide), rfl⟩
          simp only [EV, LV, CB, OI, OL, NP, CZ, popN, CT, OZ, List.map_nil, List.map_cons, List.sum_nil, List.sum_cons, Option.toList, List.nil_append, List.cons_append, Int.reduceToNat, Nat.reduceAdd, Nat.reduceLT, Nat.reduceLeDiff, List.length_cons, List.length_nil, Nat.zero_add, if_true, if_false, reduceIte, and_self, and_true, true_and, eq_self, reduceCtorEq, C23, b1, hk, not_true_eq_false, G23, G24', t_refuse wS (d + 20)]
          rw [rn_eq, b_X4_takeLine_116]
          simp only [EV, LV, CB, OI, OL, NP, CZ, popN, CT, OZ, List.map_nil, List.map_cons, List.sum_nil, List.sum_cons, Option.toList, List.nil_append, List.cons_append, Int.reduceToNat, Nat.reduceAdd, Nat.reduceLT, Nat.reduceLeDiff, List.length_cons, List.length_nil, Nat.zero_add, if_true, if_false, reduceIte, and_self, and_true, true_and, eq_self, reduceCtorEq]
        · simp only [EV, LV, CB, OI, OL, NP, CZ, popN, CT, OZ, List.map_nil, List.map_cons, List.sum_nil, List.sum_cons, Option.toList, List.nil_append, List.cons_append, Int.reduceToNat, Nat.reduceAdd, Nat.reduceLT, Nat.reduceLeDiff, List.length_cons, List.length_nil, Nat.zero_add, if_true, if_false, reduceIte, and_self, and_true, true_and, eq_self, reduceCtorEq, C23, b1, hk, not_false_eq_true]
          have kb : 0 ≤ k.toInt ∧ k.toInt ≤ 7 := by
            rcases kk with kk | kk
            · simp only [Option.some.injEq] at kk
              exact absurd (Int32.toInt_inj.mp (by rw [← kk]; decide)) hk
            · exact ⟨kk.1, kk.2.1⟩
          have go : ∀ {a : List AnE} {e : AnE}, a.all (blkOK shP TV t_16 (mT 13) h_tl (codeZ 13) a) = true → a[0]? = some e → e.1 = 36 → e.2.1.2.1 = [] → e.2.1.2.2 = [] → (∀ L1, gT L1 [.ref 23, .int t, .ref 10, .int k] m2 e.2.1.1 [.ref 23, .int t, .ref 10, .int k]) → ∃ r, rn shP tb0 mN mO (semZ shP wS (d + 21)) none (codeZ 13) 36 [.ref 23, .int t, .ref 10, .int k] [] m2 = some r ∧ PostR TV m h_tl r := by
            intro a e hk he hpc hs hr hl
            have q := run_ok (mE := m) hC hk _ e (List.mem_of_getElem? he) [.ref 23, .int t, .ref 10, .int k] [] m2 (fun L1 => ⟨gL_of (L1 := L1) (hl L1), by rw [hs]; trivial, b3, by rw [hr]; exact rho_nil, F2⟩) (Nat.le_refl _)
            rw [hpc, mT_13] at q
            exact q
          by_cases h0 : k.toInt = 0
          · have : k = 0 := Int32.toInt_inj.mp (by rw [h0]; decide)
            subst this
            exact go k_tl0 rfl rfl rfl rfl (fun L1 => ⟨gv_rf 23, gv_tI t, gv_rf 10, gv_c0, trivial⟩)
          · by_cases h4 : k.toInt ≤ 4
            · exact go k_tl1 rfl rfl rfl rfl (fun L1 => ⟨gv_rf 23, gv_tI t, gv_rf 10, gv_i (by omega) h4, trivial⟩)
            · exact go k_tl5 rfl rfl rfl rfl (fun L1 => ⟨gv_rf 23, gv_tI t, gv_rf 10, gv_i (by omega) kb.2, trivial⟩)
end
section
/-! contracts of the text: written by wip/gen/contracts3.py -/
def h5_0 : CE := h_tl
def t_17 : List CE := [h5_0] ++ t_16
def c_254 : CE := (12, [rF [23], rF [10]], [], iA 0 159, [], ([11, 12, 13, 14, 15, 16, 17, 18, 26], [2000, 2001, 2002, 2003, 2004, 2005, 2006, 2007, 4601, 4602, 4604, 4801, 4802]), []) -- X4_tell
def ac_254 : List AnE := [(0, ([rF [23], rF [10], none, none], [], []), 645, [0, 0, 0, 0]),
  (24, ([rF [23], rF [10], iA 0 160, none], [], [(4601, 0, 0)]), 643, [0, 0, (-4), 0]),
  (50, ([rF [23], rF [10], iA 0 159, iA 1 4], [], [(4601, 0, 0)]), 642, [0, 0, (-4), 0]),
  (65, ([rF [23], rF [10], iA 0 159, iA 1 4], [], [(4601, 0, 0)]), 641, [0, 0, (-4), 0]),
  (71, ([rF [23], rF [10], iA 160 160, none], [], [(4601, 0, 0)]), 0, [0, 0, 0, 0])]
theorem kc_254 : chkM shP TV t_17 c_254 ac_254 = true := by decide +kernel
abbrev q_X4_tell : CE := c_254
def c_255 : CE := (25, [rF [1], rF [10]], [], none, [], ([2, 3, 4, 5, 6, 7, 8, 9], [200, 201, 202, 203, 204, 205, 206, 207]), []) -- X5_become
def ac_255 : List AnE := [(0, ([rF [1], rF [10]], [], []), 0, [0, 0])]
theorem kc_255 : chkM shP TV t_17 c_255 ac_255 = true := by decide +kernel
abbrev q_X5_become_6 : CE := c_255
def b_18 : List (CE × List AnE) := [(c_254, ac_254), (c_255, ac_255)]
def t_18 : List CE := [c_254, c_255] ++ t_17
theorem h_up18 {wS : List Value → Mm → Option Rs} {k : Nat} (h : Hall TV wS k t_17) : Hall TV wS (k + 1) t_18 := by
  refine Hall_step h b_18 ?_
  unfold b_18
  simp only [List.all_cons, List.all_nil, kc_254, kc_255, Bool.and_self]
def c_256 : CE := (45, [rF [0]], [], tI, [(4800, 0, 0)], ([2, 3, 4, 5, 6, 7, 8, 9, 11, 12, 13, 14, 15, 16, 17, 18, 26], [200, 201, 202, 203, 204, 205, 206, 207, 2000, 2001, 2002, 2003, 2004, 2005, 2006, 2007, 3800, 4601, 4602, 4604, 4800, 4801, 4802, 6400, 9200]), []) -- X6_text
def ac_256 : List AnE := [(0, ([rF [0], none, none], [], []), 8, [0, 0, 0]),
  (44, ([rF [0], iA 0 159, none], [], [(4601, 0, 0), (4800, 0, 0)]), 7, [0, 0, 0]),
  (65, ([rF [0], iA 0 159, iA 0 2], [], [(3800, 0, 0), (4601, 0, 0), (4800, 0, 0)]), 5, [0, 0, (-2)]),
  (86, ([rF [0], iA 0 159, iA 2 2], [], [(3800, 0, 0), (4601, 0, 0), (4800, 0, 0)]), 0, [0, 0, 0])]
theorem kc_256 : chkM shP TV t_18 c_256 ac_256 = true := by decide +kernel
abbrev q_X6_text : CE := c_256
def b_19 : List (CE × List AnE) := [(c_256, ac_256)]
def t_19 : List CE := [c_256] ++ t_18
theorem h_up19 {wS : List Value → Mm → Option Rs} {k : Nat} (h : Hall TV wS k t_18) : Hall TV wS (k + 1) t_19 := by
  refine Hall_step h b_19 ?_
  unfold b_19
  simp only [List.all_cons, List.all_nil, kc_256, Bool.and_self]
end
section
/-! the class' text -/
theorem hall_17 {wS : List Value → Mm → Option Rs} (hw : WOK wS) : Hall TV wS 22 t_17 := by
  intro d c hc
  unfold t_17 at hc
  rcases List.mem_append.mp hc with hc | hc
  · rcases List.mem_cons.mp hc with rfl | hc
    · exact hd_tl hw d
    cases hc
  · exact Hall_up (hall_16 hw) 1 d c hc
theorem hall_19 {wS : List Value → Mm → Option Rs} (hw : WOK wS) : Hall TV wS 24 t_19 := h_up19 (h_up18 (hall_17 hw))
end
section
/-! contracts of the text: written by wip/gen/contracts3.py -/
def c_257 : CE := (108, [rF [68], iA 0 1000], [], tI, [], ([], []), []) -- X7_byteAt
def ac_257 : List AnE := [(0, ([rF [68], iA 0 1000], [], []), 2, [0, 0]),
  (17, ([rF [68], iA 0 1000], [], []), 0, [0, 0]),
  (18, ([rF [68], iA 0 159], [tI], [(13609, 1, 160)]), 1, [0, 0])]
theorem kc_257 : chkM shP TV t_19 c_257 ac_257 = true := by decide +kernel
abbrev q_X7_byteAt : CE := c_257
def b_20 : List (CE × List AnE) := [(c_257, ac_257)]
def t_20 : List CE := [c_257] ++ t_19
theorem h_up20 {wS : List Value → Mm → Option Rs} {k : Nat} (h : Hall TV wS k t_19) : Hall TV wS (k + 1) t_20 := by
  refine Hall_step h b_20 ?_
  unfold b_20
  simp only [List.all_cons, List.all_nil, kc_257, Bool.and_self]
def c_258 : CE := (109, [rF [68], tI, tI, tI, tI], [], iA 0 1, [], ([], []), []) -- X7_is
def ac_258 : List AnE := [(0, ([rF [68], tI, tI, tI, tI], [], []), 2, [0, 0, 0, 0, 0]),
  (58, ([rF [68], tI, tI, tI, tI], [], []), 0, [0, 0, 0, 0, 0]),
  (59, ([rF [68], iA (-160) 160, tI, tI, tI], [cst 1], []), 1, [0, 0, 0, 0, 0])]
theorem kc_258 : chkM shP TV t_20 c_258 ac_258 = true := by decide +kernel
abbrev q_X7_is : CE := c_258
def c_259 : CE := (110, [rF [68], tI, tI, tI, tI], [], iA 0 1, [], ([], []), []) -- X7_ends
def ac_259 : List AnE := [(0, ([rF [68], tI, tI, tI, tI], [], []), 5, [0, 0, 0, 0, 0]),
  (32, ([rF [68], tI, iA 0 0, tI, tI], [], []), 4, [0, 0, 0, 0, 0]),
  (50, ([rF [68], tI, tI, iA 0 0, tI], [], []), 3, [0, 0, 0, 0, 0]),
  (71, ([rF [68], tI, tI, tI, iA 0 0], [], []), 2, [0, 0, 0, 0, 0]),
  (75, ([rF [68], tI, tI, tI, tI], [], []), 0, [0, 0, 0, 0, 0]),
  (76, ([rF [68], tI, tI, tI, tI], [cst 1], []), 1, [0, 0, 0, 0, 0])]
theorem kc_259 : chkM shP TV t_20 c_259 ac_259 = true := by decide +kernel
abbrev q_X7_ends : CE := c_259
def b_21 : List (CE × List AnE) := [(c_258, ac_258), (c_259, ac_259)]
def t_21 : List CE := [c_258, c_259] ++ t_20
theorem h_up21 {wS : List Value → Mm → Option Rs} {k : Nat} (h : Hall TV wS k t_20) : Hall TV wS (k + 1) t_21 := by
  refine Hall_step h b_21 ?_
  unfold b_21
  simp only [List.all_cons, List.all_nil, kc_258, kc_259, Bool.and_self]
def c_260 : CE := (111, [rF [68]], [], some (.inl ((0, 3, 1), some (-4), 0, (0, 0), [])), [], ([], []), []) -- X7_kindNow
def ac_260 : List AnE := [(0, ([rF [68]], [], []), 5, [0]),
  (29, ([rF [68]], [], []), 4, [0]),
  (58, ([rF [68]], [], []), 3, [0]),
  (92, ([rF [68]], [], []), 2, [0]),
  (123, ([rF [68]], [], []), 0, [0]),
  (125, ([rF [68]], [iA 2 3], []), 1, [0])]
theorem kc_260 : chkM shP TV t_21 c_260 ac_260 = true := by decide +kernel
abbrev q_X7_kindNow : CE := c_260
def b_22 : List (CE × List AnE) := [(c_260, ac_260)]
def t_22 : List CE := [c_260] ++ t_21
theorem h_up22 {wS : List Value → Mm → Option Rs} {k : Nat} (h : Hall TV wS k t_21) : Hall TV wS (k + 1) t_22 := by
  refine Hall_step h b_22 ?_
  unfold b_22
  simp only [List.all_cons, List.all_nil, kc_260, Bool.and_self]
def c_261 : CE := (112, [rF [68]], [], some (.inl ((0, 7, 1), some (-4), 0, (0, 0), [])), [], ([], []), []) -- X7_lineNow
def ac_261 : List AnE := [(0, ([rF [68]], [], []), 5, [0]),
  (32, ([rF [68]], [], []), 4, [0]),
  (61, ([rF [68]], [], []), 3, [0]),
  (92, ([rF [68]], [], []), 2, [0]),
  (124, ([rF [68]], [], []), 0, [0]),
  (128, ([rF [68]], [iA 6 7], []), 1, [0])]
theorem kc_261 : chkM shP TV t_22 c_261 ac_261 = true := by decide +kernel
abbrev q_X7_lineNow : CE := c_261
def b_23 : List (CE × List AnE) := [(c_261, ac_261)]
def t_23 : List CE := [c_261] ++ t_22
theorem h_up23 {wS : List Value → Mm → Option Rs} {k : Nat} (h : Hall TV wS k t_22) : Hall TV wS (k + 1) t_23 := by
  refine Hall_step h b_23 ?_
  unfold b_23
  simp only [List.all_cons, List.all_nil, kc_261, Bool.and_self]
end
section
/-! THE MODEL'S TAPE: its six numbers (pos, from, sort, value, fault, wrongAt) -/
def tk6 (r : Nat → Int32) (ps fr : Nat) (so va fa wr : Int32) : Nat → Int32 := fun j => if j = 10 then nI ps else if j = 11 then nI fr else if j = 12 then so else if j = 13 then va else if j = 14 then fa else if j = 15 then wr else r j
def pm (m : Mm) (ps fr : Nat) (so va fa wr : Int32) : Mm := setR m 68 (tk6 (m.1 68) ps fr so va fa wr)
theorem pm_id (m : Mm) {ps fr : Nat} (h1 : m.1 68 10 = nI ps) (h2 : m.1 68 11 = nI fr) : pm m ps fr (m.1 68 12) (m.1 68 13) (m.1 68 14) (m.1 68 15) = m := by
  have e : tk6 (m.1 68) ps fr (m.1 68 12) (m.1 68 13) (m.1 68 14) (m.1 68 15) = m.1 68 := by
    funext j
    unfold tk6
    split
    · rename_i h; rw [h, h1]
    split
    · rename_i h; rw [h, h2]
    split
    · rename_i h; rw [h]
    split
    · rename_i h; rw [h]
    split
    · rename_i h; rw [h]
    split
    · rename_i h; rw [h]
    · rfl
  unfold pm
  rw [e, setR_id]
section Pm
variable (m : Mm) (ps fr : Nat) (so va fa wr : Int32)
theorem pm_w10 (q : Nat) : wI (pm m ps fr so va fa wr) 68 10 (nI q) = pm m q fr so va fa wr := by
  unfold pm
  rw [wI_R, setR_s, setR_R]
  congr 1
  funext j
  simp only [upd, tk6]
  (repeat' split) <;> first | rfl | omega
theorem pm_w11 (q : Nat) : wI (pm m ps fr so va fa wr) 68 11 (nI q) = pm m ps q so va fa wr := by
  unfold pm
  rw [wI_R, setR_s, setR_R]
  congr 1
  funext j
  simp only [upd, tk6]
  (repeat' split) <;> first | rfl | omega
theorem pm_w12 (q : Int32) : wI (pm m ps fr so va fa wr) 68 12 (q) = pm m ps fr q va fa wr := by
  unfold pm
  rw [wI_R, setR_s, setR_R]
  congr 1
  funext j
  simp only [upd, tk6]
  (repeat' split) <;> first | rfl | omega
theorem pm_w13 (q : Int32) : wI (pm m ps fr so va fa wr) 68 13 (q) = pm m ps fr so q fa wr := by
  unfold pm
  rw [wI_R, setR_s, setR_R]
  congr 1
  funext j
  simp only [upd, tk6]
  (repeat' split) <;> first | rfl | omega
theorem pm_w14 (q : Int32) : wI (pm m ps fr so va fa wr) 68 14 (q) = pm m ps fr so va q wr := by
  unfold pm
  rw [wI_R, setR_s, setR_R]
  congr 1
  funext j
  simp only [upd, tk6]
  (repeat' split) <;> first | rfl | omega
theorem pm_w15 (q : Int32) : wI (pm m ps fr so va fa wr) 68 15 (q) = pm m ps fr so va fa q := by
  unfold pm
  rw [wI_R, setR_s, setR_R]
  congr 1
  funext j
  simp only [upd, tk6]
  (repeat' split) <;> first | rfl | omega
theorem pm_wo (j : Nat) (x : Int32) (h : j < 10 ∨ 15 < j) : wI (pm m ps fr so va fa wr) 68 j x = pm (wI m 68 j x) ps fr so va fa wr := by
  unfold pm
  rw [wI_R, setR_s, setR_R, wI_R]
  rw [show setR (setR m 68 (upd (m.1 68) j x)) 68 (tk6 ((setR m 68 (upd (m.1 68) j x)).1 68) ps fr so va fa wr) = setR m 68 (tk6 (upd (m.1 68) j x) ps fr so va fa wr) by rw [setR_s, setR_R]]
  congr 1
  funext i
  simp only [upd, tk6]
  (repeat' split) <;> first | rfl | omega
theorem pm_wd (j : Nat) (x : Int32) : wI (pm m ps fr so va fa wr) 72 j x = pm (wI m 72 j x) ps fr so va fa wr := by
  have e1 : (wI m 72 j x).1 68 = m.1 68 := by
    funext i
    rw [wI_at, if_neg (by omega)]
  unfold pm
  rw [e1]
  have : (wI (setR m 68 (tk6 (m.1 68) ps fr so va fa wr)) 72 j x).1 = (setR (wI m 72 j x) 68 (tk6 (m.1 68) ps fr so va fa wr)).1 := by
    funext o i
    rw [wI_at, setR_at, setR_at]
    by_cases h : o = 68
    · subst h
      rw [if_neg (by omega), if_pos rfl, if_pos rfl]
    · rw [if_neg h, if_neg h, wI_at]
  exact Prod.ext this rfl
theorem C68 : clO shP 68 = some 7 := rfl
theorem G68 : gfI shP 710 68 (pm m ps fr so va fa wr) = some (.int (nI ps)) ∧ gfI shP 711 68 (pm m ps fr so va fa wr) = some (.int (nI fr)) ∧ gfI shP 712 68 (pm m ps fr so va fa wr) = some (.int so) ∧ gfI shP 713 68 (pm m ps fr so va fa wr) = some (.int va) ∧ gfI shP 714 68 (pm m ps fr so va fa wr) = some (.int fa) ∧ gfI shP 715 68 (pm m ps fr so va fa wr) = some (.int wr) ∧ gfI shP 709 68 (pm m ps fr so va fa wr) = some (.int (m.1 68 9)) ∧ gfI shP 708 68 (pm m ps fr so va fa wr) = some (.ref 73) ∧ gfI shP 704 68 (pm m ps fr so va fa wr) = some (.ref 72) ∧ gfI shP 705 68 (pm m ps fr so va fa wr) = some (.int (m.1 68 5)) ∧ gfI shP 706 68 (pm m ps fr so va fa wr) = some (.int (m.1 68 6)) ∧ gfI shP 707 68 (pm m ps fr so va fa wr) = some (.int (m.1 68 7)) := ⟨rfl, rfl, rfl, rfl, rfl, rfl, rfl, rfl, rfl, rfl, rfl, rfl⟩
theorem P68 : (∀ x : Int32, pfI shP 710 68 (.int x) (pm m ps fr so va fa wr) = some (wI (pm m ps fr so va fa wr) 68 10 x)) ∧ (∀ x : Int32, pfI shP 711 68 (.int x) (pm m ps fr so va fa wr) = some (wI (pm m ps fr so va fa wr) 68 11 x)) ∧ (∀ x : Int32, pfI shP 712 68 (.int x) (pm m ps fr so va fa wr) = some (wI (pm m ps fr so va fa wr) 68 12 x)) ∧ (∀ x : Int32, pfI shP 713 68 (.int x) (pm m ps fr so va fa wr) = some (wI (pm m ps fr so va fa wr) 68 13 x)) ∧ (∀ x : Int32, pfI shP 714 68 (.int x) (pm m ps fr so va fa wr) = some (wI (pm m ps fr so va fa wr) 68 14 x)) ∧ (∀ x : Int32, pfI shP 715 68 (.int x) (pm m ps fr so va fa wr) = some (wI (pm m ps fr so va fa wr) 68 15 x)) ∧ (∀ x : Int32, pfI shP 705 68 (.int x) (pm m ps fr so va fa wr) = some (wI (pm m ps fr so va fa wr) 68 5 x)) ∧ (∀ x : Int32, pfI shP 706 68 (.int x) (pm m ps fr so va fa wr) = some (wI (pm m ps fr so va fa wr) 68 6 x)) ∧ (∀ x : Int32, pfI shP 707 68 (.int x) (pm m ps fr so va fa wr) = some (wI (pm m ps fr so va fa wr) 68 7 x)) := ⟨fun _ => rfl, fun _ => rfl, fun _ => rfl, fun _ => rfl, fun _ => rfl, fun _ => rfl, fun _ => rfl, fun _ => rfl, fun _ => rfl⟩
theorem A73 (i : Int32) : alI shP tb0 0 73 i (pm m ps fr so va fa wr) = if inR i 160 = true then some (m.1 73 i.toNatClampNeg) else none := by
  rw [al_of (n := 160) (rs := []) rfl]
  rfl
theorem A72 (i : Int32) : alI shP tb0 0 72 i (pm m ps fr so va fa wr) = if inR i 63 = true then some (m.1 72 i.toNatClampNeg) else none := by
  rw [al_of (n := 63) (rs := []) rfl]
  rfl
theorem S72 (i x : Int32) : asI shP 0 72 i x (pm m ps fr so va fa wr) = if inR i 63 = true then some (wI (pm m ps fr so va fa wr) 72 i.toNatClampNeg x) else none := as_of (n := 63) (rs := []) rfl i x _
end Pm
/-- the byte at a place, -1 behind the end -/
def bA (m : Mm) (p : Nat) : Int32 := if nI p < m.1 68 9 then m.1 73 p else -1
section Pn
variable (wS : List Value → Mm → Option Rs) (d : Nat) (m : Mm) (fr : Nat) (so va fa wr : Int32)
theorem t_byteAt (hT : (m.1 68 9).toInt ≤ 160) {p : Nat} (hp : p < 2 ^ 31) (ps : Nat) : semZ shP wS (d + 1) 108 [.ref 68, .int (nI p)] (pm m ps fr so va fa wr) = some (some (.int (bA m p)), pm m ps fr so va fa wr) := by
  unfold bA
  rw [se_X7_byteAt, rn_eq, b_X7_byteAt_0]
  by_cases h : nI p < m.1 68 9
  · have hi := Int32.lt_iff_toInt_lt.mp h
    rw [nI_toInt hp] at hi
    have e1 : ¬ m.1 68 9 ≤ nI p := Int32.not_le.mpr h
    have e2 : inR (nI p) 160 = true := inR_nI (by omega) (by omega)
    have e3 : (nI p).toNatClampNeg = p := nI_clamp hp
    simp only [EV, LV, CB, OI, OL, NP, CZ, popN, CT, OZ, List.map_nil, List.map_cons, List.sum_nil, List.sum_cons, Option.toList, List.nil_append, List.cons_append, Int.reduceToNat, Nat.reduceAdd, Nat.reduceLT, Nat.reduceLeDiff, List.length_cons, List.length_nil, Nat.zero_add, if_true, if_false, reduceIte, and_self, and_true, true_and, eq_self, reduceCtorEq, G68, A73, e1, e2, e3, h]
    rw [rn_eq, b_X7_byteAt_18]
    simp only [EV, LV, CB, OI, OL, NP, CZ, popN, CT, OZ, List.map_nil, List.map_cons, List.sum_nil, List.sum_cons, Option.toList, List.nil_append, List.cons_append, Int.reduceToNat, Nat.reduceAdd, Nat.reduceLT, Nat.reduceLeDiff, List.length_cons, List.length_nil, Nat.zero_add, if_true, if_false, reduceIte, and_self, and_true, true_and, eq_self, reduceCtorEq]
  · have e1 : m.1 68 9 ≤ nI p := Int32.not_lt.mp h
    simp only [EV, LV, CB, OI, OL, NP, CZ, popN, CT, OZ, List.map_nil, List.map_cons, List.sum_nil, List.sum_cons, Option.toList, List.nil_append, List.cons_append, Int.reduceToNat, Nat.reduceAdd, Nat.reduceLT, Nat.reduceLeDiff, List.length_cons, List.length_nil, Nat.zero_add, if_true, if_false, reduceIte, and_self, and_true, true_and, eq_self, reduceCtorEq, G68, e1, h]
    rw [rn_eq, b_X7_byteAt_17]
    simp only [EV, LV, CB, OI, OL, NP, CZ, popN, CT, OZ, List.map_nil, List.map_cons, List.sum_nil, List.sum_cons, Option.toList, List.nil_append, List.cons_append, Int.reduceToNat, Nat.reduceAdd, Nat.reduceLT, Nat.reduceLeDiff, List.length_cons, List.length_nil, Nat.zero_add, if_true, if_false, reduceIte, and_self, and_true, true_and, eq_self, reduceCtorEq]
theorem bA_ge (hT : (m.1 68 9).toInt ≤ 160) {p : Nat} (hp : 160 ≤ p) (hp2 : p < 2 ^ 31) : bA m p = -1 := by
  unfold bA
  rw [if_neg]
  intro h
  have hi := Int32.lt_iff_toInt_lt.mp h
  rw [nI_toInt hp2] at hi
  omega
theorem t_needs (ps : Nat) (g c : Int32) : semZ shP wS (d + 1) 107 [.ref 68, .int g, .int c] (pm m ps fr so va fa wr) = some (none, if g = 0 ∧ fa = 0 then pm m ps fr so va c (nI fr) else pm m ps fr so va fa wr) := by
  rw [se_X7_needs, rn_eq, b_X7_needs_0]
  by_cases h1 : g = 0
  · by_cases h2 : fa = 0
    · simp only [EV, LV, CB, OI, OL, NP, CZ, popN, CT, OZ, List.map_nil, List.map_cons, List.sum_nil, List.sum_cons, Option.toList, List.nil_append, List.cons_append, Int.reduceToNat, Nat.reduceAdd, Nat.reduceLT, Nat.reduceLeDiff, List.length_cons, List.length_nil, Nat.zero_add, if_true, if_false, reduceIte, and_self, and_true, true_and, eq_self, reduceCtorEq, G68, P68, h1, h2, not_true_eq_false, pm_w14, pm_w15]
    · simp only [EV, LV, CB, OI, OL, NP, CZ, popN, CT, OZ, List.map_nil, List.map_cons, List.sum_nil, List.sum_cons, Option.toList, List.nil_append, List.cons_append, Int.reduceToNat, Nat.reduceAdd, Nat.reduceLT, Nat.reduceLeDiff, List.length_cons, List.length_nil, Nat.zero_add, if_true, if_false, reduceIte, and_self, and_true, true_and, eq_self, reduceCtorEq, G68, h1, h2, not_true_eq_false, not_false_eq_true, and_false]
      rw [rn_eq, b_X7_needs_24]
      simp only [EV, LV, CB, OI, OL, NP, CZ, popN, CT, OZ, List.map_nil, List.map_cons, List.sum_nil, List.sum_cons, Option.toList, List.nil_append, List.cons_append, Int.reduceToNat, Nat.reduceAdd, Nat.reduceLT, Nat.reduceLeDiff, List.length_cons, List.length_nil, Nat.zero_add, if_true, if_false, reduceIte, and_self, and_true, true_and, eq_self, reduceCtorEq]
  · simp only [EV, LV, CB, OI, OL, NP, CZ, popN, CT, OZ, List.map_nil, List.map_cons, List.sum_nil, List.sum_cons, Option.toList, List.nil_append, List.cons_append, Int.reduceToNat, Nat.reduceAdd, Nat.reduceLT, Nat.reduceLeDiff, List.length_cons, List.length_nil, Nat.zero_add, if_true, if_false, reduceIte, and_self, and_true, true_and, eq_self, reduceCtorEq, h1, not_false_eq_true, false_and]
    rw [rn_eq, b_X7_needs_24]
    simp only [EV, LV, CB, OI, OL, NP, CZ, popN, CT, OZ, List.map_nil, List.map_cons, List.sum_nil, List.sum_cons, Option.toList, List.nil_append, List.cons_append, Int.reduceToNat, Nat.reduceAdd, Nat.reduceLT, Nat.reduceLeDiff, List.length_cons, List.length_nil, Nat.zero_add, if_true, if_false, reduceIte, and_self, and_true, true_and, eq_self, reduceCtorEq]
theorem tk_8 (hT : (m.1 68 9).toInt ≤ 160) : ∀ (k p : Nat), p + k = 160 → ∃ p', p ≤ p' ∧ p' ≤ 160 ∧ rn shP tb0 mN mO (semZ shP wS (d + 1)) none (codeZ 113) 8 [.ref 68, noV] [] (pm m p fr so va fa wr) = rn shP tb0 mN mO (semZ shP wS (d + 1)) none (codeZ 113) 34 [.ref 68, noV] [] (pm m p' fr so va fa wr) := by
  intro k
  induction k with
  | zero =>
    intro p hp
    refine ⟨p, Nat.le_refl _, by omega, ?_⟩
    have e := bA_ge m hT (p := p) (by omega) (by omega)
    have e2 : ¬ (-1 : Int32) = 32 := by decide
    rw [rn_eq, b_X7_takes_8]
    simp only [EV, LV, CB, OI, OL, NP, CZ, popN, CT, OZ, List.map_nil, List.map_cons, List.sum_nil, List.sum_cons, Option.toList, List.nil_append, List.cons_append, Int.reduceToNat, Nat.reduceAdd, Nat.reduceLT, Nat.reduceLeDiff, List.length_cons, List.length_nil, Nat.zero_add, if_true, if_false, reduceIte, and_self, and_true, true_and, eq_self, reduceCtorEq, C68, G68, t_byteAt wS d m fr so va fa wr hT (by omega : p < 2 ^ 31), e, e2, not_false_eq_true]
  | succ k ih =>
    intro p hp
    by_cases h : bA m p = 32
    · obtain ⟨p', a1, a2, a3⟩ := ih (p + 1) (by omega)
      refine ⟨p', by omega, a2, ?_⟩
      rw [rn_eq, b_X7_takes_8]
      simp only [EV, LV, CB, OI, OL, NP, CZ, popN, CT, OZ, List.map_nil, List.map_cons, List.sum_nil, List.sum_cons, Option.toList, List.nil_append, List.cons_append, Int.reduceToNat, Nat.reduceAdd, Nat.reduceLT, Nat.reduceLeDiff, List.length_cons, List.length_nil, Nat.zero_add, if_true, if_false, reduceIte, and_self, and_true, true_and, eq_self, reduceCtorEq, C68, G68, P68, t_byteAt wS d m fr so va fa wr hT (by omega : p < 2 ^ 31), h, nI_1, pm_w10, not_true_eq_false]
      exact a3
    · refine ⟨p, Nat.le_refl _, by omega, ?_⟩
      rw [rn_eq, b_X7_takes_8]
      simp only [EV, LV, CB, OI, OL, NP, CZ, popN, CT, OZ, List.map_nil, List.map_cons, List.sum_nil, List.sum_cons, Option.toList, List.nil_append, List.cons_append, Int.reduceToNat, Nat.reduceAdd, Nat.reduceLT, Nat.reduceLeDiff, List.length_cons, List.length_nil, Nat.zero_add, if_true, if_false, reduceIte, and_self, and_true, true_and, eq_self, reduceCtorEq, C68, G68, t_byteAt wS d m fr so va fa wr hT (by omega : p < 2 ^ 31), h, not_false_eq_true]
/-- a byte within bounds -/
def bW (b : Int32) (lo hi : Int64) : Bool := decide (lo ≤ b.toInt64) && decide (b.toInt64 ≤ hi)
theorem bW_m1 : bW (-1) 97 122 = false ∧ bW (-1) 48 57 = false := by decide
theorem tk_82 (hT : (m.1 68 9).toInt ≤ 160) (c : Int32) : ∀ (k p : Nat), p + k = 160 → ∃ p', p ≤ p' ∧ p' ≤ 160 ∧ (bW (bA m p) 97 122 = true → p < p') ∧ rn shP tb0 mN mO (semZ shP wS (d + 1)) none (codeZ 113) 82 [.ref 68, .int c] [] (pm m p fr so va fa wr) = some (none, pm m p' fr so va fa wr) := by
  intro k
  induction k with
  | zero =>
    intro p hp
    have e := bA_ge m hT (p := p) (by omega) (by omega)
    have e3 : (decide ((97 : Int64) ≤ (-1 : Int32).toInt64) && decide ((-1 : Int32).toInt64 ≤ 122)) = false := bW_m1.1
    refine ⟨p, Nat.le_refl _, by omega, fun h => ?_, ?_⟩
    · rw [e, bW_m1.1] at h; cases h
    rw [rn_eq, b_X7_takes_82]
    simp only [EV, LV, CB, OI, OL, NP, CZ, popN, CT, OZ, List.map_nil, List.map_cons, List.sum_nil, List.sum_cons, Option.toList, List.nil_append, List.cons_append, Int.reduceToNat, Nat.reduceAdd, Nat.reduceLT, Nat.reduceLeDiff, List.length_cons, List.length_nil, Nat.zero_add, if_true, if_false, reduceIte, and_self, and_true, true_and, eq_self, reduceCtorEq, C68, G68, t_byteAt wS d m fr so va fa wr hT (by omega : p < 2 ^ 31), e, t_in wS d, e3, bI_f]
    rw [rn_eq, b_X7_takes_274]
    simp only [EV, LV, CB, OI, OL, NP, CZ, popN, CT, OZ, List.map_nil, List.map_cons, List.sum_nil, List.sum_cons, Option.toList, List.nil_append, List.cons_append, Int.reduceToNat, Nat.reduceAdd, Nat.reduceLT, Nat.reduceLeDiff, List.length_cons, List.length_nil, Nat.zero_add, if_true, if_false, reduceIte, and_self, and_true, true_and, eq_self, reduceCtorEq]
  | succ k ih =>
    intro p hp
    have e10 : ¬ (1 : Int32) = 0 := by decide
    cases h : bW (bA m p) 97 122 with
    | true =>
      obtain ⟨p', a1, a2, -, a3⟩ := ih (p + 1) (by omega)
      have h' : (decide ((97 : Int64) ≤ (bA m p).toInt64) && decide ((bA m p).toInt64 ≤ 122)) = true := h
      refine ⟨p', by omega, a2, fun _ => by omega, ?_⟩
      rw [rn_eq, b_X7_takes_82]
      simp only [EV, LV, CB, OI, OL, NP, CZ, popN, CT, OZ, List.map_nil, List.map_cons, List.sum_nil, List.sum_cons, Option.toList, List.nil_append, List.cons_append, Int.reduceToNat, Nat.reduceAdd, Nat.reduceLT, Nat.reduceLeDiff, List.length_cons, List.length_nil, Nat.zero_add, if_true, if_false, reduceIte, and_self, and_true, true_and, eq_self, reduceCtorEq, C68, G68, P68, t_byteAt wS d m fr so va fa wr hT (by omega : p < 2 ^ 31), t_in wS d, h', bI_t, e10, nI_1, pm_w10]
      exact a3
    | false =>
      have h' : (decide ((97 : Int64) ≤ (bA m p).toInt64) && decide ((bA m p).toInt64 ≤ 122)) = false := h
      refine ⟨p, Nat.le_refl _, by omega, fun z => (by cases z), ?_⟩
      rw [rn_eq, b_X7_takes_82]
      simp only [EV, LV, CB, OI, OL, NP, CZ, popN, CT, OZ, List.map_nil, List.map_cons, List.sum_nil, List.sum_cons, Option.toList, List.nil_append, List.cons_append, Int.reduceToNat, Nat.reduceAdd, Nat.reduceLT, Nat.reduceLeDiff, List.length_cons, List.length_nil, Nat.zero_add, if_true, if_false, reduceIte, and_self, and_true, true_and, eq_self, reduceCtorEq, C68, G68, t_byteAt wS d m fr so va fa wr hT (by omega : p < 2 ^ 31), t_in wS d, h', bI_f]
      rw [rn_eq, b_X7_takes_274]
      simp only [EV, LV, CB, OI, OL, NP, CZ, popN, CT, OZ, List.map_nil, List.map_cons, List.sum_nil, List.sum_cons, Option.toList, List.nil_append, List.cons_append, Int.reduceToNat, Nat.reduceAdd, Nat.reduceLT, Nat.reduceLeDiff, List.length_cons, List.length_nil, Nat.zero_add, if_true, if_false, reduceIte, and_self, and_true, true_and, eq_self, reduceCtorEq]
theorem tk_140 (hT : (m.1 68 9).toInt ≤ 160) (c : Int32) : ∀ (k p : Nat), p + k = 160 → ∀ va : Int32, ∃ (p' : Nat) (va' : Int32), p ≤ p' ∧ p' ≤ 160 ∧ (bW (bA m p) 48 57 = true → p < p') ∧ rn shP tb0 mN mO (semZ shP wS (d + 1)) none (codeZ 113) 140 [.ref 68, .int c] [] (pm m p fr so va fa wr) = rn shP tb0 mN mO (semZ shP wS (d + 1)) none (codeZ 113) 217 [.ref 68, .int c] [] (pm m p' fr so va' fa wr) := by
  intro k
  induction k with
  | zero =>
    intro p hp va
    have e := bA_ge m hT (p := p) (by omega) (by omega)
    have e3 : (decide ((48 : Int64) ≤ (-1 : Int32).toInt64) && decide ((-1 : Int32).toInt64 ≤ 57)) = false := bW_m1.2
    refine ⟨p, va, Nat.le_refl _, by omega, fun h => ?_, ?_⟩
    · rw [e, bW_m1.2] at h; cases h
    rw [rn_eq, b_X7_takes_140]
    simp only [EV, LV, CB, OI, OL, NP, CZ, popN, CT, OZ, List.map_nil, List.map_cons, List.sum_nil, List.sum_cons, Option.toList, List.nil_append, List.cons_append, Int.reduceToNat, Nat.reduceAdd, Nat.reduceLT, Nat.reduceLeDiff, List.length_cons, List.length_nil, Nat.zero_add, if_true, if_false, reduceIte, and_self, and_true, true_and, eq_self, reduceCtorEq, C68, G68, t_byteAt wS d m fr so va fa wr hT (by omega : p < 2 ^ 31), e, t_in wS d, e3, bI_f]
  | succ k ih =>
    intro p hp va
    have e10 : ¬ (1 : Int32) = 0 := by decide
    cases h : bW (bA m p) 48 57 with
    | true =>
      have h' : (decide ((48 : Int64) ≤ (bA m p).toInt64) && decide ((bA m p).toInt64 ≤ 57)) = true := h
      by_cases h2 : (2 : Int32) ≤ nI p - nI fr
      · obtain ⟨p', va', a1, a2, -, a3⟩ := ih (p + 1) (by omega) va
        refine ⟨p', va', by omega, a2, fun _ => by omega, ?_⟩
        rw [rn_eq, b_X7_takes_140]
        simp only [EV, LV, CB, OI, OL, NP, CZ, popN, CT, OZ, List.map_nil, List.map_cons, List.sum_nil, List.sum_cons, Option.toList, List.nil_append, List.cons_append, Int.reduceToNat, Nat.reduceAdd, Nat.reduceLT, Nat.reduceLeDiff, List.length_cons, List.length_nil, Nat.zero_add, if_true, if_false, reduceIte, and_self, and_true, true_and, eq_self, reduceCtorEq, C68, G68, t_byteAt wS d m fr so va fa wr hT (by omega : p < 2 ^ 31), t_in wS d, h', bI_t, e10, h2]
        rw [rn_eq, b_X7_takes_197]
        simp only [EV, LV, CB, OI, OL, NP, CZ, popN, CT, OZ, List.map_nil, List.map_cons, List.sum_nil, List.sum_cons, Option.toList, List.nil_append, List.cons_append, Int.reduceToNat, Nat.reduceAdd, Nat.reduceLT, Nat.reduceLeDiff, List.length_cons, List.length_nil, Nat.zero_add, if_true, if_false, reduceIte, and_self, and_true, true_and, eq_self, reduceCtorEq, G68, P68, pm_w13, nI_1, pm_w10]
        exact a3
      · obtain ⟨p', va', a1, a2, -, a3⟩ := ih (p + 1) (by omega) (10 * va + bA m p - 48)
        refine ⟨p', va', by omega, a2, fun _ => by omega, ?_⟩
        rw [rn_eq, b_X7_takes_140]
        simp only [EV, LV, CB, OI, OL, NP, CZ, popN, CT, OZ, List.map_nil, List.map_cons, List.sum_nil, List.sum_cons, Option.toList, List.nil_append, List.cons_append, Int.reduceToNat, Nat.reduceAdd, Nat.reduceLT, Nat.reduceLeDiff, List.length_cons, List.length_nil, Nat.zero_add, if_true, if_false, reduceIte, and_self, and_true, true_and, eq_self, reduceCtorEq, C68, G68, t_byteAt wS d m fr so va fa wr hT (by omega : p < 2 ^ 31), t_in wS d, h', bI_t, e10, h2]
        rw [rn_eq, b_X7_takes_201]
        simp only [EV, LV, CB, OI, OL, NP, CZ, popN, CT, OZ, List.map_nil, List.map_cons, List.sum_nil, List.sum_cons, Option.toList, List.nil_append, List.cons_append, Int.reduceToNat, Nat.reduceAdd, Nat.reduceLT, Nat.reduceLeDiff, List.length_cons, List.length_nil, Nat.zero_add, if_true, if_false, reduceIte, and_self, and_true, true_and, eq_self, reduceCtorEq, G68, P68, pm_w13, nI_1, pm_w10]
        exact a3
    | false =>
      have h' : (decide ((48 : Int64) ≤ (bA m p).toInt64) && decide ((bA m p).toInt64 ≤ 57)) = false := h
      refine ⟨p, va, Nat.le_refl _, by omega, fun z => (by cases z), ?_⟩
      rw [rn_eq, b_X7_takes_140]
      simp only [EV, LV, CB, OI, OL, NP, CZ, popN, CT, OZ, List.map_nil, List.map_cons, List.sum_nil, List.sum_cons, Option.toList, List.nil_append, List.cons_append, Int.reduceToNat, Nat.reduceAdd, Nat.reduceLT, Nat.reduceLeDiff, List.length_cons, List.length_nil, Nat.zero_add, if_true, if_false, reduceIte, and_self, and_true, true_and, eq_self, reduceCtorEq, C68, G68, t_byteAt wS d m fr so va fa wr hT (by omega : p < 2 ^ 31), t_in wS d, h', bI_f]
end Pn
end
section
/-! THE MODEL'S TOKENS -/
section Pt
variable (wS : List Value → Mm → Option Rs) (d : Nat) (m : Mm)
theorem t_takes_f (ps fr : Nat) (so va fa wr : Int32) (h : 0 < fa) : semZ shP wS (d + 1) 113 [.ref 68] (pm m ps fr so va fa wr) = some (none, pm m ps fr so va fa wr) := by
  have e1 : ¬ fa ≤ 0 := Int32.not_le.mpr h
  rw [se_X7_takes, rn_eq, b_X7_takes_0]
  simp only [EV, LV, CB, OI, OL, NP, CZ, popN, CT, OZ, List.map_nil, List.map_cons, List.sum_nil, List.sum_cons, Option.toList, List.nil_append, List.cons_append, Int.reduceToNat, Nat.reduceAdd, Nat.reduceLT, Nat.reduceLeDiff, List.length_cons, List.length_nil, Nat.zero_add, if_true, if_false, reduceIte, and_self, and_true, true_and, eq_self, reduceCtorEq, G68, e1]
theorem t_takes (hT : (m.1 68 9).toInt ≤ 160) {ps : Nat} (hp : ps ≤ 160) (fr : Nat) (so va wr : Int32) : ∃ (ps' fr' : Nat) (so' va' fa' wr' : Int32), semZ shP wS (d + 2) 113 [.ref 68] (pm m ps fr so va 0 wr) = some (none, pm m ps' fr' so' va' fa' wr') ∧ ps ≤ ps' ∧ ps' ≤ 160 ∧ fr' ≤ 160 ∧ (0 ≤ so'.toInt ∧ so'.toInt ≤ 3) ∧ (fa' = 0 ∨ fa' = 1) ∧ (¬ so' = 0 → ps < ps') := by
  obtain ⟨p1, a1, a2, a3⟩ := tk_8 wS d m fr so va 0 wr hT (160 - ps) ps (by omega)
  have e00 : (0 : Int32) ≤ 0 := by decide
  have e10 : ¬ (1 : Int32) = 0 := by decide
  have es : semZ shP wS (d + 2) 113 [.ref 68] (pm m ps fr so va 0 wr) = rn shP tb0 mN mO (semZ shP wS (d + 1)) none (codeZ 113) 34 [.ref 68, noV] [] (pm m p1 fr so va 0 wr) := by
    rw [se_X7_takes, rn_eq, b_X7_takes_0]
    simp only [EV, LV, CB, OI, OL, NP, CZ, popN, CT, OZ, List.map_nil, List.map_cons, List.sum_nil, List.sum_cons, Option.toList, List.nil_append, List.cons_append, Int.reduceToNat, Nat.reduceAdd, Nat.reduceLT, Nat.reduceLeDiff, List.length_cons, List.length_nil, Nat.zero_add, if_true, if_false, reduceIte, and_self, and_true, true_and, eq_self, reduceCtorEq, G68, e00]
    exact a3
  rw [es]
  by_cases hc : 0 ≤ bA m p1
  · have st63 : rn shP tb0 mN mO (semZ shP wS (d + 1)) none (codeZ 113) 34 [.ref 68, noV] [] (pm m p1 fr so va 0 wr) = rn shP tb0 mN mO (semZ shP wS (d + 1)) none (codeZ 113) 63 [.ref 68, .int (bA m p1)] [] (pm m p1 p1 so va 0 wr) := by
      rw [rn_eq, b_X7_takes_34]
      simp only [EV, LV, CB, OI, OL, NP, CZ, popN, CT, OZ, List.map_nil, List.map_cons, List.sum_nil, List.sum_cons, Option.toList, List.nil_append, List.cons_append, Int.reduceToNat, Nat.reduceAdd, Nat.reduceLT, Nat.reduceLeDiff, List.length_cons, List.length_nil, Nat.zero_add, if_true, if_false, reduceIte, and_self, and_true, true_and, eq_self, reduceCtorEq, C68, G68, P68, pm_w11, t_byteAt wS d m p1 so va 0 wr hT (by omega : p1 < 2 ^ 31), hc]
    have hlt : p1 < 160 := by
      apply Nat.lt_of_not_le
      intro z
      rw [bA_ge m hT z (by omega)] at hc
      exact absurd hc (by decide)
    rw [st63]
    cases h1 : bW (bA m p1) 97 122 with
    | true =>
      have h1' : (decide ((97 : Int64) ≤ (bA m p1).toInt64) && decide ((bA m p1).toInt64 ≤ 122)) = true := h1
      obtain ⟨p2, b1, b2, b3, b4⟩ := tk_82 wS d m p1 1 va 0 wr hT (bA m p1) (160 - p1) p1 (by omega)
      refine ⟨p2, p1, 1, va, 0, wr, ?_, by omega, b2, a2, by decide, Or.inl rfl, fun _ => ?_⟩
      · rw [rn_eq, b_X7_takes_63]
        simp only [EV, LV, CB, OI, OL, NP, CZ, popN, CT, OZ, List.map_nil, List.map_cons, List.sum_nil, List.sum_cons, Option.toList, List.nil_append, List.cons_append, Int.reduceToNat, Nat.reduceAdd, Nat.reduceLT, Nat.reduceLeDiff, List.length_cons, List.length_nil, Nat.zero_add, if_true, if_false, reduceIte, and_self, and_true, true_and, eq_self, reduceCtorEq, t_in wS d, h1', bI_t, e10, P68, pm_w12]
        exact b4
      · have := b3 h1
        omega
    | false =>
      have h1' : (decide ((97 : Int64) ≤ (bA m p1).toInt64) && decide ((bA m p1).toInt64 ≤ 122)) = false := h1
      have st116 : rn shP tb0 mN mO (semZ shP wS (d + 1)) none (codeZ 113) 63 [.ref 68, .int (bA m p1)] [] (pm m p1 p1 so va 0 wr) = rn shP tb0 mN mO (semZ shP wS (d + 1)) none (codeZ 113) 116 [.ref 68, .int (bA m p1)] [] (pm m p1 p1 so va 0 wr) := by
        rw [rn_eq, b_X7_takes_63]
        simp only [EV, LV, CB, OI, OL, NP, CZ, popN, CT, OZ, List.map_nil, List.map_cons, List.sum_nil, List.sum_cons, Option.toList, List.nil_append, List.cons_append, Int.reduceToNat, Nat.reduceAdd, Nat.reduceLT, Nat.reduceLeDiff, List.length_cons, List.length_nil, Nat.zero_add, if_true, if_false, reduceIte, and_self, and_true, true_and, eq_self, reduceCtorEq, t_in wS d, h1', bI_f]
      rw [st116]
      cases h2 : bW (bA m p1) 48 57 with
      | true =>
        have h2' : (decide ((48 : Int64) ≤ (bA m p1).toInt64) && decide ((bA m p1).toInt64 ≤ 57)) = true := h2
        obtain ⟨p2, va', b1, b2, b3, b4⟩ := tk_140 wS d m p1 2 0 wr hT (bA m p1) (160 - p1) p1 (by omega) 0
        have st217 : rn shP tb0 mN mO (semZ shP wS (d + 1)) none (codeZ 113) 116 [.ref 68, .int (bA m p1)] [] (pm m p1 p1 so va 0 wr) = rn shP tb0 mN mO (semZ shP wS (d + 1)) none (codeZ 113) 217 [.ref 68, .int (bA m p1)] [] (pm m p2 p1 2 va' 0 wr) := by
          rw [rn_eq, b_X7_takes_116]
          simp only [EV, LV, CB, OI, OL, NP, CZ, popN, CT, OZ, List.map_nil, List.map_cons, List.sum_nil, List.sum_cons, Option.toList, List.nil_append, List.cons_append, Int.reduceToNat, Nat.reduceAdd, Nat.reduceLT, Nat.reduceLeDiff, List.length_cons, List.length_nil, Nat.zero_add, if_true, if_false, reduceIte, and_self, and_true, true_and, eq_self, reduceCtorEq, t_in wS d, h2', bI_t, e10, P68, pm_w12, pm_w13]
          exact b4
        have hlt2 := b3 h2
        rw [st217]
        by_cases h3 : (2 : Int32) < nI p2 - nI p1
        · refine ⟨p2, p1, 2, va', 1, nI p1, ?_, by omega, b2, a2, by decide, Or.inr rfl, fun _ => by omega⟩
          rw [rn_eq, b_X7_takes_217]
          simp only [EV, LV, CB, OI, OL, NP, CZ, popN, CT, OZ, List.map_nil, List.map_cons, List.sum_nil, List.sum_cons, Option.toList, List.nil_append, List.cons_append, Int.reduceToNat, Nat.reduceAdd, Nat.reduceLT, Nat.reduceLeDiff, List.length_cons, List.length_nil, Nat.zero_add, if_true, if_false, reduceIte, and_self, and_true, true_and, eq_self, reduceCtorEq, G68, h3]
          rw [rn_eq, b_X7_takes_235]
          simp only [EV, LV, CB, OI, OL, NP, CZ, popN, CT, OZ, List.map_nil, List.map_cons, List.sum_nil, List.sum_cons, Option.toList, List.nil_append, List.cons_append, Int.reduceToNat, Nat.reduceAdd, Nat.reduceLT, Nat.reduceLeDiff, List.length_cons, List.length_nil, Nat.zero_add, if_true, if_false, reduceIte, and_self, and_true, true_and, eq_self, reduceCtorEq, C68, t_needs wS d]
          rw [rn_eq, b_X7_takes_274]
          simp only [EV, LV, CB, OI, OL, NP, CZ, popN, CT, OZ, List.map_nil, List.map_cons, List.sum_nil, List.sum_cons, Option.toList, List.nil_append, List.cons_append, Int.reduceToNat, Nat.reduceAdd, Nat.reduceLT, Nat.reduceLeDiff, List.length_cons, List.length_nil, Nat.zero_add, if_true, if_false, reduceIte, and_self, and_true, true_and, eq_self, reduceCtorEq]
        · refine ⟨p2, p1, 2, va', 0, wr, ?_, by omega, b2, a2, by decide, Or.inl rfl, fun _ => by omega⟩
          rw [rn_eq, b_X7_takes_217]
          simp only [EV, LV, CB, OI, OL, NP, CZ, popN, CT, OZ, List.map_nil, List.map_cons, List.sum_nil, List.sum_cons, Option.toList, List.nil_append, List.cons_append, Int.reduceToNat, Nat.reduceAdd, Nat.reduceLT, Nat.reduceLeDiff, List.length_cons, List.length_nil, Nat.zero_add, if_true, if_false, reduceIte, and_self, and_true, true_and, eq_self, reduceCtorEq, G68, h3]
          rw [rn_eq, b_X7_takes_236]
          simp only [EV, LV, CB, OI, OL, NP, CZ, popN, CT, OZ, List.map_nil, List.map_cons, List.sum_nil, List.sum_cons, Option.toList, List.nil_append, List.cons_append, Int.reduceToNat, Nat.reduceAdd, Nat.reduceLT, Nat.reduceLeDiff, List.length_cons, List.length_nil, Nat.zero_add, if_true, if_false, reduceIte, and_self, and_true, true_and, eq_self, reduceCtorEq, C68, t_needs wS d, e10, false_and]
          rw [rn_eq, b_X7_takes_274]
          simp only [EV, LV, CB, OI, OL, NP, CZ, popN, CT, OZ, List.map_nil, List.map_cons, List.sum_nil, List.sum_cons, Option.toList, List.nil_append, List.cons_append, Int.reduceToNat, Nat.reduceAdd, Nat.reduceLT, Nat.reduceLeDiff, List.length_cons, List.length_nil, Nat.zero_add, if_true, if_false, reduceIte, and_self, and_true, true_and, eq_self, reduceCtorEq]
      | false =>
        have h2' : (decide ((48 : Int64) ≤ (bA m p1).toInt64) && decide ((bA m p1).toInt64 ≤ 57)) = false := h2
        have st243 : rn shP tb0 mN mO (semZ shP wS (d + 1)) none (codeZ 113) 116 [.ref 68, .int (bA m p1)] [] (pm m p1 p1 so va 0 wr) = rn shP tb0 mN mO (semZ shP wS (d + 1)) none (codeZ 113) 243 [.ref 68, .int (bA m p1)] [] (pm m p1 p1 so va 0 wr) := by
          rw [rn_eq, b_X7_takes_116]
          simp only [EV, LV, CB, OI, OL, NP, CZ, popN, CT, OZ, List.map_nil, List.map_cons, List.sum_nil, List.sum_cons, Option.toList, List.nil_append, List.cons_append, Int.reduceToNat, Nat.reduceAdd, Nat.reduceLT, Nat.reduceLeDiff, List.length_cons, List.length_nil, Nat.zero_add, if_true, if_false, reduceIte, and_self, and_true, true_and, eq_self, reduceCtorEq, t_in wS d, h2', bI_f]
        rw [st243]
        by_cases h3 : bA m p1 = 59
        · refine ⟨p1 + 1, p1, 3, va, 0, wr, ?_, by omega, by omega, a2, by decide, Or.inl rfl, fun _ => by omega⟩
          rw [rn_eq, b_X7_takes_243]
          simp only [EV, LV, CB, OI, OL, NP, CZ, popN, CT, OZ, List.map_nil, List.map_cons, List.sum_nil, List.sum_cons, Option.toList, List.nil_append, List.cons_append, Int.reduceToNat, Nat.reduceAdd, Nat.reduceLT, Nat.reduceLeDiff, List.length_cons, List.length_nil, Nat.zero_add, if_true, if_false, reduceIte, and_self, and_true, true_and, eq_self, reduceCtorEq, P68, pm_w12, h3, not_true_eq_false]
          rw [rn_eq, b_X7_takes_260]
          simp only [EV, LV, CB, OI, OL, NP, CZ, popN, CT, OZ, List.map_nil, List.map_cons, List.sum_nil, List.sum_cons, Option.toList, List.nil_append, List.cons_append, Int.reduceToNat, Nat.reduceAdd, Nat.reduceLT, Nat.reduceLeDiff, List.length_cons, List.length_nil, Nat.zero_add, if_true, if_false, reduceIte, and_self, and_true, true_and, eq_self, reduceCtorEq, C68, t_needs wS d, e10, false_and, G68, P68, nI_1, pm_w10]
        · refine ⟨p1 + 1, p1, 3, va, 1, nI p1, ?_, by omega, by omega, a2, by decide, Or.inr rfl, fun _ => by omega⟩
          rw [rn_eq, b_X7_takes_243]
          simp only [EV, LV, CB, OI, OL, NP, CZ, popN, CT, OZ, List.map_nil, List.map_cons, List.sum_nil, List.sum_cons, Option.toList, List.nil_append, List.cons_append, Int.reduceToNat, Nat.reduceAdd, Nat.reduceLT, Nat.reduceLeDiff, List.length_cons, List.length_nil, Nat.zero_add, if_true, if_false, reduceIte, and_self, and_true, true_and, eq_self, reduceCtorEq, P68, pm_w12, h3, not_false_eq_true]
          rw [rn_eq, b_X7_takes_259]
          simp only [EV, LV, CB, OI, OL, NP, CZ, popN, CT, OZ, List.map_nil, List.map_cons, List.sum_nil, List.sum_cons, Option.toList, List.nil_append, List.cons_append, Int.reduceToNat, Nat.reduceAdd, Nat.reduceLT, Nat.reduceLeDiff, List.length_cons, List.length_nil, Nat.zero_add, if_true, if_false, reduceIte, and_self, and_true, true_and, eq_self, reduceCtorEq, C68, t_needs wS d, G68, P68, nI_1, pm_w10]
  · refine ⟨p1, p1, 0, va, 0, wr, ?_, a1, a2, a2, by decide, Or.inl rfl, fun z => absurd rfl z⟩
    rw [rn_eq, b_X7_takes_34]
    simp only [EV, LV, CB, OI, OL, NP, CZ, popN, CT, OZ, List.map_nil, List.map_cons, List.sum_nil, List.sum_cons, Option.toList, List.nil_append, List.cons_append, Int.reduceToNat, Nat.reduceAdd, Nat.reduceLT, Nat.reduceLeDiff, List.length_cons, List.length_nil, Nat.zero_add, if_true, if_false, reduceIte, and_self, and_true, true_and, eq_self, reduceCtorEq, C68, G68, P68, pm_w11, pm_w12, t_byteAt wS d m p1 so va 0 wr hT (by omega : p1 < 2 ^ 31), hc]
    rw [rn_eq, b_X7_takes_274]
    simp only [EV, LV, CB, OI, OL, NP, CZ, popN, CT, OZ, List.map_nil, List.map_cons, List.sum_nil, List.sum_cons, Option.toList, List.nil_append, List.cons_append, Int.reduceToNat, Nat.reduceAdd, Nat.reduceLT, Nat.reduceLeDiff, List.length_cons, List.length_nil, Nat.zero_add, if_true, if_false, reduceIte, and_self, and_true, true_and, eq_self, reduceCtorEq]
/-- the bounds of the six numbers -/
def ok6 (ps fr : Nat) (so fa : Int32) : Prop := ps ≤ 160 ∧ fr ≤ 160 ∧ (0 ≤ so.toInt ∧ so.toInt ≤ 3) ∧ (0 ≤ fa.toInt ∧ fa.toInt ≤ 6)
theorem f_pos {fa : Int32} (h : 0 ≤ fa.toInt) (hn : ¬ fa = 0) : 0 < fa := by
  rw [Int32.lt_iff_toInt_lt, show (0 : Int32).toInt = 0 from by decide]
  have : fa.toInt ≠ 0 := fun z => hn (Int32.toInt_inj.mp (by rw [z]; decide))
  omega
/-- takes, whatever the fault is -/
theorem t_tk (hT : (m.1 68 9).toInt ≤ 160) {ps fr : Nat} {so fa : Int32} (h : ok6 ps fr so fa) (va wr : Int32) : ∃ (ps' fr' : Nat) (so' va' fa' wr' : Int32), semZ shP wS (d + 2) 113 [.ref 68] (pm m ps fr so va fa wr) = some (none, pm m ps' fr' so' va' fa' wr') ∧ ok6 ps' fr' so' fa' ∧ ps ≤ ps' ∧ (¬ fa = 0 → ¬ fa' = 0) ∧ (fa' = 0 → ¬ so' = 0 → ps < ps') := by
  by_cases hf : fa = 0
  · subst hf
    obtain ⟨ps', fr', so', va', fa', wr', a1, a2, a3, a4, a5, a6, a7⟩ := t_takes wS d m hT h.1 fr so va wr
    refine ⟨ps', fr', so', va', fa', wr', a1, ⟨a3, a4, a5, ?_⟩, a2, fun z => absurd rfl z, fun _ z => a7 z⟩
    rcases a6 with rfl | rfl <;> decide
  · exact ⟨ps, fr, so, va, fa, wr, t_takes_f wS (d + 1) m ps fr so va fa wr (f_pos h.2.2.2.1 hf), h, Nat.le_refl _, fun z => z, fun z => absurd z hf⟩
/-- a number read: its bounds, if there is no fault then -/
theorem t_rdn (hT : (m.1 68 9).toInt ≤ 160) {ps fr : Nat} {so fa : Int32} (h : ok6 ps fr so fa) (va wr lo hi : Int32) : ∃ (v : Int32) (ps' fr' : Nat) (so' va' fa' wr' : Int32), semZ shP wS (d + 3) 114 [.ref 68, .int lo, .int hi] (pm m ps fr so va fa wr) = some (some (.int v), pm m ps' fr' so' va' fa' wr') ∧ ok6 ps' fr' so' fa' ∧ ps ≤ ps' ∧ (¬ fa = 0 → ¬ fa' = 0) ∧ (fa' = 0 → lo.toInt ≤ v.toInt ∧ v.toInt ≤ hi.toInt) ∧ (v = 0 ∨ (lo.toInt ≤ v.toInt ∧ v.toInt ≤ hi.toInt)) := by
  have e10 : ¬ (1 : Int32) = 0 := by decide
  have e20 : ¬ (2 : Int32) = 0 := by decide
  have e30 : ¬ (3 : Int32) = 0 := by decide
  have stop : ∀ (fa' wr' : Int32), 0 < fa' → rn shP tb0 mN mO (semZ shP wS (d + 2)) (some .int) (codeZ 114) 63 [.ref 68, .int lo, .int hi, noV] [] (pm m ps fr so va fa' wr') = some (some (.int 0), pm m ps fr so va fa' wr') := by
    intro fa' wr' hp
    rw [rn_eq, b_X7_readNumber_63]
    simp only [EV, LV, CB, OI, OL, NP, CZ, popN, CT, OZ, List.map_nil, List.map_cons, List.sum_nil, List.sum_cons, Option.toList, List.nil_append, List.cons_append, Int.reduceToNat, Nat.reduceAdd, Nat.reduceLT, Nat.reduceLeDiff, List.length_cons, List.length_nil, Nat.zero_add, if_true, if_false, reduceIte, and_self, and_true, true_and, eq_self, reduceCtorEq, C68, t_takes_f wS (d + 1) m ps fr so va fa' wr' hp]
  by_cases hf : fa = 0
  · subst hf
    by_cases hs : so = 2
    · subst hs
      cases hg : (decide (lo.toInt64 ≤ va.toInt64) && decide (va.toInt64 ≤ hi.toInt64)) with
      | true =>
        obtain ⟨ps', fr', so', va', fa', wr', a1, a2, a3, a4, a5⟩ := t_tk wS d m hT h va wr
        have hb : lo.toInt ≤ va.toInt ∧ va.toInt ≤ hi.toInt := by
          simp only [Bool.and_eq_true, decide_eq_true_eq, Int64.le_iff_toInt_le, Int32.toInt_toInt64] at hg
          exact hg
        refine ⟨va, ps', fr', so', va', fa', wr', ?_, a2, a3, a4, fun _ => hb, Or.inr hb⟩
        rw [se_X7_readNumber, rn_eq, b_X7_readNumber_0]
        simp only [EV, LV, CB, OI, OL, NP, CZ, popN, CT, OZ, List.map_nil, List.map_cons, List.sum_nil, List.sum_cons, Option.toList, List.nil_append, List.cons_append, Int.reduceToNat, Nat.reduceAdd, Nat.reduceLT, Nat.reduceLeDiff, List.length_cons, List.length_nil, Nat.zero_add, if_true, if_false, reduceIte, and_self, and_true, true_and, eq_self, reduceCtorEq, G68, not_true_eq_false]
        rw [rn_eq, b_X7_readNumber_21]
        simp only [EV, LV, CB, OI, OL, NP, CZ, popN, CT, OZ, List.map_nil, List.map_cons, List.sum_nil, List.sum_cons, Option.toList, List.nil_append, List.cons_append, Int.reduceToNat, Nat.reduceAdd, Nat.reduceLT, Nat.reduceLeDiff, List.length_cons, List.length_nil, Nat.zero_add, if_true, if_false, reduceIte, and_self, and_true, true_and, eq_self, reduceCtorEq, C68, G68, t_needs wS (d + 1), e10, false_and, t_in wS (d + 1), hg, bI_t, not_true_eq_false]
        rw [rn_eq, b_X7_readNumber_64]
        simp only [EV, LV, CB, OI, OL, NP, CZ, popN, CT, OZ, List.map_nil, List.map_cons, List.sum_nil, List.sum_cons, Option.toList, List.nil_append, List.cons_append, Int.reduceToNat, Nat.reduceAdd, Nat.reduceLT, Nat.reduceLeDiff, List.length_cons, List.length_nil, Nat.zero_add, if_true, if_false, reduceIte, and_self, and_true, true_and, eq_self, reduceCtorEq, C68, a1]
      | false =>
        refine ⟨0, ps, fr, 2, va, 3, nI fr, ?_, ⟨h.1, h.2.1, by decide, by decide⟩, Nat.le_refl _, fun z => absurd rfl z, fun z => absurd z (by decide), Or.inl rfl⟩
        rw [se_X7_readNumber, rn_eq, b_X7_readNumber_0]
        simp only [EV, LV, CB, OI, OL, NP, CZ, popN, CT, OZ, List.map_nil, List.map_cons, List.sum_nil, List.sum_cons, Option.toList, List.nil_append, List.cons_append, Int.reduceToNat, Nat.reduceAdd, Nat.reduceLT, Nat.reduceLeDiff, List.length_cons, List.length_nil, Nat.zero_add, if_true, if_false, reduceIte, and_self, and_true, true_and, eq_self, reduceCtorEq, G68, not_true_eq_false]
        rw [rn_eq, b_X7_readNumber_21]
        simp only [EV, LV, CB, OI, OL, NP, CZ, popN, CT, OZ, List.map_nil, List.map_cons, List.sum_nil, List.sum_cons, Option.toList, List.nil_append, List.cons_append, Int.reduceToNat, Nat.reduceAdd, Nat.reduceLT, Nat.reduceLeDiff, List.length_cons, List.length_nil, Nat.zero_add, if_true, if_false, reduceIte, and_self, and_true, true_and, eq_self, reduceCtorEq, C68, G68, t_needs wS (d + 1), e10, e30, false_and, t_in wS (d + 1), hg, bI_f, not_true_eq_false, not_false_eq_true]
        exact stop 3 (nI fr) (by decide)
    · refine ⟨0, ps, fr, so, va, 2, nI fr, ?_, ⟨h.1, h.2.1, h.2.2.1, by decide⟩, Nat.le_refl _, fun z => absurd rfl z, fun z => absurd z (by decide), Or.inl rfl⟩
      rw [se_X7_readNumber, rn_eq, b_X7_readNumber_0]
      simp only [EV, LV, CB, OI, OL, NP, CZ, popN, CT, OZ, List.map_nil, List.map_cons, List.sum_nil, List.sum_cons, Option.toList, List.nil_append, List.cons_append, Int.reduceToNat, Nat.reduceAdd, Nat.reduceLT, Nat.reduceLeDiff, List.length_cons, List.length_nil, Nat.zero_add, if_true, if_false, reduceIte, and_self, and_true, true_and, eq_self, reduceCtorEq, G68, hs, not_true_eq_false, not_false_eq_true]
      rw [rn_eq, b_X7_readNumber_20]
      simp only [EV, LV, CB, OI, OL, NP, CZ, popN, CT, OZ, List.map_nil, List.map_cons, List.sum_nil, List.sum_cons, Option.toList, List.nil_append, List.cons_append, Int.reduceToNat, Nat.reduceAdd, Nat.reduceLT, Nat.reduceLeDiff, List.length_cons, List.length_nil, Nat.zero_add, if_true, if_false, reduceIte, and_self, and_true, true_and, eq_self, reduceCtorEq, C68, G68, t_needs wS (d + 1), e20, not_false_eq_true]
      rw [rn_eq, b_X7_readNumber_49]
      simp only [EV, LV, CB, OI, OL, NP, CZ, popN, CT, OZ, List.map_nil, List.map_cons, List.sum_nil, List.sum_cons, Option.toList, List.nil_append, List.cons_append, Int.reduceToNat, Nat.reduceAdd, Nat.reduceLT, Nat.reduceLeDiff, List.length_cons, List.length_nil, Nat.zero_add, if_true, if_false, reduceIte, and_self, and_true, true_and, eq_self, reduceCtorEq, G68, e20, not_false_eq_true]
      exact stop 2 (nI fr) (by decide)
  · refine ⟨0, ps, fr, so, va, fa, wr, ?_, h, Nat.le_refl _, fun z => z, fun z => absurd z hf, Or.inl rfl⟩
    rw [se_X7_readNumber, rn_eq, b_X7_readNumber_0]
    simp only [EV, LV, CB, OI, OL, NP, CZ, popN, CT, OZ, List.map_nil, List.map_cons, List.sum_nil, List.sum_cons, Option.toList, List.nil_append, List.cons_append, Int.reduceToNat, Nat.reduceAdd, Nat.reduceLT, Nat.reduceLeDiff, List.length_cons, List.length_nil, Nat.zero_add, if_true, if_false, reduceIte, and_self, and_true, true_and, eq_self, reduceCtorEq, G68, hf, not_false_eq_true]
    rw [rn_eq, b_X7_readNumber_25]
    simp only [EV, LV, CB, OI, OL, NP, CZ, popN, CT, OZ, List.map_nil, List.map_cons, List.sum_nil, List.sum_cons, Option.toList, List.nil_append, List.cons_append, Int.reduceToNat, Nat.reduceAdd, Nat.reduceLT, Nat.reduceLeDiff, List.length_cons, List.length_nil, Nat.zero_add, if_true, if_false, reduceIte, and_self, and_true, true_and, eq_self, reduceCtorEq, G68, hf, not_false_eq_true]
    rw [rn_eq, b_X7_readNumber_49]
    simp only [EV, LV, CB, OI, OL, NP, CZ, popN, CT, OZ, List.map_nil, List.map_cons, List.sum_nil, List.sum_cons, Option.toList, List.nil_append, List.cons_append, Int.reduceToNat, Nat.reduceAdd, Nat.reduceLT, Nat.reduceLeDiff, List.length_cons, List.length_nil, Nat.zero_add, if_true, if_false, reduceIte, and_self, and_true, true_and, eq_self, reduceCtorEq, G68, hf, not_false_eq_true]
    exact stop fa wr (f_pos h.2.2.2.1 hf)
end Pt
end
section
/-! THE MODEL'S LINES -/
theorem hall_23 {wS : List Value → Mm → Option Rs} (hw : WOK wS) : Hall TV wS 28 t_23 := h_up23 (h_up22 (h_up21 (h_up20 (hall_19 hw))))
/-- what lines write besides the six numbers -/
def wB : Wr := ([72], [13605, 13606, 13607])
def G41 (m : Mm) : Prop := 1 ≤ (m.1 72 41).toInt ∧ (m.1 72 41).toInt ≤ 9
def Rq (m : Mm) (ps : Nat) (m' : Mm) (ps' fr' : Nat) (so' fa' : Int32) : Prop := InvT TV m' ∧ frm wB m m' ∧ ok6 ps' fr' so' fa' ∧ ps ≤ ps' ∧ (fa' = 0 → G41 m → G41 m')
theorem in_D : ∀ D, D < 4 → (2 : Int32) * nI D + 0 = nI (2 * D) ∧ (2 : Int32) * nI D + 1 = nI (2 * D + 1) := by decide +kernel
theorem in_B : ∀ B, B < 6 → (8 : Int32) + 5 * nI B = nI (8 + 5 * B) ∧ nI (8 + 5 * B) + 0 = nI (8 + 5 * B) ∧ nI (8 + 5 * B) + 1 = nI (8 + 5 * B + 1) ∧ nI (8 + 5 * B) + 2 = nI (8 + 5 * B + 2) ∧ nI (8 + 5 * B) + 3 = nI (8 + 5 * B + 3) := by decide +kernel
theorem iv_72a : ∀ j, j < 8 → ivO TV 72 j = (-2147483648, 2147483647) := by decide +kernel
theorem iv_72b : ∀ B, B < 6 → ivO TV 72 (8 + 5 * B) = (0, 3) ∧ ivO TV 72 (8 + 5 * B + 1) = (0, 3) ∧ ivO TV 72 (8 + 5 * B + 2) = (-2147483648, 2147483647) ∧ ivO TV 72 (8 + 5 * B + 3) = (-2147483648, 2147483647) := by decide +kernel
theorem iv_72c : ivO TV 72 38 = (0, 6) ∧ ivO TV 72 39 = (-2147483648, 2147483647) ∧ ivO TV 72 40 = (-2147483648, 2147483647) ∧ ivO TV 72 41 = (0, 9) := by decide +kernel
theorem iv_68a : ivO TV 68 5 = (0, 4) ∧ ivO TV 68 6 = (-2147483648, 2147483647) ∧ ivO TV 68 7 = (-2147483648, 2147483647) ∧ ivO TV 68 9 = (0, 160) := by decide +kernel
theorem I72 {m : Mm} (hI : InvT TV m) {j : Nat} {x : Int32} {lo hi : Int} (hv : ivO TV 72 j = (lo, hi)) (h1 : lo ≤ x.toInt) (h2 : x.toInt ≤ hi) : InvT TV (wI m 72 j x) := Inv_wI hI (by rw [hv]; exact h1) (by rw [hv]; exact h2)
theorem f72 {m mE : Mm} (h : frm wB mE m) {j : Nat} (hj : j < 200) (x : Int32) : frm wB mE (wI m 72 j x) := frm_wI hj h (by unfold inW; rw [show wB.1.contains 72 = true from by decide]; rfl)
theorem tp_wd (m : Mm) (j : Nat) (x : Int32) : (wI m 72 j x).1 68 9 = m.1 68 9 ∧ (wI m 72 j x).1 68 5 = m.1 68 5 ∧ (wI m 72 j x).1 68 7 = m.1 68 7 := ⟨by rw [wI_at, if_neg (by omega)], by rw [wI_at, if_neg (by omega)], by rw [wI_at, if_neg (by omega)]⟩
theorem g41_n {m : Mm} {j : Nat} {x : Int32} (h : j ≠ 41) (g : G41 m) : G41 (wI m 72 j x) := by
  have e : (wI m 72 j x).1 72 41 = m.1 72 41 := by rw [wI_at, if_neg (fun z => h z.2.symm)]
  unfold G41
  rw [e]
  exact g
theorem g41_o {m : Mm} {j : Nat} {x : Int32} (g : G41 m) : G41 (wI m 68 j x) := by
  have e : (wI m 68 j x).1 72 41 = m.1 72 41 := by rw [wI_at, if_neg (by omega)]
  unfold G41
  rw [e]
  exact g
theorem v03 {v : Int32} {lo hi : Int32} (h : v = 0 ∨ (lo.toInt ≤ v.toInt ∧ v.toInt ≤ hi.toInt)) (hl : 0 ≤ lo.toInt) (hh : 0 ≤ hi.toInt) : 0 ≤ v.toInt ∧ v.toInt ≤ hi.toInt := by
  rcases h with rfl | h
  · rw [show (0 : Int32).toInt = 0 from by decide]
    omega
  · omega
theorem a72_s (m : Mm) (j : Nat) (x : Int32) : (wI m 72 j x).1 72 j = x := by rw [wI_at, if_pos ⟨rfl, rfl⟩]
theorem a72_n (m : Mm) {j k : Nat} (x : Int32) (h : k ≠ j) : (wI m 72 j x).1 72 k = m.1 72 k := by rw [wI_at, if_neg (fun z => h z.2)]
section Rl
variable (wS : List Value → Mm → Option Rs) (d : Nat)
set_option maxHeartbeats 4000000 in
theorem t_rb (m : Mm) (hI : InvT TV m) {B : Nat} (hB : B < 6) (hm : m.1 72 38 = nI B) {k : Int32} (hk : 0 ≤ k.toInt ∧ k.toInt ≤ 3) {ps fr : Nat} {so : Int32} (h : ok6 ps fr so 0) (va wr : Int32) : ∃ (m' : Mm) (ps' fr' : Nat) (so' va' fa' wr' : Int32), semZ shP wS (d + 4) 115 [.ref 68, .int k] (pm m ps fr so va 0 wr) = some (none, pm m' ps' fr' so' va' fa' wr') ∧ Rq m ps m' ps' fr' so' fa' := by
  obtain ⟨i0, i1, i2, i3, i4⟩ := in_B B hB
  obtain ⟨w0, w1, w2, w3⟩ := iv_72b B hB
  have hT : (m.1 68 9).toInt ≤ 160 := by
    have := (hI 68 9).2
    rw [iv_68a.2.2.2] at this
    exact this
  have e38 : inR (38 : Int32) 63 = true ∧ (38 : Int32).toNatClampNeg = 38 := by decide +kernel
  have r0 : inR (nI (8 + 5 * B)) 63 = true := inR_nI (by omega) (by omega)
  have r1 : inR (nI (8 + 5 * B + 1)) 63 = true := inR_nI (by omega) (by omega)
  have r2 : inR (nI (8 + 5 * B + 2)) 63 = true := inR_nI (by omega) (by omega)
  have r3 : inR (nI (8 + 5 * B + 3)) 63 = true := inR_nI (by omega) (by omega)
  have c0 : (nI (8 + 5 * B)).toNatClampNeg = 8 + 5 * B := nI_clamp (by omega)
  have c1 : (nI (8 + 5 * B + 1)).toNatClampNeg = 8 + 5 * B + 1 := nI_clamp (by omega)
  have c2 : (nI (8 + 5 * B + 2)).toNatClampNeg = 8 + 5 * B + 2 := nI_clamp (by omega)
  have c3 : (nI (8 + 5 * B + 3)).toNatClampNeg = 8 + 5 * B + 3 := nI_clamp (by omega)
  -- the kind
  generalize hm1 : wI m 72 (8 + 5 * B) k = m1
  have I1 : InvT TV m1 := by rw [← hm1]; exact I72 hI w0 hk.1 hk.2
  have F1 : frm wB m m1 := by rw [← hm1]; exact f72 frm_rf (by omega) k
  have T1 : (m1.1 68 9).toInt ≤ 160 := by rw [← hm1, (tp_wd m _ k).1]; exact hT
  have K1 : m1.1 72 38 = nI B := by rw [← hm1, a72_n m k (by omega)]; exact hm
  have g1 : G41 m → G41 m1 := fun g => by rw [← hm1]; exact g41_n (by omega) g
  -- where
  obtain ⟨v1, p1, f1, s1, a1, u1, x1, q1, o1, le1, fe1, -, bd1⟩ := t_rdn wS d m1 T1 h va wr 0 3
  have vb1 := v03 bd1 (by decide) (by decide)
  generalize hm2 : wI m1 72 (8 + 5 * B + 1) v1 = m2
  have I2 : InvT TV m2 := by rw [← hm2]; exact I72 I1 w1 vb1.1 vb1.2
  have F2 : frm wB m m2 := by rw [← hm2]; exact f72 F1 (by omega) v1
  have K2 : m2.1 72 38 = nI B := by rw [← hm2, a72_n m1 v1 (by omega)]; exact K1
  have A2 : m2.1 72 (8 + 5 * B + 1) = v1 := by rw [← hm2, a72_s]
  have T2 : (m2.1 68 9).toInt ≤ 160 := by rw [← hm2, (tp_wd m1 _ v1).1]; exact T1
  have g2 : G41 m1 → G41 m2 := fun g => by rw [← hm2]; exact g41_n (by omega) g
  -- the highest
  have rest : ∀ hx : Int32, ∃ (m' : Mm) (ps' fr' : Nat) (so' va' fa' wr' : Int32), (rn shP tb0 mN mO (semZ shP wS (d + 3)) none (codeZ 115) 67 [.ref 68, .int k, .int (nI (8 + 5 * B))] [.int hx, .ref 68] (pm m2 p1 f1 s1 a1 u1 x1) = some (none, pm m' ps' fr' so' va' fa' wr')) ∧ Rq m ps m' ps' fr' so' fa' := by
    intro hx
    generalize hm3 : wI m2 68 7 hx = m3
    have I3 : InvT TV m3 := by rw [← hm3]; exact Inv_wI I2 (by rw [iv_68a.2.2.1]; exact (r32 hx).1) (by rw [iv_68a.2.2.1]; exact (r32 hx).2)
    have F3 : frm wB m m3 := by rw [← hm3]; exact frm_wI (by omega) F2 (by decide)
    have K3 : m3.1 72 38 = nI B := by rw [← hm3, wI_at, if_neg (by omega)]; exact K2
    have T3 : (m3.1 68 9).toInt ≤ 160 := by rw [← hm3, wI_at, if_neg (by omega)]; exact T2
    have g3 : G41 m2 → G41 m3 := fun g => by rw [← hm3]; exact g41_o g
    obtain ⟨v2, p2, f2, s2, a2, u2, x2, q2, o2, le2, fe2, -, -⟩ := t_rdn wS d m3 T3 o1 a1 x1 0 9
    generalize hm4 : wI m3 72 (8 + 5 * B + 2) v2 = m4
    have I4 : InvT TV m4 := by rw [← hm4]; exact I72 I3 w2 (r32 v2).1 (r32 v2).2
    have F4 : frm wB m m4 := by rw [← hm4]; exact f72 F3 (by omega) v2
    have K4 : m4.1 72 38 = nI B := by rw [← hm4, a72_n m3 v2 (by omega)]; exact K3
    have T4 : (m4.1 68 9).toInt ≤ 160 := by rw [← hm4, (tp_wd m3 _ v2).1]; exact T3
    have g4 : G41 m3 → G41 m4 := fun g => by rw [← hm4]; exact g41_n (by omega) g
    obtain ⟨v3, p3, f3, s3, a3, u3, x3, q3, o3, le3, fe3, -, -⟩ := t_rdn wS d m4 T4 o2 a2 x2 0 9
    generalize hm5 : wI m4 72 (8 + 5 * B + 3) v3 = m5
    have I5 : InvT TV m5 := by rw [← hm5]; exact I72 I4 w3 (r32 v3).1 (r32 v3).2
    have F5 : frm wB m m5 := by rw [← hm5]; exact f72 F4 (by omega) v3
    have K5 : m5.1 72 38 = nI B := by rw [← hm5, a72_n m4 v3 (by omega)]; exact K4
    have g5 : G41 m4 → G41 m5 := fun g => by rw [← hm5]; exact g41_n (by omega) g
    refine ⟨wI m5 72 38 (nI (B + 1)), p3, f3, s3, a3, u3, x3, ?_, I72 I5 iv_72c.1 (by rw [nI_toInt (by omega)]; omega) (by rw [nI_toInt (by omega)]; omega), f72 F5 (by omega) _, o3, by omega, fun _ g => g41_n (by omega) (g5 (g4 (g3 (g2 (g1 g)))))⟩
    rw [rn_eq, b_X7_readBody_67]
    simp only [EV, LV, CB, OI, OL, NP, CZ, popN, CT, OZ, List.map_nil, List.map_cons, List.sum_nil, List.sum_cons, Option.toList, List.nil_append, List.cons_append, Int.reduceToNat, Nat.reduceAdd, Nat.reduceLT, Nat.reduceLeDiff, List.length_cons, List.length_nil, Nat.zero_add, if_true, if_false, reduceIte, and_self, and_true, true_and, eq_self, reduceCtorEq, C68, G68, P68, pm_wo m2 p1 f1 s1 a1 u1 x1 7 hx (by omega), hm3, i3, i4, q2, S72, r2, c2, pm_wd, hm4, q3, r3, c3, hm5, A72, e38, K5, nI_1]
  by_cases hh : m2.1 68 7 < v1
  · obtain ⟨m', ps', fr', so', va', fa', wr', y1, y2⟩ := rest v1
    refine ⟨m', ps', fr', so', va', fa', wr', ?_, y2⟩
    rw [se_X7_readBody, rn_eq, b_X7_readBody_0]
    have hle : ¬ v1 ≤ m2.1 68 7 := Int32.not_le.mpr hh
    simp only [EV, LV, CB, OI, OL, NP, CZ, popN, CT, OZ, List.map_nil, List.map_cons, List.sum_nil, List.sum_cons, Option.toList, List.nil_append, List.cons_append, Int.reduceToNat, Nat.reduceAdd, Nat.reduceLT, Nat.reduceLeDiff, List.length_cons, List.length_nil, Nat.zero_add, if_true, if_false, reduceIte, and_self, and_true, true_and, eq_self, reduceCtorEq, C68, G68, A72, e38, hm, i0, i1, i2, S72, r0, c0, pm_wd, hm1, q1, r1, c1, hm2, A2, hle]
    exact y1
  · obtain ⟨m', ps', fr', so', va', fa', wr', y1, y2⟩ := rest (m2.1 68 7)
    refine ⟨m', ps', fr', so', va', fa', wr', ?_, y2⟩
    rw [se_X7_readBody, rn_eq, b_X7_readBody_0]
    have hle : v1 ≤ m2.1 68 7 := Int32.not_lt.mp hh
    simp only [EV, LV, CB, OI, OL, NP, CZ, popN, CT, OZ, List.map_nil, List.map_cons, List.sum_nil, List.sum_cons, Option.toList, List.nil_append, List.cons_append, Int.reduceToNat, Nat.reduceAdd, Nat.reduceLT, Nat.reduceLeDiff, List.length_cons, List.length_nil, Nat.zero_add, if_true, if_false, reduceIte, and_self, and_true, true_and, eq_self, reduceCtorEq, C68, G68, A72, e38, hm, i0, i1, i2, S72, r0, c0, pm_wd, hm1, q1, r1, c1, hm2, A2, hle]
    have y1' := y1
    rw [rn_eq, b_X7_readBody_67] at y1'
    rw [rn_eq, b_X7_readBody_63]
    simp only [EV, LV, CB, OI, OL, NP, CZ, popN, CT, OZ, List.map_nil, List.map_cons, List.sum_nil, List.sum_cons, Option.toList, List.nil_append, List.cons_append, Int.reduceToNat, Nat.reduceAdd, Nat.reduceLT, Nat.reduceLeDiff, List.length_cons, List.length_nil, Nat.zero_add, if_true, if_false, reduceIte, and_self, and_true, true_and, eq_self, reduceCtorEq, C68, G68]
    simp only [EV, LV, CB, OI, OL, NP, CZ, popN, CT, OZ, List.map_nil, List.map_cons, List.sum_nil, List.sum_cons, Option.toList, List.nil_append, List.cons_append, Int.reduceToNat, Nat.reduceAdd, Nat.reduceLT, Nat.reduceLeDiff, List.length_cons, List.length_nil, Nat.zero_add, if_true, if_false, reduceIte, and_self, and_true, true_and, eq_self, reduceCtorEq, C68, G68] at y1'
    exact y1'
end Rl
end
section
/-! THE MODEL'S LINES, by their kinds -/
section Rm
variable (wS : List Value → Mm → Option Rs) (d : Nat)
theorem sw_rl : swT 136 4 7 #[32, 85, 102, 119] 4 = 32 ∧ swT 136 4 7 #[32, 85, 102, 119] 5 = 85 ∧ swT 136 4 7 #[32, 85, 102, 119] 6 = 102 ∧ swT 136 4 7 #[32, 85, 102, 119] 7 = 119 := by decide +kernel
theorem sw_rb : ∀ k, k < 4 → swT 136 4 7 #[32, 85, 102, 119] (nI k) = 136 := by decide +kernel
/-- which line may be read now -/
def okK (m : Mm) (k : Int32) : Prop := (∃ K B : Nat, K < 4 ∧ B < 6 ∧ k = nI K ∧ m.1 72 38 = nI B) ∨ (∃ D : Nat, D < 4 ∧ k = 4 ∧ m.1 68 5 = nI D) ∨ k = 5 ∨ k = 6 ∨ k = 7
theorem hT_of {m : Mm} (hI : InvT TV m) : (m.1 68 9).toInt ≤ 160 := by
  have := (hI 68 9).2
  rw [iv_68a.2.2.2] at this
  exact this
set_option maxHeartbeats 4000000 in
theorem t_rlo (m : Mm) (hI : InvT TV m) {k : Int32} (hk : okK m k) {ps fr : Nat} {so : Int32} (h : ok6 ps fr so 0) (va wr : Int32) : ∃ (m' : Mm) (ps' fr' : Nat) (so' va' fa' wr' : Int32), semZ shP wS (d + 5) 116 [.ref 68, .int k] (pm m ps fr so va 0 wr) = some (none, pm m' ps' fr' so' va' fa' wr') ∧ Rq m ps m' ps' fr' so' fa' := by
  have hT := hT_of hI
  rcases hk with ⟨K, B, hK, hB, rfl, hm⟩ | ⟨D, hD, rfl, hm⟩ | rfl | rfl | rfl
  · obtain ⟨m', ps', fr', so', va', fa', wr', y1, y2⟩ := t_rb wS d m hI hB hm (k := nI K) ⟨by rw [nI_toInt (by omega)]; omega, by rw [nI_toInt (by omega)]; omega⟩ h va wr
    refine ⟨m', ps', fr', so', va', fa', wr', ?_, y2⟩
    rw [se_X7_readLineOf, rn_eq, b_X7_readLineOf_0]
    simp only [EV, LV, CB, OI, OL, NP, CZ, popN, CT, OZ, List.map_nil, List.map_cons, List.sum_nil, List.sum_cons, Option.toList, List.nil_append, List.cons_append, Int.reduceToNat, Nat.reduceAdd, Nat.reduceLT, Nat.reduceLeDiff, List.length_cons, List.length_nil, Nat.zero_add, if_true, if_false, reduceIte, and_self, and_true, true_and, eq_self, reduceCtorEq, sw_rb K hK]
    rw [rn_eq, b_X7_readLineOf_136]
    simp only [EV, LV, CB, OI, OL, NP, CZ, popN, CT, OZ, List.map_nil, List.map_cons, List.sum_nil, List.sum_cons, Option.toList, List.nil_append, List.cons_append, Int.reduceToNat, Nat.reduceAdd, Nat.reduceLT, Nat.reduceLeDiff, List.length_cons, List.length_nil, Nat.zero_add, if_true, if_false, reduceIte, and_self, and_true, true_and, eq_self, reduceCtorEq, C68, y1]
  · obtain ⟨i0, i1⟩ := in_D D hD
    have r0 : inR (nI (2 * D)) 63 = true := inR_nI (by omega) (by omega)
    have r1 : inR (nI (2 * D + 1)) 63 = true := inR_nI (by omega) (by omega)
    have c0 : (nI (2 * D)).toNatClampNeg = 2 * D := nI_clamp (by omega)
    have c1 : (nI (2 * D + 1)).toNatClampNeg = 2 * D + 1 := nI_clamp (by omega)
    obtain ⟨v1, p1, f1, s1, a1, u1, x1, q1, o1, le1, fe1, -, -⟩ := t_rdn wS (d + 1) m hT h va wr 0 99
    generalize hm1 : wI m 72 (2 * D) v1 = m1
    have I1 : InvT TV m1 := by rw [← hm1]; exact I72 hI (iv_72a _ (by omega)) (r32 v1).1 (r32 v1).2
    have F1 : frm wB m m1 := by rw [← hm1]; exact f72 frm_rf (by omega) v1
    have D1 : m1.1 68 5 = nI D := by rw [← hm1, (tp_wd m _ v1).2.1]; exact hm
    have g1 : G41 m → G41 m1 := fun g => by rw [← hm1]; exact g41_n (by omega) g
    obtain ⟨v2, p2, f2, s2, a2, u2, x2, q2, o2, le2, fe2, -, -⟩ := t_rdn wS (d + 1) m1 (hT_of I1) o1 a1 x1 0 9
    generalize hm2 : wI m1 72 (2 * D + 1) v2 = m2
    have I2 : InvT TV m2 := by rw [← hm2]; exact I72 I1 (iv_72a _ (by omega)) (r32 v2).1 (r32 v2).2
    have F2 : frm wB m m2 := by rw [← hm2]; exact f72 F1 (by omega) v2
    have D2 : m2.1 68 5 = nI D := by rw [← hm2, (tp_wd m1 _ v2).2.1]; exact D1
    have g2 : G41 m1 → G41 m2 := fun g => by rw [← hm2]; exact g41_n (by omega) g
    refine ⟨wI m2 68 5 (nI (D + 1)), p2, f2, s2, a2, u2, x2, ?_, Inv_wI I2 (by rw [iv_68a.1, nI_toInt (by omega)]; show (0 : Int) ≤ _; omega) (by rw [iv_68a.1, nI_toInt (by omega)]; show _ ≤ (4 : Int); omega), frm_wI (by omega) F2 (by decide), o2, by omega, fun _ g => g41_o (g2 (g1 g))⟩
    rw [se_X7_readLineOf, rn_eq, b_X7_readLineOf_0]
    simp only [EV, LV, CB, OI, OL, NP, CZ, popN, CT, OZ, List.map_nil, List.map_cons, List.sum_nil, List.sum_cons, Option.toList, List.nil_append, List.cons_append, Int.reduceToNat, Nat.reduceAdd, Nat.reduceLT, Nat.reduceLeDiff, List.length_cons, List.length_nil, Nat.zero_add, if_true, if_false, reduceIte, and_self, and_true, true_and, eq_self, reduceCtorEq, sw_rl]
    rw [rn_eq, b_X7_readLineOf_32]
    simp only [EV, LV, CB, OI, OL, NP, CZ, popN, CT, OZ, List.map_nil, List.map_cons, List.sum_nil, List.sum_cons, Option.toList, List.nil_append, List.cons_append, Int.reduceToNat, Nat.reduceAdd, Nat.reduceLT, Nat.reduceLeDiff, List.length_cons, List.length_nil, Nat.zero_add, if_true, if_false, reduceIte, and_self, and_true, true_and, eq_self, reduceCtorEq, C68, G68, P68, hm, i0, q1, S72, r0, c0, pm_wd, hm1, D1, i1, q2, r1, c1, hm2, D2, nI_1, pm_wo m2 p2 f2 s2 a2 u2 x2 5 (nI (D + 1)) (by omega)]
    rw [rn_eq, b_X7_readLineOf_141]
    simp only [EV, LV, CB, OI, OL, NP, CZ, popN, CT, OZ, List.map_nil, List.map_cons, List.sum_nil, List.sum_cons, Option.toList, List.nil_append, List.cons_append, Int.reduceToNat, Nat.reduceAdd, Nat.reduceLT, Nat.reduceLeDiff, List.length_cons, List.length_nil, Nat.zero_add, if_true, if_false, reduceIte, and_self, and_true, true_and, eq_self, reduceCtorEq]
  · obtain ⟨v1, p1, f1, s1, a1, u1, x1, q1, o1, le1, fe1, -, -⟩ := t_rdn wS (d + 1) m hT h va wr 0 20
    have e : inR (39 : Int32) 63 = true ∧ (39 : Int32).toNatClampNeg = 39 := by decide +kernel
    refine ⟨wI m 72 39 v1, p1, f1, s1, a1, u1, x1, ?_, I72 hI iv_72c.2.1 (r32 v1).1 (r32 v1).2, f72 frm_rf (by omega) v1, o1, le1, fun _ g => g41_n (by omega) g⟩
    rw [se_X7_readLineOf, rn_eq, b_X7_readLineOf_0]
    simp only [EV, LV, CB, OI, OL, NP, CZ, popN, CT, OZ, List.map_nil, List.map_cons, List.sum_nil, List.sum_cons, Option.toList, List.nil_append, List.cons_append, Int.reduceToNat, Nat.reduceAdd, Nat.reduceLT, Nat.reduceLeDiff, List.length_cons, List.length_nil, Nat.zero_add, if_true, if_false, reduceIte, and_self, and_true, true_and, eq_self, reduceCtorEq, sw_rl]
    rw [rn_eq, b_X7_readLineOf_85]
    simp only [EV, LV, CB, OI, OL, NP, CZ, popN, CT, OZ, List.map_nil, List.map_cons, List.sum_nil, List.sum_cons, Option.toList, List.nil_append, List.cons_append, Int.reduceToNat, Nat.reduceAdd, Nat.reduceLT, Nat.reduceLeDiff, List.length_cons, List.length_nil, Nat.zero_add, if_true, if_false, reduceIte, and_self, and_true, true_and, eq_self, reduceCtorEq, C68, G68, q1, S72, e, pm_wd]
    rw [rn_eq, b_X7_readLineOf_141]
    simp only [EV, LV, CB, OI, OL, NP, CZ, popN, CT, OZ, List.map_nil, List.map_cons, List.sum_nil, List.sum_cons, Option.toList, List.nil_append, List.cons_append, Int.reduceToNat, Nat.reduceAdd, Nat.reduceLT, Nat.reduceLeDiff, List.length_cons, List.length_nil, Nat.zero_add, if_true, if_false, reduceIte, and_self, and_true, true_and, eq_self, reduceCtorEq]
  · obtain ⟨v1, p1, f1, s1, a1, u1, x1, q1, o1, le1, fe1, -, -⟩ := t_rdn wS (d + 1) m hT h va wr 0 60
    have e : inR (40 : Int32) 63 = true ∧ (40 : Int32).toNatClampNeg = 40 := by decide +kernel
    refine ⟨wI m 72 40 v1, p1, f1, s1, a1, u1, x1, ?_, I72 hI iv_72c.2.2.1 (r32 v1).1 (r32 v1).2, f72 frm_rf (by omega) v1, o1, le1, fun _ g => g41_n (by omega) g⟩
    rw [se_X7_readLineOf, rn_eq, b_X7_readLineOf_0]
    simp only [EV, LV, CB, OI, OL, NP, CZ, popN, CT, OZ, List.map_nil, List.map_cons, List.sum_nil, List.sum_cons, Option.toList, List.nil_append, List.cons_append, Int.reduceToNat, Nat.reduceAdd, Nat.reduceLT, Nat.reduceLeDiff, List.length_cons, List.length_nil, Nat.zero_add, if_true, if_false, reduceIte, and_self, and_true, true_and, eq_self, reduceCtorEq, sw_rl]
    rw [rn_eq, b_X7_readLineOf_102]
    simp only [EV, LV, CB, OI, OL, NP, CZ, popN, CT, OZ, List.map_nil, List.map_cons, List.sum_nil, List.sum_cons, Option.toList, List.nil_append, List.cons_append, Int.reduceToNat, Nat.reduceAdd, Nat.reduceLT, Nat.reduceLeDiff, List.length_cons, List.length_nil, Nat.zero_add, if_true, if_false, reduceIte, and_self, and_true, true_and, eq_self, reduceCtorEq, C68, G68, q1, S72, e, pm_wd]
    rw [rn_eq, b_X7_readLineOf_141]
    simp only [EV, LV, CB, OI, OL, NP, CZ, popN, CT, OZ, List.map_nil, List.map_cons, List.sum_nil, List.sum_cons, Option.toList, List.nil_append, List.cons_append, Int.reduceToNat, Nat.reduceAdd, Nat.reduceLT, Nat.reduceLeDiff, List.length_cons, List.length_nil, Nat.zero_add, if_true, if_false, reduceIte, and_self, and_true, true_and, eq_self, reduceCtorEq]
  · obtain ⟨v1, p1, f1, s1, a1, u1, x1, q1, o1, le1, fe1, gb1, bd1⟩ := t_rdn wS (d + 1) m hT h va wr 1 9
    have vb1 := v03 bd1 (by decide) (by decide)
    have e : inR (41 : Int32) 63 = true ∧ (41 : Int32).toNatClampNeg = 41 := by decide +kernel
    refine ⟨wI m 72 41 v1, p1, f1, s1, a1, u1, x1, ?_, I72 hI iv_72c.2.2.2 vb1.1 vb1.2, f72 frm_rf (by omega) v1, o1, le1, fun z _ => ?_⟩
    · rw [se_X7_readLineOf, rn_eq, b_X7_readLineOf_0]
      simp only [EV, LV, CB, OI, OL, NP, CZ, popN, CT, OZ, List.map_nil, List.map_cons, List.sum_nil, List.sum_cons, Option.toList, List.nil_append, List.cons_append, Int.reduceToNat, Nat.reduceAdd, Nat.reduceLT, Nat.reduceLeDiff, List.length_cons, List.length_nil, Nat.zero_add, if_true, if_false, reduceIte, and_self, and_true, true_and, eq_self, reduceCtorEq, sw_rl]
      rw [rn_eq, b_X7_readLineOf_119]
      simp only [EV, LV, CB, OI, OL, NP, CZ, popN, CT, OZ, List.map_nil, List.map_cons, List.sum_nil, List.sum_cons, Option.toList, List.nil_append, List.cons_append, Int.reduceToNat, Nat.reduceAdd, Nat.reduceLT, Nat.reduceLeDiff, List.length_cons, List.length_nil, Nat.zero_add, if_true, if_false, reduceIte, and_self, and_true, true_and, eq_self, reduceCtorEq, C68, G68, q1, S72, e, pm_wd]
      rw [rn_eq, b_X7_readLineOf_141]
      simp only [EV, LV, CB, OI, OL, NP, CZ, popN, CT, OZ, List.map_nil, List.map_cons, List.sum_nil, List.sum_cons, Option.toList, List.nil_append, List.cons_append, Int.reduceToNat, Nat.reduceAdd, Nat.reduceLT, Nat.reduceLeDiff, List.length_cons, List.length_nil, Nat.zero_add, if_true, if_false, reduceIte, and_self, and_true, true_and, eq_self, reduceCtorEq]
    · unfold G41
      rw [a72_s]
      exact gb1 z
/-- behind the name of a line: its numbers, the stop -/
theorem rl_139 (m : Mm) (hI : InvT TV m) {k : Int32} (hk : okK m k) {ps fr : Nat} {so : Int32} (h : ok6 ps fr so 0) (va wr : Int32) : ∃ (m' : Mm) (ps' fr' : Nat) (so' va' fa' wr' : Int32), rn shP tb0 mN mO (semZ shP wS (d + 5)) none (codeZ 117) 139 [.ref 68, .int k] [] (pm m ps fr so va 0 wr) = some (none, pm m' ps' fr' so' va' fa' wr') ∧ Rq m ps m' ps' fr' so' fa' ∧ (fa' = 0 → ¬ so' = 0 → ps < ps') := by
  obtain ⟨m1, p1, f1, s1, a1, u1, x1, q1, ⟨I1, F1, o1, le1, g1⟩⟩ := t_rlo wS d m hI hk h va wr
  have T1 := hT_of I1
  have e10 : ¬ (1 : Int32) = 0 := by decide
  by_cases hu : u1 = 0
  · subst hu
    by_cases hs : s1 = 3
    · subst hs
      obtain ⟨p2, f2, s2, a2, u2, x2, y1, o2, le2, fe2, pr2⟩ := t_tk wS (d + 3) m1 T1 o1 a1 x1
      refine ⟨m1, p2, f2, s2, a2, u2, x2, ?_, ⟨I1, F1, o2, by omega, fun _ g => g1 rfl g⟩, fun z1 z2 => by have := pr2 z1 z2; omega⟩
      rw [rn_eq, b_X7_readLine_139]
      simp only [EV, LV, CB, OI, OL, NP, CZ, popN, CT, OZ, List.map_nil, List.map_cons, List.sum_nil, List.sum_cons, Option.toList, List.nil_append, List.cons_append, Int.reduceToNat, Nat.reduceAdd, Nat.reduceLT, Nat.reduceLeDiff, List.length_cons, List.length_nil, Nat.zero_add, if_true, if_false, reduceIte, and_self, and_true, true_and, eq_self, reduceCtorEq, C68, q1, G68, not_true_eq_false]
      rw [rn_eq, b_X7_readLine_165]
      simp only [EV, LV, CB, OI, OL, NP, CZ, popN, CT, OZ, List.map_nil, List.map_cons, List.sum_nil, List.sum_cons, Option.toList, List.nil_append, List.cons_append, Int.reduceToNat, Nat.reduceAdd, Nat.reduceLT, Nat.reduceLeDiff, List.length_cons, List.length_nil, Nat.zero_add, if_true, if_false, reduceIte, and_self, and_true, true_and, eq_self, reduceCtorEq, C68, t_needs wS (d + 4), e10, false_and, y1]
    · refine ⟨m1, p1, f1, s1, a1, 2, nI f1, ?_, ⟨I1, F1, ⟨o1.1, o1.2.1, o1.2.2.1, by decide⟩, le1, fun z => absurd z (by decide)⟩, fun z => absurd z (by decide)⟩
      rw [rn_eq, b_X7_readLine_139]
      simp only [EV, LV, CB, OI, OL, NP, CZ, popN, CT, OZ, List.map_nil, List.map_cons, List.sum_nil, List.sum_cons, Option.toList, List.nil_append, List.cons_append, Int.reduceToNat, Nat.reduceAdd, Nat.reduceLT, Nat.reduceLeDiff, List.length_cons, List.length_nil, Nat.zero_add, if_true, if_false, reduceIte, and_self, and_true, true_and, eq_self, reduceCtorEq, C68, q1, G68, hs, not_true_eq_false, not_false_eq_true]
      rw [rn_eq, b_X7_readLine_164]
      simp only [EV, LV, CB, OI, OL, NP, CZ, popN, CT, OZ, List.map_nil, List.map_cons, List.sum_nil, List.sum_cons, Option.toList, List.nil_append, List.cons_append, Int.reduceToNat, Nat.reduceAdd, Nat.reduceLT, Nat.reduceLeDiff, List.length_cons, List.length_nil, Nat.zero_add, if_true, if_false, reduceIte, and_self, and_true, true_and, eq_self, reduceCtorEq, C68, t_needs wS (d + 4), t_takes_f wS (d + 4) m1 p1 f1 s1 a1 2 (nI f1) (by decide)]
  · refine ⟨m1, p1, f1, s1, a1, u1, x1, ?_, ⟨I1, F1, o1, le1, fun z => absurd z hu⟩, fun z => absurd z hu⟩
    rw [rn_eq, b_X7_readLine_139]
    simp only [EV, LV, CB, OI, OL, NP, CZ, popN, CT, OZ, List.map_nil, List.map_cons, List.sum_nil, List.sum_cons, Option.toList, List.nil_append, List.cons_append, Int.reduceToNat, Nat.reduceAdd, Nat.reduceLT, Nat.reduceLeDiff, List.length_cons, List.length_nil, Nat.zero_add, if_true, if_false, reduceIte, and_self, and_true, true_and, eq_self, reduceCtorEq, C68, q1, G68, hu, not_false_eq_true]
    rw [rn_eq, b_X7_readLine_169]
    simp only [EV, LV, CB, OI, OL, NP, CZ, popN, CT, OZ, List.map_nil, List.map_cons, List.sum_nil, List.sum_cons, Option.toList, List.nil_append, List.cons_append, Int.reduceToNat, Nat.reduceAdd, Nat.reduceLT, Nat.reduceLeDiff, List.length_cons, List.length_nil, Nat.zero_add, if_true, if_false, reduceIte, and_self, and_true, true_and, eq_self, reduceCtorEq, C68, t_takes_f wS (d + 4) m1 p1 f1 s1 a1 u1 x1 (f_pos o1.2.2.2.1 hu)]
/-- the next token, then what is behind it -/
theorem rl_tk (m : Mm) (hI : InvT TV m) {k : Int32} (hk : okK m k) {ps fr : Nat} {so : Int32} (h : ok6 ps fr so 0) (va wr : Int32) : ∃ (p1 f1 : Nat) (s1 a1 u1 x1 : Int32), semZ shP wS (d + 5) 113 [.ref 68] (pm m ps fr so va 0 wr) = some (none, pm m p1 f1 s1 a1 u1 x1) ∧ ((0 < u1 ∧ ok6 p1 f1 s1 u1 ∧ ps ≤ p1) ∨ (u1 = 0 ∧ ∃ (m' : Mm) (ps' fr' : Nat) (so' va' fa' wr' : Int32), rn shP tb0 mN mO (semZ shP wS (d + 5)) none (codeZ 117) 139 [.ref 68, .int k] [] (pm m p1 f1 s1 a1 u1 x1) = some (none, pm m' ps' fr' so' va' fa' wr') ∧ Rq m ps m' ps' fr' so' fa' ∧ (fa' = 0 → ¬ so' = 0 → ps < ps'))) := by
  obtain ⟨p1, f1, s1, a1, u1, x1, y1, o1, le1, fe1, pr1⟩ := t_tk wS (d + 3) m (hT_of hI) h va wr
  refine ⟨p1, f1, s1, a1, u1, x1, y1, ?_⟩
  by_cases hu : u1 = 0
  · subst hu
    obtain ⟨m', ps', fr', so', va', fa', wr', z1, ⟨z2, z3, z4, z5, z6⟩, z7⟩ := rl_139 wS d m hI hk o1 a1 x1
    exact Or.inr ⟨rfl, m', ps', fr', so', va', fa', wr', z1, ⟨z2, z3, z4, by omega, z6⟩, fun w1 w2 => by have := z7 w1 w2; omega⟩
  · exact Or.inl ⟨f_pos o1.2.2.2.1 hu, o1, le1⟩
/-- from 127 on -/
theorem rl_127 (m : Mm) (hI : InvT TV m) {k : Int32} (hk : okK m k) {ps fr : Nat} {so : Int32} (h : ok6 ps fr so 0) (va wr : Int32) : ∃ (m' : Mm) (ps' fr' : Nat) (so' va' fa' wr' : Int32), rn shP tb0 mN mO (semZ shP wS (d + 5)) none (codeZ 117) 127 [.ref 68, .int k] [] (pm m ps fr so va 0 wr) = some (none, pm m' ps' fr' so' va' fa' wr') ∧ Rq m ps m' ps' fr' so' fa' ∧ (fa' = 0 → ¬ so' = 0 → ps < ps') := by
  obtain ⟨p1, f1, s1, a1, u1, x1, y1, hc⟩ := rl_tk wS d m hI hk h va wr
  rcases hc with ⟨hu, o1, le1⟩ | ⟨rfl, m', ps', fr', so', va', fa', wr', z1, z2, z3⟩
  · have nu : ¬ u1 = 0 := fun z => by rw [z] at hu; exact absurd hu (by decide)
    have nle : ¬ u1 ≤ 0 := Int32.not_le.mpr hu
    refine ⟨m, p1, f1, s1, a1, u1, x1, ?_, ⟨hI, frm_rf, o1, le1, fun z => absurd z nu⟩, fun z => absurd z nu⟩
    rw [rn_eq, b_X7_readLine_127]
    simp only [EV, LV, CB, OI, OL, NP, CZ, popN, CT, OZ, List.map_nil, List.map_cons, List.sum_nil, List.sum_cons, Option.toList, List.nil_append, List.cons_append, Int.reduceToNat, Nat.reduceAdd, Nat.reduceLT, Nat.reduceLeDiff, List.length_cons, List.length_nil, Nat.zero_add, if_true, if_false, reduceIte, and_self, and_true, true_and, eq_self, reduceCtorEq, C68, y1, G68, nle]
  · refine ⟨m', ps', fr', so', va', fa', wr', ?_, z2, z3⟩
    have e00 : (0 : Int32) ≤ 0 := by decide
    rw [rn_eq, b_X7_readLine_127]
    simp only [EV, LV, CB, OI, OL, NP, CZ, popN, CT, OZ, List.map_nil, List.map_cons, List.sum_nil, List.sum_cons, Option.toList, List.nil_append, List.cons_append, Int.reduceToNat, Nat.reduceAdd, Nat.reduceLT, Nat.reduceLeDiff, List.length_cons, List.length_nil, Nat.zero_add, if_true, if_false, reduceIte, and_self, and_true, true_and, eq_self, reduceCtorEq, C68, y1, G68, e00]
    exact z1
/-- from 127 on, with a fault -/
theorem rl_127f (m : Mm) (k : Int32) (ps fr : Nat) (so va fa wr : Int32) (hf : 0 < fa) : rn shP tb0 mN mO (semZ shP wS (d + 5)) none (codeZ 117) 127 [.ref 68, .int k] [] (pm m ps fr so va fa wr) = some (none, pm m ps fr so va fa wr) := by
  have nle : ¬ fa ≤ 0 := Int32.not_le.mpr hf
  rw [rn_eq, b_X7_readLine_127]
  simp only [EV, LV, CB, OI, OL, NP, CZ, popN, CT, OZ, List.map_nil, List.map_cons, List.sum_nil, List.sum_cons, Option.toList, List.nil_append, List.cons_append, Int.reduceToNat, Nat.reduceAdd, Nat.reduceLT, Nat.reduceLeDiff, List.length_cons, List.length_nil, Nat.zero_add, if_true, if_false, reduceIte, and_self, and_true, true_and, eq_self, reduceCtorEq, C68, t_takes_f wS (d + 4) m ps fr so va fa wr hf, G68, nle]
end Rm
end
section
/-! THE MODEL'S LINE, whole -/
section Rn
variable (wS : List Value → Mm → Option Rs) (d : Nat)
theorem nI_of6 {x : Int32} (h1 : 0 ≤ x.toInt) {n : Nat} (h2 : x.toInt < n) : ∃ B : Nat, B < n ∧ x = nI B := ⟨x.toInt.toNat, by omega, i_nI h1⟩
theorem rl_78 (m : Mm) (hI : InvT TV m) {k : Int32} (hk : okK m k) (h7 : k.toInt ≤ 7) {ps fr : Nat} {so : Int32} (h : ok6 ps fr so 0) (va wr : Int32) : ∃ (m' : Mm) (ps' fr' : Nat) (so' va' fa' wr' : Int32), rn shP tb0 mN mO (semZ shP wS (d + 5)) none (codeZ 117) 78 [.ref 68, .int k] [.int 1, .ref 68] (pm m ps fr so va 0 wr) = some (none, pm m' ps' fr' so' va' fa' wr') ∧ Rq m ps m' ps' fr' so' fa' ∧ (fa' = 0 → ¬ so' = 0 → ps < ps') := by
  have e10 : ¬ (1 : Int32) = 0 := by decide
  by_cases h4 : k ≤ 4
  · obtain ⟨m', ps', fr', so', va', fa', wr', z1, z2⟩ := rl_127 wS d m hI hk h va wr
    refine ⟨m', ps', fr', so', va', fa', wr', ?_, z2⟩
    rw [rn_eq, b_X7_readLine_78]
    simp only [EV, LV, CB, OI, OL, NP, CZ, popN, CT, OZ, List.map_nil, List.map_cons, List.sum_nil, List.sum_cons, Option.toList, List.nil_append, List.cons_append, Int.reduceToNat, Nat.reduceAdd, Nat.reduceLT, Nat.reduceLeDiff, List.length_cons, List.length_nil, Nat.zero_add, if_true, if_false, reduceIte, and_self, and_true, true_and, eq_self, reduceCtorEq, C68, t_needs wS (d + 4), e10, false_and, G68, h4, not_true_eq_false]
    exact z1
  · have h4i : 5 ≤ k.toInt := by
      have := Int32.lt_iff_toInt_lt.mp (Int32.not_le.mp h4)
      rw [show (4 : Int32).toInt = 4 from by decide] at this
      omega
    have hk5 : k = 5 ∨ k = 6 ∨ k = 7 := by
      by_cases q5 : k.toInt = 5
      · exact Or.inl (Int32.toInt_inj.mp (by rw [q5]; decide))
      · by_cases q6 : k.toInt = 6
        · exact Or.inr (Or.inl (Int32.toInt_inj.mp (by rw [q6]; decide)))
        · exact Or.inr (Or.inr (Int32.toInt_inj.mp (by have q7 : k.toInt = 7 := by omega
                                                       rw [q7]; decide)))
    generalize hx : m.1 68 6 ||| (1 : Int32) <<< (k &&& 31) = x
    generalize hm1 : wI m 68 6 x = m1
    have I1 : InvT TV m1 := by rw [← hm1]; exact Inv_wI hI (by rw [iv_68a.2.1]; exact (r32 x).1) (by rw [iv_68a.2.1]; exact (r32 x).2)
    have F1 : frm wB m m1 := by rw [← hm1]; exact frm_wI (by omega) frm_rf (by decide)
    have g1 : G41 m → G41 m1 := fun g => by rw [← hm1]; exact g41_o g
    by_cases hb : (m.1 68 6 >>> (k &&& 31)) &&& 1 = 0
    · obtain ⟨p1, f1, s1, a1, u1, x1, y1, hc⟩ := rl_tk wS d m1 I1 (k := k) (Or.inr (Or.inr hk5)) h va wr
      have st : rn shP tb0 mN mO (semZ shP wS (d + 5)) none (codeZ 117) 78 [.ref 68, .int k] [.int 1, .ref 68] (pm m ps fr so va 0 wr) = if u1 ≤ 0 then rn shP tb0 mN mO (semZ shP wS (d + 5)) none (codeZ 117) 139 [.ref 68, .int k] [] (pm m1 p1 f1 s1 a1 u1 x1) else some (none, pm m1 p1 f1 s1 a1 u1 x1) := by
        rw [rn_eq, b_X7_readLine_78]
        simp only [EV, LV, CB, OI, OL, NP, CZ, popN, CT, OZ, List.map_nil, List.map_cons, List.sum_nil, List.sum_cons, Option.toList, List.nil_append, List.cons_append, Int.reduceToNat, Nat.reduceAdd, Nat.reduceLT, Nat.reduceLeDiff, List.length_cons, List.length_nil, Nat.zero_add, if_true, if_false, reduceIte, and_self, and_true, true_and, eq_self, reduceCtorEq, C68, t_needs wS (d + 4), e10, false_and, G68, h4, hb, not_true_eq_false]
        rw [rn_eq, b_X7_readLine_111]
        simp only [EV, LV, CB, OI, OL, NP, CZ, popN, CT, OZ, List.map_nil, List.map_cons, List.sum_nil, List.sum_cons, Option.toList, List.nil_append, List.cons_append, Int.reduceToNat, Nat.reduceAdd, Nat.reduceLT, Nat.reduceLeDiff, List.length_cons, List.length_nil, Nat.zero_add, if_true, if_false, reduceIte, and_self, and_true, true_and, eq_self, reduceCtorEq, C68, t_needs wS (d + 4), e10, false_and, G68, P68, hx, pm_wo m ps fr so va 0 wr 6 x (by omega), hm1, y1]
      rw [st]
      rcases hc with ⟨hu, o1, le1⟩ | ⟨rfl, m', ps', fr', so', va', fa', wr', z1, ⟨z2, z3, z4, z5, z6⟩, z7⟩
      · have nu : ¬ u1 = 0 := fun z => by rw [z] at hu; exact absurd hu (by decide)
        rw [if_neg (Int32.not_le.mpr hu)]
        exact ⟨m1, p1, f1, s1, a1, u1, x1, rfl, ⟨I1, F1, o1, le1, fun z => absurd z nu⟩, fun z => absurd z nu⟩
      · rw [if_pos (by decide)]
        exact ⟨m', ps', fr', so', va', fa', wr', z1, ⟨z2, frm_tr F1 z3 (by decide), z4, z5, fun w g => z6 w (g1 g)⟩, z7⟩
    · refine ⟨m1, ps, fr, so, va, 4, nI fr, ?_, ⟨I1, F1, ⟨h.1, h.2.1, h.2.2.1, by decide⟩, Nat.le_refl _, fun z => absurd z (by decide)⟩, fun z => absurd z (by decide)⟩
      have nle : ¬ (4 : Int32) ≤ 0 := by decide
      rw [rn_eq, b_X7_readLine_78]
      simp only [EV, LV, CB, OI, OL, NP, CZ, popN, CT, OZ, List.map_nil, List.map_cons, List.sum_nil, List.sum_cons, Option.toList, List.nil_append, List.cons_append, Int.reduceToNat, Nat.reduceAdd, Nat.reduceLT, Nat.reduceLeDiff, List.length_cons, List.length_nil, Nat.zero_add, if_true, if_false, reduceIte, and_self, and_true, true_and, eq_self, reduceCtorEq, C68, t_needs wS (d + 4), e10, false_and, G68, h4, hb, not_true_eq_false, not_false_eq_true]
      rw [rn_eq, b_X7_readLine_110]
      simp only [EV, LV, CB, OI, OL, NP, CZ, popN, CT, OZ, List.map_nil, List.map_cons, List.sum_nil, List.sum_cons, Option.toList, List.nil_append, List.cons_append, Int.reduceToNat, Nat.reduceAdd, Nat.reduceLT, Nat.reduceLeDiff, List.length_cons, List.length_nil, Nat.zero_add, if_true, if_false, reduceIte, and_self, and_true, true_and, eq_self, reduceCtorEq, C68, t_needs wS (d + 4), G68, P68, hx, pm_wo m ps fr so va 4 (nI fr) 6 x (by omega), hm1, t_takes_f wS (d + 4) m1 ps fr so va 4 (nI fr) (by decide), nle]
theorem rl_bad (m : Mm) (k : Int32) (ps fr : Nat) (so va fa wr : Int32) (hf : 0 < fa) (g : Int32) : rn shP tb0 mN mO (semZ shP wS (d + 5)) none (codeZ 117) 78 [.ref 68, .int k] [.int g, .ref 68] (pm m ps fr so va fa wr) = some (none, pm m ps fr so va fa wr) ∧ rn shP tb0 mN mO (semZ shP wS (d + 5)) none (codeZ 117) 77 [.ref 68, .int k] [.ref 68] (pm m ps fr so va fa wr) = some (none, pm m ps fr so va fa wr) := by
  have nf : ¬ fa = 0 := fun z => by rw [z] at hf; exact absurd hf (by decide)
  constructor
  · rw [rn_eq, b_X7_readLine_78]
    simp only [EV, LV, CB, OI, OL, NP, CZ, popN, CT, OZ, List.map_nil, List.map_cons, List.sum_nil, List.sum_cons, Option.toList, List.nil_append, List.cons_append, Int.reduceToNat, Nat.reduceAdd, Nat.reduceLT, Nat.reduceLeDiff, List.length_cons, List.length_nil, Nat.zero_add, if_true, if_false, reduceIte, and_self, and_true, true_and, eq_self, reduceCtorEq, C68, t_needs wS (d + 4), nf, and_false, G68, not_false_eq_true]
    exact rl_127f wS d m k ps fr so va fa wr hf
  · rw [rn_eq, b_X7_readLine_77]
    simp only [EV, LV, CB, OI, OL, NP, CZ, popN, CT, OZ, List.map_nil, List.map_cons, List.sum_nil, List.sum_cons, Option.toList, List.nil_append, List.cons_append, Int.reduceToNat, Nat.reduceAdd, Nat.reduceLT, Nat.reduceLeDiff, List.length_cons, List.length_nil, Nat.zero_add, if_true, if_false, reduceIte, and_self, and_true, true_and, eq_self, reduceCtorEq, C68, t_needs wS (d + 4), nf, and_false, G68, not_false_eq_true]
    exact rl_127f wS d m k ps fr so va fa wr hf
/-- no room: fault 5 -/
theorem rl_full (m : Mm) (k : Int32) (ps fr : Nat) (so va wr : Int32) : rn shP tb0 mN mO (semZ shP wS (d + 5)) none (codeZ 117) 78 [.ref 68, .int k] [.int 0, .ref 68] (pm m ps fr so va 0 wr) = some (none, pm m ps fr so va 5 (nI fr)) ∧ rn shP tb0 mN mO (semZ shP wS (d + 5)) none (codeZ 117) 77 [.ref 68, .int k] [.ref 68] (pm m ps fr so va 0 wr) = some (none, pm m ps fr so va 5 (nI fr)) := by
  have n5 : ¬ (5 : Int32) = 0 := by decide
  constructor
  · rw [rn_eq, b_X7_readLine_78]
    simp only [EV, LV, CB, OI, OL, NP, CZ, popN, CT, OZ, List.map_nil, List.map_cons, List.sum_nil, List.sum_cons, Option.toList, List.nil_append, List.cons_append, Int.reduceToNat, Nat.reduceAdd, Nat.reduceLT, Nat.reduceLeDiff, List.length_cons, List.length_nil, Nat.zero_add, if_true, if_false, reduceIte, and_self, and_true, true_and, eq_self, reduceCtorEq, C68, t_needs wS (d + 4), G68, n5, not_false_eq_true]
    exact rl_127f wS d m k ps fr so va 5 (nI fr) (by decide)
  · rw [rn_eq, b_X7_readLine_77]
    simp only [EV, LV, CB, OI, OL, NP, CZ, popN, CT, OZ, List.map_nil, List.map_cons, List.sum_nil, List.sum_cons, Option.toList, List.nil_append, List.cons_append, Int.reduceToNat, Nat.reduceAdd, Nat.reduceLT, Nat.reduceLeDiff, List.length_cons, List.length_nil, Nat.zero_add, if_true, if_false, reduceIte, and_self, and_true, true_and, eq_self, reduceCtorEq, C68, t_needs wS (d + 4), G68, n5, not_false_eq_true]
    exact rl_127f wS d m k ps fr so va 5 (nI fr) (by decide)
theorem e38' : inR (38 : Int32) 63 = true ∧ (38 : Int32).toNatClampNeg = 38 := by decide +kernel
theorem rl_17 (m : Mm) (hI : InvT TV m) {k : Int32} (hk : k = -4 ∨ (0 ≤ k.toInt ∧ k.toInt ≤ 7)) {ps fr : Nat} {so : Int32} (h : ok6 ps fr so 0) (va wr : Int32) : ∃ (m' : Mm) (ps' fr' : Nat) (so' va' fa' wr' : Int32), rn shP tb0 mN mO (semZ shP wS (d + 5)) none (codeZ 117) 17 [.ref 68, noV] [.int k] (pm m ps fr so va 0 wr) = some (none, pm m' ps' fr' so' va' fa' wr') ∧ Rq m ps m' ps' fr' so' fa' ∧ (fa' = 0 → ¬ so' = 0 → ps < ps') := by
  have e10 : ¬ (1 : Int32) = 0 := by decide
  have b38 := hI 72 38
  rw [iv_72c.1] at b38
  have b38a : 0 ≤ (m.1 72 38).toInt := b38.1
  have b5 := hI 68 5
  rw [iv_68a.1] at b5
  have b5a : 0 ≤ (m.1 68 5).toInt := b5.1
  by_cases h4 : k = -4
  · subst h4
    have n44 : ¬ (-4 : Int32) = 4 := by decide
    have n4g : ¬ (4 : Int32) < -4 := by decide
    have bd := rl_bad wS d m (-4) ps fr so va 2 (nI fr) (by decide) 1
    refine ⟨m, ps, fr, so, va, 2, nI fr, ?_, ⟨hI, frm_rf, ⟨h.1, h.2.1, h.2.2.1, by decide⟩, Nat.le_refl _, fun z => absurd z (by decide)⟩, fun z => absurd z (by decide)⟩
    rw [rn_eq, b_X7_readLine_17]
    simp only [EV, LV, CB, OI, OL, NP, CZ, popN, CT, OZ, List.map_nil, List.map_cons, List.sum_nil, List.sum_cons, Option.toList, List.nil_append, List.cons_append, Int.reduceToNat, Nat.reduceAdd, Nat.reduceLT, Nat.reduceLeDiff, List.length_cons, List.length_nil, Nat.zero_add, if_true, if_false, reduceIte, and_self, and_true, true_and, eq_self, reduceCtorEq]
    rw [rn_eq, b_X7_readLine_29]
    simp only [EV, LV, CB, OI, OL, NP, CZ, popN, CT, OZ, List.map_nil, List.map_cons, List.sum_nil, List.sum_cons, Option.toList, List.nil_append, List.cons_append, Int.reduceToNat, Nat.reduceAdd, Nat.reduceLT, Nat.reduceLeDiff, List.length_cons, List.length_nil, Nat.zero_add, if_true, if_false, reduceIte, and_self, and_true, true_and, eq_self, reduceCtorEq, C68, t_needs wS (d + 4), n44, not_false_eq_true]
    rw [rn_eq, b_X7_readLine_56]
    by_cases h6 : (6 : Int32) ≤ m.1 72 38
    · simp only [EV, LV, CB, OI, OL, NP, CZ, popN, CT, OZ, List.map_nil, List.map_cons, List.sum_nil, List.sum_cons, Option.toList, List.nil_append, List.cons_append, Int.reduceToNat, Nat.reduceAdd, Nat.reduceLT, Nat.reduceLeDiff, List.length_cons, List.length_nil, Nat.zero_add, if_true, if_false, reduceIte, and_self, and_true, true_and, eq_self, reduceCtorEq, G68, A72, e38', n4g, h6]
      exact bd.2
    · simp only [EV, LV, CB, OI, OL, NP, CZ, popN, CT, OZ, List.map_nil, List.map_cons, List.sum_nil, List.sum_cons, Option.toList, List.nil_append, List.cons_append, Int.reduceToNat, Nat.reduceAdd, Nat.reduceLT, Nat.reduceLeDiff, List.length_cons, List.length_nil, Nat.zero_add, if_true, if_false, reduceIte, and_self, and_true, true_and, eq_self, reduceCtorEq, G68, A72, e38', n4g, h6]
      exact bd.1
  · have kb : 0 ≤ k.toInt ∧ k.toInt ≤ 7 := by
      rcases hk with hk | hk
      · exact absurd hk h4
      · exact hk
    have st30 : rn shP tb0 mN mO (semZ shP wS (d + 5)) none (codeZ 117) 17 [.ref 68, noV] [.int k] (pm m ps fr so va 0 wr) = rn shP tb0 mN mO (semZ shP wS (d + 5)) none (codeZ 117) 30 [.ref 68, .int k] [.int 1, .ref 68] (pm m ps fr so va 0 wr) := by
      rw [rn_eq, b_X7_readLine_17]
      simp only [EV, LV, CB, OI, OL, NP, CZ, popN, CT, OZ, List.map_nil, List.map_cons, List.sum_nil, List.sum_cons, Option.toList, List.nil_append, List.cons_append, Int.reduceToNat, Nat.reduceAdd, Nat.reduceLT, Nat.reduceLeDiff, List.length_cons, List.length_nil, Nat.zero_add, if_true, if_false, reduceIte, and_self, and_true, true_and, eq_self, reduceCtorEq, h4]
    rw [st30]
    by_cases hv : k = 4
    · subst hv
      by_cases h5 : (4 : Int32) ≤ m.1 68 5
      · refine ⟨m, ps, fr, so, va, 5, nI fr, ?_, ⟨hI, frm_rf, ⟨h.1, h.2.1, h.2.2.1, by decide⟩, Nat.le_refl _, fun z => absurd z (by decide)⟩, fun z => absurd z (by decide)⟩
        rw [rn_eq, b_X7_readLine_30]
        simp only [EV, LV, CB, OI, OL, NP, CZ, popN, CT, OZ, List.map_nil, List.map_cons, List.sum_nil, List.sum_cons, Option.toList, List.nil_append, List.cons_append, Int.reduceToNat, Nat.reduceAdd, Nat.reduceLT, Nat.reduceLeDiff, List.length_cons, List.length_nil, Nat.zero_add, if_true, if_false, reduceIte, and_self, and_true, true_and, eq_self, reduceCtorEq, C68, t_needs wS (d + 4), e10, false_and, G68, h5, not_true_eq_false]
        rw [rn_eq, b_X7_readLine_52]
        simp only [EV, LV, CB, OI, OL, NP, CZ, popN, CT, OZ, List.map_nil, List.map_cons, List.sum_nil, List.sum_cons, Option.toList, List.nil_append, List.cons_append, Int.reduceToNat, Nat.reduceAdd, Nat.reduceLT, Nat.reduceLeDiff, List.length_cons, List.length_nil, Nat.zero_add, if_true, if_false, reduceIte, and_self, and_true, true_and, eq_self, reduceCtorEq]
        exact (rl_full wS d m 4 ps fr so va wr).1
      · have h5i := Int32.lt_iff_toInt_lt.mp (Int32.not_le.mp h5)
        rw [show (4 : Int32).toInt = 4 from by decide] at h5i
        obtain ⟨D, hD, eD⟩ := nI_of6 b5a (n := 4) (by omega)
        obtain ⟨m', ps', fr', so', va', fa', wr', z1, z2⟩ := rl_78 wS d m hI (k := 4) (Or.inr (Or.inl ⟨D, hD, rfl, eD⟩)) (by decide) h va wr
        refine ⟨m', ps', fr', so', va', fa', wr', ?_, z2⟩
        rw [rn_eq, b_X7_readLine_30]
        simp only [EV, LV, CB, OI, OL, NP, CZ, popN, CT, OZ, List.map_nil, List.map_cons, List.sum_nil, List.sum_cons, Option.toList, List.nil_append, List.cons_append, Int.reduceToNat, Nat.reduceAdd, Nat.reduceLT, Nat.reduceLeDiff, List.length_cons, List.length_nil, Nat.zero_add, if_true, if_false, reduceIte, and_self, and_true, true_and, eq_self, reduceCtorEq, C68, t_needs wS (d + 4), e10, false_and, G68, h5, not_true_eq_false]
        exact z1
    · have st56 : rn shP tb0 mN mO (semZ shP wS (d + 5)) none (codeZ 117) 30 [.ref 68, .int k] [.int 1, .ref 68] (pm m ps fr so va 0 wr) = rn shP tb0 mN mO (semZ shP wS (d + 5)) none (codeZ 117) 56 [.ref 68, .int k] [.ref 68] (pm m ps fr so va 0 wr) := by
        rw [rn_eq, b_X7_readLine_30]
        simp only [EV, LV, CB, OI, OL, NP, CZ, popN, CT, OZ, List.map_nil, List.map_cons, List.sum_nil, List.sum_cons, Option.toList, List.nil_append, List.cons_append, Int.reduceToNat, Nat.reduceAdd, Nat.reduceLT, Nat.reduceLeDiff, List.length_cons, List.length_nil, Nat.zero_add, if_true, if_false, reduceIte, and_self, and_true, true_and, eq_self, reduceCtorEq, C68, t_needs wS (d + 4), e10, false_and, hv, not_false_eq_true]
      rw [st56]
      by_cases hg : (4 : Int32) < k
      · have hgi := Int32.lt_iff_toInt_lt.mp hg
        rw [show (4 : Int32).toInt = 4 from by decide] at hgi
        have hk5 : k = 5 ∨ k = 6 ∨ k = 7 := by
          by_cases q5 : k.toInt = 5
          · exact Or.inl (Int32.toInt_inj.mp (by rw [q5]; decide))
          · by_cases q6 : k.toInt = 6
            · exact Or.inr (Or.inl (Int32.toInt_inj.mp (by rw [q6]; decide)))
            · exact Or.inr (Or.inr (Int32.toInt_inj.mp (by have q7 : k.toInt = 7 := by omega
                                                           rw [q7]; decide)))
        obtain ⟨m', ps', fr', so', va', fa', wr', z1, z2⟩ := rl_78 wS d m hI (k := k) (Or.inr (Or.inr hk5)) kb.2 h va wr
        refine ⟨m', ps', fr', so', va', fa', wr', ?_, z2⟩
        rw [rn_eq, b_X7_readLine_56]
        simp only [EV, LV, CB, OI, OL, NP, CZ, popN, CT, OZ, List.map_nil, List.map_cons, List.sum_nil, List.sum_cons, Option.toList, List.nil_append, List.cons_append, Int.reduceToNat, Nat.reduceAdd, Nat.reduceLT, Nat.reduceLeDiff, List.length_cons, List.length_nil, Nat.zero_add, if_true, if_false, reduceIte, and_self, and_true, true_and, eq_self, reduceCtorEq, hg]
        rw [rn_eq, b_X7_readLine_73]
        simp only [EV, LV, CB, OI, OL, NP, CZ, popN, CT, OZ, List.map_nil, List.map_cons, List.sum_nil, List.sum_cons, Option.toList, List.nil_append, List.cons_append, Int.reduceToNat, Nat.reduceAdd, Nat.reduceLT, Nat.reduceLeDiff, List.length_cons, List.length_nil, Nat.zero_add, if_true, if_false, reduceIte, and_self, and_true, true_and, eq_self, reduceCtorEq]
        exact z1
      · have hgi := Int32.le_iff_toInt_le.mp (Int32.not_lt.mp hg)
        rw [show (4 : Int32).toInt = 4 from by decide] at hgi
        have kn4 : k.toInt ≠ 4 := fun z => hv (Int32.toInt_inj.mp (by rw [z]; decide))
        by_cases h6 : (6 : Int32) ≤ m.1 72 38
        · refine ⟨m, ps, fr, so, va, 5, nI fr, ?_, ⟨hI, frm_rf, ⟨h.1, h.2.1, h.2.2.1, by decide⟩, Nat.le_refl _, fun z => absurd z (by decide)⟩, fun z => absurd z (by decide)⟩
          rw [rn_eq, b_X7_readLine_56]
          simp only [EV, LV, CB, OI, OL, NP, CZ, popN, CT, OZ, List.map_nil, List.map_cons, List.sum_nil, List.sum_cons, Option.toList, List.nil_append, List.cons_append, Int.reduceToNat, Nat.reduceAdd, Nat.reduceLT, Nat.reduceLeDiff, List.length_cons, List.length_nil, Nat.zero_add, if_true, if_false, reduceIte, and_self, and_true, true_and, eq_self, reduceCtorEq, G68, A72, e38', hg, h6]
          exact (rl_full wS d m k ps fr so va wr).2
        · have h6i := Int32.lt_iff_toInt_lt.mp (Int32.not_le.mp h6)
          rw [show (6 : Int32).toInt = 6 from by decide] at h6i
          obtain ⟨B, hB, eB⟩ := nI_of6 b38a (n := 6) (by omega)
          obtain ⟨K, hK, eK⟩ := nI_of6 kb.1 (n := 4) (by omega)
          obtain ⟨m', ps', fr', so', va', fa', wr', z1, z2⟩ := rl_78 wS d m hI (k := k) (Or.inl ⟨K, B, hK, hB, eK, eB⟩) kb.2 h va wr
          refine ⟨m', ps', fr', so', va', fa', wr', ?_, z2⟩
          rw [rn_eq, b_X7_readLine_56]
          simp only [EV, LV, CB, OI, OL, NP, CZ, popN, CT, OZ, List.map_nil, List.map_cons, List.sum_nil, List.sum_cons, Option.toList, List.nil_append, List.cons_append, Int.reduceToNat, Nat.reduceAdd, Nat.reduceLT, Nat.reduceLeDiff, List.length_cons, List.length_nil, Nat.zero_add, if_true, if_false, reduceIte, and_self, and_true, true_and, eq_self, reduceCtorEq, G68, A72, e38', hg, h6]
          exact z1
end Rn
theorem iv_6s : ivO TV 68 10 = (0, 160) ∧ ivO TV 68 11 = (0, 160) ∧ ivO TV 68 12 = (0, 3) ∧ ivO TV 68 13 = (-2147483648, 2147483647) ∧ ivO TV 68 14 = (0, 6) ∧ ivO TV 68 15 = (-2147483648, 2147483647) := by decide +kernel
theorem Inv_pm {m : Mm} (hI : InvT TV m) {ps fr : Nat} {so fa : Int32} (h : ok6 ps fr so fa) (va wr : Int32) : InvT TV (pm m ps fr so va fa wr) := by
  obtain ⟨h1, h2, h3, h4⟩ := h
  refine Inv_setR hI (fun j => ?_)
  unfold tk6
  split
  · rename_i e; rw [e, iv_6s.1, nI_toInt (by omega)]; exact ⟨by show (0 : Int) ≤ _; omega, by show _ ≤ (160 : Int); omega⟩
  split
  · rename_i e; rw [e, iv_6s.2.1, nI_toInt (by omega)]; exact ⟨by show (0 : Int) ≤ _; omega, by show _ ≤ (160 : Int); omega⟩
  split
  · rename_i e; rw [e, iv_6s.2.2.1]; exact h3
  split
  · rename_i e; rw [e, iv_6s.2.2.2.1]; exact r32 va
  split
  · rename_i e; rw [e, iv_6s.2.2.2.2.1]; exact h4
  split
  · rename_i e; rw [e, iv_6s.2.2.2.2.2]; exact r32 wr
  · exact hI 68 j
theorem ln_mem : q_X7_lineNow ∈ t_23 := by
  unfold q_X7_lineNow t_23
  simp only [List.mem_append, List.mem_cons, true_or, or_true]
theorem frm_0 {m m' : Mm} (h : frm ([], []) m m') {o j : Nat} (hj : j < 200) : m'.1 o j = m.1 o j := (h o j hj (fun z => by cases z) (fun z => by cases z)).1
/-- a line: more of the tape is read, or there is a fault, or the end -/
theorem t_rl {wS : List Value → Mm → Option Rs} (hw : WOK wS) (d : Nat) (m : Mm) (hI : InvT TV m) {ps fr : Nat} {so : Int32} (h : ok6 ps fr so 0) (va wr : Int32) : ∃ (m' : Mm) (ps' fr' : Nat) (so' va' fa' wr' : Int32), semZ shP wS (d + 29) 117 [.ref 68] (pm m ps fr so va 0 wr) = some (none, pm m' ps' fr' so' va' fa' wr') ∧ InvT TV m' ∧ frm (wB.1, [13605, 13606, 13607, 13610, 13611, 13612, 13613, 13614, 13615]) m m' ∧ ok6 ps' fr' so' fa' ∧ ps ≤ ps' ∧ (fa' = 0 → G41 m → G41 m') ∧ (fa' = 0 → ¬ so' = 0 → ps < ps') := by
  by_cases hs : so = 1
  · obtain ⟨v, m1, a1, a2, a3, a4, a5, -⟩ := hall_23 hw d q_X7_lineNow ln_mem [.ref 68] (pm m ps fr so va 0 wr) ⟨gv_rf 68, trivial⟩ (Inv_pm hI h va wr) rho_nil
    cases v with
    | none => exact a2.elim
    | some v =>
      obtain ⟨k, hk, kk, -⟩ := a2
      subst hk
      have a1 : semZ shP wS (d + 28) 112 [.ref 68] (pm m ps fr so va 0 wr) = some (some (.int k), m1) := a1
      have a5 : frm ([], []) (pm m ps fr so va 0 wr) m1 := a5
      have em : pm m1 ps fr so va 0 wr = m1 := by
        have e12 : m1.1 68 12 = so := frm_0 a5 (by omega)
        have e13 : m1.1 68 13 = va := frm_0 a5 (by omega)
        have e14 : m1.1 68 14 = 0 := frm_0 a5 (by omega)
        have e15 : m1.1 68 15 = wr := frm_0 a5 (by omega)
        have := pm_id m1 (ps := ps) (fr := fr) (frm_0 a5 (by omega)) (frm_0 a5 (by omega))
        rw [e12, e13, e14, e15] at this
        exact this
      have Fm : frm (wB.1, [13605, 13606, 13607, 13610, 13611, 13612, 13613, 13614, 13615]) m m1 := by
        intro o j hj h1 h2
        have q := a5 o j hj (fun z => by cases z) (fun z => by cases z)
        refine ⟨q.1.trans ?_, q.2⟩
        show (setR m 68 (tk6 (m.1 68) ps fr so va 0 wr)).1 o j = m.1 o j
        rw [setR_at]
        split
        · rename_i e
          subst e
          have n10 : j ≠ 10 := fun z => h2 (by rw [z]; decide)
          have n11 : j ≠ 11 := fun z => h2 (by rw [z]; decide)
          have n12 : j ≠ 12 := fun z => h2 (by rw [z]; decide)
          have n13 : j ≠ 13 := fun z => h2 (by rw [z]; decide)
          have n14 : j ≠ 14 := fun z => h2 (by rw [z]; decide)
          have n15 : j ≠ 15 := fun z => h2 (by rw [z]; decide)
          unfold tk6
          rw [if_neg n10, if_neg n11, if_neg n12, if_neg n13, if_neg n14, if_neg n15]
        · rfl
      have kb : k = -4 ∨ (0 ≤ k.toInt ∧ k.toInt ≤ 7) := by
        rcases kk with kk | kk
        · simp only [Option.some.injEq] at kk
          exact Or.inl (Int32.toInt_inj.mp (by rw [← kk]; decide))
        · exact Or.inr ⟨kk.1, kk.2.1⟩
      obtain ⟨m', ps', fr', so', va', fa', wr', z1, ⟨z2, z3, z4, z5, z6⟩, z7⟩ := rl_17 wS (d + 23) m1 a3 kb h va wr
      refine ⟨m', ps', fr', so', va', fa', wr', ?_, z2, frm_tr Fm z3 (by decide), z4, z5, fun w g => z6 w ?_, z7⟩
      · rw [se_X7_readLine, rn_eq, b_X7_readLine_0]
        simp only [EV, LV, CB, OI, OL, NP, CZ, popN, CT, OZ, List.map_nil, List.map_cons, List.sum_nil, List.sum_cons, Option.toList, List.nil_append, List.cons_append, Int.reduceToNat, Nat.reduceAdd, Nat.reduceLT, Nat.reduceLeDiff, List.length_cons, List.length_nil, Nat.zero_add, if_true, if_false, reduceIte, and_self, and_true, true_and, eq_self, reduceCtorEq, C68, G68, hs, not_true_eq_false]
        rw [hs] at a1
        simp only [a1]
        rw [em] at z1
        exact z1
      · have e41 : m1.1 72 41 = m.1 72 41 := frm_0 a5 (by omega)
        unfold G41
        rw [e41]
        exact g
  · obtain ⟨m', ps', fr', so', va', fa', wr', z1, ⟨z2, z3, z4, z5, z6⟩, z7⟩ := rl_17 wS (d + 23) m hI (k := -4) (Or.inl rfl) h va wr
    refine ⟨m', ps', fr', so', va', fa', wr', ?_, z2, frm_w z3 (by decide), z4, z5, z6, z7⟩
    rw [se_X7_readLine, rn_eq, b_X7_readLine_0]
    simp only [EV, LV, CB, OI, OL, NP, CZ, popN, CT, OZ, List.map_nil, List.map_cons, List.sum_nil, List.sum_cons, Option.toList, List.nil_append, List.cons_append, Int.reduceToNat, Nat.reduceAdd, Nat.reduceLT, Nat.reduceLeDiff, List.length_cons, List.length_nil, Nat.zero_add, if_true, if_false, reduceIte, and_self, and_true, true_and, eq_self, reduceCtorEq, G68, hs, not_false_eq_true]
    rw [rn_eq, b_X7_readLine_17] at z1
    rw [rn_eq, b_X7_readLine_15]
    simp only [EV, LV, CB, OI, OL, NP, CZ, popN, CT, OZ, List.map_nil, List.map_cons, List.sum_nil, List.sum_cons, Option.toList, List.nil_append, List.cons_append, Int.reduceToNat, Nat.reduceAdd, Nat.reduceLT, Nat.reduceLeDiff, List.length_cons, List.length_nil, Nat.zero_add, if_true, if_false, reduceIte, and_self, and_true, true_and, eq_self, reduceCtorEq] at z1
    simp only [EV, LV, CB, OI, OL, NP, CZ, popN, CT, OZ, List.map_nil, List.map_cons, List.sum_nil, List.sum_cons, Option.toList, List.nil_append, List.cons_append, Int.reduceToNat, Nat.reduceAdd, Nat.reduceLT, Nat.reduceLeDiff, List.length_cons, List.length_nil, Nat.zero_add, if_true, if_false, reduceIte, and_self, and_true, true_and, eq_self, reduceCtorEq]
    exact z1
end
section
/-! THE MODEL'S TEXT -/
def wL6 : Wr := ([72], [13605, 13606, 13607, 13610, 13611, 13612, 13613, 13614, 13615])
def wTx : Wr := ([69, 71, 72], [13603, 13605, 13606, 13607, 13609, 13610, 13611, 13612, 13613, 13614, 13615])
/-- an image that is kept can be given back -/
def JK (m : Mm) : Prop := (¬ m.1 71 0 = 0 → 1 ≤ (m.1 69 104).toInt ∧ (m.1 69 104).toInt ≤ 9) ∧ (¬ m.1 71 1 = 0 → 1 ≤ (m.1 69 167).toInt ∧ (m.1 69 167).toInt ≤ 9)
theorem JK_of {m m' : Mm} (h1 : m'.1 71 0 = m.1 71 0) (h2 : m'.1 71 1 = m.1 71 1) (h3 : m'.1 69 104 = m.1 69 104) (h4 : m'.1 69 167 = m.1 69 167) (h : JK m) : JK m' := by
  unfold JK
  rw [h1, h2, h3, h4]
  exact h
theorem JK_frm {W : Wr} {m m' : Mm} (h : frm W m m') (h1 : inW W 71 0 = false) (h2 : inW W 71 1 = false) (h3 : inW W 69 104 = false) (h4 : inW W 69 167 = false) (g : JK m) : JK m' := by
  have key : ∀ o j, j < 200 → inW W o j = false → m'.1 o j = m.1 o j := by
    intro o j hj hw
    unfold inW at hw
    simp only [Bool.or_eq_false_iff] at hw
    refine (h o j hj (fun z => ?_) (fun z => ?_)).1
    · rw [← List.contains_iff_mem] at z
      rw [z] at hw
      exact absurd hw.1 (by decide)
    · have z2 : W.2.contains (cd o j) = true := List.contains_iff_mem.mpr z
      rw [z2] at hw
      exact absurd hw.2 (by decide)
  exact JK_of (key 71 0 (by omega) h1) (key 71 1 (by omega) h2) (key 69 104 (by omega) h3) (key 69 167 (by omega) h4) g
theorem pm_frm {m : Mm} {ps fr : Nat} {so va fa wr : Int32} : frm wL6 m (pm m ps fr so va fa wr) := by
  intro o j hj h1 h2
  refine ⟨?_, rfl⟩
  show (setR m 68 (tk6 (m.1 68) ps fr so va fa wr)).1 o j = m.1 o j
  rw [setR_at]
  split
  · rename_i e
    subst e
    have n10 : j ≠ 10 := fun z => h2 (by rw [z]; decide)
    have n11 : j ≠ 11 := fun z => h2 (by rw [z]; decide)
    have n12 : j ≠ 12 := fun z => h2 (by rw [z]; decide)
    have n13 : j ≠ 13 := fun z => h2 (by rw [z]; decide)
    have n14 : j ≠ 14 := fun z => h2 (by rw [z]; decide)
    have n15 : j ≠ 15 := fun z => h2 (by rw [z]; decide)
    unfold tk6
    rw [if_neg n10, if_neg n11, if_neg n12, if_neg n13, if_neg n14, if_neg n15]
  · rfl
section Tx
variable {wS : List Value → Mm → Option Rs} (hw : WOK wS) (d : Nat)
theorem tx_out (C : CallS) (m : Mm) (ps fr : Nat) (so va fa wr many : Int32) (h : ¬ fa = 0 ∨ so = 0) : rn shP tb0 mN mO C (some .int) (codeZ 118) 20 [.ref 68, .int many] [] (pm m ps fr so va fa wr) = rn shP tb0 mN mO C (some .int) (codeZ 118) 44 [.ref 68, .int many] [] (pm m ps fr so va fa wr) := by
  rw [rn_eq, b_X7_text_20]
  by_cases hf : fa = 0
  · have hs : so = 0 := by
      rcases h with h | h
      · exact absurd hf h
      · exact h
    simp only [EV, LV, CB, OI, OL, NP, CZ, popN, CT, OZ, List.map_nil, List.map_cons, List.sum_nil, List.sum_cons, Option.toList, List.nil_append, List.cons_append, Int.reduceToNat, Nat.reduceAdd, Nat.reduceLT, Nat.reduceLeDiff, List.length_cons, List.length_nil, Nat.zero_add, if_true, if_false, reduceIte, and_self, and_true, true_and, eq_self, reduceCtorEq, G68, hf, hs, not_true_eq_false]
  · simp only [EV, LV, CB, OI, OL, NP, CZ, popN, CT, OZ, List.map_nil, List.map_cons, List.sum_nil, List.sum_cons, Option.toList, List.nil_append, List.cons_append, Int.reduceToNat, Nat.reduceAdd, Nat.reduceLT, Nat.reduceLeDiff, List.length_cons, List.length_nil, Nat.zero_add, if_true, if_false, reduceIte, and_self, and_true, true_and, eq_self, reduceCtorEq, G68, hf, not_false_eq_true]
theorem tx_loop (hw : WOK wS) : ∀ (n : Nat) (m : Mm) (ps fr : Nat) (so va fa wr many : Int32), 161 - ps ≤ n → InvT TV m → ok6 ps fr so fa → (fa = 0 → G41 m) → ∃ (m' : Mm) (ps' fr' : Nat) (so' va' fa' wr' many' : Int32), rn shP tb0 mN mO (semZ shP wS (d + 29)) (some .int) (codeZ 118) 20 [.ref 68, .int many] [] (pm m ps fr so va fa wr) = rn shP tb0 mN mO (semZ shP wS (d + 29)) (some .int) (codeZ 118) 44 [.ref 68, .int many'] [] (pm m' ps' fr' so' va' fa' wr') ∧ InvT TV m' ∧ frm wL6 m m' ∧ ok6 ps' fr' so' fa' ∧ (fa' = 0 → G41 m') := by
  intro n
  induction n with
  | zero =>
    intro m ps fr so va fa wr many hn hI h hg
    have := h.1
    omega
  | succ n ih =>
    intro m ps fr so va fa wr many hn hI h hg
    by_cases hf : fa = 0
    · by_cases hs : so = 0
      · exact ⟨m, ps, fr, so, va, fa, wr, many, tx_out _ m ps fr so va fa wr many (Or.inr hs), hI, frm_rf, h, hg⟩
      · subst hf
        obtain ⟨m1, p1, f1, s1, a1, u1, x1, z1, z2, z3, z4, z5, z6, z7⟩ := t_rl hw d m hI h va wr
        have z3 : frm wL6 m m1 := z3
        have st : rn shP tb0 mN mO (semZ shP wS (d + 29)) (some .int) (codeZ 118) 20 [.ref 68, .int many] [] (pm m ps fr so va 0 wr) = rn shP tb0 mN mO (semZ shP wS (d + 29)) (some .int) (codeZ 118) 20 [.ref 68, .int (many + 1)] [] (pm m1 p1 f1 s1 a1 u1 x1) := by
          rw [rn_eq, b_X7_text_20]
          simp only [EV, LV, CB, OI, OL, NP, CZ, popN, CT, OZ, List.map_nil, List.map_cons, List.sum_nil, List.sum_cons, Option.toList, List.nil_append, List.cons_append, Int.reduceToNat, Nat.reduceAdd, Nat.reduceLT, Nat.reduceLeDiff, List.length_cons, List.length_nil, Nat.zero_add, if_true, if_false, reduceIte, and_self, and_true, true_and, eq_self, reduceCtorEq, C68, G68, hs, not_true_eq_false, z1]
        rw [st]
        by_cases hu : u1 = 0
        · by_cases hs1 : s1 = 0
          · exact ⟨m1, p1, f1, s1, a1, u1, x1, many + 1, tx_out _ m1 p1 f1 s1 a1 u1 x1 (many + 1) (Or.inr hs1), z2, z3, z4, fun w => z6 w (hg rfl)⟩
          · have hlt := z7 hu hs1
            obtain ⟨m', ps', fr', so', va', fa', wr', many', y1, y2, y3, y4, y5⟩ := ih m1 p1 f1 s1 a1 u1 x1 (many + 1) (by omega) z2 z4 (fun w => z6 w (hg rfl))
            exact ⟨m', ps', fr', so', va', fa', wr', many', y1, y2, frm_tr z3 y3 (by decide), y4, y5⟩
        · exact ⟨m1, p1, f1, s1, a1, u1, x1, many + 1, tx_out _ m1 p1 f1 s1 a1 u1 x1 (many + 1) (Or.inl hu), z2, z3, z4, fun w => absurd w hu⟩
    · exact ⟨m, ps, fr, so, va, fa, wr, many, tx_out _ m ps fr so va fa wr many (Or.inl hf), hI, frm_rf, h, hg⟩
theorem tv_69d : (List.range 63).all (fun j => decide (j = 41) || (decide ((ivO TV 69 j).1 ≤ (ivO TV 72 j).1) && decide ((ivO TV 72 j).2 ≤ (ivO TV 69 j).2))) = true := by decide +kernel
theorem iv_683 : ivO TV 68 3 = (0, 4) ∧ ivO TV 71 0 = (0, 1) := by decide +kernel
/-- the end: the tape is empty; what was told counts, if there is no fault -/
theorem tx_end (m0 m : Mm) (hI : InvT TV m) (hF : frm wL6 m0 m) {ps fr : Nat} {so fa : Int32} (h : ok6 ps fr so fa) (va wr many : Int32) (hg : fa = 0 → G41 m) (pc : Nat) (hpc : rn shP tb0 mN mO (semZ shP wS (d + 29)) (some .int) (codeZ 118) pc [.ref 68, .int many] (if pc = 44 then [] else []) (pm m ps fr so va fa wr) = if fa ≤ 0 then rn shP tb0 mN mO (semZ shP wS (d + 29)) (some .int) (codeZ 118) 93 [.ref 68, .int many] [] (pm (wI m 68 9 0) ps fr so va fa wr) else some (some (.int (-10 - wr)), pm (wI m 68 9 0) ps fr so va fa wr)) : ∃ (x : Int32) (m' : Mm), rn shP tb0 mN mO (semZ shP wS (d + 29)) (some .int) (codeZ 118) pc [.ref 68, .int many] (if pc = 44 then [] else []) (pm m ps fr so va fa wr) = some (some (.int x), m') ∧ InvT TV m' ∧ frm wTx m0 m' ∧ m'.1 68 9 = 0 ∧ (JK m0 → JK m') := by
  rw [hpc]
  have I1 : InvT TV (wI m 68 9 0) := Inv_wI hI (by rw [iv_68a.2.2.2]; decide) (by rw [iv_68a.2.2.2]; decide)
  have F1 : frm wTx m0 (wI m 68 9 0) := frm_wI (by omega) (frm_w hF (by decide)) (by decide)
  have I2 := Inv_pm I1 h va wr
  have F2 : frm wTx m0 (pm (wI m 68 9 0) ps fr so va fa wr) := frm_tr F1 pm_frm (by decide)
  have z9 : (pm (wI m 68 9 0) ps fr so va fa wr).1 68 9 = 0 := rfl
  have J2 : JK m0 → JK (pm (wI m 68 9 0) ps fr so va fa wr) := fun g => by
    have a := JK_frm hF (by decide) (by decide) (by decide) (by decide) g
    exact JK_of (m := m) rfl rfl rfl rfl a
  by_cases hf : fa ≤ 0
  · rw [if_pos hf]
    have f0 : fa = 0 := by
      have q := Int32.le_iff_toInt_le.mp hf
      rw [show (0 : Int32).toInt = 0 from by decide] at q
      have q2 := h.2.2.2.1
      exact Int32.toInt_inj.mp (by rw [show (0 : Int32).toInt = 0 from by decide]; omega)
    have g41 := hg f0
    generalize hM : pm (wI m 68 9 0) ps fr so va fa wr = M at I2 F2 z9 J2
    have g41M : 1 ≤ (M.1 72 41).toInt ∧ (M.1 72 41).toInt ≤ 9 := by
      rw [← hM]
      exact g41
    have kd := t_keepDraft wS (d + 28) MP68 M
    refine ⟨many, setR (setR (setR M 69 (fillR (M.1 72) (M.1 69) 63)) 68 (upd (M.1 68) 3 (M.1 68 5))) 71 (upd (upd (M.1 71) 0 0) 1 0), ?_, ?_, ?_, ?_, fun _ => ?_⟩
    · rw [rn_eq, b_X7_text_93]
      have kd : semZ shP wS (d + 29) 104 [.ref 68] M = some (none, setR (setR (setR M 69 (fillR (M.1 72) (M.1 69) 63)) 68 (upd (M.1 68) 3 (M.1 68 5))) 71 (upd (upd (M.1 71) 0 0) 1 0)) := kd
      simp only [EV, LV, CB, OI, OL, NP, CZ, popN, CT, OZ, List.map_nil, List.map_cons, List.sum_nil, List.sum_cons, Option.toList, List.nil_append, List.cons_append, Int.reduceToNat, Nat.reduceAdd, Nat.reduceLT, Nat.reduceLeDiff, List.length_cons, List.length_nil, Nat.zero_add, if_true, if_false, reduceIte, and_self, and_true, true_and, eq_self, reduceCtorEq, C68, kd]
    · refine Inv_setR (Inv_setR (Inv_setR I2 (fun j => ?_)) (fun j => ?_)) (fun j => ?_)
      · unfold fillR
        split
        · rename_i hj
          have k := List.all_eq_true.mp tv_69d j (List.mem_range.mpr hj)
          simp only [Bool.and_eq_true, Bool.or_eq_true, decide_eq_true_eq] at k
          rcases k with k | k
          · subst k
            rw [iv_6941]
            exact g41M
          · have := I2 72 j
            omega
        · exact I2 69 j
      · unfold upd
        split
        · rename_i hj
          rw [hj, iv_683.1]
          have := I2 68 5
          rw [iv_68a.1] at this
          exact this
        · exact I2 68 j
      · have e71 : ∀ i, ivO TV 71 i = (0, 1) := fun i => by rw [iv_1 (by decide)]; exact iv_683.2
        unfold upd
        split
        · rw [e71]; decide
        · split
          · rw [e71]; decide
          · exact I2 71 j
    · refine frm_setR ?_ (by decide)
      intro o j hj h1 h2
      have q := F2 o j hj h1 h2
      refine ⟨?_, q.2⟩
      rw [setR_at]
      split
      · rename_i e
        subst e
        unfold upd
        rw [if_neg (fun z => h2 (by rw [z]; decide))]
        exact q.1
      · rw [setR_at, if_neg (fun e => h1 (by rw [e]; decide))]
        exact q.1
    · rw [setR_at, if_neg (by omega), setR_at, if_pos rfl]
      unfold upd
      rw [if_neg (by omega)]
      exact z9
    · unfold JK
      rw [setR_s]
      refine ⟨fun z => absurd ?_ z, fun z => absurd ?_ z⟩
      · simp [upd]
      · simp [upd]
  · rw [if_neg hf]
    exact ⟨_, _, rfl, I2, F2, z9, J2⟩
end Tx
end
section
/-! THE MODEL'S TEXT, whole -/
theorem pm_w10z (m : Mm) (ps fr : Nat) (so va fa wr : Int32) : wI (pm m ps fr so va fa wr) 68 10 0 = pm m 0 fr so va fa wr := pm_w10 m ps fr so va fa wr 0
theorem dr_bd : (List.range 63).all (fun j => (decide ((ivO TV 72 j).1 ≤ 0) && decide (0 ≤ (ivO TV 72 j).2))) = true := by decide +kernel
theorem t_text {wS : List Value → Mm → Option Rs} (hw : WOK wS) (d : Nat) (m : Mm) (hI : InvT TV m) : ∃ (x : Int32) (m' : Mm), semZ shP wS (d + 30) 118 [.ref 68] m = some (some (.int x), m') ∧ InvT TV m' ∧ frm wTx m m' ∧ m'.1 68 9 = 0 ∧ (JK m → JK m') := by
  have b10 := hI 68 10
  rw [iv_6s.1] at b10
  have b10a : 0 ≤ (m.1 68 10).toInt := b10.1
  have b11 := hI 68 11
  rw [iv_6s.2.1] at b11
  have b11a : 0 ≤ (m.1 68 11).toInt := b11.1
  have b11b : (m.1 68 11).toInt ≤ 160 := b11.2
  have b12 := hI 68 12
  rw [iv_6s.2.2.1] at b12
  have e0 := pm_id m (i_nI b10a) (i_nI b11a)
  have hfr : (m.1 68 11).toInt.toNat ≤ 160 := by omega
  generalize (m.1 68 10).toInt.toNat = ps0 at e0
  generalize (m.1 68 11).toInt.toNat = fr0 at e0 hfr
  generalize hso : m.1 68 12 = so0 at e0 b12
  generalize m.1 68 13 = va0 at e0
  generalize m.1 68 14 = fa0 at e0
  generalize m.1 68 15 = wr0 at e0
  have k0 : ok6 0 fr0 so0 0 := ⟨by omega, hfr, b12, by decide⟩
  -- the first draft
  have fd := t_firstDraft wS (d + 28) MP68 (pm m 0 fr0 so0 va0 0 wr0)
  generalize hM2 : setR (setR (pm m 0 fr0 so0 va0 0 wr0) (68 + 4) (dr0 ((pm m 0 fr0 so0 va0 0 wr0).1 (68 + 4)))) 68 (upd (upd (upd ((pm m 0 fr0 so0 va0 0 wr0).1 68) 5 0) 6 0) 7 (-4)) = M2 at fd
  have E2 : pm M2 0 fr0 so0 va0 0 wr0 = M2 := by
    have := pm_id M2 (ps := 0) (fr := fr0) (by rw [← hM2]; rfl) (by rw [← hM2]; rfl)
    have q12 : M2.1 68 12 = so0 := by rw [← hM2]; rfl
    have q13 : M2.1 68 13 = va0 := by rw [← hM2]; rfl
    have q14 : M2.1 68 14 = 0 := by rw [← hM2]; rfl
    have q15 : M2.1 68 15 = wr0 := by rw [← hM2]; rfl
    rw [q12, q13, q14, q15] at this
    exact this
  have I1 := Inv_pm hI k0 va0 wr0
  have I2 : InvT TV M2 := by
    rw [← hM2]
    refine Inv_setR (Inv_setR I1 (fun j => ?_)) (fun j => ?_)
    · show (ivO TV 72 j).1 ≤ (dr0 ((pm m 0 fr0 so0 va0 0 wr0).1 72) j).toInt ∧ (dr0 ((pm m 0 fr0 so0 va0 0 wr0).1 72) j).toInt ≤ (ivO TV 72 j).2
      unfold dr0 upd
      split
      · rename_i e; rw [e, iv_72c.2.2.2]; decide
      · split
        · rename_i e; rw [e, iv_72c.2.2.1]; decide
        · split
          · rename_i e; rw [e, iv_72c.2.1]; decide
          · unfold fillR
            split
            · rename_i hj
              have k := List.all_eq_true.mp dr_bd j (List.mem_range.mpr hj)
              simp only [Bool.and_eq_true, decide_eq_true_eq] at k
              exact k
            · exact I1 72 j
    · unfold upd
      split
      · rename_i e; rw [e, iv_68a.2.2.1]; decide
      · split
        · rename_i e; rw [e, iv_68a.2.1]; decide
        · split
          · rename_i e; rw [e, iv_68a.1]; decide
          · exact I1 68 j
  have F2 : frm wL6 m M2 := by
    rw [← hM2]
    intro o j hj h1 h2
    have q := pm_frm (m := m) (ps := 0) (fr := fr0) (so := so0) (va := va0) (fa := 0) (wr := wr0) o j hj h1 h2
    refine ⟨?_, q.2⟩
    rw [setR_at]
    split
    · rename_i e
      subst e
      have n5 : j ≠ 5 := fun z => h2 (by rw [z]; decide)
      have n6 : j ≠ 6 := fun z => h2 (by rw [z]; decide)
      have n7 : j ≠ 7 := fun z => h2 (by rw [z]; decide)
      unfold upd
      rw [if_neg n7, if_neg n6, if_neg n5]
      exact q.1
    · rw [setR_at, if_neg (fun e => h1 (by rw [e]; decide))]
      exact q.1
  have G2 : G41 M2 := by
    rw [← hM2]
    exact ⟨by show (1 : Int) ≤ (5 : Int32).toInt; decide, by show (5 : Int32).toInt ≤ (9 : Int); decide⟩
  obtain ⟨p1, f1, s1, a1, u1, x1, y1, o1, le1, fe1, pr1⟩ := t_tk wS (d + 27) M2 (hT_of I2) k0 va0 wr0
  rw [E2] at y1
  obtain ⟨M3, p2, f2, s2, a2, u2, x2, many, z1, I3, F3, o2, g3⟩ := tx_loop d hw 161 M2 p1 f1 s1 a1 u1 x1 0 (by omega) I2 o1 (fun _ => G2)
  have F3' : frm wL6 m M3 := frm_tr F2 F3 (by decide)
  have es : semZ shP wS (d + 30) 118 [.ref 68] m = rn shP tb0 mN mO (semZ shP wS (d + 29)) (some .int) (codeZ 118) 44 [.ref 68, .int many] [] (pm M3 p2 f2 s2 a2 u2 x2) := by
    rw [← z1, se_X7_text, rn_eq, b_X7_text_0]
    have fd : semZ shP wS (d + 29) 103 [.ref 68] (pm m 0 fr0 so0 va0 0 wr0) = some (none, M2) := fd
    have y1 : semZ shP wS (d + 29) 113 [.ref 68] M2 = some (none, pm M2 p1 f1 s1 a1 u1 x1) := y1
    have P1 : pfI shP 714 68 (.int 0) m = some (pm m ps0 fr0 so0 va0 0 wr0) := by
      have := (P68 m ps0 fr0 so0 va0 fa0 wr0).2.2.2.2.1 0
      rw [pm_w14, e0] at this
      exact this
    simp only [EV, LV, CB, OI, OL, NP, CZ, popN, CT, OZ, List.map_nil, List.map_cons, List.sum_nil, List.sum_cons, Option.toList, List.nil_append, List.cons_append, Int.reduceToNat, Nat.reduceAdd, Nat.reduceLT, Nat.reduceLeDiff, List.length_cons, List.length_nil, Nat.zero_add, if_true, if_false, reduceIte, and_self, and_true, true_and, eq_self, reduceCtorEq, C68, P1, P68, pm_w10z, fd, y1]
  rw [es]
  -- the end
  have e10 : ¬ (1 : Int32) = 0 := by decide
  have at73 : ∀ (u x : Int32), rn shP tb0 mN mO (semZ shP wS (d + 29)) (some .int) (codeZ 118) 73 [.ref 68, .int many] (if 73 = 44 then [] else []) (pm M3 p2 f2 s2 a2 u x) = if u ≤ 0 then rn shP tb0 mN mO (semZ shP wS (d + 29)) (some .int) (codeZ 118) 93 [.ref 68, .int many] [] (pm (wI M3 68 9 0) p2 f2 s2 a2 u x) else some (some (.int (-10 - x)), pm (wI M3 68 9 0) p2 f2 s2 a2 u x) := by
    intro u x
    have P9 : pfI shP 709 68 (.int 0) (pm M3 p2 f2 s2 a2 u x) = some (pm (wI M3 68 9 0) p2 f2 s2 a2 u x) := by
      rw [← pm_wo M3 p2 f2 s2 a2 u x 9 0 (by omega)]
      rfl
    show rn shP tb0 mN mO (semZ shP wS (d + 29)) (some .int) (codeZ 118) 73 [.ref 68, .int many] [] (pm M3 p2 f2 s2 a2 u x) = _
    rw [rn_eq, b_X7_text_73]
    simp only [EV, LV, CB, OI, OL, NP, CZ, popN, CT, OZ, List.map_nil, List.map_cons, List.sum_nil, List.sum_cons, Option.toList, List.nil_append, List.cons_append, Int.reduceToNat, Nat.reduceAdd, Nat.reduceLT, Nat.reduceLeDiff, List.length_cons, List.length_nil, Nat.zero_add, if_true, if_false, reduceIte, and_self, and_true, true_and, eq_self, reduceCtorEq, P9, G68]
  by_cases hu : u2 = 0
  · subst hu
    by_cases hh : M3.1 68 5 ≤ M3.1 68 7
    · have st : rn shP tb0 mN mO (semZ shP wS (d + 29)) (some .int) (codeZ 118) 44 [.ref 68, .int many] [] (pm M3 p2 f2 s2 a2 0 x2) = rn shP tb0 mN mO (semZ shP wS (d + 29)) (some .int) (codeZ 118) 73 [.ref 68, .int many] (if 73 = 44 then [] else []) (pm M3 p2 f2 s2 a2 6 (nI f2)) := by
        have P9 : pfI shP 709 68 (.int 0) (pm M3 p2 f2 s2 a2 6 (nI f2)) = some (pm (wI M3 68 9 0) p2 f2 s2 a2 6 (nI f2)) := by
          rw [← pm_wo M3 p2 f2 s2 a2 6 (nI f2) 9 0 (by omega)]
          rfl
        rw [at73, rn_eq, b_X7_text_44]
        simp only [EV, LV, CB, OI, OL, NP, CZ, popN, CT, OZ, List.map_nil, List.map_cons, List.sum_nil, List.sum_cons, Option.toList, List.nil_append, List.cons_append, Int.reduceToNat, Nat.reduceAdd, Nat.reduceLT, Nat.reduceLeDiff, List.length_cons, List.length_nil, Nat.zero_add, if_true, if_false, reduceIte, and_self, and_true, true_and, eq_self, reduceCtorEq, G68, hh, not_true_eq_false]
        rw [rn_eq, b_X7_text_67]
        simp only [EV, LV, CB, OI, OL, NP, CZ, popN, CT, OZ, List.map_nil, List.map_cons, List.sum_nil, List.sum_cons, Option.toList, List.nil_append, List.cons_append, Int.reduceToNat, Nat.reduceAdd, Nat.reduceLT, Nat.reduceLeDiff, List.length_cons, List.length_nil, Nat.zero_add, if_true, if_false, reduceIte, and_self, and_true, true_and, eq_self, reduceCtorEq, C68, t_needs wS (d + 28), P9, G68]
      rw [st]
      exact tx_end d m M3 I3 F3' (fa := 6) ⟨o2.1, o2.2.1, o2.2.2.1, by decide⟩ a2 (nI f2) many (fun z => absurd z (by decide)) 73 (at73 6 (nI f2))
    · have st : rn shP tb0 mN mO (semZ shP wS (d + 29)) (some .int) (codeZ 118) 44 [.ref 68, .int many] [] (pm M3 p2 f2 s2 a2 0 x2) = rn shP tb0 mN mO (semZ shP wS (d + 29)) (some .int) (codeZ 118) 73 [.ref 68, .int many] (if 73 = 44 then [] else []) (pm M3 p2 f2 s2 a2 0 x2) := by
        have P9 : pfI shP 709 68 (.int 0) (pm M3 p2 f2 s2 a2 0 x2) = some (pm (wI M3 68 9 0) p2 f2 s2 a2 0 x2) := by
          rw [← pm_wo M3 p2 f2 s2 a2 0 x2 9 0 (by omega)]
          rfl
        rw [at73, rn_eq, b_X7_text_44]
        simp only [EV, LV, CB, OI, OL, NP, CZ, popN, CT, OZ, List.map_nil, List.map_cons, List.sum_nil, List.sum_cons, Option.toList, List.nil_append, List.cons_append, Int.reduceToNat, Nat.reduceAdd, Nat.reduceLT, Nat.reduceLeDiff, List.length_cons, List.length_nil, Nat.zero_add, if_true, if_false, reduceIte, and_self, and_true, true_and, eq_self, reduceCtorEq, G68, hh, not_true_eq_false]
        rw [rn_eq, b_X7_text_68]
        simp only [EV, LV, CB, OI, OL, NP, CZ, popN, CT, OZ, List.map_nil, List.map_cons, List.sum_nil, List.sum_cons, Option.toList, List.nil_append, List.cons_append, Int.reduceToNat, Nat.reduceAdd, Nat.reduceLT, Nat.reduceLeDiff, List.length_cons, List.length_nil, Nat.zero_add, if_true, if_false, reduceIte, and_self, and_true, true_and, eq_self, reduceCtorEq, C68, t_needs wS (d + 28), e10, false_and, P9, G68]
      rw [st]
      exact tx_end d m M3 I3 F3' o2 a2 x2 many g3 73 (at73 0 x2)
  · have st : rn shP tb0 mN mO (semZ shP wS (d + 29)) (some .int) (codeZ 118) 44 [.ref 68, .int many] [] (pm M3 p2 f2 s2 a2 u2 x2) = rn shP tb0 mN mO (semZ shP wS (d + 29)) (some .int) (codeZ 118) 73 [.ref 68, .int many] (if 73 = 44 then [] else []) (pm M3 p2 f2 s2 a2 u2 x2) := by
      rw [rn_eq, b_X7_text_44]
      simp only [EV, LV, CB, OI, OL, NP, CZ, popN, CT, OZ, List.map_nil, List.map_cons, List.sum_nil, List.sum_cons, Option.toList, List.nil_append, List.cons_append, Int.reduceToNat, Nat.reduceAdd, Nat.reduceLT, Nat.reduceLeDiff, List.length_cons, List.length_nil, Nat.zero_add, if_true, if_false, reduceIte, and_self, and_true, true_and, eq_self, reduceCtorEq, G68, hu, not_false_eq_true]
      rfl
    rw [st]
    exact tx_end d m M3 I3 F3' o2 a2 x2 many g3 73 (at73 u2 x2)
end
section
/-! the words of the JDK that isWord needs (printed by wip/gen/jdkw.py) -/
theorem jw_in_len : Cond.instanceMethod yJ0_length_8abf5 ∈ tblG := wAt_mem (pl := 390) (by decide +kernel)
theorem jw_se_len : Cond.selects RJ0 yJ0_length_8abf5 yJ0_length_8abf5 ∈ tblG := wAt_mem (pl := 391) (by decide +kernel)
theorem jw_in_chr : Cond.instanceMethod yJ0_charAt_5068e ∈ tblG := wAt_mem (pl := 400) (by decide +kernel)
theorem jw_se_chr : Cond.selects RJ0 yJ0_charAt_5068e yJ0_charAt_5068e ∈ tblG := wAt_mem (pl := 401) (by decide +kernel)
theorem jw_in_cod : Cond.instanceMethod yJ0_coder_7d493 ∈ tblG := wAt_mem (pl := 394) (by decide +kernel)
theorem jw_se_cod : Cond.selects RJ0 yJ0_coder_7d493 yJ0_coder_7d493 ∈ tblG := wAt_mem (pl := 395) (by decide +kernel)
theorem jw_in_lat : Cond.instanceMethod yJ0_isLatin1_aae02 ∈ tblG := wAt_mem (pl := 404) (by decide +kernel)
theorem jw_se_lat : Cond.selects RJ0 yJ0_isLatin1_aae02 yJ0_isLatin1_aae02 ∈ tblG := wAt_mem (pl := 405) (by decide +kernel)
theorem jw_st_chk : Cond.static yJ0_checkIndex_df160 ∈ tblG := wAt_mem (pl := 411) (by decide +kernel)
theorem jw_st_ch1 : Cond.static yJ1_charAt_3b067 ∈ tblG := wAt_mem (pl := 408) (by decide +kernel)
theorem jw_st_ck3 : Cond.static yJ3_checkIndex_8e157 ∈ tblG := wAt_mem (pl := 416) (by decide +kernel)
theorem jw_co_len : Cond.code yJ0_length_8abf5 cJ0_length_8abf5 1 (some .int) ∈ tblG := wAt_mem (pl := 392) (by decide +kernel)
theorem jw_co_chr : Cond.code yJ0_charAt_5068e cJ0_charAt_5068e 2 (some .char) ∈ tblG := wAt_mem (pl := 402) (by decide +kernel)
theorem jw_co_cod : Cond.code yJ0_coder_7d493 cJ0_coder_7d493 1 (some .byte) ∈ tblG := wAt_mem (pl := 396) (by decide +kernel)
theorem jw_co_lat : Cond.code yJ0_isLatin1_aae02 cJ0_isLatin1_aae02 1 (some .boolean) ∈ tblG := wAt_mem (pl := 406) (by decide +kernel)
theorem jw_co_chk : Cond.code yJ0_checkIndex_df160 cJ0_checkIndex_df160 2 none ∈ tblG := wAt_mem (pl := 412) (by decide +kernel)
theorem jw_co_ch1 : Cond.code yJ1_charAt_3b067 cJ1_charAt_3b067 2 (some .char) ∈ tblG := wAt_mem (pl := 409) (by decide +kernel)
theorem jw_co_ck3 : Cond.code yJ3_checkIndex_8e157 cJ3_checkIndex_8e157 3 (some .int) ∈ tblG := wAt_mem (pl := 417) (by decide +kernel)
theorem jw_ml_len : Cond.methodLink RX3 27 yJ0_length_8abf5 ∈ tblG := wAt_mem (pl := 389) (by decide +kernel)
theorem jw_ml_chr : Cond.methodLink RX3 32 yJ0_charAt_5068e ∈ tblG := wAt_mem (pl := 399) (by decide +kernel)
theorem jw_ml_cod : Cond.methodLink RJ0 335 yJ0_coder_7d493 ∈ tblG := wAt_mem (pl := 393) (by decide +kernel)
theorem jw_ml_lat : Cond.methodLink RJ0 492 yJ0_isLatin1_aae02 ∈ tblG := wAt_mem (pl := 403) (by decide +kernel)
theorem jw_ml_ch1 : Cond.methodLink RJ0 495 yJ1_charAt_3b067 ∈ tblG := wAt_mem (pl := 407) (by decide +kernel)
theorem jw_ml_chk : Cond.methodLink RJ1 9 yJ0_checkIndex_df160 ∈ tblG := wAt_mem (pl := 410) (by decide +kernel)
theorem jw_ml_ck3 : Cond.methodLink RJ0 1059 yJ3_checkIndex_8e157 ∈ tblG := wAt_mem (pl := 415) (by decide +kernel)
theorem jw_fl_val : Cond.fieldLink RJ0 9 "java/lang/String" "value" "[B" ∈ tblG := wAt_mem (pl := 1228) (by decide +kernel)
theorem jw_fl_com : Cond.fieldLink RJ0 38 "java/lang/String" "COMPACT_STRINGS" "Z" ∈ tblG := wAt_mem (pl := 397) (by decide +kernel)
theorem jw_fl_cdr : Cond.fieldLink RJ0 15 "java/lang/String" "coder" "B" ∈ tblG := wAt_mem (pl := 1229) (by decide +kernel)
theorem jw_fl_sio : Cond.fieldLink RJ0 1053 "jdk/internal/util/Preconditions" "SIOOBE_FORMATTER" "Ljava/util/function/BiFunction;" ∈ tblG := wAt_mem (pl := 413) (by decide +kernel)
theorem jw_ini_J0 : Cond.initialized RJ0 ∈ tblG := wAt_mem (pl := 72) (by decide +kernel)
theorem jw_ini_J1 : Cond.initialized RJ1 ∈ tblG := wAt_mem (pl := 73) (by decide +kernel)
theorem jw_ini_J3 : Cond.initialized RJ3 ∈ tblG := wAt_mem (pl := 74) (by decide +kernel)
/-- what the JDK's methods of a String constant read -/
def StJ (adK adV : Nat → Nat) (A : Nat → Prop) (U : State) : Prop := vk_S 8 lenS bytS adK adV A U U.heap ∧ va_Z "java/lang/String" "COMPACT_STRINGS" "Z" (.int 1) A U U.heap ∧ va_Zq "jdk/internal/util/Preconditions" "SIOOBE_FORMATTER" "Ljava/util/function/BiFunction;" A U U.heap
theorem StJ.go {adK adV : Nat → Nat} {A B : Nat → Prop} {s : State} {H : Heap} {locs : List Loc} (h : StJ adK adV A s) (hS : va_S A s.heap H locs) (hn : ∀ q, B q → A q) {U : State} (hU : U.heap = H) (hW : s.WarmedH U.vm) : StJ adK adV B U := by
  obtain ⟨h1, h2, h3⟩ := h
  refine ⟨?_, ?_, ?_⟩
  · rw [hU]
    exact ((h1.kept (H1 := H) hS.2.1).narrow hn).moved hW.alike
  · rw [hU]
    exact ((h2.kept (H1 := H) hS.2.1).narrow hn).moved hW.alike
  · rw [hU]
    exact ((h3.kept (H1 := H) hS.2.1).narrow hn).moved hW.alike
def PcJ (adK adV : Nat → Nat) (As : List Value) (sz : Nat) : Array Value → State → Prop := va_Pc As (fun U => U.heap.size = sz ∧ StJ adK adV (fun q => sz ≤ q) U)
def QcJ (v : Option Value) (sz : Nat) : Array Value → State → Outcome → State → Prop := fun _ st oc t => oc = .returned v ∧ va_F (fun q => sz ≤ q) st t
def MetJ (l : Launch) (adK adV : Nat → Nat) (y : MethodName) (cc : ByteArray) (mx : Nat) (rt : Option FieldType) (rm : Room) (As : List Value) (v : Option Value) : Prop := ∀ sz : Nat, Met l y (.code y cc mx rt :: tblG) rm (PcJ adK adV As sz) (QcJ v sz) 0 0 (fun q => sz ≤ q)
theorem PcJ_blind {adK adV : Nat → Nat} {As : List Value} {sz : Nat} : FrameBlind (PcJ adK adV As sz) := by
  intro a U g mk q
  obtain ⟨q0, q1, q2, q3, q4⟩ := q
  exact ⟨q0, q1, vk_S.moved (u := U) (U := U.calling g mk a) (Vm.Alike.refl U.vm) q2, va_Z.moved (u := U) (U := U.calling g mk a) (Vm.Alike.refl U.vm) q3, va_Zq.moved (u := U) (U := U.calling g mk a) (Vm.Alike.refl U.vm) q4⟩
section Jdk
variable {l : Launch} {adK adV : Nat → Nat}
variable {p : Program} {e : Env} {R : Room} {s : State} {m : MethodId} {args : Array Value} {below : List Frame} {meth : Method} {c : Code} {cells slots : Nat} {Q : State → Prop}
variable {A : Nat → Prop} {own : String} {nL : Nat} {cc : ByteArray} {H : Heap} {locs : List Loc} {ls : Array Slot} {rest : List Value} {pc : Nat}
/-- where such a method runs -/
def Cj (adK adV : Nat → Nat) (A : Nat → Prop) (own : String) (nL : Nat) (cc : ByteArray) (p : Program) (s : State) (m : MethodId) (args : Array Value) (c : Code) : Prop :=
  p.tables.exec = Jvm.exec ∧ c.code = cc ∧ c.maxLocals = nL ∧ s.vm.findClass own = some m.cls ∧ (∀ w ∈ tblG, w.before args s = true) ∧ StJ adK adV A s ∧ (∀ q : Nat, s.heap.size ≤ q → A q)
theorem callJ {st0 : List Value} {a : Array Value} {v : Option Value} (hA : ∀ q : Nat, s.heap.size ≤ q → A q) (hS : va_S A s.heap H locs)
    (hr : va_Run p l e R s m args below meth c H locs cells slots 0 0 (F0 m pc ls st0) rest (QcJ v H.size a) (fun q => H.size ≤ q))
    (kk : ∀ (H1 : Heap) (locs1 : List Loc), va_S A s.heap H1 locs1 → H.size ≤ H1.size → (∀ q : Nat, q < H.size → H1[q]? = H[q]?) → W p l e R s m args below meth c H1 locs1 cells slots Q (F0 m (pc + 3) ls (v.toList ++ rest))) : W p l e R s m args below meth c H locs cells slots Q (F0 m pc ls st0) := by
  intro T hT X
  obtain ⟨v1, st₀, t, T', L, h0, X', hL, e1, e2, ⟨hv, hz, hk⟩, st⟩ := hr T hT X
  simp only [Outcome.returned.injEq] at hv
  subst hv
  rw [h0] at hz hk
  have hk1 : ∀ q : Nat, q < H.size → T'.heap[q]? = H[q]? := fun q hq => by rw [e1]; exact hk q hq (by omega)
  have hz1 : H.size ≤ T'.heap.size := by rw [e1]; exact hz
  obtain ⟨t2, a1, b1⟩ := kk T'.heap (locs ++ L) ⟨Nat.le_trans hS.1 hz1, fun q h1 h2 => by rw [hk1 q (Nat.lt_of_lt_of_le h1 hS.1)]; exact hS.2.1 q h1 h2, fun q hq => by
      rcases List.mem_append.mp hq with h | h
      · exact hS.2.2 q h
      · exact hA _ (Nat.le_trans hS.1 (hL q h))⟩ hz1 hk1 T' rfl X'
  exact ⟨t2, st t2 a1, b1⟩
theorem MetJ_of {y : MethodName} {mx : Nat} {rt : Option FieldType} {rm : Room} {As : List Value} {v : Option Value} (hn : plainName y.cls = true) (hl : (lg_sl As).length ≤ mx)
    (kk : ∀ (p : Program) (e : Env) (s : State) (m : MethodId) (below : List Frame) (meth : Method) (c : Code) (ls : Array Slot), Cj adK adV (fun q => s.heap.size ≤ q) y.cls mx cc p s m As.toArray c → meth.sig.returnType = rt → meth.locks = false → lv_has ls mx (lv_args 0 As) → va_S (fun q => s.heap.size ≤ q) s.heap s.heap [] → W p l e rm s m As.toArray below meth c s.heap [] 0 0 (MQ below (QcJ v s.heap.size) As.toArray s 0 0 (fun q => s.heap.size ≤ q)) (F0 m 0 ls [])) : MetJ l adK adV y cc mx rt rm As v := by
  intro sz
  refine Met.ofW (cc := cc) (maxL := mx) (ret := rt) hn rfl ?_
  intro p e s m args below meth c s₁ B hml hv
  obtain ⟨rfl, hsz, hSt⟩ := hv
  subst hsz
  have hts := atoms_spec (ws := .code y cc mx rt :: tblG) B.pre
  have hown : s.vm.findClass y.cls = some m.cls := findClass_of_methodNamed B.named
  have h0 := lv_entry As (n := mx) hl
  rw [lg_entry_eq]
  exact kk p e s m below meth c _ ⟨B.exec, B.bytes, hml, hown, fun w hw => hts w (List.mem_cons_of_mem _ hw), hSt, fun q h => h⟩ B.returns B.notSynchronized h0 va_S.rf
/-- a virtual call of a String's method -/
theorem jV (X : Cj adK adV A own nL cc p s m args c) (hS : va_S A s.heap H locs) {y : MethodName} {yb : ByteArray} {mx n x i : Nat} {rt : Option FieldType} {rm : Room} {As : List Value} {v : Option Value} (hC : MetJ l adK adV y yb mx rt rm (.ref (adK i) :: As) v) (hi : i < 8) (hy : y.cls = RJ0) (h1 : Cond.methodLink own x y ∈ tblG) (h2 : Cond.instanceMethod y ∈ tblG) (h3 : Cond.selects RJ0 y y ∈ tblG) (h4 : Cond.code y yb mx rt ∈ tblG)
    (hd0 : (parseMethodDescriptor y.desc).map (fun d => d.parameters.length) = some n) (hrc : rm.cells = 0) (hrs : rm.slots = 0) (hfr : rm.frames + 1 ≤ R.frames) (hlo : 8 + (mx + 11) + rm.locals ≤ R.locals) (hn : As.length = n) (hls : ls.size = nL) (hcat : (rest.map fun v => v.category).sum ≤ 8) (hd : decode cc pc = .ok (.invokevirtual x, 3)) (hc : cells ≤ R.cells) (hsl : slots ≤ R.slots)
    (kk : ∀ (H1 : Heap) (locs1 : List Loc), va_S A s.heap H1 locs1 → H.size ≤ H1.size → (∀ q : Nat, q < H.size → H1[q]? = H[q]?) → W p l e R s m args below meth c H1 locs1 cells slots Q (F0 m (pc + 3) ls (v.toList ++ rest))) : W p l e R s m args below meth c H locs cells slots Q (F0 m pc ls (As.reverse ++ .ref (adK i) :: rest)) := by
  obtain ⟨hx, hb, hml, hown, hts, hSt, hA⟩ := X
  refine callJ hA hS (va_runV (C := RJ0) (As := As) (rest := rest) (b := adK i) (n := n) ⟨hx, hb, hml, hown, hts⟩ (hC H.size) (cwV (C := RJ0) (bytes := yb) (maxL := mx) (ret := rt) (ws' := tblG) n hts (goodG (fun w hw => ?_)) rfl hrc hrs ⟨hy, by rw [hy]; decide, by rw [hy]; decide, hd0⟩ ⟨hfr, hlo⟩) ⟨PcJ_blind, vk_recv hSt.1 hi hS, fun U hU hW => ⟨rfl, by rw [hU], hSt.go hS (fun q h => hA q (Nat.le_trans hS.1 h)) hU hW⟩⟩ rfl hn hls rfl (lv_room hcat) hd ⟨hc, hsl⟩) kk
  rcases List.mem_append.mp hw with h | h
  · simp only [List.mem_cons, List.not_mem_nil, or_false] at h
    rcases h with rfl | rfl | rfl | rfl
    · exact h1
    · exact h2
    · exact h3
    · exact jw_ini_J0
  · rcases List.mem_cons.mp h with rfl | h
    · exact h4
    · exact h
/-- a static call of the JDK's -/
theorem jS (X : Cj adK adV A own nL cc p s m args c) (hS : va_S A s.heap H locs) {y : MethodName} {yb : ByteArray} {mx n x : Nat} {rt : Option FieldType} {rm : Room} {As : List Value} {v : Option Value} (hC : MetJ l adK adV y yb mx rt rm As v) (hy : y.cls ≠ "java/lang/invoke/MethodHandle" ∧ y.cls ≠ "java/lang/invoke/VarHandle") (h1 : Cond.methodLink own x y ∈ tblG) (h2 : Cond.static y ∈ tblG) (h3 : Cond.initialized y.cls ∈ tblG) (h4 : Cond.code y yb mx rt ∈ tblG)
    (hd0 : (parseMethodDescriptor y.desc).map (fun d => d.parameters.length) = some n) (hrc : rm.cells = 0) (hrs : rm.slots = 0) (hfr : rm.frames + 1 ≤ R.frames) (hlo : 8 + (mx + 11) + rm.locals ≤ R.locals) (hn : As.length = n) (hls : ls.size = nL) (hcat : (rest.map fun v => v.category).sum ≤ 8) (hd : decode cc pc = .ok (.invokestatic x, 3)) (hc : cells ≤ R.cells) (hsl : slots ≤ R.slots)
    (kk : ∀ (H1 : Heap) (locs1 : List Loc), va_S A s.heap H1 locs1 → H.size ≤ H1.size → (∀ q : Nat, q < H.size → H1[q]? = H[q]?) → W p l e R s m args below meth c H1 locs1 cells slots Q (F0 m (pc + 3) ls (v.toList ++ rest))) : W p l e R s m args below meth c H locs cells slots Q (F0 m pc ls (As.reverse ++ rest)) := by
  obtain ⟨hx, hb, hml, hown, hts, hSt, hA⟩ := X
  refine callJ hA hS (va_runS (As := As) (rest := rest) (n := n) ⟨hx, hb, hml, hown, hts⟩ (hC H.size) (va_cwS (bytes := yb) (maxL := mx) (ret := rt) (ws' := tblG) n hts (goodG (fun w hw => ?_)) rfl hrc hrs ⟨hy.1, hy.2, hd0⟩ ⟨hfr, hlo⟩) ⟨PcJ_blind, fun U hU hW => ⟨rfl, by rw [hU], hSt.go hS (fun q h => hA q (Nat.le_trans hS.1 h)) hU hW⟩⟩ rfl hn hls rfl (lv_room hcat) hd ⟨hc, hsl⟩) kk
  rcases List.mem_append.mp hw with h | h
  · simp only [List.mem_cons, List.not_mem_nil, or_false] at h
    rcases h with rfl | rfl | rfl
    · exact h1
    · exact h2
    · exact h3
  · rcases List.mem_cons.mp h with rfl | h
    · exact h4
    · exact h
def rj0 : Room := { frames := 0, cells := 0, slots := 0, locals := 0 }
/-- coder() -/
theorem c_coder {i : Nat} (hi : i < 8) : MetJ l adK adV yJ0_coder_7d493 cJ0_coder_7d493 1 (some .byte) rj0 [.ref (adK i)] (some (.int 0)) := by
  refine MetJ_of (by decide +kernel) (show (lg_sl _).length ≤ 1 from Nat.le_refl 1) (fun p e s m below meth c ls X hr hlk hl hS => ?_)
  obtain ⟨hx, hb, hml, hown, hts, hSt, hA⟩ := X
  refine va_gets (C := "java/lang/String") (n := "COMPACT_STRINGS") (d := "Z") (v := .int 1) hx hb hSt.2.1 hS hown (hts _ jw_fl_com) (fun _ h9 => h9) (by decide +kernel) ?_
  refine lv_if_eq (tgt := 13) (off := 10) hx hb (by decide +kernel) (by decide) (fun h => absurd h (by decide)) (fun _ => ?_)
  refine lv_aload_n hx hb (pc := 6) (k := 0) (by decide +kernel) rfl (lv_at hl 0 rfl) ?_
  refine vk_getf (v := .int 0) hx hb (hSt.1.1 i hi).2.1 hS hown (hts _ jw_fl_cdr) (fun _ h9 => h9) (by decide +kernel) ?_
  refine lv_goto (tgt := 14) (off := 4) hx hb (by decide +kernel) (by decide) ?_
  exact W.zret hx hb hr (by decide +kernel) (fun t ht _ => ⟨rfl, hS.F ht⟩) hS.2.2 (by decide +kernel)
/-- isLatin1() -/
theorem c_latin {i : Nat} (hi : i < 8) : MetJ l adK adV yJ0_isLatin1_aae02 cJ0_isLatin1_aae02 1 (some .boolean) rj0 [.ref (adK i)] (some (.int 1)) := by
  refine MetJ_of (by decide +kernel) (show (lg_sl _).length ≤ 1 from Nat.le_refl 1) (fun p e s m below meth c ls X hr hlk hl hS => ?_)
  obtain ⟨hx, hb, hml, hown, hts, hSt, hA⟩ := X
  refine va_gets (C := "java/lang/String") (n := "COMPACT_STRINGS") (d := "Z") (v := .int 1) hx hb hSt.2.1 hS hown (hts _ jw_fl_com) (fun _ h9 => h9) (by decide +kernel) ?_
  refine lv_if_eq (tgt := 17) (off := 14) hx hb (by decide +kernel) (by decide) (fun h => absurd h (by decide)) (fun _ => ?_)
  refine lv_aload_n hx hb (pc := 6) (k := 0) (by decide +kernel) rfl (lv_at hl 0 rfl) ?_
  refine vk_getf (v := .int 0) hx hb (hSt.1.1 i hi).2.1 hS hown (hts _ jw_fl_cdr) (fun _ h9 => h9) (by decide +kernel) ?_
  refine lv_if_ne (tgt := 17) (off := 7) hx hb (by decide +kernel) (by decide) (fun h => absurd rfl h) (fun _ => ?_)
  refine lv_iconst (v := 1) hx hb (pc := 13) (n := 1) (by decide +kernel) (by decide) ?_
  refine lv_goto (tgt := 18) (off := 4) hx hb (by decide +kernel) (by decide) ?_
  exact W.zret hx hb hr (by decide +kernel) (fun t ht _ => ⟨rfl, hS.F ht⟩) hS.2.2 (by decide +kernel)
def rj1 : Room := { frames := 1, cells := 0, slots := 0, locals := 22 }
def rj2 : Room := { frames := 2, cells := 0, slots := 0, locals := 43 }
def rj3 : Room := { frames := 3, cells := 0, slots := 0, locals := 64 }
theorem sh0 {n : Nat} (h : n < 2 ^ 31) : nI n >>> ((0 : Int32) &&& 31) = nI n := by
  rw [pk_shrN h _ 0 (by decide)]
  simp
theorem len_lt : ∀ i, i < 8 → lenS.getD i 0 < 8 := by decide
/-- length() -/
theorem c_length {i : Nat} (hi : i < 8) : MetJ l adK adV yJ0_length_8abf5 cJ0_length_8abf5 1 (some .int) rj1 [.ref (adK i)] (some (.int (nI (lenS.getD i 0)))) := by
  refine MetJ_of (by decide +kernel) (show (lg_sl _).length ≤ 1 from Nat.le_refl 1) (fun p e s m below meth c ls X hr hlk hl hS => ?_)
  obtain ⟨hx, hb, hml, hown, hts, hSt, hA⟩ := id X
  refine lv_aload_n hx hb (pc := 0) (k := 0) (by decide +kernel) rfl (lv_at hl 0 rfl) ?_
  refine vk_getf (v := .ref (adV i)) hx hb (hSt.1.1 i hi).2.2.1 hS hown (hts _ jw_fl_val) (fun _ h9 => h9) (by decide +kernel) ?_
  refine va_tlen hx hb (hSt.1.1 i hi).2.2.2 hS (v := nI (lenS.getD i 0)) rfl (by decide +kernel) ?_
  refine lv_aload_n hx hb (pc := 5) (k := 0) (by decide +kernel) rfl (lv_at hl 0 rfl) ?_
  refine jV (As := []) X hS (c_coder hi) hi rfl jw_ml_cod jw_in_cod jw_se_cod jw_co_cod (n := 0) (by decide +kernel) rfl rfl (by decide) (by decide) rfl hl.1 (Nat.le_of_ble_eq_true rfl) (by decide +kernel) (Nat.zero_le _) (Nat.zero_le _) (fun H1 locs1 hS _ _ => ?_)
  refine lv_ishr hx hb (by decide +kernel) ?_
  rw [sh0 (by have := len_lt i hi; omega)]
  exact W.iret hx hb hr (fun t ht _ => ⟨rfl, hS.F ht⟩) hS.2.2 (by decide +kernel)
/-- Preconditions.checkIndex, the index in bounds -/
theorem c_check3 {k n : Nat} {w : Value} (hk : k < n) (hn : n < 2 ^ 31) (hw : w = .null ∨ ∃ a, w = .ref a) : MetJ l adK adV yJ3_checkIndex_8e157 cJ3_checkIndex_8e157 3 (some .int) rj0 [.int (nI k), .int (nI n), w] (some (.int (nI k))) := by
  refine MetJ_of (by decide +kernel) (by rcases hw with rfl | ⟨a, rfl⟩ <;> exact Nat.le_refl 3) (fun p e s m below meth c ls X hr hlk hl hS => ?_)
  obtain ⟨hx, hb, hml, hown, hts, hSt, hA⟩ := id X
  have hl0 : ls[0]? = some (.val (.int (nI k))) := lv_at hl 0 rfl
  have hl1 : ls[1]? = some (.val (.int (nI n))) := lv_at hl 1 rfl
  refine lv_iload_n hx hb (pc := 0) (k := 0) (by decide +kernel) rfl hl0 ?_
  refine lv_if_lt (tgt := 9) (off := 8) hx hb (by decide +kernel) (by decide) (fun h => absurd h (nI_pos (by omega))) (fun _ => ?_)
  refine lv_iload_n hx hb (pc := 4) (k := 0) (by decide +kernel) rfl hl0 ?_
  refine lv_iload_n hx hb (pc := 5) (k := 1) (by decide +kernel) rfl hl1 ?_
  refine lv_icmp_lt (tgt := 16) (off := 10) hx hb (by decide +kernel) (by decide) (fun _ => ?_) (fun h => absurd (nI_lt hk hn) h)
  refine lv_iload_n hx hb (pc := 16) (k := 0) (by decide +kernel) rfl hl0 ?_
  exact W.iret hx hb hr (fun t ht _ => ⟨rfl, hS.F ht⟩) hS.2.2 (by decide +kernel)
/-- String.checkIndex, the index in bounds -/
theorem c_check {k n : Nat} (hk : k < n) (hn : n < 2 ^ 31) : MetJ l adK adV yJ0_checkIndex_df160 cJ0_checkIndex_df160 2 none rj1 [.int (nI k), .int (nI n)] none := by
  refine MetJ_of (by decide +kernel) (by exact Nat.le_refl 2) (fun p e s m below meth c ls X hr hlk hl hS => ?_)
  obtain ⟨hx, hb, hml, hown, hts, hSt, hA⟩ := id X
  have hl0 : ls[0]? = some (.val (.int (nI k))) := lv_at hl 0 rfl
  have hl1 : ls[1]? = some (.val (.int (nI n))) := lv_at hl 1 rfl
  refine lv_iload_n hx hb (pc := 0) (k := 0) (by decide +kernel) rfl hl0 ?_
  refine lv_iload_n hx hb (pc := 1) (k := 1) (by decide +kernel) rfl hl1 ?_
  have hz : ∃ w : Value, (w = .null ∨ ∃ a, w = .ref a) ∧ va_Z "jdk/internal/util/Preconditions" "SIOOBE_FORMATTER" "Ljava/util/function/BiFunction;" w (fun q => s.heap.size ≤ q) s s.heap := by
    rcases hSt.2.2 with h | ⟨a, h⟩
    · exact ⟨_, Or.inl rfl, h⟩
    · exact ⟨_, Or.inr ⟨a, rfl⟩, h⟩
  obtain ⟨w, hw, hz⟩ := hz
  refine va_gets (v := w) hx hb hz hS hown (hts _ jw_fl_sio) (fun _ h9 => h9) (by decide +kernel) ?_
  refine jS (As := [.int (nI k), .int (nI n), w]) (rest := []) X hS (c_check3 hk hn hw) (by decide) jw_ml_ck3 jw_st_ck3 jw_ini_J3 jw_co_ck3 (n := 3) (by decide +kernel) rfl rfl (by decide) (by decide) rfl hl.1 (by decide) (by decide +kernel) (Nat.zero_le _) (Nat.zero_le _) (fun H1 locs1 hS _ _ => ?_)
  refine lv_pop hx hb (by decide +kernel) rfl ?_
  exact W.vret hx hb hr (fun t ht _ => ⟨rfl, hS.F ht⟩) hS.2.2 (by decide +kernel)
/-- the letter at k -/
def chS (i k : Nat) : Int32 := (bytS.getD i []).getD k 0
theorem ch_ok : ∀ i, i < 8 → ∀ k, k < 8 → (((chS i k) &&& 255).toUInt32 % 65536).toInt32 = chS i k ∧ narrow .char (.int (chS i k)) = .int (chS i k) := by decide +kernel
/-- StringLatin1.charAt -/
theorem c_char1 {i k : Nat} (hi : i < 8) (hk : k < lenS.getD i 0) : MetJ l adK adV yJ1_charAt_3b067 cJ1_charAt_3b067 2 (some .char) rj2 [.ref (adV i), .int (nI k)] (some (.int (chS i k))) := by
  have h8 := len_lt i hi
  refine MetJ_of (by decide +kernel) (by exact Nat.le_refl 2) (fun p e s m below meth c ls X hr hlk hl hS => ?_)
  obtain ⟨hx, hb, hml, hown, hts, hSt, hA⟩ := id X
  have hl0 : ls[0]? = some (.val (.ref (adV i))) := lv_at hl 0 rfl
  have hl1 : ls[1]? = some (.val (.int (nI k))) := lv_at hl 1 rfl
  refine lv_iload_n hx hb (pc := 0) (k := 1) (by decide +kernel) rfl hl1 ?_
  refine lv_aload_n hx hb (pc := 1) (k := 0) (by decide +kernel) rfl hl0 ?_
  refine va_tlen hx hb (hSt.1.1 i hi).2.2.2 hS (v := nI (lenS.getD i 0)) rfl (by decide +kernel) ?_
  refine jS (As := [.int (nI k), .int (nI (lenS.getD i 0))]) (rest := []) X hS (c_check hk (by omega)) (by decide) jw_ml_chk jw_st_chk jw_ini_J0 jw_co_chk (n := 2) (by decide +kernel) rfl rfl (by decide) (by decide) rfl hl.1 (by decide) (by decide +kernel) (Nat.zero_le _) (Nat.zero_le _) (fun H1 locs1 hS _ _ => ?_)
  refine lv_aload_n hx hb (pc := 6) (k := 0) (by decide +kernel) rfl hl0 ?_
  refine lv_iload_n hx hb (pc := 7) (k := 1) (by decide +kernel) rfl hl1 ?_
  refine va_tb (v := .int (chS i k)) hx hb (hSt.1.1 i hi).2.2.2 hS (vp_in_nI hk (by omega)) (by rw [nI_clamp (by omega)]; rfl) (by decide +kernel) ?_
  refine lv_sipush (v := 255) hx hb (pc := 9) (n := 255) (by decide +kernel) (by decide) ?_
  refine lv_iand hx hb (by decide +kernel) ?_
  obtain ⟨c1, c2⟩ := ch_ok i hi k (by omega)
  refine lv_i2c (v := chS i k) hx hb (by decide +kernel) c1 ?_
  exact W.zret hx hb hr c2 (fun t ht _ => ⟨rfl, hS.F ht⟩) hS.2.2 (by decide +kernel)
/-- charAt -/
theorem c_char {i k : Nat} (hi : i < 8) (hk : k < lenS.getD i 0) : MetJ l adK adV yJ0_charAt_5068e cJ0_charAt_5068e 2 (some .char) rj3 [.ref (adK i), .int (nI k)] (some (.int (chS i k))) := by
  have h8 := len_lt i hi
  refine MetJ_of (by decide +kernel) (by exact Nat.le_refl 2) (fun p e s m below meth c ls X hr hlk hl hS => ?_)
  obtain ⟨hx, hb, hml, hown, hts, hSt, hA⟩ := id X
  have hl0 : ls[0]? = some (.val (.ref (adK i))) := lv_at hl 0 rfl
  have hl1 : ls[1]? = some (.val (.int (nI k))) := lv_at hl 1 rfl
  refine lv_aload_n hx hb (pc := 0) (k := 0) (by decide +kernel) rfl hl0 ?_
  refine jV (As := []) X hS (c_latin hi) hi rfl jw_ml_lat jw_in_lat jw_se_lat jw_co_lat (n := 0) (by decide +kernel) rfl rfl (by decide) (by decide) rfl hl.1 (by decide) (by decide +kernel) (Nat.zero_le _) (Nat.zero_le _) (fun H1 locs1 hS _ _ => ?_)
  refine lv_if_eq (tgt := 16) (off := 12) hx hb (by decide +kernel) (by decide) (fun h => absurd h (by decide)) (fun _ => ?_)
  refine lv_aload_n hx hb (pc := 7) (k := 0) (by decide +kernel) rfl hl0 ?_
  refine vk_getf (v := .ref (adV i)) hx hb (hSt.1.1 i hi).2.2.1 hS hown (hts _ jw_fl_val) (fun _ h9 => h9) (by decide +kernel) ?_
  refine lv_iload_n hx hb (pc := 11) (k := 1) (by decide +kernel) rfl hl1 ?_
  refine jS (As := [.ref (adV i), .int (nI k)]) (rest := []) X hS (c_char1 hi hk) (by decide) jw_ml_ch1 jw_st_ch1 jw_ini_J1 jw_co_ch1 (n := 2) (by decide +kernel) rfl rfl (by decide) (by decide) rfl hl.1 (by decide) (by decide +kernel) (Nat.zero_le _) (Nat.zero_le _) (fun H1 locs1 hS _ _ => ?_)
  exact W.zret hx hb hr (ch_ok i hi k (by omega)).2 (fun t ht _ => ⟨rfl, hS.F ht⟩) hS.2.2 (by decide +kernel)
end Jdk
end
section
/-! isWord over the JVM -/
def wLp (f g : Nat → Int32) : Nat → Nat → Int32
  | 0, _ => 1
  | n + 1, k => if f k = g k then wLp f g n (k + 1) else 0
/-- the meaning of isWord -/
def wW (As : List Value) (m : Mm) : Option Rs := match As with
  | [.ref a, .ref s] => if a = 24 ∧ 2000 ≤ s ∧ s < 2008 ∧ 0 ≤ (m.1 24 1).toInt ∧ (m.1 24 1).toInt ≤ 160 ∧ 0 ≤ (m.1 24 2).toInt ∧ (m.1 24 2).toInt ≤ 160 then
      some (some (.int (if nI (lenS.getD (s - 2000) 0) = m.1 24 2 - m.1 24 1 then wLp (fun k => m.1 25 ((m.1 24 1).toNatClampNeg + k)) (chS (s - 2000)) (lenS.getD (s - 2000) 0) 0 else 0)), m)
    else none
  | _ => none
theorem wLp_b (f g : Nat → Int32) : ∀ n k, wLp f g n k = 0 ∨ wLp f g n k = 1
  | 0, _ => Or.inr rfl
  | n + 1, k => by
    unfold wLp
    split
    · exact wLp_b f g n (k + 1)
    · exact Or.inl rfl
theorem WOK_wW : WOK wW := by
  intro As m g hI hR
  obtain ⟨v1, vs, rfl, k1, g⟩ := gT_cons g
  obtain ⟨v2, vs, rfl, k2, g⟩ := gT_cons g
  cases gT_nil g
  obtain ⟨r1, rfl, hr1⟩ := k1
  have hr1 : r1 = 24 := List.mem_singleton.mp hr1
  subst hr1
  obtain ⟨r2, rfl, hr2⟩ := k2
  have h2 : 2000 ≤ r2 ∧ r2 < 2008 := by
    have : ∀ x ∈ [2000, 2001, 2002, 2003, 2004, 2005, 2006, 2007], 2000 ≤ x ∧ x < 2008 := by decide
    exact this _ hr2
  have a1 := hI 24 1
  have a2 := hI 24 2
  rw [iv_24.1] at a1
  rw [iv_24.2] at a2
  have hc : (24 : Nat) = 24 ∧ 2000 ≤ r2 ∧ r2 < 2008 ∧ 0 ≤ (m.1 24 1).toInt ∧ (m.1 24 1).toInt ≤ 160 ∧ 0 ≤ (m.1 24 2).toInt ∧ (m.1 24 2).toInt ≤ 160 := ⟨rfl, h2.1, h2.2, a1.1, a1.2, a2.1, a2.2⟩
  refine ⟨_, _, if_pos hc, ?_, hI, rho_nil, frm_rf, fun _ _ _ q hq => by cases hq⟩
  have hb : (if nI (lenS.getD (r2 - 2000) 0) = m.1 24 2 - m.1 24 1 then wLp (fun k => m.1 25 ((m.1 24 1).toNatClampNeg + k)) (chS (r2 - 2000)) (lenS.getD (r2 - 2000) 0) 0 else 0) = (0 : Int32) ∨ (if nI (lenS.getD (r2 - 2000) 0) = m.1 24 2 - m.1 24 1 then wLp (fun k => m.1 25 ((m.1 24 1).toNatClampNeg + k)) (chS (r2 - 2000)) (lenS.getD (r2 - 2000) 0) 0 else 0) = (1 : Int32) := by
    split
    · exact wLp_b _ _ _ _
    · exact Or.inl rfl
  rcases hb with h | h <;> rw [h] <;> exact ret_i (by decide) (by decide)
section Wrd
variable {l : Launch} {ad : Nat → Nat} {dA : Nat → ClassId} {D : va_G}
variable {p : Program} {e : Env} {R : Room} {s : State} {m : MethodId} {args : Array Value} {below : List Frame} {meth : Method} {c : Code} {Q : State → Prop} {A : Nat → Prop} {pc : Nat} {L rest : List Value} {m0 : Mm}
theorem iw_st (X : Cx shP tb0 ad dA D A 3 3 cX3_isWord p s m args c) (hfr : 4 ≤ R.frames) (hlo : 160 ≤ R.locals) {i raw : ClassFile.Instr} {len : Nat} {st L' st' : List Value} {m1 : Mm} (hd : decode cX3_isWord pc = .ok (raw, len)) (ok : okI 3 4 160 pc i raw len = true) (hni : ∀ t, i ≠ .goto t) (h : sI shP tb0 mN mO (fun _ _ _ => none) i L st m0 = some (L', st', m1)) (kk : Gd l shP ad dA D A 3 p e R s m args below meth c 0 0 Q (pc + len) L' st' m1) : Gd l shP ad dA D A 3 p e R s m args below meth c 0 0 Q pc L st m0 :=
  sim_step (fun _ _ h => h) X (fun _ _ _ _ h => by cases h) hfr hlo (Nat.zero_le _) (Nat.zero_le _) h ok hd hni kk
theorem Cj_of (X : Cx shP tb0 ad dA D A 3 3 cX3_isWord p s m args c) : ∃ adV, Cj (fun i => ad (2000 + i)) adV A RX3 3 cX3_isWord p s m args c := by
  obtain ⟨hx, hb, hml, hown, hts, hK, hsh, hSt, hA⟩ := X
  obtain ⟨-, -, -, ⟨adV, h5⟩, h6, h7⟩ := hSt
  exact ⟨adV, hx, hb, hml, hown, hts, ⟨h5, h6, h7⟩, fun q h => hA q (Or.inr h)⟩
theorem Hp_on {H H1 : Heap} {locs locs1 : List Loc} (hH : Hp shP ad dA D A s m0 H locs) (hS : va_S A s.heap H1 locs1) (hk : ∀ q : Nat, q < H.size → H1[q]? = H[q]?) : Hp shP ad dA D A s m0 H1 locs1 := ⟨hH.1.kept (fun k q hq => hk _ (hH.1 k q hq).lt), hH.2.1, hS⟩
theorem iw_len (X : Cx shP tb0 ad dA D A 3 3 cX3_isWord p s m args c) (hfr : 4 ≤ R.frames) (hlo : 160 ≤ R.locals) {i : Nat} (hi : i < 8) (hcat : (rest.map fun v => v.category).sum ≤ 8) (hd : decode cX3_isWord pc = .ok (.invokevirtual 27, 3)) (kk : Gd l shP ad dA D A 3 p e R s m args below meth c 0 0 Q (pc + 3) L (.int (nI (lenS.getD i 0)) :: rest) m0) : Gd l shP ad dA D A 3 p e R s m args below meth c 0 0 Q pc L (.ref (2000 + i) :: rest) m0 := by
  intro ls H locs hl hH
  obtain ⟨adV, Y⟩ := Cj_of X
  exact jV (As := []) (rest := rest.map (cv ad)) (i := i) Y hH.2.2 (c_length hi) hi rfl jw_ml_len jw_in_len jw_se_len jw_co_len (n := 0) (by decide +kernel) rfl rfl (by show 1 + 1 ≤ R.frames; omega) (by show 8 + (1 + 11) + 22 ≤ R.locals; omega) rfl hl.1 (by rw [cat_sum]; exact hcat) hd (Nat.zero_le _) (Nat.zero_le _) (fun H1 locs1 hS _ hk => kk ls H1 locs1 hl (Hp_on hH hS hk))
theorem iw_char (X : Cx shP tb0 ad dA D A 3 3 cX3_isWord p s m args c) (hfr : 4 ≤ R.frames) (hlo : 160 ≤ R.locals) {i k : Nat} (hi : i < 8) (hk0 : k < lenS.getD i 0) (hcat : (rest.map fun v => v.category).sum ≤ 8) (hd : decode cX3_isWord pc = .ok (.invokevirtual 32, 3)) (kk : Gd l shP ad dA D A 3 p e R s m args below meth c 0 0 Q (pc + 3) L (.int (chS i k) :: rest) m0) : Gd l shP ad dA D A 3 p e R s m args below meth c 0 0 Q pc L (.int (nI k) :: .ref (2000 + i) :: rest) m0 := by
  intro ls H locs hl hH
  obtain ⟨adV, Y⟩ := Cj_of X
  exact jV (As := [.int (nI k)]) (rest := rest.map (cv ad)) (i := i) Y hH.2.2 (c_char hi hk0) hi rfl jw_ml_chr jw_in_chr jw_se_chr jw_co_chr (n := 1) (by decide +kernel) rfl rfl (by show 3 + 1 ≤ R.frames; omega) (by show 8 + (2 + 11) + 64 ≤ R.locals; omega) rfl hl.1 (by rw [cat_sum]; exact hcat) hd (Nat.zero_le _) (Nat.zero_le _) (fun H1 locs1 hS _ hk => kk ls H1 locs1 hl (Hp_on hH hS hk))
theorem iw_eq (X : Cx shP tb0 ad dA D A 3 3 cX3_isWord p s m args c) {tgt : Nat} {off : Int} {x y : Int32} (hd : decode cX3_isWord pc = .ok (.if_icmp .eq off, 3)) (ht : (pc : Int) + off = (tgt : Int)) (kt : x = y → Gd l shP ad dA D A 3 p e R s m args below meth c 0 0 Q tgt L rest m0) (kf : ¬ x = y → Gd l shP ad dA D A 3 p e R s m args below meth c 0 0 Q (pc + 3) L rest m0) : Gd l shP ad dA D A 3 p e R s m args below meth c 0 0 Q pc L (.int y :: .int x :: rest) m0 :=
  fun ls H locs hl hH => lv_icmp_eq X.1 X.2.1 hd ht (fun h => kt h ls H locs hl hH) (fun h => kf h ls H locs hl hH)
theorem iw_ge (X : Cx shP tb0 ad dA D A 3 3 cX3_isWord p s m args c) {tgt : Nat} {off : Int} {x y : Int32} (hd : decode cX3_isWord pc = .ok (.if_icmp .ge off, 3)) (ht : (pc : Int) + off = (tgt : Int)) (kt : y ≤ x → Gd l shP ad dA D A 3 p e R s m args below meth c 0 0 Q tgt L rest m0) (kf : ¬ y ≤ x → Gd l shP ad dA D A 3 p e R s m args below meth c 0 0 Q (pc + 3) L rest m0) : Gd l shP ad dA D A 3 p e R s m args below meth c 0 0 Q pc L (.int y :: .int x :: rest) m0 :=
  fun ls H locs hl hH => lv_icmp_ge X.1 X.2.1 hd ht (fun h => kt h ls H locs hl hH) (fun h => kf h ls H locs hl hH)
theorem iw_ret (X : Cx shP tb0 ad dA D (AA shP ad s.heap.size) 3 3 cX3_isWord p s m args c) (hr : meth.sig.returnType = some .boolean) (hlk : meth.locks = false) {v : Int32} (hv : v = 0 ∨ v = 1) (hd : decode cX3_isWord pc = .ok (.ireturn, 1)) : Gd l shP ad dA D (AA shP ad s.heap.size) 3 p e R s m args below meth c 0 0 (MQ below (QcZ shP ad dA D (some (.int v), m0) s.heap.size) args s 0 0 (AA shP ad s.heap.size)) pc L [.int v] m0 :=
  fun ls H locs hl hH => W.zret X.1 X.2.1 hr (by rcases hv with rfl | rfl <;> decide +kernel) (fun t ht _ => ⟨⟨rfl, by rw [ht]; exact hH.1⟩, hH.2.2.F ht⟩) hH.2.2.2.2 hd (hlocks := hlk)
theorem S25w {i : Int32} (h : inR i 160 = true) (m : Mm) : alI shP tb0 0 25 i m = some (m.1 25 i.toNatClampNeg) := by
  show (if 0 = 0 ∧ inR i 160 = true then some (m.1 25 i.toNatClampNeg) else none) = _
  rw [if_pos ⟨rfl, h⟩]
theorem inR_w {n N : Nat} (h : n < N) (hN : N < 2 ^ 31) : inR (nI n) N = true := by
  unfold inR
  rw [Bool.and_eq_true, decide_eq_true_eq, decide_eq_true_eq, nI_clamp (by omega)]
  exact ⟨nI_pos' (by omega), h⟩
set_option maxHeartbeats 1000000 in
theorem iw_loop (X : Cx shP tb0 ad dA D (AA shP ad s.heap.size) 3 3 cX3_isWord p s m args c) (hfr : 4 ≤ R.frames) (hlo : 160 ≤ R.locals) (hr : meth.sig.returnType = some .boolean) (hlk : meth.locks = false) {i a : Nat} (hi : i < 8) (ha : m0.1 24 1 = nI a) (hb : a + lenS.getD i 0 ≤ 160) {v : Int32} : ∀ n k : Nat, k + n = lenS.getD i 0 → wLp (fun k => m0.1 25 (a + k)) (chS i) n k = v →
    Gd l shP ad dA D (AA shP ad s.heap.size) 3 p e R s m args below meth c 0 0 (MQ below (QcZ shP ad dA D (some (.int v), m0) s.heap.size) args s 0 0 (AA shP ad s.heap.size)) 20 [.ref 24, .ref (2000 + i), .int (nI k)] [] m0 := by
  have h8 := len_lt i hi
  intro n
  induction n with
  | zero =>
    intro k hk hv
    subst hv
    refine iw_st X hfr hlo (raw := .iload_n 2) (len := 1) (i := .iload 2) (by decide +kernel) (by decide) (fun _ h => by cases h) rfl ?_
    refine iw_st X hfr hlo (raw := .aload_n 1) (len := 1) (i := .aload 1) (by decide +kernel) (by decide) (fun _ h => by cases h) rfl ?_
    refine iw_len X hfr hlo hi (Nat.le_of_ble_eq_true rfl) (by decide +kernel) ?_
    refine iw_ge X (tgt := 55) (off := 30) (by decide +kernel) (by decide) (fun _ => ?_) (fun h => absurd (nI_le (by omega) (by omega)) h)
    refine iw_st X hfr hlo (raw := .iconst 1) (len := 1) (i := .sipush 1) (by decide +kernel) (by decide) (fun _ h => by cases h) rfl ?_
    exact iw_ret X hr hlk (v := 1) (Or.inr rfl) (by decide +kernel)
  | succ n ih =>
    intro k hk hv
    refine iw_st X hfr hlo (raw := .iload_n 2) (len := 1) (i := .iload 2) (by decide +kernel) (by decide) (fun _ h => by cases h) rfl ?_
    refine iw_st X hfr hlo (raw := .aload_n 1) (len := 1) (i := .aload 1) (by decide +kernel) (by decide) (fun _ h => by cases h) rfl ?_
    refine iw_len X hfr hlo hi (Nat.le_of_ble_eq_true rfl) (by decide +kernel) ?_
    refine iw_ge X (tgt := 55) (off := 30) (by decide +kernel) (by decide) (fun h => absurd h (nI_ge (by omega) (by omega))) (fun _ => ?_)
    refine iw_st X hfr hlo (raw := .aload_n 0) (len := 1) (i := .aload 0) (by decide +kernel) (by decide) (fun _ h => by cases h) rfl ?_
    refine iw_st X hfr hlo (raw := .getfield 9) (len := 3) (i := .getfield 303) (by decide +kernel) (by decide +kernel) (fun _ h => by cases h) (st' := [.ref 25]) rfl ?_
    refine iw_st X hfr hlo (raw := .aload_n 0) (len := 1) (i := .aload 0) (by decide +kernel) (by decide) (fun _ h => by cases h) rfl ?_
    refine iw_st X hfr hlo (raw := .getfield 20) (len := 3) (i := .getfield 301) (by decide +kernel) (by decide +kernel) (fun _ h => by cases h) (st' := [.int (m0.1 24 1), .ref 25]) rfl ?_
    refine iw_st X hfr hlo (raw := .iload_n 2) (len := 1) (i := .iload 2) (by decide +kernel) (by decide) (fun _ h => by cases h) rfl ?_
    refine iw_st X hfr hlo (raw := .iadd) (len := 1) (i := .iadd) (by decide +kernel) (by decide) (fun _ h => by cases h) (st' := [.int (m0.1 24 1 + nI k), .ref 25]) rfl ?_
    rw [ha, nI_add]
    refine iw_st X hfr hlo (raw := .iaload) (len := 1) (i := .iaload) (by decide +kernel) (by decide) (fun _ h => by cases h) (L' := [.ref 24, .ref (2000 + i), .int (nI k)]) (st' := [.int (m0.1 25 (a + k))]) (m1 := m0) ?_ ?_
    · have e := S25w (inR_w (n := a + k) (N := 160) (by omega) (by decide)) m0
      rw [nI_clamp (by omega)] at e
      show (match alI shP tb0 0 25 (nI (a + k)) m0 with
        | some y => some (([.ref 24, .ref (2000 + i), .int (nI k)], [.int y], m0) : Stt3)
        | none => none) = _
      rw [e]
    refine iw_st X hfr hlo (raw := .aload_n 1) (len := 1) (i := .aload 1) (by decide +kernel) (by decide) (fun _ h => by cases h) rfl ?_
    refine iw_st X hfr hlo (raw := .iload_n 2) (len := 1) (i := .iload 2) (by decide +kernel) (by decide) (fun _ h => by cases h) rfl ?_
    refine iw_char X hfr hlo hi (k := k) (by omega) (Nat.le_of_ble_eq_true rfl) (by decide +kernel) ?_
    unfold wLp at hv
    refine iw_eq X (tgt := 49) (off := 5) (by decide +kernel) (by decide) (fun h => ?_) (fun h => ?_)
    · rw [if_pos h] at hv
      refine iw_st X hfr hlo (raw := .iinc 2 1) (len := 3) (i := .iinc 2 1) (by decide +kernel) (by decide) (fun _ h => by cases h) (L' := [.ref 24, .ref (2000 + i), .int (nI k + 1)]) (st' := []) (m1 := m0) rfl ?_
      rw [nI_1]
      exact fun ls H locs hl hH => lv_goto (tgt := 20) (off := -32) X.1 X.2.1 (by decide +kernel) (by decide) (ih (k + 1) (by omega) hv ls H locs hl hH)
    · rw [if_neg h] at hv
      subst hv
      refine iw_st X hfr hlo (raw := .iconst 0) (len := 1) (i := .sipush 0) (by decide +kernel) (by decide) (fun _ h => by cases h) rfl ?_
      exact iw_ret X hr hlk (v := 0) (Or.inl rfl) (by decide +kernel)
theorem iw_z : mB zX3_isWord = cX3_isWord ∧ mX zX3_isWord = 3 ∧ mO zX3_isWord = 3 ∧ mT zX3_isWord = some .boolean ∧ zX3_isWord + 1 < nZ ∧ shOK shP = true := by decide +kernel
theorem nat_of {x : Int32} {N : Nat} (h0 : 0 ≤ x.toInt) (h1 : x.toInt ≤ N) : ∃ a : Nat, a ≤ N ∧ x = nI a ∧ x.toNatClampNeg = a := by
  refine ⟨x.toInt.toNat, by omega, ?_, rfl⟩
  have h2 : x.toInt < 2 ^ 31 := by
    have := Int32.toInt_lt x
    omega
  refine Int32.toInt_inj.mp ?_
  rw [nI_toInt (by omega)]
  omega
theorem wW_met (As : List Value) (m0 : Mm) (r : Rs) (h : wW As m0 = some r) : MetZ l shP ad dA D zX3_isWord As m0 r := by
  obtain ⟨k1, k2, k3, k4, hz, hsh⟩ := iw_z
  obtain ⟨i1, i2, i3, i4, i5, i6⟩ := z_st hz
  unfold wW at h
  split at h
  case h_2 => cases h
  rename_i a0 s0
  split at h
  case isFalse => cases h
  rename_i hc
  obtain ⟨rfl, hs1, hs2, ha0, ha1, hb0, hb1⟩ := hc
  cases h
  obtain ⟨i, rfl⟩ : ∃ i : Nat, s0 = 2000 + i := ⟨s0 - 2000, (Nat.add_sub_cancel' hs1).symm⟩
  have hi : i < 8 := Nat.lt_of_add_lt_add_left (show 2000 + i < 2000 + 8 from hs2)
  rw [show 2000 + i - 2000 = i from Nat.add_sub_cancel_left 2000 i]
  obtain ⟨a, ha, ea, ca⟩ := nat_of (N := 160) ha0 ha1
  obtain ⟨b, hb, eb, cb⟩ := nat_of (N := 160) hb0 hb1
  have h8 := len_lt i hi
  rw [ca]
  intro sz
  refine Met.ofW (cc := mB zX3_isWord) (maxL := mX zX3_isWord) (ret := mT zX3_isWord) i5 rfl ?_
  intro p e s m args below meth c s₁ B hml hv
  obtain ⟨rfl, hsz, hP, hK, hD0, hSt⟩ := hv
  subst hsz
  have hr := B.returns
  rw [k4] at hr
  have hts := atoms_spec (ws := mW zX3_isWord) B.pre
  have hown : s.vm.findClass (mY zX3_isWord).cls = some m.cls := findClass_of_methodNamed B.named
  have hlocks := B.notSynchronized
  rw [i6, k3] at hown
  have hbb := B.bytes
  rw [k1] at hbb
  rw [k2] at hml ⊢
  have X : Cx shP tb0 ad dA D (AA shP ad s.heap.size) 3 3 cX3_isWord p s m ([Value.ref 24, .ref (2000 + i)].map (cv ad)).toArray c := ⟨B.exec, hbb, hml, hown, fun w hw => hts w (List.mem_cons_of_mem _ hw), hK, hsh, hSt, fun q h => h⟩
  have hD : va_D (AA shP ad s.heap.size) (cellsW shP ad dA m0) := ⟨hD0.1, fun k q hk => Or.inl ⟨k, (cellsW_addr hk).1, (cellsW_addr hk).2⟩⟩
  have hfr : 4 ≤ (headSpec (mW zX3_isWord) (mR zX3_isWord)).room.frames := by decide +kernel
  have hlo : 160 ≤ (headSpec (mW zX3_isWord) (mR zX3_isWord)).room.locals := by decide +kernel
  rw [lg_entry_eq]
  have G : ∀ v : Value, Gd l shP ad dA D (AA shP ad s.heap.size) 3 p e (headSpec (mW zX3_isWord) (mR zX3_isWord)).room s m ([Value.ref 24, .ref (2000 + i)].map (cv ad)).toArray below meth c 0 0 (MQ below (QcZ shP ad dA D (some (.int (if nI (lenS.getD i 0) = m0.1 24 2 - m0.1 24 1 then wLp (fun k => m0.1 25 (a + k)) (chS i) (lenS.getD i 0) 0 else 0)), m0) s.heap.size) ([Value.ref 24, .ref (2000 + i)].map (cv ad)).toArray s 0 0 (AA shP ad s.heap.size)) 0 [.ref 24, .ref (2000 + i), v] [] m0 := by
    intro v
    refine iw_st X hfr hlo (raw := .aload_n 1) (len := 1) (i := .aload 1) (by decide +kernel) (by decide) (fun _ h => by cases h) rfl ?_
    refine iw_len X hfr hlo hi (Nat.le_of_ble_eq_true rfl) (by decide +kernel) ?_
    refine iw_st X hfr hlo (raw := .aload_n 0) (len := 1) (i := .aload 0) (by decide +kernel) (by decide) (fun _ h => by cases h) rfl ?_
    refine iw_st X hfr hlo (raw := .getfield 17) (len := 3) (i := .getfield 302) (by decide +kernel) (by decide +kernel) (fun _ h => by cases h) (st' := [.int (m0.1 24 2), .int (nI (lenS.getD i 0))]) rfl ?_
    refine iw_st X hfr hlo (raw := .aload_n 0) (len := 1) (i := .aload 0) (by decide +kernel) (by decide) (fun _ h => by cases h) rfl ?_
    refine iw_st X hfr hlo (raw := .getfield 20) (len := 3) (i := .getfield 301) (by decide +kernel) (by decide +kernel) (fun _ h => by cases h) (st' := [.int (m0.1 24 1), .int (m0.1 24 2), .int (nI (lenS.getD i 0))]) rfl ?_
    refine iw_st X hfr hlo (raw := .isub) (len := 1) (i := .isub) (by decide +kernel) (by decide) (fun _ h => by cases h) (st' := [.int (m0.1 24 2 - m0.1 24 1), .int (nI (lenS.getD i 0))]) rfl ?_
    refine iw_eq X (tgt := 18) (off := 5) (by decide +kernel) (by decide) (fun h => ?_) (fun h => ?_)
    · rw [if_pos h]
      refine iw_st X hfr hlo (raw := .iconst 0) (len := 1) (i := .sipush 0) (by decide +kernel) (by decide) (fun _ h => by cases h) rfl ?_
      refine iw_st X hfr hlo (raw := .istore_n 2) (len := 1) (i := .istore 2) (by decide +kernel) (by decide) (fun _ h => by cases h) (L' := [.ref 24, .ref (2000 + i), .int (nI 0)]) (st' := []) (m1 := m0) rfl ?_
      refine iw_loop X hfr hlo hr hlocks hi ea ?_ _ 0 (by omega) rfl
      have h9 := congrArg Int32.toInt h
      rw [ea, eb, nI_toInt (by omega), pk_sub_toInt (by omega) (by omega)] at h9
      omega
    · rw [if_neg h]
      refine iw_st X hfr hlo (raw := .iconst 0) (len := 1) (i := .sipush 0) (by decide +kernel) (by decide) (fun _ h => by cases h) rfl ?_
      exact iw_ret X hr hlocks (v := 0) (Or.inl rfl) (by decide +kernel)
  exact G _ _ s.heap [] (LR_entry ad [.ref 24, .ref (2000 + i)] (n := 3) (Nat.le_of_ble_eq_true rfl)) ⟨hP, hD, va_S.rf⟩
end Wrd
end
