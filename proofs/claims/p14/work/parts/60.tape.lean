/-! THE CLASS' TAPE: tokens -/
def rw3 (r : Nat → Int32) (s p : Nat) : Nat → Int32 := fun j => if j = 1 then nI s else if j = 2 then nI p else r j
/-- the tape's start and next -/
def tm (m : Mm) (s p : Nat) : Mm := setR m 24 (rw3 (m.1 24) s p)
theorem tm_id (m : Mm) {s p : Nat} (h1 : m.1 24 1 = nI s) (h2 : m.1 24 2 = nI p) : tm m s p = m := by
  have e : rw3 (m.1 24) s p = m.1 24 := by
    funext j
    unfold rw3
    split
    · rename_i h; rw [h, h1]
    · split
      · rename_i h; rw [h, h2]
      · rfl
  unfold tm
  rw [e, setR_id]
theorem tm_w2 (m : Mm) (s p q : Nat) : wI (tm m s p) 24 2 (nI q) = tm m s q := by
  unfold tm
  rw [wI_R, setR_s, setR_R]
  congr 1
  funext j
  simp only [upd, rw3]
  by_cases h1 : j = 2
  · subst h1; simp
  · rw [if_neg h1]
    by_cases h2 : j = 1
    · rw [if_pos h2, if_pos h2]
    · rw [if_neg h2, if_neg h2, if_neg h1, if_neg h1]
theorem tm_w1 (m : Mm) (s p q : Nat) : wI (tm m s p) 24 1 (nI q) = tm m q p := by
  unfold tm
  rw [wI_R, setR_s, setR_R]
  congr 1
  funext j
  simp only [upd, rw3]
  by_cases h1 : j = 1
  · rw [if_pos h1, if_pos h1]
  · rw [if_neg h1, if_neg h1, if_neg h1]
theorem G24 (m : Mm) (s p : Nat) : clO shP 24 = some 3 ∧ gfI shP 300 24 (tm m s p) = some (.int (m.1 24 0)) ∧ gfI shP 301 24 (tm m s p) = some (.int (nI s)) ∧ gfI shP 302 24 (tm m s p) = some (.int (nI p)) ∧ gfI shP 303 24 (tm m s p) = some (.ref 25) ∧ (∀ x : Int32, pfI shP 301 24 (.int x) (tm m s p) = some (wI (tm m s p) 24 1 x)) ∧ (∀ x : Int32, pfI shP 302 24 (.int x) (tm m s p) = some (wI (tm m s p) 24 2 x)) := ⟨rfl, rfl, rfl, rfl, rfl, fun _ => rfl, fun _ => rfl⟩
theorem C24 : clO shP 24 = some 3 := rfl
theorem A25 (m : Mm) (s p : Nat) (i : Int32) : alI shP tb0 0 25 i (tm m s p) = if inR i 160 = true then some (m.1 25 i.toNatClampNeg) else none := by
  rw [al_of (n := 160) (rs := []) rfl]
  rfl
section Tp
variable (C : CallS) (m : Mm) (hL : (m.1 24 0).toInt ≤ 160)
theorem tk_l (hL : (m.1 24 0).toInt ≤ 160) (s : Nat) : ∀ (k p : Nat), p + k = 160 → ∃ p', p ≤ p' ∧ p' ≤ 160 ∧ rn shP tb0 mN mO C (some .int) (codeZ 8) 0 [.ref 24] [] (tm m s p) = rn shP tb0 mN mO C (some .int) (codeZ 8) 38 [.ref 24] [] (tm m s p') := by
  intro k
  induction k with
  | zero =>
    intro p hp
    refine ⟨p, Nat.le_refl _, by omega, ?_⟩
    have e1 : m.1 24 0 ≤ nI p := by
      rw [Int32.le_iff_toInt_le, nI_toInt (by omega)]
      omega
    rw [rn_eq, b_X3_take_0]
    simp only [EV, LV, CB, OI, OL, NP, CZ, popN, CT, OZ, List.map_nil, List.map_cons, List.sum_nil, List.sum_cons, Option.toList, List.nil_append, List.cons_append, Int.reduceToNat, Nat.reduceAdd, Nat.reduceLT, Nat.reduceLeDiff, List.length_cons, List.length_nil, Nat.zero_add, if_true, if_false, reduceIte, and_self, and_true, true_and, eq_self, reduceCtorEq, C24, G24, e1]
  | succ k ih =>
    intro p hp
    by_cases h1 : m.1 24 0 ≤ nI p
    · refine ⟨p, Nat.le_refl _, by omega, ?_⟩
      rw [rn_eq, b_X3_take_0]
      simp only [EV, LV, CB, OI, OL, NP, CZ, popN, CT, OZ, List.map_nil, List.map_cons, List.sum_nil, List.sum_cons, Option.toList, List.nil_append, List.cons_append, Int.reduceToNat, Nat.reduceAdd, Nat.reduceLT, Nat.reduceLeDiff, List.length_cons, List.length_nil, Nat.zero_add, if_true, if_false, reduceIte, and_self, and_true, true_and, eq_self, reduceCtorEq, C24, G24, h1]
    · have e2 : inR (nI p) 160 = true := inR_nI (by omega) (by omega)
      have e3 : (nI p).toNatClampNeg = p := nI_clamp (by omega)
      by_cases h2 : m.1 25 p = 32
      · obtain ⟨p', a1, a2, a3⟩ := ih (p + 1) (by omega)
        refine ⟨p', by omega, a2, ?_⟩
        rw [rn_eq, b_X3_take_0]
        simp only [EV, LV, CB, OI, OL, NP, CZ, popN, CT, OZ, List.map_nil, List.map_cons, List.sum_nil, List.sum_cons, Option.toList, List.nil_append, List.cons_append, Int.reduceToNat, Nat.reduceAdd, Nat.reduceLT, Nat.reduceLeDiff, List.length_cons, List.length_nil, Nat.zero_add, if_true, if_false, reduceIte, and_self, and_true, true_and, eq_self, reduceCtorEq, C24, G24, A25, h1, e2, e3, h2, nI_1, tm_w2, not_true_eq_false]
        exact a3
      · refine ⟨p, Nat.le_refl _, by omega, ?_⟩
        rw [rn_eq, b_X3_take_0]
        simp only [EV, LV, CB, OI, OL, NP, CZ, popN, CT, OZ, List.map_nil, List.map_cons, List.sum_nil, List.sum_cons, Option.toList, List.nil_append, List.cons_append, Int.reduceToNat, Nat.reduceAdd, Nat.reduceLT, Nat.reduceLeDiff, List.length_cons, List.length_nil, Nat.zero_add, if_true, if_false, reduceIte, and_self, and_true, true_and, eq_self, reduceCtorEq, C24, G24, A25, h1, e2, e3, h2, not_false_eq_true]
theorem pr_l (hL : (m.1 24 0).toInt ≤ 160) (s : Nat) (lo hi : Int32) : ∀ (k p : Nat), p + k = 160 → ∃ p', p ≤ p' ∧ p' ≤ 160 ∧ (∀ j, p ≤ j → j < p' → lo.toInt ≤ (m.1 25 j).toInt ∧ (m.1 25 j).toInt ≤ hi.toInt) ∧ rn shP tb0 mN mO C (some .boolean) (codeZ 9) 0 [.ref 24, .int lo, .int hi] [] (tm m s p) = rn shP tb0 mN mO C (some .boolean) (codeZ 9) 50 [.ref 24, .int lo, .int hi] [] (tm m s p') := by
  intro k
  induction k with
  | zero =>
    intro p hp
    refine ⟨p, Nat.le_refl _, by omega, fun j _ _ => by omega, ?_⟩
    have e1 : m.1 24 0 ≤ nI p := by
      rw [Int32.le_iff_toInt_le, nI_toInt (by omega)]
      omega
    rw [rn_eq, b_X3_passRun_0]
    simp only [EV, LV, CB, OI, OL, NP, CZ, popN, CT, OZ, List.map_nil, List.map_cons, List.sum_nil, List.sum_cons, Option.toList, List.nil_append, List.cons_append, Int.reduceToNat, Nat.reduceAdd, Nat.reduceLT, Nat.reduceLeDiff, List.length_cons, List.length_nil, Nat.zero_add, if_true, if_false, reduceIte, and_self, and_true, true_and, eq_self, reduceCtorEq, C24, G24, e1]
  | succ k ih =>
    intro p hp
    by_cases h1 : m.1 24 0 ≤ nI p
    · refine ⟨p, Nat.le_refl _, by omega, fun j _ _ => by omega, ?_⟩
      rw [rn_eq, b_X3_passRun_0]
      simp only [EV, LV, CB, OI, OL, NP, CZ, popN, CT, OZ, List.map_nil, List.map_cons, List.sum_nil, List.sum_cons, Option.toList, List.nil_append, List.cons_append, Int.reduceToNat, Nat.reduceAdd, Nat.reduceLT, Nat.reduceLeDiff, List.length_cons, List.length_nil, Nat.zero_add, if_true, if_false, reduceIte, and_self, and_true, true_and, eq_self, reduceCtorEq, C24, G24, h1]
    · have e2 : inR (nI p) 160 = true := inR_nI (by omega) (by omega)
      have e3 : (nI p).toNatClampNeg = p := nI_clamp (by omega)
      by_cases h2 : m.1 25 p < lo
      · refine ⟨p, Nat.le_refl _, by omega, fun j _ _ => by omega, ?_⟩
        rw [rn_eq, b_X3_passRun_0]
        simp only [EV, LV, CB, OI, OL, NP, CZ, popN, CT, OZ, List.map_nil, List.map_cons, List.sum_nil, List.sum_cons, Option.toList, List.nil_append, List.cons_append, Int.reduceToNat, Nat.reduceAdd, Nat.reduceLT, Nat.reduceLeDiff, List.length_cons, List.length_nil, Nat.zero_add, if_true, if_false, reduceIte, and_self, and_true, true_and, eq_self, reduceCtorEq, C24, G24, A25, h1, e2, e3, h2]
      · by_cases h3 : hi < m.1 25 p
        · refine ⟨p, Nat.le_refl _, by omega, fun j _ _ => by omega, ?_⟩
          rw [rn_eq, b_X3_passRun_0]
          simp only [EV, LV, CB, OI, OL, NP, CZ, popN, CT, OZ, List.map_nil, List.map_cons, List.sum_nil, List.sum_cons, Option.toList, List.nil_append, List.cons_append, Int.reduceToNat, Nat.reduceAdd, Nat.reduceLT, Nat.reduceLeDiff, List.length_cons, List.length_nil, Nat.zero_add, if_true, if_false, reduceIte, and_self, and_true, true_and, eq_self, reduceCtorEq, C24, G24, A25, h1, e2, e3, h2, h3]
        · obtain ⟨p', a1, a2, a3, a4⟩ := ih (p + 1) (by omega)
          refine ⟨p', by omega, a2, fun j j1 j2 => ?_, ?_⟩
          · by_cases hj : j = p
            · rw [hj]
              have z1 := Int32.le_iff_toInt_le.mp (Int32.not_lt.mp h2)
              have z2 := Int32.le_iff_toInt_le.mp (Int32.not_lt.mp h3)
              exact ⟨z1, z2⟩
            · exact a3 j (by omega) j2
          · rw [rn_eq, b_X3_passRun_0]
            simp only [EV, LV, CB, OI, OL, NP, CZ, popN, CT, OZ, List.map_nil, List.map_cons, List.sum_nil, List.sum_cons, Option.toList, List.nil_append, List.cons_append, Int.reduceToNat, Nat.reduceAdd, Nat.reduceLT, Nat.reduceLeDiff, List.length_cons, List.length_nil, Nat.zero_add, if_true, if_false, reduceIte, and_self, and_true, true_and, eq_self, reduceCtorEq, C24, G24, A25, h1, e2, e3, h2, h3, nI_1, tm_w2]
            exact a4
end Tp
section Tq
variable (wS : List Value → Mm → Option Rs) (d : Nat)
theorem nI_lt' {a b : Nat} (ha : a < 2 ^ 31) (hb : b < 2 ^ 31) : (nI a ≤ nI b) = (a ≤ b) := by
  apply propext
  rw [Int32.le_iff_toInt_le, nI_toInt ha, nI_toInt hb]
  omega
theorem t_passRun (m : Mm) (hL : (m.1 24 0).toInt ≤ 160) {s p : Nat} (hs : s ≤ 160) (hp : p ≤ 160) (lo hi : Int32) : ∃ p', p ≤ p' ∧ p' ≤ 160 ∧ (∀ j, p ≤ j → j < p' → lo.toInt ≤ (m.1 25 j).toInt ∧ (m.1 25 j).toInt ≤ hi.toInt) ∧ semZ shP wS (d + 1) 9 [.ref 24, .int lo, .int hi] (tm m s p) = some (some (.int (bI (decide (s < p')))), tm m s p') := by
  obtain ⟨p', a1, a2, a3, a4⟩ := pr_l (semZ shP wS d) m hL s lo hi (160 - p) p (by omega)
  refine ⟨p', a1, a2, a3, ?_⟩
  rw [se_X3_passRun, a4, rn_eq, b_X3_passRun_50]
  have e := nI_lt' (a := p') (b := s) (by omega) (by omega)
  by_cases h : s < p'
  · have h1 : ¬ p' ≤ s := by omega
    simp only [EV, LV, CB, OI, OL, NP, CZ, popN, CT, OZ, List.map_nil, List.map_cons, List.sum_nil, List.sum_cons, Option.toList, List.nil_append, List.cons_append, Int.reduceToNat, Nat.reduceAdd, Nat.reduceLT, Nat.reduceLeDiff, List.length_cons, List.length_nil, Nat.zero_add, if_true, if_false, reduceIte, and_self, and_true, true_and, eq_self, reduceCtorEq, C24, G24, e, h1]
    rw [rn_eq, b_X3_passRun_66]
    simp only [EV, LV, CB, OI, OL, NP, CZ, popN, CT, OZ, List.map_nil, List.map_cons, List.sum_nil, List.sum_cons, Option.toList, List.nil_append, List.cons_append, Int.reduceToNat, Nat.reduceAdd, Nat.reduceLT, Nat.reduceLeDiff, List.length_cons, List.length_nil, Nat.zero_add, if_true, if_false, reduceIte, and_self, and_true, true_and, eq_self, reduceCtorEq, h, decide_true, bI_t]
  · have h1 : p' ≤ s := by omega
    simp only [EV, LV, CB, OI, OL, NP, CZ, popN, CT, OZ, List.map_nil, List.map_cons, List.sum_nil, List.sum_cons, Option.toList, List.nil_append, List.cons_append, Int.reduceToNat, Nat.reduceAdd, Nat.reduceLT, Nat.reduceLeDiff, List.length_cons, List.length_nil, Nat.zero_add, if_true, if_false, reduceIte, and_self, and_true, true_and, eq_self, reduceCtorEq, C24, G24, e, h1]
    rw [rn_eq, b_X3_passRun_65]
    simp only [EV, LV, CB, OI, OL, NP, CZ, popN, CT, OZ, List.map_nil, List.map_cons, List.sum_nil, List.sum_cons, Option.toList, List.nil_append, List.cons_append, Int.reduceToNat, Nat.reduceAdd, Nat.reduceLT, Nat.reduceLeDiff, List.length_cons, List.length_nil, Nat.zero_add, if_true, if_false, reduceIte, and_self, and_true, true_and, eq_self, reduceCtorEq, h, decide_false, bI_f]
/-- a token: its kind, where it begins, where the next one is looked for -/
theorem t_take (m : Mm) (hI : InvT TV m) : ∃ (t : Int32) (s p : Nat), semZ shP wS (d + 2) 8 [.ref 24] m = some (some (.int t), tm m s p) ∧ s ≤ 160 ∧ p ≤ 160 ∧ (0 ≤ t.toInt ∧ t.toInt ≤ 4) ∧ (t = 2 → s < p ∧ p ≤ s + 2 ∧ ∀ j, s ≤ j → j < p → 48 ≤ (m.1 25 j).toInt ∧ (m.1 25 j).toInt ≤ 57) := by
  have b0 := hI 24 0
  have b1 := hI 24 1
  have b2 := hI 24 2
  rw [show ivO TV 24 0 = (0, 160) from by decide +kernel] at b0
  rw [show ivO TV 24 1 = (0, 160) from by decide +kernel] at b1
  rw [show ivO TV 24 2 = (0, 160) from by decide +kernel] at b2
  have hL : (m.1 24 0).toInt ≤ 160 := b0.2
  have b1a : 0 ≤ (m.1 24 1).toInt := b1.1
  have b2a : 0 ≤ (m.1 24 2).toInt := b2.1
  have b2b : (m.1 24 2).toInt ≤ 160 := b2.2
  have e0 := tm_id m (i_nI b1a) (i_nI b2a)
  have hp0 : (m.1 24 2).toInt.toNat ≤ 160 := by omega
  generalize (m.1 24 1).toInt.toNat = s0 at e0
  generalize (m.1 24 2).toInt.toNat = p0 at e0 hp0
  obtain ⟨p1, a1, a2, a3⟩ := tk_l (semZ shP wS (d + 1)) m hL s0 (160 - p0) p0 (by omega)
  have key : ∃ (t : Int32) (s p : Nat), rn shP tb0 mN mO (semZ shP wS (d + 1)) (some .int) (codeZ 8) 38 [.ref 24] [] (tm m s0 p1) = some (some (.int t), tm m s p) ∧ s ≤ 160 ∧ p ≤ 160 ∧ (0 ≤ t.toInt ∧ t.toInt ≤ 4) ∧ (t = 2 → s < p ∧ p ≤ s + 2 ∧ ∀ j, s ≤ j → j < p → 48 ≤ (m.1 25 j).toInt ∧ (m.1 25 j).toInt ≤ 57) := by
    by_cases h1 : nI p1 < m.1 24 0
    · have h1i := Int32.lt_iff_toInt_lt.mp h1
      rw [nI_toInt (by omega)] at h1i
      obtain ⟨p2, c1, c2, c3, c4⟩ := t_passRun wS d m hL (s := p1) (p := p1) a2 a2 97 122
      by_cases h2 : p1 < p2
      · refine ⟨1, p1, p2, ?_, a2, c2, by decide, fun z => absurd z (by decide)⟩
        have e10 : ¬ (1 : Int32) = 0 := by decide
        simp only [h2, decide_true, bI_t] at c4
        rw [rn_eq, b_X3_take_38]
        simp only [EV, LV, CB, OI, OL, NP, CZ, popN, CT, OZ, List.map_nil, List.map_cons, List.sum_nil, List.sum_cons, Option.toList, List.nil_append, List.cons_append, Int.reduceToNat, Nat.reduceAdd, Nat.reduceLT, Nat.reduceLeDiff, List.length_cons, List.length_nil, Nat.zero_add, if_true, if_false, reduceIte, and_self, and_true, true_and, eq_self, reduceCtorEq, C24, G24, tm_w1, h1]
        rw [rn_eq, b_X3_take_59]
        simp only [EV, LV, CB, OI, OL, NP, CZ, popN, CT, OZ, List.map_nil, List.map_cons, List.sum_nil, List.sum_cons, Option.toList, List.nil_append, List.cons_append, Int.reduceToNat, Nat.reduceAdd, Nat.reduceLT, Nat.reduceLeDiff, List.length_cons, List.length_nil, Nat.zero_add, if_true, if_false, reduceIte, and_self, and_true, true_and, eq_self, reduceCtorEq, C24, G24, c4, e10]
      · have e2 : p2 = p1 := by omega
        subst e2
        simp only [h2, decide_false, bI_f] at c4
        obtain ⟨p3, d1, d2, d3, d4⟩ := t_passRun wS d m hL (s := p2) (p := p2) a2 a2 48 57
        by_cases h3 : p2 < p3
        · have e10 : ¬ (1 : Int32) = 0 := by decide
          simp only [h3, decide_true, bI_t] at d4
          have es : nI p3 - nI p2 = nI (p3 - p2) := by
            apply Int32.toInt_inj.mp
            rw [Int32.toInt_sub, nI_toInt (by omega), nI_toInt (by omega), nI_toInt (by omega)]
            rw [bm32 (by omega) (by omega)]
            omega
          have el : ((nI (p3 - p2) : Int32) ≤ 2) = (p3 - p2 ≤ 2) := nI_lt' (a := p3 - p2) (b := 2) (by omega) (by omega)
          by_cases h4 : p3 - p2 ≤ 2
          · refine ⟨2, p2, p3, ?_, a2, d2, by decide, fun _ => ⟨h3, by omega, fun j j1 j2 => d3 j j1 j2⟩⟩
            rw [rn_eq, b_X3_take_38]
            simp only [EV, LV, CB, OI, OL, NP, CZ, popN, CT, OZ, List.map_nil, List.map_cons, List.sum_nil, List.sum_cons, Option.toList, List.nil_append, List.cons_append, Int.reduceToNat, Nat.reduceAdd, Nat.reduceLT, Nat.reduceLeDiff, List.length_cons, List.length_nil, Nat.zero_add, if_true, if_false, reduceIte, and_self, and_true, true_and, eq_self, reduceCtorEq, C24, G24, tm_w1, h1]
            rw [rn_eq, b_X3_take_59]
            simp only [EV, LV, CB, OI, OL, NP, CZ, popN, CT, OZ, List.map_nil, List.map_cons, List.sum_nil, List.sum_cons, Option.toList, List.nil_append, List.cons_append, Int.reduceToNat, Nat.reduceAdd, Nat.reduceLT, Nat.reduceLeDiff, List.length_cons, List.length_nil, Nat.zero_add, if_true, if_false, reduceIte, and_self, and_true, true_and, eq_self, reduceCtorEq, C24, G24, c4]
            rw [rn_eq, b_X3_take_72]
            simp only [EV, LV, CB, OI, OL, NP, CZ, popN, CT, OZ, List.map_nil, List.map_cons, List.sum_nil, List.sum_cons, Option.toList, List.nil_append, List.cons_append, Int.reduceToNat, Nat.reduceAdd, Nat.reduceLT, Nat.reduceLeDiff, List.length_cons, List.length_nil, Nat.zero_add, if_true, if_false, reduceIte, and_self, and_true, true_and, eq_self, reduceCtorEq, C24, G24, d4, e10, es, el, h4]
            rw [rn_eq, b_X3_take_100]
            simp only [EV, LV, CB, OI, OL, NP, CZ, popN, CT, OZ, List.map_nil, List.map_cons, List.sum_nil, List.sum_cons, Option.toList, List.nil_append, List.cons_append, Int.reduceToNat, Nat.reduceAdd, Nat.reduceLT, Nat.reduceLeDiff, List.length_cons, List.length_nil, Nat.zero_add, if_true, if_false, reduceIte, and_self, and_true, true_and, eq_self, reduceCtorEq]
          · refine ⟨4, p2, p3, ?_, a2, d2, by decide, fun z => absurd z (by decide)⟩
            rw [rn_eq, b_X3_take_38]
            simp only [EV, LV, CB, OI, OL, NP, CZ, popN, CT, OZ, List.map_nil, List.map_cons, List.sum_nil, List.sum_cons, Option.toList, List.nil_append, List.cons_append, Int.reduceToNat, Nat.reduceAdd, Nat.reduceLT, Nat.reduceLeDiff, List.length_cons, List.length_nil, Nat.zero_add, if_true, if_false, reduceIte, and_self, and_true, true_and, eq_self, reduceCtorEq, C24, G24, tm_w1, h1]
            rw [rn_eq, b_X3_take_59]
            simp only [EV, LV, CB, OI, OL, NP, CZ, popN, CT, OZ, List.map_nil, List.map_cons, List.sum_nil, List.sum_cons, Option.toList, List.nil_append, List.cons_append, Int.reduceToNat, Nat.reduceAdd, Nat.reduceLT, Nat.reduceLeDiff, List.length_cons, List.length_nil, Nat.zero_add, if_true, if_false, reduceIte, and_self, and_true, true_and, eq_self, reduceCtorEq, C24, G24, c4]
            rw [rn_eq, b_X3_take_72]
            simp only [EV, LV, CB, OI, OL, NP, CZ, popN, CT, OZ, List.map_nil, List.map_cons, List.sum_nil, List.sum_cons, Option.toList, List.nil_append, List.cons_append, Int.reduceToNat, Nat.reduceAdd, Nat.reduceLT, Nat.reduceLeDiff, List.length_cons, List.length_nil, Nat.zero_add, if_true, if_false, reduceIte, and_self, and_true, true_and, eq_self, reduceCtorEq, C24, G24, d4, e10, es, el, h4]
            rw [rn_eq, b_X3_take_101]
            simp only [EV, LV, CB, OI, OL, NP, CZ, popN, CT, OZ, List.map_nil, List.map_cons, List.sum_nil, List.sum_cons, Option.toList, List.nil_append, List.cons_append, Int.reduceToNat, Nat.reduceAdd, Nat.reduceLT, Nat.reduceLeDiff, List.length_cons, List.length_nil, Nat.zero_add, if_true, if_false, reduceIte, and_self, and_true, true_and, eq_self, reduceCtorEq]
        · have e3 : p3 = p2 := by omega
          subst e3
          simp only [h3, decide_false, bI_f] at d4
          have e4 : inR (nI p3) 160 = true := inR_nI (by omega) (by omega)
          have e5 : (nI p3).toNatClampNeg = p3 := nI_clamp (by omega)
          by_cases h5 : m.1 25 p3 = 59
          · refine ⟨3, p3, p3 + 1, ?_, a2, by omega, by decide, fun z => absurd z (by decide)⟩
            rw [rn_eq, b_X3_take_38]
            simp only [EV, LV, CB, OI, OL, NP, CZ, popN, CT, OZ, List.map_nil, List.map_cons, List.sum_nil, List.sum_cons, Option.toList, List.nil_append, List.cons_append, Int.reduceToNat, Nat.reduceAdd, Nat.reduceLT, Nat.reduceLeDiff, List.length_cons, List.length_nil, Nat.zero_add, if_true, if_false, reduceIte, and_self, and_true, true_and, eq_self, reduceCtorEq, C24, G24, tm_w1, h1]
            rw [rn_eq, b_X3_take_59]
            simp only [EV, LV, CB, OI, OL, NP, CZ, popN, CT, OZ, List.map_nil, List.map_cons, List.sum_nil, List.sum_cons, Option.toList, List.nil_append, List.cons_append, Int.reduceToNat, Nat.reduceAdd, Nat.reduceLT, Nat.reduceLeDiff, List.length_cons, List.length_nil, Nat.zero_add, if_true, if_false, reduceIte, and_self, and_true, true_and, eq_self, reduceCtorEq, C24, G24, c4]
            rw [rn_eq, b_X3_take_72]
            simp only [EV, LV, CB, OI, OL, NP, CZ, popN, CT, OZ, List.map_nil, List.map_cons, List.sum_nil, List.sum_cons, Option.toList, List.nil_append, List.cons_append, Int.reduceToNat, Nat.reduceAdd, Nat.reduceLT, Nat.reduceLeDiff, List.length_cons, List.length_nil, Nat.zero_add, if_true, if_false, reduceIte, and_self, and_true, true_and, eq_self, reduceCtorEq, C24, G24, d4]
            rw [rn_eq, b_X3_take_102]
            simp only [EV, LV, CB, OI, OL, NP, CZ, popN, CT, OZ, List.map_nil, List.map_cons, List.sum_nil, List.sum_cons, Option.toList, List.nil_append, List.cons_append, Int.reduceToNat, Nat.reduceAdd, Nat.reduceLT, Nat.reduceLeDiff, List.length_cons, List.length_nil, Nat.zero_add, if_true, if_false, reduceIte, and_self, and_true, true_and, eq_self, reduceCtorEq, C24, G24, A25, nI_1, tm_w2, e4, e5, h5, not_true_eq_false]
            rw [rn_eq, b_X3_take_131]
            simp only [EV, LV, CB, OI, OL, NP, CZ, popN, CT, OZ, List.map_nil, List.map_cons, List.sum_nil, List.sum_cons, Option.toList, List.nil_append, List.cons_append, Int.reduceToNat, Nat.reduceAdd, Nat.reduceLT, Nat.reduceLeDiff, List.length_cons, List.length_nil, Nat.zero_add, if_true, if_false, reduceIte, and_self, and_true, true_and, eq_self, reduceCtorEq]
          · refine ⟨4, p3, p3 + 1, ?_, a2, by omega, by decide, fun z => absurd z (by decide)⟩
            rw [rn_eq, b_X3_take_38]
            simp only [EV, LV, CB, OI, OL, NP, CZ, popN, CT, OZ, List.map_nil, List.map_cons, List.sum_nil, List.sum_cons, Option.toList, List.nil_append, List.cons_append, Int.reduceToNat, Nat.reduceAdd, Nat.reduceLT, Nat.reduceLeDiff, List.length_cons, List.length_nil, Nat.zero_add, if_true, if_false, reduceIte, and_self, and_true, true_and, eq_self, reduceCtorEq, C24, G24, tm_w1, h1]
            rw [rn_eq, b_X3_take_59]
            simp only [EV, LV, CB, OI, OL, NP, CZ, popN, CT, OZ, List.map_nil, List.map_cons, List.sum_nil, List.sum_cons, Option.toList, List.nil_append, List.cons_append, Int.reduceToNat, Nat.reduceAdd, Nat.reduceLT, Nat.reduceLeDiff, List.length_cons, List.length_nil, Nat.zero_add, if_true, if_false, reduceIte, and_self, and_true, true_and, eq_self, reduceCtorEq, C24, G24, c4]
            rw [rn_eq, b_X3_take_72]
            simp only [EV, LV, CB, OI, OL, NP, CZ, popN, CT, OZ, List.map_nil, List.map_cons, List.sum_nil, List.sum_cons, Option.toList, List.nil_append, List.cons_append, Int.reduceToNat, Nat.reduceAdd, Nat.reduceLT, Nat.reduceLeDiff, List.length_cons, List.length_nil, Nat.zero_add, if_true, if_false, reduceIte, and_self, and_true, true_and, eq_self, reduceCtorEq, C24, G24, d4]
            rw [rn_eq, b_X3_take_102]
            simp only [EV, LV, CB, OI, OL, NP, CZ, popN, CT, OZ, List.map_nil, List.map_cons, List.sum_nil, List.sum_cons, Option.toList, List.nil_append, List.cons_append, Int.reduceToNat, Nat.reduceAdd, Nat.reduceLT, Nat.reduceLeDiff, List.length_cons, List.length_nil, Nat.zero_add, if_true, if_false, reduceIte, and_self, and_true, true_and, eq_self, reduceCtorEq, C24, G24, A25, nI_1, tm_w2, e4, e5, h5, not_false_eq_true]
            rw [rn_eq, b_X3_take_130]
            simp only [EV, LV, CB, OI, OL, NP, CZ, popN, CT, OZ, List.map_nil, List.map_cons, List.sum_nil, List.sum_cons, Option.toList, List.nil_append, List.cons_append, Int.reduceToNat, Nat.reduceAdd, Nat.reduceLT, Nat.reduceLeDiff, List.length_cons, List.length_nil, Nat.zero_add, if_true, if_false, reduceIte, and_self, and_true, true_and, eq_self, reduceCtorEq]
    · refine ⟨0, p1, p1, ?_, a2, a2, by decide, fun z => absurd z (by decide)⟩
      rw [rn_eq, b_X3_take_38]
      simp only [EV, LV, CB, OI, OL, NP, CZ, popN, CT, OZ, List.map_nil, List.map_cons, List.sum_nil, List.sum_cons, Option.toList, List.nil_append, List.cons_append, Int.reduceToNat, Nat.reduceAdd, Nat.reduceLT, Nat.reduceLeDiff, List.length_cons, List.length_nil, Nat.zero_add, if_true, if_false, reduceIte, and_self, and_true, true_and, eq_self, reduceCtorEq, C24, G24, tm_w1, h1]
  obtain ⟨t, s, p, k1, k2⟩ := key
  refine ⟨t, s, p, ?_, k2⟩
  rw [e0] at a3
  rw [se_X3_take, a3]
  exact k1
end Tq
