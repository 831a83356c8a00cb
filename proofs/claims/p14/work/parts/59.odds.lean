/-! BY HAND: odds of the model -/
theorem rem_L {x y : Int64} (h : ¬ y = 0) : (x - x / y * y).toInt.natAbs < y.toInt.natAbs := by
  have hy : y.toInt ≠ 0 := fun z => h (Int64.toInt_inj.mp (by rw [z]; decide))
  have ry := r64 y
  have rx := r64 x
  have hb : (x.toInt.tmod y.toInt).natAbs < y.toInt.natAbs := by
    by_cases hp : 0 < y.toInt
    · have q1 := Int.tmod_lt_of_pos x.toInt hp
      have q2 := Int.lt_tmod_of_pos x.toInt hp
      omega
    · have hp : 0 < -y.toInt := by omega
      have q1 := Int.tmod_lt_of_pos x.toInt hp
      have q2 := Int.lt_tmod_of_pos x.toInt hp
      rw [Int.tmod_neg] at q1 q2
      omega
  have e : (x - x / y * y).toInt = x.toInt.tmod y.toInt := by
    rw [Int64.toInt_sub, Int64.toInt_mul, Int64.toInt_div, Int.bmod_mul_bmod, Int.sub_bmod_bmod]
    have e1 : x.toInt - x.toInt.tdiv y.toInt * y.toInt = x.toInt.tmod y.toInt := by
      have := Int.tmod_add_mul_tdiv x.toInt y.toInt
      rw [Int.mul_comm] at this
      omega
    rw [e1]
    exact bm64 (by omega) (by omega)
  rw [e]
  exact hb
section H9
variable {sh : List ShE} (wS : List Value → Mm → Option Rs) (d : Nat)
theorem lc_ne {b : Int64} (hb : ¬ b = 0) : ¬ lg_cmp b 0 = 0 := by
  unfold lg_cmp
  (repeat' split) <;> first | decide | exact absurd ‹_› hb
theorem t_com_l (m : Mm) (a b : Int64) : ∀ (n : Nat) (x y : Int64) (v8 : Value), y.toInt.natAbs ≤ n → (¬ x = 0 ∨ ¬ y = 0) → (v8 = noV ∨ ∃ z : Int64, v8 = .long z) → ∃ r, ¬ r = 0 ∧ rn sh tb0 mN mO (semZ sh wS d) (some .long) (codeZ 163) 6 [.long a, noV, .long b, noV, .long x, noV, .long y, noV, v8, noV] [] m = some (some (.long r), m) := by
  intro n
  induction n with
  | zero =>
    intro x y v8 hn hxy h8
    have hy : y = 0 := Int64.toInt_inj.mp (by
      have : y.toInt = 0 := by omega
      rw [this]; decide)
    have hx : ¬ x = 0 := by
      rcases hxy with h | h
      · exact h
      · exact absurd hy h
    refine ⟨x, hx, ?_⟩
    have e2 : lg_cmp y 0 = 0 := by rw [hy]; decide
    rw [rn_eq, b_X7_common_6]
    simp only [e2, EV, LV, CB, OI, OL, NP, CZ, popN, CT, OZ, List.map_nil, List.map_cons, List.sum_nil, List.sum_cons, Option.toList, List.nil_append, List.cons_append, Int.reduceToNat, Nat.reduceAdd, Nat.reduceLT, Nat.reduceLeDiff, List.length_cons, List.length_nil, Nat.zero_add, if_true, if_false, reduceIte, and_self, and_true, true_and, eq_self, reduceCtorEq]
    rw [rn_eq, b_X7_common_31]
    simp only [EV, LV, CB, OI, OL, NP, CZ, popN, CT, OZ, List.map_nil, List.map_cons, List.sum_nil, List.sum_cons, Option.toList, List.nil_append, List.cons_append, Int.reduceToNat, Nat.reduceAdd, Nat.reduceLT, Nat.reduceLeDiff, List.length_cons, List.length_nil, Nat.zero_add, if_true, if_false, reduceIte, and_self, and_true, true_and, eq_self, reduceCtorEq]
  | succ n ih =>
    intro x y v8 hn hxy h8
    by_cases hy : y = 0
    · have hx : ¬ x = 0 := by
        rcases hxy with h | h
        · exact h
        · exact absurd hy h
      refine ⟨x, hx, ?_⟩
      have e2 : lg_cmp y 0 = 0 := by rw [hy]; decide
      rw [rn_eq, b_X7_common_6]
      simp only [e2, EV, LV, CB, OI, OL, NP, CZ, popN, CT, OZ, List.map_nil, List.map_cons, List.sum_nil, List.sum_cons, Option.toList, List.nil_append, List.cons_append, Int.reduceToNat, Nat.reduceAdd, Nat.reduceLT, Nat.reduceLeDiff, List.length_cons, List.length_nil, Nat.zero_add, if_true, if_false, reduceIte, and_self, and_true, true_and, eq_self, reduceCtorEq]
      rw [rn_eq, b_X7_common_31]
      simp only [EV, LV, CB, OI, OL, NP, CZ, popN, CT, OZ, List.map_nil, List.map_cons, List.sum_nil, List.sum_cons, Option.toList, List.nil_append, List.cons_append, Int.reduceToNat, Nat.reduceAdd, Nat.reduceLT, Nat.reduceLeDiff, List.length_cons, List.length_nil, Nat.zero_add, if_true, if_false, reduceIte, and_self, and_true, true_and, eq_self, reduceCtorEq]
    · have e2 := lc_ne hy
      have hr := rem_L (x := x) hy
      obtain ⟨r, h1, h2⟩ := ih y (x - x / y * y) (.long (x - x / y * y)) (by omega) (Or.inl hy) (Or.inr ⟨_, rfl⟩)
      refine ⟨r, h1, ?_⟩
      rw [rn_eq, b_X7_common_6]
      rcases h8 with rfl | ⟨z, rfl⟩
      · simp only [e2, hy, EV, LV, CB, OI, OL, NP, CZ, popN, CT, OZ, List.map_nil, List.map_cons, List.sum_nil, List.sum_cons, Option.toList, List.nil_append, List.cons_append, Int.reduceToNat, Nat.reduceAdd, Nat.reduceLT, Nat.reduceLeDiff, List.length_cons, List.length_nil, Nat.zero_add, if_true, if_false, reduceIte, and_self, and_true, true_and, eq_self, reduceCtorEq]
        exact h2
      · simp only [e2, hy, EV, LV, CB, OI, OL, NP, CZ, popN, CT, OZ, List.map_nil, List.map_cons, List.sum_nil, List.sum_cons, Option.toList, List.nil_append, List.cons_append, Int.reduceToNat, Nat.reduceAdd, Nat.reduceLT, Nat.reduceLeDiff, List.length_cons, List.length_nil, Nat.zero_add, if_true, if_false, reduceIte, and_self, and_true, true_and, eq_self, reduceCtorEq]
        exact h2
theorem t_common (m : Mm) (a b : Int64) (h : ¬ a = 0) : ∃ r, ¬ r = 0 ∧ semZ sh wS (d + 1) 163 [.long a, .long b] m = some (some (.long r), m) := by
  obtain ⟨r, h1, h2⟩ := t_com_l (sh := sh) wS d m a b _ a b noV (Nat.le_refl _) (Or.inl h) (Or.inl rfl)
  refine ⟨r, h1, ?_⟩
  rw [se_X7_common, rn_eq, b_X7_common_0]
  simp only [EV, LV, CB, OI, OL, NP, CZ, popN, CT, OZ, List.map_nil, List.map_cons, List.sum_nil, List.sum_cons, Option.toList, List.nil_append, List.cons_append, Int.reduceToNat, Nat.reduceAdd, Nat.reduceLT, Nat.reduceLeDiff, List.length_cons, List.length_nil, Nat.zero_add, if_true, if_false, reduceIte, and_self, and_true, true_and, eq_self, reduceCtorEq]
  exact h2
theorem t_told (m : Mm) (o u : Int64) (w : Int32) (h : ¬ u = 0) : ∃ r, semZ sh wS (d + 2) 164 [.long o, .long u, .int w] m = some (some (.long r), m) := by
  obtain ⟨r, h1, h2⟩ := t_common (sh := sh) wS d m u o h
  by_cases hw : w = 0
  · refine ⟨o / r, ?_⟩
    rw [se_X7_told, rn_eq, b_X7_told_0]
    simp only [EV, LV, CB, OI, OL, NP, CZ, popN, CT, OZ, List.map_nil, List.map_cons, List.sum_nil, List.sum_cons, Option.toList, List.nil_append, List.cons_append, Int.reduceToNat, Nat.reduceAdd, Nat.reduceLT, Nat.reduceLeDiff, List.length_cons, List.length_nil, Nat.zero_add, if_true, if_false, reduceIte, and_self, and_true, true_and, eq_self, reduceCtorEq, h2, h1, hw, not_true_eq_false]
    rw [rn_eq, b_X7_told_23]
    simp only [EV, LV, CB, OI, OL, NP, CZ, popN, CT, OZ, List.map_nil, List.map_cons, List.sum_nil, List.sum_cons, Option.toList, List.nil_append, List.cons_append, Int.reduceToNat, Nat.reduceAdd, Nat.reduceLT, Nat.reduceLeDiff, List.length_cons, List.length_nil, Nat.zero_add, if_true, if_false, reduceIte, and_self, and_true, true_and, eq_self, reduceCtorEq]
  · refine ⟨u / r, ?_⟩
    rw [se_X7_told, rn_eq, b_X7_told_0]
    simp only [EV, LV, CB, OI, OL, NP, CZ, popN, CT, OZ, List.map_nil, List.map_cons, List.sum_nil, List.sum_cons, Option.toList, List.nil_append, List.cons_append, Int.reduceToNat, Nat.reduceAdd, Nat.reduceLT, Nat.reduceLeDiff, List.length_cons, List.length_nil, Nat.zero_add, if_true, if_false, reduceIte, and_self, and_true, true_and, eq_self, reduceCtorEq, h2, h1, hw, not_false_eq_true]
    rw [rn_eq, b_X7_told_19]
    simp only [EV, LV, CB, OI, OL, NP, CZ, popN, CT, OZ, List.map_nil, List.map_cons, List.sum_nil, List.sum_cons, Option.toList, List.nil_append, List.cons_append, Int.reduceToNat, Nat.reduceAdd, Nat.reduceLT, Nat.reduceLeDiff, List.length_cons, List.length_nil, Nat.zero_add, if_true, if_false, reduceIte, and_self, and_true, true_and, eq_self, reduceCtorEq, h1]
end H9
/-- what findOdds writes -/
def w_fo : Wr := ([70, 74], [13617, 13618, 13619, 13620, 13621])
theorem iw_mem : q_X7_inWay ∈ t_11 := by
  unfold q_X7_inWay t_11 t_10 t_9 t_8 t_7 t_6 t_5 t_4 t_3 t_2
  simp only [List.mem_append, List.mem_cons, true_or, or_true]
theorem frm_w {V W : Wr} {m m' : Mm} (h : frm V m m') (hs : subW W V = true) : frm W m m' := frm_tr frm_rf h hs
theorem pw10 {a : Int64} {i : Nat} (hi : i < 6) (h1 : 1 ≤ a.toInt) (h2 : a.toInt ≤ 10 ^ i) (b : Int64) (hb : b = 10 ∨ b = 1) : 1 ≤ (a * b).toInt ∧ (a * b).toInt ≤ 10 ^ (i + 1) := by
  have hp : (10 : Int) ^ i ≤ 100000 := by
    match i, hi with
    | 0, _ => decide
    | 1, _ => decide
    | 2, _ => decide
    | 3, _ => decide
    | 4, _ => decide
    | 5, _ => decide
  have e10 : (10 : Int) ^ (i + 1) = 10 ^ i * 10 := Int.pow_succ _ _
  rcases hb with rfl | rfl
  · have e : (a * 10).toInt = a.toInt * 10 := by
      rw [Int64.toInt_mul, show (10 : Int64).toInt = 10 from by decide]
      exact bm64 (by omega) (by omega)
    omega
  · have e : (a * 1).toInt = a.toInt := by
      rw [Int64.toInt_mul, show (1 : Int64).toInt = 1 from by decide, Int.mul_one]
      exact bm64 (by omega) (by omega)
    omega
theorem fo_l (C : CallS) (v b n ly : Int32) (V : List Value) : ∀ (q i : Nat), i + q = 6 → ∀ m : Mm, 1 ≤ (m.2 68 21).toInt → (m.2 68 21).toInt ≤ 10 ^ i → ∃ a : Int64, 1 ≤ a.toInt ∧ rn shP tb0 mN mO C none (codeZ 165) 29 ([.ref 68, .int v, .int b, .int n, .int ly, .int (nI i)] ++ V) [] m = rn shP tb0 mN mO C none (codeZ 165) 69 ([.ref 68, .int v, .int b, .int n, .int ly, .int 6] ++ V) [] (wL m 68 21 a) := by
  intro q
  induction q with
  | zero =>
    intro i hi m h1 h2
    have e0 : i = 6 := by omega
    subst e0
    refine ⟨m.2 68 21, h1, ?_⟩
    have ew : wL m 68 21 (m.2 68 21) = m := by
      have e : va_up m.2 68 (vp_updL (m.2 68) 21 (m.2 68 21)) = m.2 := by
        funext o j
        simp only [va_up, vp_updL]
        by_cases ho : o = 68
        · subst ho
          rw [if_pos rfl]
          show (if j = 21 then m.2 68 21 else m.2 68 j) = m.2 68 j
          by_cases hj : j = 21
          · rw [if_pos hj, hj]
          · rw [if_neg hj]
        · rw [if_neg ho]
      show (m.1, va_up m.2 68 (vp_updL (m.2 68) 21 (m.2 68 21))) = m
      rw [e]
    rw [ew, rn_eq, b_X7_findOdds_29]
    have e1 : (6 : Int32) ≤ nI 6 := by decide +kernel
    simp only [e1, EV, LV, CB, OI, OL, NP, CZ, popN, CT, OZ, List.map_nil, List.map_cons, List.sum_nil, List.sum_cons, Option.toList, List.nil_append, List.cons_append, Int.reduceToNat, Nat.reduceAdd, Nat.reduceLT, Nat.reduceLeDiff, List.length_cons, List.length_nil, Nat.zero_add, if_true, if_false, reduceIte, and_self, and_true, true_and, eq_self, reduceCtorEq]
    rfl
  | succ q ih =>
    intro i hi m h1 h2
    have e1 : ¬ (6 : Int32) ≤ nI i := nI_ge (a := i) (b := 6) (by omega) (by omega)
    have g1 := gM MP68
    have pf : ∀ x : Int64, pfI shP 721 68 (.long x) m = some (wL m 68 21 x) := fun _ => rfl
    have key : ∀ bb : Int64, bb = 10 ∨ bb = 1 → ∃ a : Int64, 1 ≤ a.toInt ∧ rn shP tb0 mN mO C none (codeZ 165) 29 ([.ref 68, .int v, .int b, .int n, .int ly, .int (nI (i + 1))] ++ V) [] (wL m 68 21 (m.2 68 21 * bb)) = rn shP tb0 mN mO C none (codeZ 165) 69 ([.ref 68, .int v, .int b, .int n, .int ly, .int 6] ++ V) [] (wL m 68 21 a) := by
      intro bb hbb
      have hh := pw10 (by omega) h1 h2 bb hbb
      have e : (wL m 68 21 (m.2 68 21 * bb)).2 68 21 = m.2 68 21 * bb := by rw [wL_at, if_pos ⟨rfl, rfl⟩]
      obtain ⟨a, a1, a2⟩ := ih (i + 1) (by omega) (wL m 68 21 (m.2 68 21 * bb)) (by rw [e]; exact hh.1) (by rw [e]; exact hh.2)
      refine ⟨a, a1, ?_⟩
      rw [a2]
      have ew : wL (wL m 68 21 (m.2 68 21 * bb)) 68 21 a = wL m 68 21 a := by
        have : (wL (wL m 68 21 (m.2 68 21 * bb)) 68 21 a).2 = (wL m 68 21 a).2 := by
          funext o j
          simp only [wL_at]
          split
          · rfl
          · rfl
        exact Prod.ext rfl this
      rw [ew]
    by_cases hb : (ly >>> (nI i &&& 31)) &&& 1 = 1
    · obtain ⟨a, a1, a2⟩ := key 10 (Or.inl rfl)
      refine ⟨a, a1, ?_⟩
      rw [rn_eq, b_X7_findOdds_29]
      simp only [EV, LV, CB, OI, OL, NP, CZ, popN, CT, OZ, List.map_nil, List.map_cons, List.sum_nil, List.sum_cons, Option.toList, List.nil_append, List.cons_append, Int.reduceToNat, Nat.reduceAdd, Nat.reduceLT, Nat.reduceLeDiff, List.length_cons, List.length_nil, Nat.zero_add, if_true, if_false, reduceIte, and_self, and_true, true_and, eq_self, reduceCtorEq, e1, g1, hb, not_true_eq_false]
      rw [rn_eq, b_X7_findOdds_59]
      simp only [EV, LV, CB, OI, OL, NP, CZ, popN, CT, OZ, List.map_nil, List.map_cons, List.sum_nil, List.sum_cons, Option.toList, List.nil_append, List.cons_append, Int.reduceToNat, Nat.reduceAdd, Nat.reduceLT, Nat.reduceLeDiff, List.length_cons, List.length_nil, Nat.zero_add, if_true, if_false, reduceIte, and_self, and_true, true_and, eq_self, reduceCtorEq, pf, nI_1]
      exact a2
    · obtain ⟨a, a1, a2⟩ := key 1 (Or.inr rfl)
      refine ⟨a, a1, ?_⟩
      rw [rn_eq, b_X7_findOdds_29]
      simp only [EV, LV, CB, OI, OL, NP, CZ, popN, CT, OZ, List.map_nil, List.map_cons, List.sum_nil, List.sum_cons, Option.toList, List.nil_append, List.cons_append, Int.reduceToNat, Nat.reduceAdd, Nat.reduceLT, Nat.reduceLeDiff, List.length_cons, List.length_nil, Nat.zero_add, if_true, if_false, reduceIte, and_self, and_true, true_and, eq_self, reduceCtorEq, e1, g1, hb, not_false_eq_true]
      rw [rn_eq, b_X7_findOdds_58]
      simp only [EV, LV, CB, OI, OL, NP, CZ, popN, CT, OZ, List.map_nil, List.map_cons, List.sum_nil, List.sum_cons, Option.toList, List.nil_append, List.cons_append, Int.reduceToNat, Nat.reduceAdd, Nat.reduceLT, Nat.reduceLeDiff, List.length_cons, List.length_nil, Nat.zero_add, if_true, if_false, reduceIte, and_self, and_true, true_and, eq_self, reduceCtorEq, pf, nI_1]
      exact a2
theorem mT_165 : mT 165 = none := by decide +kernel
theorem fo_ok (wS : List Value → Mm → Option Rs) (d : Nat) (v b n : Int32) (m : Mm) (hI : InvT TV m) : ∃ m', semZ shP wS (d + 17) 165 [.ref 68, .int v, .int b, .int n] m = some (none, m') ∧ InvT TV m' ∧ frm w_fo m m' ∧ 1 ≤ (m'.2 68 21).toInt := by
  have hC := hall_11 wS d
  obtain ⟨v0, ms, s1, s2, s3, s4, s5, -⟩ := hd_starts wS (d + 15) [.ref 68] m ⟨gv_rf 68, trivial⟩ hI rho_nil
  cases v0 with
  | some v0 => exact s2.elim
  | none =>
    have s1 : semZ shP wS (d + 16) 123 [.ref 68] m = some (none, ms) := s1
    obtain ⟨v1, mw, w1, w2, w3, w4, w5, -⟩ := hC q_X7_inWay iw_mem [.ref 68, .int 0] ms ⟨gv_rf 68, gv_tI 0, trivial⟩ s3 rho_nil
    cases v1 with
    | none => exact w2.elim
    | some v1 =>
      obtain ⟨ly, hly, -⟩ := w2
      subst hly
      have w1 : semZ shP wS (d + 16) 136 [.ref 68, .int 0] ms = some (some (.int ly), mw) := w1
      have f1 : frm w_fo m mw := frm_tr (frm_w s5 (by decide)) w5 (by decide)
      obtain ⟨a, a1, a2⟩ := fo_l (semZ shP wS (d + 16)) v b n ly [noV, noV, noV, noV] 6 0 rfl (wL (wL (wL mw 68 19 0) 68 20 0) 68 21 1) (by rw [wL_at, if_pos ⟨rfl, rfl⟩]; decide) (by rw [wL_at, if_pos ⟨rfl, rfl⟩]; decide)
      have I1 : InvT TV (wL (wL (wL (wL mw 68 19 0) 68 20 0) 68 21 1) 68 21 a) := w3
      have f2 : frm w_fo m (wL (wL (wL (wL mw 68 19 0) 68 20 0) 68 21 1) 68 21 a) := frm_wL (by decide) (frm_wL (by decide) (frm_wL (by decide) (frm_wL (by decide) f1 (by decide)) (by decide)) (by decide)) (by decide)
      generalize hm1 : wL (wL (wL (wL mw 68 19 0) 68 20 0) 68 21 1) 68 21 a = m1 at I1 f2 a2
      have ea : m1.2 68 21 = a := by rw [← hm1, wL_at, if_pos ⟨rfl, rfl⟩]
      obtain ⟨e0, he0⟩ : ∃ e0, a_fo[0]? = some e0 := ⟨_, rfl⟩
      have k := run_ok (mE := m1) hC k_fo _ (a_fo.getD 0 (0, ([], [], []), 0, [])) (List.mem_of_getElem? (i := 0) rfl) [.ref 68, .int v, .int b, .int n, .int ly, .int 0, noV, noV, noV, noV] [] m1 (fun L1 => ⟨gL_of (L1 := L1) ⟨gv_rf 68, gv_tI v, gv_tI b, gv_tI n, gv_tI ly, gv_i (by decide) (by decide), trivial, trivial, trivial, trivial, trivial⟩, trivial, I1, rho_nil, frm_rf⟩) (Nat.le_refl _)
      obtain ⟨⟨vr, m'⟩, r1, r2⟩ := k
      have r1 : rn shP tb0 mN mO (semZ shP wS (d + 16)) (mT 165) (codeZ 165) 72 [.ref 68, .int v, .int b, .int n, .int ly, .int 0, noV, noV, noV, noV] [] m1 = some (vr, m') := r1
      rw [mT_165] at r1
      have hv : vr = none := by
        cases vr with
        | none => rfl
        | some _ => exact r2.1.elim
      subst hv
      refine ⟨m', ?_, r2.2.1, frm_tr f2 r2.2.2.2.1 (by decide), ?_⟩
      · have pf19 : pfI shP 719 68 (.long 0) mw = some (wL mw 68 19 0) := rfl
        have pf20 : pfI shP 720 68 (.long 0) (wL mw 68 19 0) = some (wL (wL mw 68 19 0) 68 20 0) := rfl
        have pf21 : pfI shP 721 68 (.long 1) (wL (wL mw 68 19 0) 68 20 0) = some (wL (wL (wL mw 68 19 0) 68 20 0) 68 21 1) := rfl
        rw [se_X7_findOdds, rn_eq, b_X7_findOdds_0]
        simp only [EV, LV, CB, OI, OL, NP, CZ, popN, CT, OZ, List.map_nil, List.map_cons, List.sum_nil, List.sum_cons, Option.toList, List.nil_append, List.cons_append, Int.reduceToNat, Nat.reduceAdd, Nat.reduceLT, Nat.reduceLeDiff, List.length_cons, List.length_nil, Nat.zero_add, if_true, if_false, reduceIte, and_self, and_true, true_and, eq_self, reduceCtorEq, gM MP68, s1, w1, pf19, pf20, pf21]
        refine Eq.trans a2 ?_
        rw [rn_eq, b_X7_findOdds_69]
        simp only [EV, LV, CB, OI, OL, NP, CZ, popN, CT, OZ, List.map_nil, List.map_cons, List.sum_nil, List.sum_cons, Option.toList, List.nil_append, List.cons_append, Int.reduceToNat, Nat.reduceAdd, Nat.reduceLT, Nat.reduceLeDiff, List.length_cons, List.length_nil, Nat.zero_add, if_true, if_false, reduceIte, and_self, and_true, true_and, eq_self, reduceCtorEq]
        exact r1
      · rw [(r2.2.2.2.1 68 21 (by decide) (by decide) (by decide)).2, ea]
        exact a1
def c_mn : CE := (166, [rF [68], tI, tI, tI], [], tJ, [], w_fo, [])
def c_lk : CE := (167, [rF [68], tI, tI, tI, tI], [], tJ, [], w_fo, [])
theorem nz_of {a : Int64} (h : 1 ≤ a.toInt) : ¬ a = 0 := fun z => by
  rw [z] at h
  exact absurd h (by decide)
theorem hd_mn (wS : List Value → Mm → Option Rs) (d : Nat) : Hd TV (semZ shP wS (d + 18)) c_mn := by
  apply Hd_run
  intro As m g hI hR
  obtain ⟨v1, vs, rfl, k1, g⟩ := gT_cons g
  obtain ⟨v2, vs, rfl, k2, g⟩ := gT_cons g
  obtain ⟨v3, vs, rfl, k3, g⟩ := gT_cons g
  obtain ⟨v4, vs, rfl, k4, g⟩ := gT_cons g
  cases gT_nil g
  obtain ⟨r', rfl, hr⟩ := k1
  have hr : r' = 68 := List.mem_singleton.mp hr
  subst hr
  obtain ⟨v, rfl, -⟩ := k2
  obtain ⟨n, rfl, -⟩ := k3
  obtain ⟨w, rfl, -⟩ := k4
  show ∃ r, semZ shP wS (d + 18) 166 [.ref 68, .int v, .int n, .int w] m = some r ∧ _
  have bad : PostR TV m c_mn (some (.long (-1)), m) := ⟨retJ _, hI, rho_nil, frm_rf, rfl⟩
  have e10 : ¬ (1 : Int32) = 0 := by decide
  rw [se_X7_mean, rn_eq, b_X7_mean_0]
  cases h1 : (decide (0 ≤ v.toInt64) && decide (v.toInt64 ≤ 10)) with
  | false =>
    refine ⟨_, ?_, bad⟩
    simp only [EV, LV, CB, OI, OL, NP, CZ, popN, CT, OZ, List.map_nil, List.map_cons, List.sum_nil, List.sum_cons, Option.toList, List.nil_append, List.cons_append, Int.reduceToNat, Nat.reduceAdd, Nat.reduceLT, Nat.reduceLeDiff, List.length_cons, List.length_nil, Nat.zero_add, if_true, if_false, reduceIte, and_self, and_true, true_and, eq_self, reduceCtorEq, t_in wS (d + 16), h1, bI_f]
    rw [rn_eq, b_X7_mean_26]
    simp only [EV, LV, CB, OI, OL, NP, CZ, popN, CT, OZ, List.map_nil, List.map_cons, List.sum_nil, List.sum_cons, Option.toList, List.nil_append, List.cons_append, Int.reduceToNat, Nat.reduceAdd, Nat.reduceLT, Nat.reduceLeDiff, List.length_cons, List.length_nil, Nat.zero_add, if_true, if_false, reduceIte, and_self, and_true, true_and, eq_self, reduceCtorEq]
  | true =>
    cases h2 : (decide (0 ≤ n.toInt64) && decide (n.toInt64 ≤ 20)) with
    | false =>
      refine ⟨_, ?_, bad⟩
      simp only [EV, LV, CB, OI, OL, NP, CZ, popN, CT, OZ, List.map_nil, List.map_cons, List.sum_nil, List.sum_cons, Option.toList, List.nil_append, List.cons_append, Int.reduceToNat, Nat.reduceAdd, Nat.reduceLT, Nat.reduceLeDiff, List.length_cons, List.length_nil, Nat.zero_add, if_true, if_false, reduceIte, and_self, and_true, true_and, eq_self, reduceCtorEq, t_in wS (d + 16), t_isJudged wS (d + 15), h1, h2, bI_f, bI_t, e10]
      rw [rn_eq, b_X7_mean_26]
      simp only [EV, LV, CB, OI, OL, NP, CZ, popN, CT, OZ, List.map_nil, List.map_cons, List.sum_nil, List.sum_cons, Option.toList, List.nil_append, List.cons_append, Int.reduceToNat, Nat.reduceAdd, Nat.reduceLT, Nat.reduceLeDiff, List.length_cons, List.length_nil, Nat.zero_add, if_true, if_false, reduceIte, and_self, and_true, true_and, eq_self, reduceCtorEq]
    | true =>
      cases h3 : (decide (0 ≤ w.toInt64) && decide (w.toInt64 ≤ 1)) with
      | false =>
        refine ⟨_, ?_, bad⟩
        simp only [EV, LV, CB, OI, OL, NP, CZ, popN, CT, OZ, List.map_nil, List.map_cons, List.sum_nil, List.sum_cons, Option.toList, List.nil_append, List.cons_append, Int.reduceToNat, Nat.reduceAdd, Nat.reduceLT, Nat.reduceLeDiff, List.length_cons, List.length_nil, Nat.zero_add, if_true, if_false, reduceIte, and_self, and_true, true_and, eq_self, reduceCtorEq, t_in wS (d + 16), t_isJudged wS (d + 15), t_isPart wS (d + 15), h1, h2, h3, bI_f, bI_t, e10, not_true_eq_false]
      | true =>
        obtain ⟨m', o1, o2, o3, o4⟩ := fo_ok wS d v 0 n m hI
        obtain ⟨r, t1⟩ := t_told (sh := shP) wS (d + 15) m' (m'.2 68 19) (m'.2 68 21) w (nz_of o4)
        refine ⟨(some (.long r), m'), ?_, retJ r, o2, rho_nil, o3, rfl⟩
        simp only [EV, LV, CB, OI, OL, NP, CZ, popN, CT, OZ, List.map_nil, List.map_cons, List.sum_nil, List.sum_cons, Option.toList, List.nil_append, List.cons_append, Int.reduceToNat, Nat.reduceAdd, Nat.reduceLT, Nat.reduceLeDiff, List.length_cons, List.length_nil, Nat.zero_add, if_true, if_false, reduceIte, and_self, and_true, true_and, eq_self, reduceCtorEq, t_in wS (d + 16), t_isJudged wS (d + 15), t_isPart wS (d + 15), h1, h2, h3, bI_f, bI_t, e10, not_true_eq_false, not_false_eq_true]
        rw [rn_eq, b_X7_mean_30]
        simp only [EV, LV, CB, OI, OL, NP, CZ, popN, CT, OZ, List.map_nil, List.map_cons, List.sum_nil, List.sum_cons, Option.toList, List.nil_append, List.cons_append, Int.reduceToNat, Nat.reduceAdd, Nat.reduceLT, Nat.reduceLeDiff, List.length_cons, List.length_nil, Nat.zero_add, if_true, if_false, reduceIte, and_self, and_true, true_and, eq_self, reduceCtorEq, gM MP68, o1, t1]
theorem hd_lk (wS : List Value → Mm → Option Rs) (d : Nat) : Hd TV (semZ shP wS (d + 18)) c_lk := by
  apply Hd_run
  intro As m g hI hR
  obtain ⟨v1, vs, rfl, k1, g⟩ := gT_cons g
  obtain ⟨v2, vs, rfl, k2, g⟩ := gT_cons g
  obtain ⟨v3, vs, rfl, k3, g⟩ := gT_cons g
  obtain ⟨v4, vs, rfl, k4, g⟩ := gT_cons g
  obtain ⟨v5, vs, rfl, k5, g⟩ := gT_cons g
  cases gT_nil g
  obtain ⟨r', rfl, hr⟩ := k1
  have hr : r' = 68 := List.mem_singleton.mp hr
  subst hr
  obtain ⟨v, rfl, -⟩ := k2
  obtain ⟨b, rfl, -⟩ := k3
  obtain ⟨n, rfl, -⟩ := k4
  obtain ⟨w, rfl, -⟩ := k5
  show ∃ r, semZ shP wS (d + 18) 167 [.ref 68, .int v, .int b, .int n, .int w] m = some r ∧ _
  have bad : PostR TV m c_lk (some (.long (-1)), m) := ⟨retJ _, hI, rho_nil, frm_rf, rfl⟩
  have e10 : ¬ (1 : Int32) = 0 := by decide
  rw [se_X7_luck, rn_eq, b_X7_luck_0]
  cases h1 : (decide (0 ≤ v.toInt64) && decide (v.toInt64 ≤ 10)) with
  | false =>
    refine ⟨_, ?_, bad⟩
    simp only [EV, LV, CB, OI, OL, NP, CZ, popN, CT, OZ, List.map_nil, List.map_cons, List.sum_nil, List.sum_cons, Option.toList, List.nil_append, List.cons_append, Int.reduceToNat, Nat.reduceAdd, Nat.reduceLT, Nat.reduceLeDiff, List.length_cons, List.length_nil, Nat.zero_add, if_true, if_false, reduceIte, and_self, and_true, true_and, eq_self, reduceCtorEq, t_in wS (d + 16), h1, bI_f]
    rw [rn_eq, b_X7_luck_35]
    simp only [EV, LV, CB, OI, OL, NP, CZ, popN, CT, OZ, List.map_nil, List.map_cons, List.sum_nil, List.sum_cons, Option.toList, List.nil_append, List.cons_append, Int.reduceToNat, Nat.reduceAdd, Nat.reduceLT, Nat.reduceLeDiff, List.length_cons, List.length_nil, Nat.zero_add, if_true, if_false, reduceIte, and_self, and_true, true_and, eq_self, reduceCtorEq]
  | true =>
    cases h4 : (decide (0 ≤ b.toInt64) && decide (b.toInt64 ≤ (m.1 69 38 - 1).toInt64)) with
    | false =>
      refine ⟨_, ?_, bad⟩
      simp only [EV, LV, CB, OI, OL, NP, CZ, popN, CT, OZ, List.map_nil, List.map_cons, List.sum_nil, List.sum_cons, Option.toList, List.nil_append, List.cons_append, Int.reduceToNat, Nat.reduceAdd, Nat.reduceLT, Nat.reduceLeDiff, List.length_cons, List.length_nil, Nat.zero_add, if_true, if_false, reduceIte, and_self, and_true, true_and, eq_self, reduceCtorEq, gM MP68, t_in wS (d + 16), t_isBody wS (d + 15) MP68, h1, h4, bI_f, bI_t, e10]
      rw [rn_eq, b_X7_luck_35]
      simp only [EV, LV, CB, OI, OL, NP, CZ, popN, CT, OZ, List.map_nil, List.map_cons, List.sum_nil, List.sum_cons, Option.toList, List.nil_append, List.cons_append, Int.reduceToNat, Nat.reduceAdd, Nat.reduceLT, Nat.reduceLeDiff, List.length_cons, List.length_nil, Nat.zero_add, if_true, if_false, reduceIte, and_self, and_true, true_and, eq_self, reduceCtorEq]
    | true =>
      cases h2 : (decide (0 ≤ n.toInt64) && decide (n.toInt64 ≤ 20)) with
      | false =>
        refine ⟨_, ?_, bad⟩
        simp only [EV, LV, CB, OI, OL, NP, CZ, popN, CT, OZ, List.map_nil, List.map_cons, List.sum_nil, List.sum_cons, Option.toList, List.nil_append, List.cons_append, Int.reduceToNat, Nat.reduceAdd, Nat.reduceLT, Nat.reduceLeDiff, List.length_cons, List.length_nil, Nat.zero_add, if_true, if_false, reduceIte, and_self, and_true, true_and, eq_self, reduceCtorEq, gM MP68, t_in wS (d + 16), t_isBody wS (d + 15) MP68, t_isJudged wS (d + 15), h1, h2, h4, bI_f, bI_t, e10]
        rw [rn_eq, b_X7_luck_35]
        simp only [EV, LV, CB, OI, OL, NP, CZ, popN, CT, OZ, List.map_nil, List.map_cons, List.sum_nil, List.sum_cons, Option.toList, List.nil_append, List.cons_append, Int.reduceToNat, Nat.reduceAdd, Nat.reduceLT, Nat.reduceLeDiff, List.length_cons, List.length_nil, Nat.zero_add, if_true, if_false, reduceIte, and_self, and_true, true_and, eq_self, reduceCtorEq]
      | true =>
        cases h3 : (decide (0 ≤ w.toInt64) && decide (w.toInt64 ≤ 1)) with
        | false =>
          refine ⟨_, ?_, bad⟩
          simp only [EV, LV, CB, OI, OL, NP, CZ, popN, CT, OZ, List.map_nil, List.map_cons, List.sum_nil, List.sum_cons, Option.toList, List.nil_append, List.cons_append, Int.reduceToNat, Nat.reduceAdd, Nat.reduceLT, Nat.reduceLeDiff, List.length_cons, List.length_nil, Nat.zero_add, if_true, if_false, reduceIte, and_self, and_true, true_and, eq_self, reduceCtorEq, gM MP68, t_in wS (d + 16), t_isBody wS (d + 15) MP68, t_isJudged wS (d + 15), t_isPart wS (d + 15), h1, h2, h3, h4, bI_f, bI_t, e10, not_true_eq_false]
        | true =>
          obtain ⟨m', o1, o2, o3, o4⟩ := fo_ok wS d v b n m hI
          obtain ⟨r, t1⟩ := t_told (sh := shP) wS (d + 15) m' (m'.2 68 20) (m'.2 68 21) w (nz_of o4)
          refine ⟨(some (.long r), m'), ?_, retJ r, o2, rho_nil, o3, rfl⟩
          simp only [EV, LV, CB, OI, OL, NP, CZ, popN, CT, OZ, List.map_nil, List.map_cons, List.sum_nil, List.sum_cons, Option.toList, List.nil_append, List.cons_append, Int.reduceToNat, Nat.reduceAdd, Nat.reduceLT, Nat.reduceLeDiff, List.length_cons, List.length_nil, Nat.zero_add, if_true, if_false, reduceIte, and_self, and_true, true_and, eq_self, reduceCtorEq, gM MP68, t_in wS (d + 16), t_isBody wS (d + 15) MP68, t_isJudged wS (d + 15), t_isPart wS (d + 15), h1, h2, h3, h4, bI_f, bI_t, e10, not_true_eq_false, not_false_eq_true]
          rw [rn_eq, b_X7_luck_39]
          simp only [EV, LV, CB, OI, OL, NP, CZ, popN, CT, OZ, List.map_nil, List.map_cons, List.sum_nil, List.sum_cons, Option.toList, List.nil_append, List.cons_append, Int.reduceToNat, Nat.reduceAdd, Nat.reduceLT, Nat.reduceLeDiff, List.length_cons, List.length_nil, Nat.zero_add, if_true, if_false, reduceIte, and_self, and_true, true_and, eq_self, reduceCtorEq, gM MP68, o1, t1]
