/-! THE OTHERS, BY HAND -/
section Ok3
variable {wS : List Value → Mm → Option Rs} (d : Nat)
theorem m_t {c : CE} {i : Nat} (h : t_23[i]? = some c) : c ∈ t_23 := List.mem_of_getElem? h
theorem ok_X7_back (hw : WOK wS) : OKm (semZ shP wS (d + 28)) 178 68 1 false (qx [9, 11]) := by
  intro xs m hn hI hJ
  obtain ⟨a0, rfl⟩ := l32_1 hn
  have hr := r32 a0
  by_cases c0 : a0.toInt ≤ -1
  · exact OKv_of (hall_23 hw d c_89 (m_t (i := 275) rfl)) ⟨gv_rf 68, gv_i (by omega) (by omega), trivial⟩ hI hJ rho_nil (by decide) (by decide) (by decide +kernel)
  by_cases c1 : a0.toInt ≤ 0
  · by_cases e0 : m.1 71 0 = 0
    · have e1 : cel m 14200 = 0 := by rw [cel_of m 14200 71 0 rfl rfl, e0]; decide
      exact OKv_of (hall_23 hw d c_85 (m_t (i := 271) rfl)) ⟨gv_rf 68, gv_ci (by omega), trivial⟩ hI hJ (rho_one (by rw [e1]; decide) (by rw [e1]; decide)) (by decide) (by decide) (by decide +kernel)
    · have e1 := hJ.1 e0
      exact OKv_of (hall_23 hw d c_84 (m_t (i := 270) rfl)) ⟨gv_rf 68, gv_ci (by omega), trivial⟩ hI hJ (rho_one e1.1 e1.2) (by decide) (by decide) (by decide +kernel)
  by_cases c2 : a0.toInt ≤ 1
  · by_cases e0 : m.1 71 1 = 0
    · have e1 : cel m 14201 = 0 := by rw [cel_of m 14201 71 1 rfl rfl, e0]; decide
      exact OKv_of (hall_23 hw d c_87 (m_t (i := 273) rfl)) ⟨gv_rf 68, gv_ci (by omega), trivial⟩ hI hJ (rho_one (by rw [e1]; decide) (by rw [e1]; decide)) (by decide) (by decide) (by decide +kernel)
    · have e1 := hJ.2 e0
      exact OKv_of (hall_23 hw d c_86 (m_t (i := 272) rfl)) ⟨gv_rf 68, gv_ci (by omega), trivial⟩ hI hJ (rho_one e1.1 e1.2) (by decide) (by decide) (by decide +kernel)
  · exact OKv_of (hall_23 hw d c_88 (m_t (i := 274) rfl)) ⟨gv_rf 68, gv_i (by omega) (by omega), trivial⟩ hI hJ rho_nil (by decide) (by decide) (by decide +kernel)
theorem ok_X6_read : OKm (semZ shP wS (d + 28)) 96 0 4 false (qx [6, 8]) := OKm_of (hd_rd wS (d + 11)) 0 4 rfl rfl (by decide) (by decide) (by decide +kernel)
theorem ok_X7_read : OKm (semZ shP wS (d + 28)) 182 68 4 false (qx [7, 9, 11]) := OKm_of (hd_rm wS (d + 11)) 68 4 rfl rfl (by decide) (by decide) (by decide +kernel)
theorem ok_X7_mean : OKm (semZ shP wS (d + 28)) 166 68 3 true (qx []) := OKm_of (hd_mn wS (d + 10)) 68 3 rfl rfl (by decide) (by decide) (by decide +kernel)
theorem ok_X7_luck : OKm (semZ shP wS (d + 28)) 167 68 4 true (qx []) := OKm_of (hd_lk wS (d + 10)) 68 4 rfl rfl (by decide) (by decide) (by decide +kernel)
/-- text of both: the tapes are empty then -/
theorem ok_X6_text (hw : WOK wS) (m : Mm) (hI : InvT TV m) (hJ : JK m) : ∃ (x : Int32) (m' : Mm), semZ shP wS (d + 28) 45 [.ref 0] m = some (some (.int x), m') ∧ InvT TV m' ∧ JK m' ∧ m'.1 24 0 = 0 ∧ m'.1 68 9 = m.1 68 9 ∧ Kp (qx [0, 2, 8, 10, 12]) m m' := by
  obtain ⟨v, m', a1, a2, a3, a4, a5, -⟩ := hall_23 hw d c_256 (m_t (i := 5) rfl) [.ref 0] m ⟨gv_rf 0, trivial⟩ hI rho_nil
  obtain ⟨w, rfl, x, rfl⟩ := vOK_of (lg := false) (a := tI) rfl a2
  have h0 := a4 (4800, 0, 0) (List.mem_singleton.mpr rfl)
  have e0 : (m'.1 24 0).toInt = 0 := by
    have q1 : 0 ≤ cel m' 4800 := h0.1
    have q2 : cel m' 4800 ≤ 0 := h0.2
    rw [cel_of m' 4800 24 0 rfl rfl] at q1 q2
    omega
  exact ⟨x, m', a1, a3, JK_of (inW_f a5 (by omega) (by decide)) (inW_f a5 (by omega) (by decide)) (inW_f a5 (by omega) (by decide)) (inW_f a5 (by omega) (by decide)) hJ, Int32.toInt_inj.mp (by rw [e0]; decide), inW_f a5 (by omega) (by decide), Kp_of a5 (by decide +kernel)⟩
theorem ok_X7_text (hw : WOK wS) (m : Mm) (hI : InvT TV m) (hJ : JK m) : ∃ (x : Int32) (m' : Mm), semZ shP wS (d + 30) 118 [.ref 68] m = some (some (.int x), m') ∧ InvT TV m' ∧ JK m' ∧ m'.1 24 0 = m.1 24 0 ∧ m'.1 68 9 = 0 ∧ Kp (qx [1, 3, 9, 11, 13]) m m' := by
  obtain ⟨x, m', a1, a2, a3, a4, a5⟩ := t_text hw d m hI
  exact ⟨x, m', a1, a2, a5 hJ, inW_f a3 (by omega) (by decide), a4, Kp_of a3 (by decide +kernel)⟩
/-! feed and end -/
theorem F24 (m : Mm) : gfI shP 300 24 m = some (.int (m.1 24 0)) ∧ gfI shP 303 24 m = some (.ref 25) ∧ (∀ x : Int32, pfI shP 300 24 (.int x) m = some (wI m 24 0 x)) := ⟨rfl, rfl, fun _ => rfl⟩
theorem F23 (m : Mm) : gfI shP 400 23 m = some (.ref 24) := rfl
theorem F68 (m : Mm) : gfI shP 709 68 m = some (.int (m.1 68 9)) ∧ gfI shP 708 68 m = some (.ref 73) ∧ (∀ x : Int32, pfI shP 709 68 (.int x) m = some (wI m 68 9 x)) := ⟨rfl, rfl, fun _ => rfl⟩
theorem S25 (i x : Int32) (m : Mm) : asI shP 0 25 i x m = if inR i 160 = true then some (wI m 25 i.toNatClampNeg x) else none := as_of (n := 160) (rs := []) rfl i x m
theorem S73 (i x : Int32) (m : Mm) : asI shP 0 73 i x m = if inR i 160 = true then some (wI m 73 i.toNatClampNeg x) else none := as_of (n := 160) (rs := []) rfl i x m
/-- what feed answers, by the length n of the tape -/
def fdV (c : Int32) (n : Nat) : Int32 := if 0 ≤ c ∧ c ≤ 127 then (if n < 160 then nI (n + 1) else -3) else -1
def fdN (c : Int32) (n : Nat) : Nat := if 0 ≤ c ∧ c ≤ 127 then (if n < 160 then n + 1 else n) else n
/-- the bytes behind feed -/
def FdB (o : Nat) (c : Int32) (n : Nat) (m m' : Mm) : Prop := ((0 ≤ c ∧ c ≤ 127) ∧ n < 160 → m'.1 o = upd (m.1 o) n c) ∧ (¬ ((0 ≤ c ∧ c ≤ 127) ∧ n < 160) → m'.1 o = m.1 o)
theorem FdB_y {o : Nat} {c : Int32} {n : Nat} {m m' : Mm} (h : (0 ≤ c ∧ c ≤ 127) ∧ n < 160) (e : m'.1 o = upd (m.1 o) n c) : FdB o c n m m' := ⟨fun _ => e, fun z => absurd h z⟩
theorem FdB_n {o : Nat} {c : Int32} {n : Nat} {m : Mm} (h : ¬ ((0 ≤ c ∧ c ≤ 127) ∧ n < 160)) : FdB o c n m m := ⟨fun z => absurd z h, fun _ => rfl⟩
theorem t_feed6 (c : Int32) (m : Mm) {n : Nat} (hn : m.1 24 0 = nI n) (h160 : n ≤ 160) : ∃ m', semZ shP wS (d + 3) 43 [.ref 0, .int c] m = some (some (.int (fdV c n)), m') ∧ m'.1 24 0 = nI (fdN c n) ∧ frm ([25], [4800]) m m' ∧ (InvT TV m → InvT TV m') ∧ FdB 25 c n m m' := by
  have e10 : ¬ (1 : Int32) = 0 := by decide
  unfold fdV fdN
  by_cases h1 : 0 ≤ c ∧ c ≤ 127
  · have hd : (decide (0 ≤ c) && decide (c ≤ 127)) = true := by simp only [h1.1, h1.2, decide_true, Bool.and_self]
    rw [if_pos h1, if_pos h1]
    by_cases h2 : n < 160
    · rw [if_pos h2, if_pos h2]
      have hlt : nI n < 160 := nI_lt (a := n) (b := 160) h2 (by omega)
      have e2 : inR (nI n) 160 = true := inR_nI h2 (by omega)
      have e3 : (nI n).toNatClampNeg = n := nI_clamp (by omega)
      have en : (wI m 25 n c).1 24 0 = nI n := by rw [wI_at, if_neg (by omega)]; exact hn
      have ap : semZ shP wS (d + 2) 7 [.ref 24, .int c] m = some (some (.int 1), wI (wI m 25 n c) 24 0 (nI (n + 1))) := by
        rw [se_X3_append, rn_eq, b_X3_append_0]
        simp only [EV, LV, CB, OI, OL, NP, CZ, popN, CT, OZ, List.map_nil, List.map_cons, List.sum_nil, List.sum_cons, Option.toList, List.nil_append, List.cons_append, Int.reduceToNat, Nat.reduceAdd, Nat.reduceLT, Nat.reduceLeDiff, List.length_cons, List.length_nil, Nat.zero_add, if_true, if_false, reduceIte, and_self, and_true, true_and, eq_self, reduceCtorEq, F24, hn, hlt]
        rw [rn_eq, b_X3_append_12]
        simp only [EV, LV, CB, OI, OL, NP, CZ, popN, CT, OZ, List.map_nil, List.map_cons, List.sum_nil, List.sum_cons, Option.toList, List.nil_append, List.cons_append, Int.reduceToNat, Nat.reduceAdd, Nat.reduceLT, Nat.reduceLeDiff, List.length_cons, List.length_nil, Nat.zero_add, if_true, if_false, reduceIte, and_self, and_true, true_and, eq_self, reduceCtorEq, F24, hn, S25, e2, e3, en, nI_1]
      have en2 : (wI (wI m 25 n c) 24 0 (nI (n + 1))).1 24 0 = nI (n + 1) := by rw [wI_at, if_pos ⟨rfl, rfl⟩]
      refine ⟨_, ?_, en2, frm_wI (by omega) (frm_wI (by omega) frm_rf (by unfold inW; rw [show ([25] : List Nat).contains 25 = true from by decide]; rfl)) (by decide), fun hI => Inv_wI (Inv_wI hI ?_ ?_) ?_ ?_, FdB_y ⟨h1, h2⟩ rfl⟩
      · rw [se_X6_feed, rn_eq, b_X6_feed_0]
        simp only [EV, LV, CB, OI, OL, NP, CZ, popN, CT, OZ, List.map_nil, List.map_cons, List.sum_nil, List.sum_cons, Option.toList, List.nil_append, List.cons_append, Int.reduceToNat, Nat.reduceAdd, Nat.reduceLT, Nat.reduceLeDiff, List.length_cons, List.length_nil, Nat.zero_add, if_true, if_false, reduceIte, and_self, and_true, true_and, eq_self, reduceCtorEq, t_within wS (d + 1), hd, bI_t, e10, not_false_eq_true]
        rw [rn_eq, b_X6_feed_12]
        simp only [EV, LV, CB, OI, OL, NP, CZ, popN, CT, OZ, List.map_nil, List.map_cons, List.sum_nil, List.sum_cons, Option.toList, List.nil_append, List.cons_append, Int.reduceToNat, Nat.reduceAdd, Nat.reduceLT, Nat.reduceLeDiff, List.length_cons, List.length_nil, Nat.zero_add, if_true, if_false, reduceIte, and_self, and_true, true_and, eq_self, reduceCtorEq, gP0, F23, C24, ap, e10, F24, en2]
        rw [rn_eq, b_X6_feed_41]
        simp only [EV, LV, CB, OI, OL, NP, CZ, popN, CT, OZ, List.map_nil, List.map_cons, List.sum_nil, List.sum_cons, Option.toList, List.nil_append, List.cons_append, Int.reduceToNat, Nat.reduceAdd, Nat.reduceLT, Nat.reduceLeDiff, List.length_cons, List.length_nil, Nat.zero_add, if_true, if_false, reduceIte, and_self, and_true, true_and, eq_self, reduceCtorEq]
      · rw [show ivO TV 25 n = (-2147483648, 2147483647) from by rw [iv_1 (by decide)]; decide]; exact (r32 c).1
      · rw [show ivO TV 25 n = (-2147483648, 2147483647) from by rw [iv_1 (by decide)]; decide]; exact (r32 c).2
      · rw [show ivO TV 24 0 = (0, 160) from by decide +kernel, nI_toInt (by omega)]; show (0 : Int) ≤ _; omega
      · rw [show ivO TV 24 0 = (0, 160) from by decide +kernel, nI_toInt (by omega)]; show _ ≤ (160 : Int); omega
    · rw [if_neg h2, if_neg h2]
      have e160 : n = 160 := by omega
      subst e160
      have hlt : ¬ nI 160 < 160 := by decide +kernel
      have ap : semZ shP wS (d + 2) 7 [.ref 24, .int c] m = some (some (.int 0), m) := by
        rw [se_X3_append, rn_eq, b_X3_append_0]
        simp only [EV, LV, CB, OI, OL, NP, CZ, popN, CT, OZ, List.map_nil, List.map_cons, List.sum_nil, List.sum_cons, Option.toList, List.nil_append, List.cons_append, Int.reduceToNat, Nat.reduceAdd, Nat.reduceLT, Nat.reduceLeDiff, List.length_cons, List.length_nil, Nat.zero_add, if_true, if_false, reduceIte, and_self, and_true, true_and, eq_self, reduceCtorEq, F24, hn, hlt]
      refine ⟨m, ?_, hn, frm_rf, fun hI => hI, FdB_n (fun z => h2 z.2)⟩
      rw [se_X6_feed, rn_eq, b_X6_feed_0]
      simp only [EV, LV, CB, OI, OL, NP, CZ, popN, CT, OZ, List.map_nil, List.map_cons, List.sum_nil, List.sum_cons, Option.toList, List.nil_append, List.cons_append, Int.reduceToNat, Nat.reduceAdd, Nat.reduceLT, Nat.reduceLeDiff, List.length_cons, List.length_nil, Nat.zero_add, if_true, if_false, reduceIte, and_self, and_true, true_and, eq_self, reduceCtorEq, t_within wS (d + 1), hd, bI_t, e10, not_false_eq_true]
      rw [rn_eq, b_X6_feed_12]
      simp only [EV, LV, CB, OI, OL, NP, CZ, popN, CT, OZ, List.map_nil, List.map_cons, List.sum_nil, List.sum_cons, Option.toList, List.nil_append, List.cons_append, Int.reduceToNat, Nat.reduceAdd, Nat.reduceLT, Nat.reduceLeDiff, List.length_cons, List.length_nil, Nat.zero_add, if_true, if_false, reduceIte, and_self, and_true, true_and, eq_self, reduceCtorEq, gP0, F23, C24, ap]
      rw [rn_eq, b_X6_feed_39]
      simp only [EV, LV, CB, OI, OL, NP, CZ, popN, CT, OZ, List.map_nil, List.map_cons, List.sum_nil, List.sum_cons, Option.toList, List.nil_append, List.cons_append, Int.reduceToNat, Nat.reduceAdd, Nat.reduceLT, Nat.reduceLeDiff, List.length_cons, List.length_nil, Nat.zero_add, if_true, if_false, reduceIte, and_self, and_true, true_and, eq_self, reduceCtorEq]
  · have hd : (decide (0 ≤ c) && decide (c ≤ 127)) = false := by
      cases h : (decide (0 ≤ c) && decide (c ≤ 127)) with
      | false => rfl
      | true =>
        simp only [Bool.and_eq_true, decide_eq_true_eq] at h
        exact absurd h h1
    rw [if_neg h1, if_neg h1]
    refine ⟨m, ?_, hn, frm_rf, fun hI => hI, FdB_n (fun z => h1 z.1)⟩
    rw [se_X6_feed, rn_eq, b_X6_feed_0]
    simp only [EV, LV, CB, OI, OL, NP, CZ, popN, CT, OZ, List.map_nil, List.map_cons, List.sum_nil, List.sum_cons, Option.toList, List.nil_append, List.cons_append, Int.reduceToNat, Nat.reduceAdd, Nat.reduceLT, Nat.reduceLeDiff, List.length_cons, List.length_nil, Nat.zero_add, if_true, if_false, reduceIte, and_self, and_true, true_and, eq_self, reduceCtorEq, t_within wS (d + 1), hd, bI_f, not_true_eq_false]
end Ok3
