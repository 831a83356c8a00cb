/-! feed and end of both; keep of the model -/
theorem dec64 (c : Int32) (a b : Int32) (A B : Int64) (hA : A = a.toInt64) (hB : B = b.toInt64) : (decide (A ≤ c.toInt64) && decide (c.toInt64 ≤ B)) = (decide (a ≤ c) && decide (c ≤ b)) := by
  subst hA hB
  simp only [Int64.le_iff_toInt_le, Int32.le_iff_toInt_le, Int32.toInt_toInt64]
section Ok4
variable {wS : List Value → Mm → Option Rs} (d : Nat)
theorem t_feed7 (c : Int32) (m : Mm) {n : Nat} (hn : m.1 68 9 = nI n) (h160 : n ≤ 160) : ∃ m', semZ shP wS (d + 3) 105 [.ref 68, .int c] m = some (some (.int (fdV c n)), m') ∧ m'.1 68 9 = nI (fdN c n) ∧ frm ([73], [13609]) m m' ∧ (InvT TV m → InvT TV m') ∧ FdB 73 c n m m' := by
  have e10 : ¬ (1 : Int32) = 0 := by decide
  have ed := dec64 c 0 127 0 127 (by decide) (by decide)
  unfold fdV fdN
  by_cases h1 : 0 ≤ c ∧ c ≤ 127
  · have hd : (decide (0 ≤ c) && decide (c ≤ 127)) = true := by simp only [h1.1, h1.2, decide_true, Bool.and_self]
    rw [hd] at ed
    rw [if_pos h1, if_pos h1]
    by_cases h2 : n < 160
    · rw [if_pos h2, if_pos h2]
      have hne : ¬ nI n = 160 := fun z => by
        have := nI_lt (a := n) (b := 160) h2 (by omega)
        rw [z] at this
        exact absurd this (by decide)
      have e2 : inR (nI n) 160 = true := inR_nI h2 (by omega)
      have e3 : (nI n).toNatClampNeg = n := nI_clamp (by omega)
      have en : (wI m 73 n c).1 68 9 = nI n := by rw [wI_at, if_neg (by omega)]; exact hn
      have en2 : (wI (wI m 73 n c) 68 9 (nI (n + 1))).1 68 9 = nI (n + 1) := by rw [wI_at, if_pos ⟨rfl, rfl⟩]
      refine ⟨_, ?_, en2, frm_wI (by omega) (frm_wI (by omega) frm_rf (by unfold inW; rw [show ([73] : List Nat).contains 73 = true from by decide]; rfl)) (by decide), fun hI => Inv_wI (Inv_wI hI ?_ ?_) ?_ ?_, FdB_y ⟨h1, h2⟩ rfl⟩
      · rw [se_X7_feed, rn_eq, b_X7_feed_0]
        simp only [EV, LV, CB, OI, OL, NP, CZ, popN, CT, OZ, List.map_nil, List.map_cons, List.sum_nil, List.sum_cons, Option.toList, List.nil_append, List.cons_append, Int.reduceToNat, Nat.reduceAdd, Nat.reduceLT, Nat.reduceLeDiff, List.length_cons, List.length_nil, Nat.zero_add, if_true, if_false, reduceIte, and_self, and_true, true_and, eq_self, reduceCtorEq, t_in wS (d + 1), ed, bI_t, e10, not_false_eq_true]
        rw [rn_eq, b_X7_feed_14]
        simp only [EV, LV, CB, OI, OL, NP, CZ, popN, CT, OZ, List.map_nil, List.map_cons, List.sum_nil, List.sum_cons, Option.toList, List.nil_append, List.cons_append, Int.reduceToNat, Nat.reduceAdd, Nat.reduceLT, Nat.reduceLeDiff, List.length_cons, List.length_nil, Nat.zero_add, if_true, if_false, reduceIte, and_self, and_true, true_and, eq_self, reduceCtorEq, F68, hn, hne, not_false_eq_true]
        rw [rn_eq, b_X7_feed_27]
        simp only [EV, LV, CB, OI, OL, NP, CZ, popN, CT, OZ, List.map_nil, List.map_cons, List.sum_nil, List.sum_cons, Option.toList, List.nil_append, List.cons_append, Int.reduceToNat, Nat.reduceAdd, Nat.reduceLT, Nat.reduceLeDiff, List.length_cons, List.length_nil, Nat.zero_add, if_true, if_false, reduceIte, and_self, and_true, true_and, eq_self, reduceCtorEq, F68, hn, S73, e2, e3, en, nI_1, en2]
      · rw [show ivO TV 73 n = (-2147483648, 2147483647) from by rw [iv_1 (by decide)]; decide]; exact (r32 c).1
      · rw [show ivO TV 73 n = (-2147483648, 2147483647) from by rw [iv_1 (by decide)]; decide]; exact (r32 c).2
      · rw [iv_68a.2.2.2, nI_toInt (by omega)]; show (0 : Int) ≤ _; omega
      · rw [iv_68a.2.2.2, nI_toInt (by omega)]; show _ ≤ (160 : Int); omega
    · rw [if_neg h2, if_neg h2]
      have e160 : n = 160 := by omega
      subst e160
      have heq : nI 160 = 160 := by decide +kernel
      refine ⟨m, ?_, hn, frm_rf, fun hI => hI, FdB_n (fun z => h2 z.2)⟩
      rw [se_X7_feed, rn_eq, b_X7_feed_0]
      simp only [EV, LV, CB, OI, OL, NP, CZ, popN, CT, OZ, List.map_nil, List.map_cons, List.sum_nil, List.sum_cons, Option.toList, List.nil_append, List.cons_append, Int.reduceToNat, Nat.reduceAdd, Nat.reduceLT, Nat.reduceLeDiff, List.length_cons, List.length_nil, Nat.zero_add, if_true, if_false, reduceIte, and_self, and_true, true_and, eq_self, reduceCtorEq, t_in wS (d + 1), ed, bI_t, e10, not_false_eq_true]
      rw [rn_eq, b_X7_feed_14]
      simp only [EV, LV, CB, OI, OL, NP, CZ, popN, CT, OZ, List.map_nil, List.map_cons, List.sum_nil, List.sum_cons, Option.toList, List.nil_append, List.cons_append, Int.reduceToNat, Nat.reduceAdd, Nat.reduceLT, Nat.reduceLeDiff, List.length_cons, List.length_nil, Nat.zero_add, if_true, if_false, reduceIte, and_self, and_true, true_and, eq_self, reduceCtorEq, F68, hn, heq, not_true_eq_false]
  · have hd : (decide (0 ≤ c) && decide (c ≤ 127)) = false := by
      cases h : (decide (0 ≤ c) && decide (c ≤ 127)) with
      | false => rfl
      | true =>
        simp only [Bool.and_eq_true, decide_eq_true_eq] at h
        exact absurd h h1
    rw [hd] at ed
    rw [if_neg h1, if_neg h1]
    refine ⟨m, ?_, hn, frm_rf, fun hI => hI, FdB_n (fun z => h1 z.1)⟩
    rw [se_X7_feed, rn_eq, b_X7_feed_0]
    simp only [EV, LV, CB, OI, OL, NP, CZ, popN, CT, OZ, List.map_nil, List.map_cons, List.sum_nil, List.sum_cons, Option.toList, List.nil_append, List.cons_append, Int.reduceToNat, Nat.reduceAdd, Nat.reduceLT, Nat.reduceLeDiff, List.length_cons, List.length_nil, Nat.zero_add, if_true, if_false, reduceIte, and_self, and_true, true_and, eq_self, reduceCtorEq, t_in wS (d + 1), ed, bI_f, not_true_eq_false]
/-- what end answers, and the length then -/
def enV (x : Int32) (n : Nat) : Int32 := if (decide (0 ≤ x) && decide (x ≤ nI n)) = true then nI n else -1
def enN (x : Int32) (n : Nat) : Int32 := if (decide (0 ≤ x) && decide (x ≤ nI n)) = true then x else nI n
theorem t_end6 (x : Int32) (m : Mm) {n : Nat} (hn : m.1 24 0 = nI n) (h160 : n ≤ 160) : ∃ m', semZ shP wS (d + 2) 44 [.ref 0, .int x] m = some (some (.int (enV x n)), m') ∧ m'.1 24 0 = enN x n ∧ frm ([], [4800]) m m' ∧ (InvT TV m → InvT TV m') := by
  have e10 : ¬ (1 : Int32) = 0 := by decide
  unfold enV enN
  cases h : (decide (0 ≤ x) && decide (x ≤ nI n)) with
  | true =>
    have hb := wi_i h
    rw [show (0 : Int32).toInt = 0 from by decide, nI_toInt (by omega)] at hb
    refine ⟨wI m 24 0 x, ?_, by rw [wI_at, if_pos ⟨rfl, rfl⟩]; rfl, frm_wI (by omega) frm_rf (by decide), fun hI => Inv_wI hI ?_ ?_⟩
    · rw [se_X6_end, rn_eq, b_X6_end_0]
      simp only [EV, LV, CB, OI, OL, NP, CZ, popN, CT, OZ, List.map_nil, List.map_cons, List.sum_nil, List.sum_cons, Option.toList, List.nil_append, List.cons_append, Int.reduceToNat, Nat.reduceAdd, Nat.reduceLT, Nat.reduceLeDiff, List.length_cons, List.length_nil, Nat.zero_add, if_true, if_false, reduceIte, and_self, and_true, true_and, eq_self, reduceCtorEq, gP0, F23, F24, hn, t_within wS d, h, bI_t, e10, not_false_eq_true]
      rw [rn_eq, b_X6_end_22]
      simp only [EV, LV, CB, OI, OL, NP, CZ, popN, CT, OZ, List.map_nil, List.map_cons, List.sum_nil, List.sum_cons, Option.toList, List.nil_append, List.cons_append, Int.reduceToNat, Nat.reduceAdd, Nat.reduceLT, Nat.reduceLeDiff, List.length_cons, List.length_nil, Nat.zero_add, if_true, if_false, reduceIte, and_self, and_true, true_and, eq_self, reduceCtorEq, gP0, F23, F24]
    · rw [show ivO TV 24 0 = (0, 160) from by decide +kernel]; show (0 : Int) ≤ _; omega
    · rw [show ivO TV 24 0 = (0, 160) from by decide +kernel]; show _ ≤ (160 : Int); omega
  | false =>
    refine ⟨m, ?_, hn, frm_rf, fun hI => hI⟩
    rw [se_X6_end, rn_eq, b_X6_end_0]
    simp only [EV, LV, CB, OI, OL, NP, CZ, popN, CT, OZ, List.map_nil, List.map_cons, List.sum_nil, List.sum_cons, Option.toList, List.nil_append, List.cons_append, Int.reduceToNat, Nat.reduceAdd, Nat.reduceLT, Nat.reduceLeDiff, List.length_cons, List.length_nil, Nat.zero_add, if_true, if_false, reduceIte, and_self, and_true, true_and, eq_self, reduceCtorEq, gP0, F23, F24, hn, t_within wS d, h, bI_f, not_true_eq_false, Bool.false_eq_true]
theorem t_end7 (x : Int32) (m : Mm) {n : Nat} (hn : m.1 68 9 = nI n) (h160 : n ≤ 160) : ∃ m', semZ shP wS (d + 2) 106 [.ref 68, .int x] m = some (some (.int (enV x n)), m') ∧ m'.1 68 9 = enN x n ∧ frm ([], [13609]) m m' ∧ (InvT TV m → InvT TV m') := by
  have e10 : ¬ (1 : Int32) = 0 := by decide
  have ed := dec64 x 0 (nI n) 0 (nI n).toInt64 (by decide) rfl
  unfold enV enN
  cases h : (decide (0 ≤ x) && decide (x ≤ nI n)) with
  | true =>
    rw [h] at ed
    have hb := wi_i h
    rw [show (0 : Int32).toInt = 0 from by decide, nI_toInt (by omega)] at hb
    refine ⟨wI m 68 9 x, ?_, by rw [wI_at, if_pos ⟨rfl, rfl⟩]; rfl, frm_wI (by omega) frm_rf (by decide), fun hI => Inv_wI hI ?_ ?_⟩
    · rw [se_X7_end, rn_eq, b_X7_end_0]
      simp only [EV, LV, CB, OI, OL, NP, CZ, popN, CT, OZ, List.map_nil, List.map_cons, List.sum_nil, List.sum_cons, Option.toList, List.nil_append, List.cons_append, Int.reduceToNat, Nat.reduceAdd, Nat.reduceLT, Nat.reduceLeDiff, List.length_cons, List.length_nil, Nat.zero_add, if_true, if_false, reduceIte, and_self, and_true, true_and, eq_self, reduceCtorEq, F68, hn, t_in wS d, ed, bI_t, e10, not_false_eq_true]
      rw [rn_eq, b_X7_end_16]
      simp only [EV, LV, CB, OI, OL, NP, CZ, popN, CT, OZ, List.map_nil, List.map_cons, List.sum_nil, List.sum_cons, Option.toList, List.nil_append, List.cons_append, Int.reduceToNat, Nat.reduceAdd, Nat.reduceLT, Nat.reduceLeDiff, List.length_cons, List.length_nil, Nat.zero_add, if_true, if_false, reduceIte, and_self, and_true, true_and, eq_self, reduceCtorEq, F68, hn]
    · rw [iv_68a.2.2.2]; show (0 : Int) ≤ _; omega
    · rw [iv_68a.2.2.2]; show _ ≤ (160 : Int); omega
  | false =>
    rw [h] at ed
    refine ⟨m, ?_, hn, frm_rf, fun hI => hI⟩
    rw [se_X7_end, rn_eq, b_X7_end_0]
    simp only [EV, LV, CB, OI, OL, NP, CZ, popN, CT, OZ, List.map_nil, List.map_cons, List.sum_nil, List.sum_cons, Option.toList, List.nil_append, List.cons_append, Int.reduceToNat, Nat.reduceAdd, Nat.reduceLT, Nat.reduceLeDiff, List.length_cons, List.length_nil, Nat.zero_add, if_true, if_false, reduceIte, and_self, and_true, true_and, eq_self, reduceCtorEq, F68, hn, t_in wS d, ed, bI_f, not_true_eq_false, Bool.false_eq_true]
theorem enN_b (x : Int32) {n : Nat} (h : n ≤ 160) : ∃ k : Nat, k ≤ 160 ∧ enN x n = nI k := by
  unfold enN
  split
  · rename_i q
    have hb := wi_i q
    rw [show (0 : Int32).toInt = 0 from by decide, nI_toInt (by omega)] at hb
    exact ⟨x.toInt.toNat, by omega, i_nI hb.1⟩
  · exact ⟨n, h, rfl⟩
theorem fdN_b (c : Int32) {n : Nat} (h : n ≤ 160) : fdN c n ≤ 160 := by
  unfold fdN
  (repeat' split) <;> omega
/-! keep of the model -/
theorem t_flag (x : Int32) (m : Mm) : ∃ y : Int32, semZ shP wS (d + 1) 102 [.int x] m = some (some (.int y), m) := by
  by_cases h : x = 0
  · refine ⟨0, ?_⟩
    rw [se_X7_flag, rn_eq, b_X7_flag_0]
    simp only [EV, LV, CB, OI, OL, NP, CZ, popN, CT, OZ, List.map_nil, List.map_cons, List.sum_nil, List.sum_cons, Option.toList, List.nil_append, List.cons_append, Int.reduceToNat, Nat.reduceAdd, Nat.reduceLT, Nat.reduceLeDiff, List.length_cons, List.length_nil, Nat.zero_add, if_true, if_false, reduceIte, and_self, and_true, true_and, eq_self, reduceCtorEq, h]
    rw [rn_eq, b_X7_flag_8]
    simp only [EV, LV, CB, OI, OL, NP, CZ, popN, CT, OZ, List.map_nil, List.map_cons, List.sum_nil, List.sum_cons, Option.toList, List.nil_append, List.cons_append, Int.reduceToNat, Nat.reduceAdd, Nat.reduceLT, Nat.reduceLeDiff, List.length_cons, List.length_nil, Nat.zero_add, if_true, if_false, reduceIte, and_self, and_true, true_and, eq_self, reduceCtorEq]
  · refine ⟨1, ?_⟩
    rw [se_X7_flag, rn_eq, b_X7_flag_0]
    simp only [EV, LV, CB, OI, OL, NP, CZ, popN, CT, OZ, List.map_nil, List.map_cons, List.sum_nil, List.sum_cons, Option.toList, List.nil_append, List.cons_append, Int.reduceToNat, Nat.reduceAdd, Nat.reduceLT, Nat.reduceLeDiff, List.length_cons, List.length_nil, Nat.zero_add, if_true, if_false, reduceIte, and_self, and_true, true_and, eq_self, reduceCtorEq, h]
    rw [rn_eq, b_X7_flag_9]
    simp only [EV, LV, CB, OI, OL, NP, CZ, popN, CT, OZ, List.map_nil, List.map_cons, List.sum_nil, List.sum_cons, Option.toList, List.nil_append, List.cons_append, Int.reduceToNat, Nat.reduceAdd, Nat.reduceLT, Nat.reduceLeDiff, List.length_cons, List.length_nil, Nat.zero_add, if_true, if_false, reduceIte, and_self, and_true, true_and, eq_self, reduceCtorEq]
theorem Kp_keep {m : Mm} {k t : Nat} (hk : k < 2) (ht : 63 ≤ t) : Kp (qx [13]) m (setR (wI m 71 k 1) 69 (cpR ((wI m 71 k 1).1 69) t 0 63)) := by
  intro g hg o j hj h
  have g13 : g ≠ 13 := fun z => by
    subst z
    exact absurd hg (by decide)
  have g14 : g < 14 := by
    have := (List.mem_filter.mp hg).1
    exact List.mem_range.mp this
  have key : o ≠ 71 ∧ (o = 69 → j < 63) := by
    match g, g14 with
    | 0, _ => simp [grp] at h; omega
    | 1, _ => simp [grp] at h; omega
    | 2, _ => simp [grp] at h; omega
    | 3, _ => simp [grp] at h; omega
    | 4, _ => simp [grp] at h; omega
    | 5, _ => simp [grp] at h; omega
    | 6, _ => simp [grp] at h; omega
    | 7, _ => simp [grp] at h; omega
    | 8, _ => simp [grp] at h; omega
    | 9, _ => simp [grp] at h; omega
    | 10, _ => simp [grp] at h; omega
    | 11, _ => simp [grp] at h; omega
    | 12, _ => simp [grp] at h; omega
    | 13, _ => exact absurd rfl g13
  by_cases h9 : o = 69
  · subst h9
    rw [setR_s]
    have e : cpR ((wI m 71 k 1).1 69) t 0 63 j = (wI m 71 k 1).1 69 j := by
      unfold cpR
      rw [if_neg (by have := key.2 rfl; omega)]
    rw [e, wI_at, if_neg (by omega)]
  · rw [setR_n _ _ h9, wI_at, if_neg (fun z => key.1 z.1)]
theorem t_keep0 (m : Mm) (hI : InvT TV m) (hJ : JK m) : OKv (semZ shP wS (d + 28)) 177 [.ref 68, .int 0] m false (qx [13]) := by
  have e10 : ¬ (1 : Int32) = 0 := by decide
  have ed : (decide ((0 : Int64) ≤ (0 : Int32).toInt64) && decide ((0 : Int32).toInt64 ≤ 1)) = true := by decide
  have g702 : ∀ m : Mm, gfI shP 702 68 m = some (.ref 71) := fun _ => rfl
  have al : alI shP tb0 1 71 0 m = some (m.1 71 0) := by
    rw [az_of (n := 2) (rs := []) rfl, if_pos (by decide)]
    rfl
  have as : asI shP 1 71 0 1 m = some (wI m 71 0 1) := by
    rw [sz_of (n := 2) (rs := []) rfl, if_pos ⟨by decide, Or.inr rfl⟩]
    rfl
  obtain ⟨y, hy⟩ := t_flag (wS := wS) (d + 26) (m.1 71 0) m
  have cp := t_copies wS (d + 26) MP68 (wI m 71 0 1) 63 0 (by omega) (by omega) (by omega)
  have em : (63 : Int32) * ((0 : Int32) + 1) = nI 63 := by decide +kernel
  have e0 : (0 : Int32) = nI 0 := rfl
  have I1 : InvT TV (wI m 71 0 1) := Inv_wI hI (by rw [show ivO TV 71 0 = (0, 1) from by decide +kernel]; decide) (by rw [show ivO TV 71 0 = (0, 1) from by decide +kernel]; decide)
  have b41 := hI 69 41
  rw [iv_6941] at b41
  have cp : semZ shP wS (d + 27) 176 [.ref 68, .int (nI 63), .int 0] (wI m 71 0 1) = some (none, setR (wI m 71 0 1) 69 (cpR ((wI m 71 0 1).1 69) 63 0 63)) := cp
  refine ⟨.int y, setR (wI m 71 0 1) 69 (cpR ((wI m 71 0 1).1 69) 63 0 63), ?_, ⟨y, rfl⟩, ⟨?_, ?_, rfl, rfl⟩, Kp_keep (by decide) (by decide)⟩
  · rw [se_X7_keep, rn_eq, b_X7_keep_0]
    simp only [EV, LV, CB, OI, OL, NP, CZ, popN, CT, OZ, List.map_nil, List.map_cons, List.sum_nil, List.sum_cons, Option.toList, List.nil_append, List.cons_append, Int.reduceToNat, Nat.reduceAdd, Nat.reduceLT, Nat.reduceLeDiff, List.length_cons, List.length_nil, Nat.zero_add, if_true, if_false, reduceIte, and_self, and_true, true_and, eq_self, reduceCtorEq, t_in wS (d + 26), ed, bI_t, e10, not_false_eq_true]
    rw [rn_eq, b_X7_keep_12]
    simp only [EV, LV, CB, OI, OL, NP, CZ, popN, CT, OZ, List.map_nil, List.map_cons, List.sum_nil, List.sum_cons, Option.toList, List.nil_append, List.cons_append, Int.reduceToNat, Nat.reduceAdd, Nat.reduceLT, Nat.reduceLeDiff, List.length_cons, List.length_nil, Nat.zero_add, if_true, if_false, reduceIte, and_self, and_true, true_and, eq_self, reduceCtorEq, C68, g702, al, hy, as, em, cp]
  · refine cp_bd I1 (fun j hj => ?_)
    have k := List.all_eq_true.mp tv_cp j (List.mem_range.mpr hj)
    simp only [Bool.and_eq_true, decide_eq_true_eq] at k
    obtain ⟨⟨k1, k2⟩, -⟩ := k
    have b := I1 69 j
    rw [Nat.zero_add]
    omega
  · have a1 : (setR (wI m 71 0 1) 69 (cpR ((wI m 71 0 1).1 69) 63 0 63)).1 69 104 = m.1 69 41 := rfl
    have a2 : (setR (wI m 71 0 1) 69 (cpR ((wI m 71 0 1).1 69) 63 0 63)).1 69 167 = m.1 69 167 := rfl
    have a3 : (setR (wI m 71 0 1) 69 (cpR ((wI m 71 0 1).1 69) 63 0 63)).1 71 1 = m.1 71 1 := rfl
    unfold JK
    rw [a1, a2, a3]
    exact ⟨fun _ => b41, hJ.2⟩
theorem t_keep1 (m : Mm) (hI : InvT TV m) (hJ : JK m) : OKv (semZ shP wS (d + 28)) 177 [.ref 68, .int 1] m false (qx [13]) := by
  have e10 : ¬ (1 : Int32) = 0 := by decide
  have ed : (decide ((0 : Int64) ≤ (1 : Int32).toInt64) && decide ((1 : Int32).toInt64 ≤ 1)) = true := by decide
  have g702 : ∀ m : Mm, gfI shP 702 68 m = some (.ref 71) := fun _ => rfl
  have al : alI shP tb0 1 71 1 m = some (m.1 71 1) := by
    rw [az_of (n := 2) (rs := []) rfl, if_pos (by decide)]
    rfl
  have as : asI shP 1 71 1 1 m = some (wI m 71 1 1) := by
    rw [sz_of (n := 2) (rs := []) rfl, if_pos ⟨by decide, Or.inr rfl⟩]
    rfl
  obtain ⟨y, hy⟩ := t_flag (wS := wS) (d + 26) (m.1 71 1) m
  have cp := t_copies wS (d + 26) MP68 (wI m 71 1 1) 126 0 (by omega) (by omega) (by omega)
  have em : (63 : Int32) * ((1 : Int32) + 1) = nI 126 := by decide +kernel
  have e0 : (0 : Int32) = nI 0 := rfl
  have I1 : InvT TV (wI m 71 1 1) := Inv_wI hI (by rw [show ivO TV 71 1 = (0, 1) from by decide +kernel]; decide) (by rw [show ivO TV 71 1 = (0, 1) from by decide +kernel]; decide)
  have b41 := hI 69 41
  rw [iv_6941] at b41
  have cp : semZ shP wS (d + 27) 176 [.ref 68, .int (nI 126), .int 0] (wI m 71 1 1) = some (none, setR (wI m 71 1 1) 69 (cpR ((wI m 71 1 1).1 69) 126 0 63)) := cp
  refine ⟨.int y, setR (wI m 71 1 1) 69 (cpR ((wI m 71 1 1).1 69) 126 0 63), ?_, ⟨y, rfl⟩, ⟨?_, ?_, rfl, rfl⟩, Kp_keep (by decide) (by decide)⟩
  · rw [se_X7_keep, rn_eq, b_X7_keep_0]
    simp only [EV, LV, CB, OI, OL, NP, CZ, popN, CT, OZ, List.map_nil, List.map_cons, List.sum_nil, List.sum_cons, Option.toList, List.nil_append, List.cons_append, Int.reduceToNat, Nat.reduceAdd, Nat.reduceLT, Nat.reduceLeDiff, List.length_cons, List.length_nil, Nat.zero_add, if_true, if_false, reduceIte, and_self, and_true, true_and, eq_self, reduceCtorEq, t_in wS (d + 26), ed, bI_t, e10, not_false_eq_true]
    rw [rn_eq, b_X7_keep_12]
    simp only [EV, LV, CB, OI, OL, NP, CZ, popN, CT, OZ, List.map_nil, List.map_cons, List.sum_nil, List.sum_cons, Option.toList, List.nil_append, List.cons_append, Int.reduceToNat, Nat.reduceAdd, Nat.reduceLT, Nat.reduceLeDiff, List.length_cons, List.length_nil, Nat.zero_add, if_true, if_false, reduceIte, and_self, and_true, true_and, eq_self, reduceCtorEq, C68, g702, al, hy, as, em, cp]
  · refine cp_bd I1 (fun j hj => ?_)
    have k := List.all_eq_true.mp tv_cp j (List.mem_range.mpr hj)
    simp only [Bool.and_eq_true, decide_eq_true_eq] at k
    obtain ⟨⟨k1, k2⟩, -⟩ := k
    have b := I1 69 j
    rw [Nat.zero_add]
    omega
  · have a1 : (setR (wI m 71 1 1) 69 (cpR ((wI m 71 1 1).1 69) 126 0 63)).1 69 167 = m.1 69 41 := rfl
    have a2 : (setR (wI m 71 1 1) 69 (cpR ((wI m 71 1 1).1 69) 126 0 63)).1 69 104 = m.1 69 104 := rfl
    have a3 : (setR (wI m 71 1 1) 69 (cpR ((wI m 71 1 1).1 69) 126 0 63)).1 71 0 = m.1 71 0 := rfl
    unfold JK
    rw [a1, a2, a3]
    exact ⟨hJ.1, fun _ => b41⟩
theorem ok_X7_keep (hw : WOK wS) : OKm (semZ shP wS (d + 28)) 177 68 1 false (qx [13]) := by
  intro xs m hn hI hJ
  obtain ⟨a0, rfl⟩ := l32_1 hn
  have hr := r32 a0
  by_cases c0 : a0.toInt ≤ -1
  · exact OKv_of (hall_23 hw d c_83 (m_t (i := 269) rfl)) ⟨gv_rf 68, gv_i (by omega) (by omega), trivial⟩ hI hJ rho_nil (by decide) (by decide) (by decide +kernel)
  by_cases c1 : a0.toInt ≤ 0
  · have e : a0 = 0 := Int32.toInt_inj.mp (by rw [show (0 : Int32).toInt = 0 from by decide]; omega)
    subst e
    exact t_keep0 d m hI hJ
  by_cases c2 : a0.toInt ≤ 1
  · have e : a0 = 1 := Int32.toInt_inj.mp (by rw [show (1 : Int32).toInt = 1 from by decide]; omega)
    subst e
    exact t_keep1 d m hI hJ
  · exact OKv_of (hall_23 hw d c_82 (m_t (i := 268) rfl)) ⟨gv_rf 68, gv_i (by omega) (by omega), trivial⟩ hI hJ rho_nil (by decide) (by decide) (by decide +kernel)
end Ok4
