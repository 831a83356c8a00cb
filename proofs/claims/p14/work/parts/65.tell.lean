/-! BY HAND: takeNumbers of a body's line, takeLine -/
theorem iv_23 : ivO TV 23 1 = (-2147483648, 2147483647) ∧ ivO TV 23 2 = (-2147483648, 2147483647) ∧ ivO TV 26 0 = (-2147483648, 2147483647) := by decide +kernel
theorem Inv_rf {m : Mm} (hI : InvT TV m) (a b : Int32) : InvT TV (wI (wI m 23 1 a) 23 2 b) := Inv_wI (Inv_wI hI (by rw [iv_23.1]; exact (r32 a).1) (by rw [iv_23.1]; exact (r32 a).2)) (by rw [iv_23.2.1]; exact (r32 b).1) (by rw [iv_23.2.1]; exact (r32 b).2)
theorem hd_tn {wS : List Value → Mm → Option Rs} (hw : WOK wS) (d : Nat) : Hd TV (semZ shP wS (d + 21)) h4_0 := by
  intro As m g hI hR
  obtain ⟨v1, vs, rfl, k1, g⟩ := gT_cons g
  obtain ⟨v2, vs, rfl, k2, g⟩ := gT_cons g
  cases gT_nil g
  obtain ⟨r', rfl, hr⟩ := k1
  have hr : r' = 23 := List.mem_singleton.mp hr
  subst hr
  obtain ⟨x, rfl, x1, -⟩ := k2
  have X := gN_hul x1
  have X1 : 1 ≤ x.toInt := X.1
  have X2 : x.toInt ≤ 4 := X.2.1
  obtain ⟨L, hL1, hL2, rfl⟩ := nI_in4 X1 X2
  have n0 : ¬ nI L = 0 := fun z => by rw [z] at X1; exact absurd X1 (by decide)
  have n4 : ¬ (4 : Int32) < nI L := nI_nlt (a := 4) (b := L) (by omega) (by omega)
  have n7 : ¬ nI L = 7 := fun z => by rw [z] at X2; exact absurd X2 (by decide)
  have hC := hall_15 hw d
  have es : semZ shP wS (d + 21) 15 [.ref 23, .int (nI L)] m = rn shP tb0 mN mO (semZ shP wS (d + 20)) (some .boolean) (codeZ 15) 21 [.ref 23, .int (nI L), .int 3, .int 0, noV] [] m := by
    rw [se_X4_takeNumbers, rn_eq, b_X4_takeNumbers_0]
    simp only [EV, LV, CB, OI, OL, NP, CZ, popN, CT, OZ, List.map_nil, List.map_cons, List.sum_nil, List.sum_cons, Option.toList, List.nil_append, List.cons_append, Int.reduceToNat, Nat.reduceAdd, Nat.reduceLT, Nat.reduceLeDiff, List.length_cons, List.length_nil, Nat.zero_add, if_true, if_false, reduceIte, and_self, and_true, true_and, eq_self, reduceCtorEq, n0, not_false_eq_true]
    rw [rn_eq, b_X4_takeNumbers_8]
    simp only [EV, LV, CB, OI, OL, NP, CZ, popN, CT, OZ, List.map_nil, List.map_cons, List.sum_nil, List.sum_cons, Option.toList, List.nil_append, List.cons_append, Int.reduceToNat, Nat.reduceAdd, Nat.reduceLT, Nat.reduceLeDiff, List.length_cons, List.length_nil, Nat.zero_add, if_true, if_false, reduceIte, and_self, and_true, true_and, eq_self, reduceCtorEq, n4]
    rw [rn_eq, b_X4_takeNumbers_18]
    simp only [EV, LV, CB, OI, OL, NP, CZ, popN, CT, OZ, List.map_nil, List.map_cons, List.sum_nil, List.sum_cons, Option.toList, List.nil_append, List.cons_append, Int.reduceToNat, Nat.reduceAdd, Nat.reduceLT, Nat.reduceLeDiff, List.length_cons, List.length_nil, Nat.zero_add, if_true, if_false, reduceIte, and_self, and_true, true_and, eq_self, reduceCtorEq]
  have e30 : ¬ (3 : Int32) ≤ 0 := by decide
  obtain ⟨t, s, p, a1, a2, a3, a4, a5⟩ := t_take wS (d + 18) m hI
  have I1 := Inv_tm hI a2 a3
  have F1 : frm h4_0.2.2.2.2.2.1 m (tm m s p) := frm_tm frm_rf (by decide) (by decide)
  have none0 : ∀ m' : Mm, impG h4_0.2.2.2.2.2.2 [.ref 23, .int (nI L)] (some (.int 0)) m' := fun m' y hy h0 => by
    cases hy
    exact absurd (by decide) h0
  show ∃ v m', semZ shP wS (d + 21) 15 [.ref 23, .int (nI L)] m = some (v, m') ∧ _
  rw [es]
  by_cases ht : t = 2
  · subst ht
    obtain ⟨q1, q2, q3⟩ := a5 rfl
    obtain ⟨v, v0, v1⟩ := t_number wS (d + 19) m q1 q2 a3 q3
    have e10 : ¬ (1 : Int32) = 0 := by decide
    have st43 : rn shP tb0 mN mO (semZ shP wS (d + 20)) (some .boolean) (codeZ 15) 21 [.ref 23, .int (nI L), .int 3, .int 0, noV] [] m = rn shP tb0 mN mO (semZ shP wS (d + 20)) (some .boolean) (codeZ 15) 43 [.ref 23, .int (nI L), .int 3, .int 0, noV] [] (tm m s p) := by
      rw [rn_eq, b_X4_takeNumbers_21]
      simp only [EV, LV, CB, OI, OL, NP, CZ, popN, CT, OZ, List.map_nil, List.map_cons, List.sum_nil, List.sum_cons, Option.toList, List.nil_append, List.cons_append, Int.reduceToNat, Nat.reduceAdd, Nat.reduceLT, Nat.reduceLeDiff, List.length_cons, List.length_nil, Nat.zero_add, if_true, if_false, reduceIte, and_self, and_true, true_and, eq_self, reduceCtorEq, e30, C23, C24, G23, a1, t_expect_y wS (d + 19), e10, not_false_eq_true]
    rw [st43]
    by_cases hv : (3 : Int32) < v
    · refine ⟨some (.int 0), wI (wI (tm m s p) 23 1 3) 23 2 (nI s), ?_, ret_i (by decide) (by decide), Inv_rf I1 _ _, rho_nil, frm_wI (by decide) (frm_wI (by decide) F1 (by decide)) (by decide), none0 _⟩
      rw [rn_eq, b_X4_takeNumbers_43]
      simp only [EV, LV, CB, OI, OL, NP, CZ, popN, CT, OZ, List.map_nil, List.map_cons, List.sum_nil, List.sum_cons, Option.toList, List.nil_append, List.cons_append, Int.reduceToNat, Nat.reduceAdd, Nat.reduceLT, Nat.reduceLeDiff, List.length_cons, List.length_nil, Nat.zero_add, if_true, if_false, reduceIte, and_self, and_true, true_and, eq_self, reduceCtorEq, C23, C24, G23, v1, t_most wS (d + 19) L hL1 hL2, hv]
      rw [rn_eq, b_X4_takeNumbers_73]
      simp only [EV, LV, CB, OI, OL, NP, CZ, popN, CT, OZ, List.map_nil, List.map_cons, List.sum_nil, List.sum_cons, Option.toList, List.nil_append, List.cons_append, Int.reduceToNat, Nat.reduceAdd, Nat.reduceLT, Nat.reduceLeDiff, List.length_cons, List.length_nil, Nat.zero_add, if_true, if_false, reduceIte, and_self, and_true, true_and, eq_self, reduceCtorEq, C23, G23, G24, t_refuse wS (d + 19)]
    · have hv3 : v.toInt ≤ 3 := by
        have := Int32.le_iff_toInt_le.mp (Int32.not_lt.mp hv)
        rw [show (3 : Int32).toInt = 3 from by decide] at this
        exact this
      have I2 : InvT TV (wI (tm m s p) 26 0 v) := Inv_wI I1 (by rw [iv_23.2.2]; exact (r32 v).1) (by rw [iv_23.2.2]; exact (r32 v).2)
      have F2 : frm h4_0.2.2.2.2.2.1 m (wI (tm m s p) 26 0 v) := frm_wI (by decide) F1 (by decide)
      have c0 : cel (wI (tm m s p) 26 0 v) 5200 = v.toInt := by
        unfold cel
        rw [wI_at, if_pos ⟨by decide, by decide⟩]
      obtain ⟨⟨vr, m'⟩, r1, r2⟩ := run_ok (mE := wI (tm m s p) 26 0 v) hC k_tn _ (a_tn.getD 0 (0, ([], [], []), 0, [])) (List.mem_of_getElem? (i := 0) rfl) [.ref 23, .int (nI L), .int 3, .int 1, .int v] [] (wI (tm m s p) 26 0 v) (fun L1 => ⟨gL_of (L1 := L1) ⟨gv_rf 23, gv_i X1 X2, gv_i (by decide) (by decide), gv_i (by decide) (by decide), gv_tI v, trivial⟩, trivial, I2, rho_one (by rw [c0]; exact v0) (by rw [c0]; exact hv3), frm_rf⟩) (Nat.le_refl _)
      have r1 : rn shP tb0 mN mO (semZ shP wS (d + 20)) (mT 15) (codeZ 15) 21 [.ref 23, .int (nI L), .int 3, .int 1, .int v] [] (wI (tm m s p) 26 0 v) = some (vr, m') := r1
      rw [mT_15] at r1
      refine ⟨vr, m', ?_, r2.1, r2.2.1, rho_nil, frm_tr F2 r2.2.2.2.1 (by decide), ?_⟩
      · have e7 : asI shP 0 26 0 v (tm m s p) = some (wI (tm m s p) 26 0 v) := by
          rw [as_of (n := 3) (rs := []) rfl, if_pos (by decide)]
          rfl
        rw [rn_eq, b_X4_takeNumbers_43]
        simp only [EV, LV, CB, OI, OL, NP, CZ, popN, CT, OZ, List.map_nil, List.map_cons, List.sum_nil, List.sum_cons, Option.toList, List.nil_append, List.cons_append, Int.reduceToNat, Nat.reduceAdd, Nat.reduceLT, Nat.reduceLeDiff, List.length_cons, List.length_nil, Nat.zero_add, if_true, if_false, reduceIte, and_self, and_true, true_and, eq_self, reduceCtorEq, C23, C24, G23, v1, t_most wS (d + 19) L hL1 hL2, hv, n7, not_false_eq_true]
        rw [rn_eq, b_X4_takeNumbers_87]
        have e01 : (0 : Int32) + 1 = 1 := by decide
        simp only [EV, LV, CB, OI, OL, NP, CZ, popN, CT, OZ, List.map_nil, List.map_cons, List.sum_nil, List.sum_cons, Option.toList, List.nil_append, List.cons_append, Int.reduceToNat, Nat.reduceAdd, Nat.reduceLT, Nat.reduceLeDiff, List.length_cons, List.length_nil, Nat.zero_add, if_true, if_false, reduceIte, and_self, and_true, true_and, eq_self, reduceCtorEq, G23, e7, e01]
        exact r1
      · intro y hy h0 z hz
        have hz : z = (6200, 0, 3) := List.mem_singleton.mp hz
        subst hz
        have hp := r2.2.2.1 (5200, 0, 3) (List.mem_singleton.mpr rfl)
        exact Or.inr ⟨by decide, hp.1, hp.2⟩
  · obtain ⟨y, hy⟩ := t_expect_n wS (d + 18) t 2 ht (tm m s p)
    refine ⟨some (.int 0), _, ?_, ret_i (by decide) (by decide), Inv_rf I1 y ((tm m s p).1 24 1), rho_nil, frm_wI (by decide) (frm_wI (by decide) F1 (by decide)) (by decide), none0 _⟩
    rw [rn_eq, b_X4_takeNumbers_21]
    simp only [EV, LV, CB, OI, OL, NP, CZ, popN, CT, OZ, List.map_nil, List.map_cons, List.sum_nil, List.sum_cons, Option.toList, List.nil_append, List.cons_append, Int.reduceToNat, Nat.reduceAdd, Nat.reduceLT, Nat.reduceLeDiff, List.length_cons, List.length_nil, Nat.zero_add, if_true, if_false, reduceIte, and_self, and_true, true_and, eq_self, reduceCtorEq, e30, C23, C24, G23, a1, hy, not_true_eq_false]
theorem hall_16 {wS : List Value → Mm → Option Rs} (hw : WOK wS) : Hall TV wS 21 t_16 := by
  intro d c hc
  unfold t_16 at hc
  rcases List.mem_append.mp hc with hc | hc
  · rcases List.mem_cons.mp hc with rfl | hc
    · exact hd_tn hw d
    cases hc
  · exact Hall_up (hall_15 hw) 1 d c hc
theorem lo_mem : q_X4_lineOf ∈ t_16 := by
  unfold q_X4_lineOf t_16 t_15 t_14
  simp only [List.mem_append, List.mem_cons, true_or, or_true]
theorem ex_mem : q_X4_expect ∈ t_16 := by
  unfold q_X4_expect t_16 t_15 t_14
  simp only [List.mem_append, List.mem_cons, true_or, or_true]
theorem mT_13 : mT 13 = none := by decide +kernel
theorem hd_tl {wS : List Value → Mm → Option Rs} (hw : WOK wS) (d : Nat) : Hd TV (semZ shP wS (d + 22)) h_tl := by
  apply Hd_run
  intro As m g hI hR
  obtain ⟨v1, vs, rfl, k1, g⟩ := gT_cons g
  obtain ⟨v2, vs, rfl, k2, g⟩ := gT_cons g
  obtain ⟨v3, vs, rfl, k3, g⟩ := gT_cons g
  cases gT_nil g
  obtain ⟨r', rfl, hr⟩ := k1
  have hr : r' = 23 := List.mem_singleton.mp hr
  subst hr
  obtain ⟨t, rfl, -⟩ := k2
  obtain ⟨r3, rfl, hr⟩ := k3
  have hr : r3 = 10 := List.mem_singleton.mp hr
  subst hr
  have hC := hall_16 hw d
  show ∃ r, semZ shP wS (d + 22) 13 [.ref 23, .int t, .ref 10] m = some r ∧ _
  obtain ⟨v, m1, a1, a2, a3, a4, a5, -⟩ := hC q_X4_expect ex_mem [.ref 23, .int t, .int 1] m ⟨gv_rf 23, gv_tI t, gv_tI 1, trivial⟩ hI rho_nil
  cases v with
  | none => exact a2.elim
  | some v =>
    obtain ⟨y, hy, -⟩ := a2
    subst hy
    have a1 : semZ shP wS (d + 21) 19 [.ref 23, .int t, .int 1] m = some (some (.int y), m1) := a1
    have F1 : frm h_tl.2.2.2.2.2.1 m m1 := frm_w a5 (by decide)
    rw [se_X4_takeLine, rn_eq, b_X4_takeLine_0]
    by_cases hy : y = 0
    · refine ⟨(none, m1), ?_, trivial, a3, rho_nil, F1, rfl⟩
      simp only [EV, LV, CB, OI, OL, NP, CZ, popN, CT, OZ, List.map_nil, List.map_cons, List.sum_nil, List.sum_cons, Option.toList, List.nil_append, List.cons_append, Int.reduceToNat, Nat.reduceAdd, Nat.reduceLT, Nat.reduceLeDiff, List.length_cons, List.length_nil, Nat.zero_add, if_true, if_false, reduceIte, and_self, and_true, true_and, eq_self, reduceCtorEq, C23, a1, hy, not_true_eq_false]
    · simp only [EV, LV, CB, OI, OL, NP, CZ, popN, CT, OZ, List.map_nil, List.map_cons, List.sum_nil, List.sum_cons, Option.toList, List.nil_append, List.cons_append, Int.reduceToNat, Nat.reduceAdd, Nat.reduceLT, Nat.reduceLeDiff, List.length_cons, List.length_nil, Nat.zero_add, if_true, if_false, reduceIte, and_self, and_true, true_and, eq_self, reduceCtorEq, C23, a1, hy, not_false_eq_true]
      obtain ⟨v, m2, b1, b2, b3, b4, b5, -⟩ := hC q_X4_lineOf lo_mem [.ref 23] m1 ⟨gv_rf 23, trivial⟩ a3 rho_nil
      cases v with
      | none => exact b2.elim
      | some v =>
        obtain ⟨k, hk, kk, -⟩ := b2
        subst hk
        have b1 : semZ shP wS (d + 21) 21 [.ref 23] m1 = some (some (.int k), m2) := b1
        have F2 : frm h_tl.2.2.2.2.2.1 m m2 := frm_tr F1 b5 (by decide)
        rw [rn_eq, b_X4_takeLine_10]
        by_cases hk : k = -4
        · refine ⟨(none, wI (wI m2 23 1 2) 23 2 (m2.1 24 1)), ?_, trivial, Inv_rf b3 _ _, rho_nil, frm_wI (by decide) (frm_wI (by decide) F2 (by decide)) (by decide), rfl⟩
          simp only [EV, LV, CB, OI, OL, NP, CZ, popN, CT, OZ, List.map_nil, List.map_cons, List.sum_nil, List.sum_cons, Option.toList, List.nil_append, List.cons_append, Int.reduceToNat, Nat.reduceAdd, Nat.reduceLT, Nat.reduceLeDiff, List.length_cons, List.length_nil, Nat.zero_add, if_true, if_false, reduceIte, and_self, and_true, true_and, eq_self, reduceCtorEq, C23, b1, hk, not_true_eq_false, G23, G24', t_refuse wS (d + 20)]
          rw [rn_eq, b_X4_takeLine_116]
          simp only [EV, LV, CB, OI, OL, NP, CZ, popN, CT, OZ, List.map_nil, List.map_cons, List.sum_nil, List.sum_cons, Option.toList, List.nil_append, List.cons_append, Int.reduceToNat, Nat.reduceAdd, Nat.reduceLT, Nat.reduceLeDiff, List.length_cons, List.length_nil, Nat.zero_add, if_true, if_false, reduceIte, and_self, and_true, true_and, eq_self, reduceCtorEq]
        · simp only [EV, LV, CB, OI, OL, NP, CZ, popN, CT, OZ, List.map_nil, List.map_cons, List.sum_nil, List.sum_cons, Option.toList, List.nil_append, List.cons_append, Int.reduceToNat, Nat.reduceAdd, Nat.reduceLT, Nat.reduceLeDiff, List.length_cons, List.length_nil, Nat.zero_add, if_true, if_false, reduceIte, and_self, and_true, true_and, eq_self, reduceCtorEq, C23, b1, hk, not_false_eq_true]
          have kb : 0 ≤ k.toInt ∧ k.toInt ≤ 7 := by
            rcases kk with kk | kk
            · simp only [Option.some.injEq] at kk
              exact absurd (Int32.toInt_inj.mp (by rw [← kk]; decide)) hk
            · exact ⟨kk.1, kk.2.1⟩
          have go : ∀ {a : List AnE} {e : AnE}, a.all (blkOK shP TV t_16 (mT 13) h_tl (codeZ 13) a) = true → a[0]? = some e → e.1 = 36 → e.2.1.2.1 = [] → e.2.1.2.2 = [] → (∀ L1, gT L1 [.ref 23, .int t, .ref 10, .int k] m2 e.2.1.1 [.ref 23, .int t, .ref 10, .int k]) → ∃ r, rn shP tb0 mN mO (semZ shP wS (d + 21)) none (codeZ 13) 36 [.ref 23, .int t, .ref 10, .int k] [] m2 = some r ∧ PostR TV m h_tl r := by
            intro a e hk he hpc hs hr hl
            have q := run_ok (mE := m) hC hk _ e (List.mem_of_getElem? he) [.ref 23, .int t, .ref 10, .int k] [] m2 (fun L1 => ⟨gL_of (L1 := L1) (hl L1), by rw [hs]; trivial, b3, by rw [hr]; exact rho_nil, F2⟩) (Nat.le_refl _)
            rw [hpc, mT_13] at q
            exact q
          by_cases h0 : k.toInt = 0
          · have : k = 0 := Int32.toInt_inj.mp (by rw [h0]; decide)
            subst this
            exact go k_tl0 rfl rfl rfl rfl (fun L1 => ⟨gv_rf 23, gv_tI t, gv_rf 10, gv_c0, trivial⟩)
          · by_cases h4 : k.toInt ≤ 4
            · exact go k_tl1 rfl rfl rfl rfl (fun L1 => ⟨gv_rf 23, gv_tI t, gv_rf 10, gv_i (by omega) h4, trivial⟩)
            · exact go k_tl5 rfl rfl rfl rfl (fun L1 => ⟨gv_rf 23, gv_tI t, gv_rf 10, gv_i (by omega) kb.2, trivial⟩)
