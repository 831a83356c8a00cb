/-! THE MODEL'S LINE, whole -/
section Rn
variable (wS : List Value → Mm → Option Rs) (d : Nat)
theorem nI_of6 {x : Int32} (h1 : 0 ≤ x.toInt) {n : Nat} (h2 : x.toInt < n) : ∃ B : Nat, B < n ∧ x = nI B := ⟨x.toInt.toNat, by omega, i_nI h1⟩
theorem rl_78 (m : Mm) (hI : InvT TV m) {k : Int32} (hk : okK m k) (h7 : k.toInt ≤ 7) {ps fr : Nat} {so : Int32} (h : ok6 ps fr so 0) (va wr : Int32) : ∃ (m' : Mm) (ps' fr' : Nat) (so' va' fa' wr' : Int32), rn shP tb0 mN mO (semZ shP wS (d + 5)) none (codeZ 117) 78 [.ref 68, .int k] [.int 1, .ref 68] (pm m ps fr so va 0 wr) = some (none, pm m' ps' fr' so' va' fa' wr') ∧ Rq m ps m' ps' fr' so' fa' ∧ (fa' = 0 → ¬ so' = 0 → ps < ps') := by
  have e10 : ¬ (1 : Int32) = 0 := by decide
  by_cases h4 : k ≤ 4
  · obtain ⟨m', ps', fr', so', va', fa', wr', z1, z2⟩ := rl_127 wS d m hI hk h va wr
    refine ⟨m', ps', fr', so', va', fa', wr', ?_, z2⟩
    rw [rn_eq, b_X7_readLine_78]
    simp only [EV, LV, CB, OI, OL, NP, CZ, popN, CT, OZ, List.map_nil, List.map_cons, List.sum_nil, List.sum_cons, Option.toList, List.nil_append, List.cons_append, Int.reduceToNat, Nat.reduceAdd, Nat.reduceLT, Nat.reduceLeDiff, List.length_cons, List.length_nil, Nat.zero_add, if_true, if_false, reduceIte, and_self, and_true, true_and, eq_self, reduceCtorEq, C68, t_needs wS (d + 4), e10, false_and, G68, h4, not_true_eq_false]
    exact z1
  · have h4i : 5 ≤ k.toInt := by
      have := Int32.lt_iff_toInt_lt.mp (Int32.not_le.mp h4)
      rw [show (4 : Int32).toInt = 4 from by decide] at this
      omega
    have hk5 : k = 5 ∨ k = 6 ∨ k = 7 := by
      by_cases q5 : k.toInt = 5
      · exact Or.inl (Int32.toInt_inj.mp (by rw [q5]; decide))
      · by_cases q6 : k.toInt = 6
        · exact Or.inr (Or.inl (Int32.toInt_inj.mp (by rw [q6]; decide)))
        · exact Or.inr (Or.inr (Int32.toInt_inj.mp (by have q7 : k.toInt = 7 := by omega
                                                       rw [q7]; decide)))
    generalize hx : m.1 68 6 ||| (1 : Int32) <<< (k &&& 31) = x
    generalize hm1 : wI m 68 6 x = m1
    have I1 : InvT TV m1 := by rw [← hm1]; exact Inv_wI hI (by rw [iv_68a.2.1]; exact (r32 x).1) (by rw [iv_68a.2.1]; exact (r32 x).2)
    have F1 : frm wB m m1 := by rw [← hm1]; exact frm_wI (by omega) frm_rf (by decide)
    have g1 : G41 m → G41 m1 := fun g => by rw [← hm1]; exact g41_o g
    by_cases hb : (m.1 68 6 >>> (k &&& 31)) &&& 1 = 0
    · obtain ⟨p1, f1, s1, a1, u1, x1, y1, hc⟩ := rl_tk wS d m1 I1 (k := k) (Or.inr (Or.inr hk5)) h va wr
      have st : rn shP tb0 mN mO (semZ shP wS (d + 5)) none (codeZ 117) 78 [.ref 68, .int k] [.int 1, .ref 68] (pm m ps fr so va 0 wr) = if u1 ≤ 0 then rn shP tb0 mN mO (semZ shP wS (d + 5)) none (codeZ 117) 139 [.ref 68, .int k] [] (pm m1 p1 f1 s1 a1 u1 x1) else some (none, pm m1 p1 f1 s1 a1 u1 x1) := by
        rw [rn_eq, b_X7_readLine_78]
        simp only [EV, LV, CB, OI, OL, NP, CZ, popN, CT, OZ, List.map_nil, List.map_cons, List.sum_nil, List.sum_cons, Option.toList, List.nil_append, List.cons_append, Int.reduceToNat, Nat.reduceAdd, Nat.reduceLT, Nat.reduceLeDiff, List.length_cons, List.length_nil, Nat.zero_add, if_true, if_false, reduceIte, and_self, and_true, true_and, eq_self, reduceCtorEq, C68, t_needs wS (d + 4), e10, false_and, G68, h4, hb, not_true_eq_false]
        rw [rn_eq, b_X7_readLine_111]
        simp only [EV, LV, CB, OI, OL, NP, CZ, popN, CT, OZ, List.map_nil, List.map_cons, List.sum_nil, List.sum_cons, Option.toList, List.nil_append, List.cons_append, Int.reduceToNat, Nat.reduceAdd, Nat.reduceLT, Nat.reduceLeDiff, List.length_cons, List.length_nil, Nat.zero_add, if_true, if_false, reduceIte, and_self, and_true, true_and, eq_self, reduceCtorEq, C68, t_needs wS (d + 4), e10, false_and, G68, P68, hx, pm_wo m ps fr so va 0 wr 6 x (by omega), hm1, y1]
      rw [st]
      rcases hc with ⟨hu, o1, le1⟩ | ⟨rfl, m', ps', fr', so', va', fa', wr', z1, ⟨z2, z3, z4, z5, z6⟩, z7⟩
      · have nu : ¬ u1 = 0 := fun z => by rw [z] at hu; exact absurd hu (by decide)
        rw [if_neg (Int32.not_le.mpr hu)]
        exact ⟨m1, p1, f1, s1, a1, u1, x1, rfl, ⟨I1, F1, o1, le1, fun z => absurd z nu⟩, fun z => absurd z nu⟩
      · rw [if_pos (by decide)]
        exact ⟨m', ps', fr', so', va', fa', wr', z1, ⟨z2, frm_tr F1 z3 (by decide), z4, z5, fun w g => z6 w (g1 g)⟩, z7⟩
    · refine ⟨m1, ps, fr, so, va, 4, nI fr, ?_, ⟨I1, F1, ⟨h.1, h.2.1, h.2.2.1, by decide⟩, Nat.le_refl _, fun z => absurd z (by decide)⟩, fun z => absurd z (by decide)⟩
      have nle : ¬ (4 : Int32) ≤ 0 := by decide
      rw [rn_eq, b_X7_readLine_78]
      simp only [EV, LV, CB, OI, OL, NP, CZ, popN, CT, OZ, List.map_nil, List.map_cons, List.sum_nil, List.sum_cons, Option.toList, List.nil_append, List.cons_append, Int.reduceToNat, Nat.reduceAdd, Nat.reduceLT, Nat.reduceLeDiff, List.length_cons, List.length_nil, Nat.zero_add, if_true, if_false, reduceIte, and_self, and_true, true_and, eq_self, reduceCtorEq, C68, t_needs wS (d + 4), e10, false_and, G68, h4, hb, not_true_eq_false, not_false_eq_true]
      rw [rn_eq, b_X7_readLine_110]
      simp only [EV, LV, CB, OI, OL, NP, CZ, popN, CT, OZ, List.map_nil, List.map_cons, List.sum_nil, List.sum_cons, Option.toList, List.nil_append, List.cons_append, Int.reduceToNat, Nat.reduceAdd, Nat.reduceLT, Nat.reduceLeDiff, List.length_cons, List.length_nil, Nat.zero_add, if_true, if_false, reduceIte, and_self, and_true, true_and, eq_self, reduceCtorEq, C68, t_needs wS (d + 4), G68, P68, hx, pm_wo m ps fr so va 4 (nI fr) 6 x (by omega), hm1, t_takes_f wS (d + 4) m1 ps fr so va 4 (nI fr) (by decide), nle]
theorem rl_bad (m : Mm) (k : Int32) (ps fr : Nat) (so va fa wr : Int32) (hf : 0 < fa) (g : Int32) : rn shP tb0 mN mO (semZ shP wS (d + 5)) none (codeZ 117) 78 [.ref 68, .int k] [.int g, .ref 68] (pm m ps fr so va fa wr) = some (none, pm m ps fr so va fa wr) ∧ rn shP tb0 mN mO (semZ shP wS (d + 5)) none (codeZ 117) 77 [.ref 68, .int k] [.ref 68] (pm m ps fr so va fa wr) = some (none, pm m ps fr so va fa wr) := by
  have nf : ¬ fa = 0 := fun z => by rw [z] at hf; exact absurd hf (by decide)
  constructor
  · rw [rn_eq, b_X7_readLine_78]
    simp only [EV, LV, CB, OI, OL, NP, CZ, popN, CT, OZ, List.map_nil, List.map_cons, List.sum_nil, List.sum_cons, Option.toList, List.nil_append, List.cons_append, Int.reduceToNat, Nat.reduceAdd, Nat.reduceLT, Nat.reduceLeDiff, List.length_cons, List.length_nil, Nat.zero_add, if_true, if_false, reduceIte, and_self, and_true, true_and, eq_self, reduceCtorEq, C68, t_needs wS (d + 4), nf, and_false, G68, not_false_eq_true]
    exact rl_127f wS d m k ps fr so va fa wr hf
  · rw [rn_eq, b_X7_readLine_77]
    simp only [EV, LV, CB, OI, OL, NP, CZ, popN, CT, OZ, List.map_nil, List.map_cons, List.sum_nil, List.sum_cons, Option.toList, List.nil_append, List.cons_append, Int.reduceToNat, Nat.reduceAdd, Nat.reduceLT, Nat.reduceLeDiff, List.length_cons, List.length_nil, Nat.zero_add, if_true, if_false, reduceIte, and_self, and_true, true_and, eq_self, reduceCtorEq, C68, t_needs wS (d + 4), nf, and_false, G68, not_false_eq_true]
    exact rl_127f wS d m k ps fr so va fa wr hf
/-- no room: fault 5 -/
theorem rl_full (m : Mm) (k : Int32) (ps fr : Nat) (so va wr : Int32) : rn shP tb0 mN mO (semZ shP wS (d + 5)) none (codeZ 117) 78 [.ref 68, .int k] [.int 0, .ref 68] (pm m ps fr so va 0 wr) = some (none, pm m ps fr so va 5 (nI fr)) ∧ rn shP tb0 mN mO (semZ shP wS (d + 5)) none (codeZ 117) 77 [.ref 68, .int k] [.ref 68] (pm m ps fr so va 0 wr) = some (none, pm m ps fr so va 5 (nI fr)) := by
  have n5 : ¬ (5 : Int32) = 0 := by decide
  constructor
  · rw [rn_eq, b_X7_readLine_78]
    simp only [EV, LV, CB, OI, OL, NP, CZ, popN, CT, OZ, List.map_nil, List.map_cons, List.sum_nil, List.sum_cons, Option.toList, List.nil_append, List.cons_append, Int.reduceToNat, Nat.reduceAdd, Nat.reduceLT, Nat.reduceLeDiff, List.length_cons, List.length_nil, Nat.zero_add, if_true, if_false, reduceIte, and_self, and_true, true_and, eq_self, reduceCtorEq, C68, t_needs wS (d + 4), G68, n5, not_false_eq_true]
    exact rl_127f wS d m k ps fr so va 5 (nI fr) (by decide)
  · rw [rn_eq, b_X7_readLine_77]
    simp only [EV, LV, CB, OI, OL, NP, CZ, popN, CT, OZ, List.map_nil, List.map_cons, List.sum_nil, List.sum_cons, Option.toList, List.nil_append, List.cons_append, Int.reduceToNat, Nat.reduceAdd, Nat.reduceLT, Nat.reduceLeDiff, List.length_cons, List.length_nil, Nat.zero_add, if_true, if_false, reduceIte, and_self, and_true, true_and, eq_self, reduceCtorEq, C68, t_needs wS (d + 4), G68, n5, not_false_eq_true]
    exact rl_127f wS d m k ps fr so va 5 (nI fr) (by decide)
theorem e38' : inR (38 : Int32) 63 = true ∧ (38 : Int32).toNatClampNeg = 38 := by decide +kernel
theorem rl_17 (m : Mm) (hI : InvT TV m) {k : Int32} (hk : k = -4 ∨ (0 ≤ k.toInt ∧ k.toInt ≤ 7)) {ps fr : Nat} {so : Int32} (h : ok6 ps fr so 0) (va wr : Int32) : ∃ (m' : Mm) (ps' fr' : Nat) (so' va' fa' wr' : Int32), rn shP tb0 mN mO (semZ shP wS (d + 5)) none (codeZ 117) 17 [.ref 68, noV] [.int k] (pm m ps fr so va 0 wr) = some (none, pm m' ps' fr' so' va' fa' wr') ∧ Rq m ps m' ps' fr' so' fa' ∧ (fa' = 0 → ¬ so' = 0 → ps < ps') := by
  have e10 : ¬ (1 : Int32) = 0 := by decide
  have b38 := hI 72 38
  rw [iv_72c.1] at b38
  have b38a : 0 ≤ (m.1 72 38).toInt := b38.1
  have b5 := hI 68 5
  rw [iv_68a.1] at b5
  have b5a : 0 ≤ (m.1 68 5).toInt := b5.1
  by_cases h4 : k = -4
  · subst h4
    have n44 : ¬ (-4 : Int32) = 4 := by decide
    have n4g : ¬ (4 : Int32) < -4 := by decide
    have bd := rl_bad wS d m (-4) ps fr so va 2 (nI fr) (by decide) 1
    refine ⟨m, ps, fr, so, va, 2, nI fr, ?_, ⟨hI, frm_rf, ⟨h.1, h.2.1, h.2.2.1, by decide⟩, Nat.le_refl _, fun z => absurd z (by decide)⟩, fun z => absurd z (by decide)⟩
    rw [rn_eq, b_X7_readLine_17]
    simp only [EV, LV, CB, OI, OL, NP, CZ, popN, CT, OZ, List.map_nil, List.map_cons, List.sum_nil, List.sum_cons, Option.toList, List.nil_append, List.cons_append, Int.reduceToNat, Nat.reduceAdd, Nat.reduceLT, Nat.reduceLeDiff, List.length_cons, List.length_nil, Nat.zero_add, if_true, if_false, reduceIte, and_self, and_true, true_and, eq_self, reduceCtorEq]
    rw [rn_eq, b_X7_readLine_29]
    simp only [EV, LV, CB, OI, OL, NP, CZ, popN, CT, OZ, List.map_nil, List.map_cons, List.sum_nil, List.sum_cons, Option.toList, List.nil_append, List.cons_append, Int.reduceToNat, Nat.reduceAdd, Nat.reduceLT, Nat.reduceLeDiff, List.length_cons, List.length_nil, Nat.zero_add, if_true, if_false, reduceIte, and_self, and_true, true_and, eq_self, reduceCtorEq, C68, t_needs wS (d + 4), n44, not_false_eq_true]
    rw [rn_eq, b_X7_readLine_56]
    by_cases h6 : (6 : Int32) ≤ m.1 72 38
    · simp only [EV, LV, CB, OI, OL, NP, CZ, popN, CT, OZ, List.map_nil, List.map_cons, List.sum_nil, List.sum_cons, Option.toList, List.nil_append, List.cons_append, Int.reduceToNat, Nat.reduceAdd, Nat.reduceLT, Nat.reduceLeDiff, List.length_cons, List.length_nil, Nat.zero_add, if_true, if_false, reduceIte, and_self, and_true, true_and, eq_self, reduceCtorEq, G68, A72, e38', n4g, h6]
      exact bd.2
    · simp only [EV, LV, CB, OI, OL, NP, CZ, popN, CT, OZ, List.map_nil, List.map_cons, List.sum_nil, List.sum_cons, Option.toList, List.nil_append, List.cons_append, Int.reduceToNat, Nat.reduceAdd, Nat.reduceLT, Nat.reduceLeDiff, List.length_cons, List.length_nil, Nat.zero_add, if_true, if_false, reduceIte, and_self, and_true, true_and, eq_self, reduceCtorEq, G68, A72, e38', n4g, h6]
      exact bd.1
  · have kb : 0 ≤ k.toInt ∧ k.toInt ≤ 7 := by
      rcases hk with hk | hk
      · exact absurd hk h4
      · exact hk
    have st30 : rn shP tb0 mN mO (semZ shP wS (d + 5)) none (codeZ 117) 17 [.ref 68, noV] [.int k] (pm m ps fr so va 0 wr) = rn shP tb0 mN mO (semZ shP wS (d + 5)) none (codeZ 117) 30 [.ref 68, .int k] [.int 1, .ref 68] (pm m ps fr so va 0 wr) := by
      rw [rn_eq, b_X7_readLine_17]
      simp only [EV, LV, CB, OI, OL, NP, CZ, popN, CT, OZ, List.map_nil, List.map_cons, List.sum_nil, List.sum_cons, Option.toList, List.nil_append, List.cons_append, Int.reduceToNat, Nat.reduceAdd, Nat.reduceLT, Nat.reduceLeDiff, List.length_cons, List.length_nil, Nat.zero_add, if_true, if_false, reduceIte, and_self, and_true, true_and, eq_self, reduceCtorEq, h4]
    rw [st30]
    by_cases hv : k = 4
    · subst hv
      by_cases h5 : (4 : Int32) ≤ m.1 68 5
      · refine ⟨m, ps, fr, so, va, 5, nI fr, ?_, ⟨hI, frm_rf, ⟨h.1, h.2.1, h.2.2.1, by decide⟩, Nat.le_refl _, fun z => absurd z (by decide)⟩, fun z => absurd z (by decide)⟩
        rw [rn_eq, b_X7_readLine_30]
        simp only [EV, LV, CB, OI, OL, NP, CZ, popN, CT, OZ, List.map_nil, List.map_cons, List.sum_nil, List.sum_cons, Option.toList, List.nil_append, List.cons_append, Int.reduceToNat, Nat.reduceAdd, Nat.reduceLT, Nat.reduceLeDiff, List.length_cons, List.length_nil, Nat.zero_add, if_true, if_false, reduceIte, and_self, and_true, true_and, eq_self, reduceCtorEq, C68, t_needs wS (d + 4), e10, false_and, G68, h5, not_true_eq_false]
        rw [rn_eq, b_X7_readLine_52]
        simp only [EV, LV, CB, OI, OL, NP, CZ, popN, CT, OZ, List.map_nil, List.map_cons, List.sum_nil, List.sum_cons, Option.toList, List.nil_append, List.cons_append, Int.reduceToNat, Nat.reduceAdd, Nat.reduceLT, Nat.reduceLeDiff, List.length_cons, List.length_nil, Nat.zero_add, if_true, if_false, reduceIte, and_self, and_true, true_and, eq_self, reduceCtorEq]
        exact (rl_full wS d m 4 ps fr so va wr).1
      · have h5i := Int32.lt_iff_toInt_lt.mp (Int32.not_le.mp h5)
        rw [show (4 : Int32).toInt = 4 from by decide] at h5i
        obtain ⟨D, hD, eD⟩ := nI_of6 b5a (n := 4) (by omega)
        obtain ⟨m', ps', fr', so', va', fa', wr', z1, z2⟩ := rl_78 wS d m hI (k := 4) (Or.inr (Or.inl ⟨D, hD, rfl, eD⟩)) (by decide) h va wr
        refine ⟨m', ps', fr', so', va', fa', wr', ?_, z2⟩
        rw [rn_eq, b_X7_readLine_30]
        simp only [EV, LV, CB, OI, OL, NP, CZ, popN, CT, OZ, List.map_nil, List.map_cons, List.sum_nil, List.sum_cons, Option.toList, List.nil_append, List.cons_append, Int.reduceToNat, Nat.reduceAdd, Nat.reduceLT, Nat.reduceLeDiff, List.length_cons, List.length_nil, Nat.zero_add, if_true, if_false, reduceIte, and_self, and_true, true_and, eq_self, reduceCtorEq, C68, t_needs wS (d + 4), e10, false_and, G68, h5, not_true_eq_false]
        exact z1
    · have st56 : rn shP tb0 mN mO (semZ shP wS (d + 5)) none (codeZ 117) 30 [.ref 68, .int k] [.int 1, .ref 68] (pm m ps fr so va 0 wr) = rn shP tb0 mN mO (semZ shP wS (d + 5)) none (codeZ 117) 56 [.ref 68, .int k] [.ref 68] (pm m ps fr so va 0 wr) := by
        rw [rn_eq, b_X7_readLine_30]
        simp only [EV, LV, CB, OI, OL, NP, CZ, popN, CT, OZ, List.map_nil, List.map_cons, List.sum_nil, List.sum_cons, Option.toList, List.nil_append, List.cons_append, Int.reduceToNat, Nat.reduceAdd, Nat.reduceLT, Nat.reduceLeDiff, List.length_cons, List.length_nil, Nat.zero_add, if_true, if_false, reduceIte, and_self, and_true, true_and, eq_self, reduceCtorEq, C68, t_needs wS (d + 4), e10, false_and, hv, not_false_eq_true]
      rw [st56]
      by_cases hg : (4 : Int32) < k
      · have hgi := Int32.lt_iff_toInt_lt.mp hg
        rw [show (4 : Int32).toInt = 4 from by decide] at hgi
        have hk5 : k = 5 ∨ k = 6 ∨ k = 7 := by
          by_cases q5 : k.toInt = 5
          · exact Or.inl (Int32.toInt_inj.mp (by rw [q5]; decide))
          · by_cases q6 : k.toInt = 6
            · exact Or.inr (Or.inl (Int32.toInt_inj.mp (by rw [q6]; decide)))
            · exact Or.inr (Or.inr (Int32.toInt_inj.mp (by have q7 : k.toInt = 7 := by omega
                                                           rw [q7]; decide)))
        obtain ⟨m', ps', fr', so', va', fa', wr', z1, z2⟩ := rl_78 wS d m hI (k := k) (Or.inr (Or.inr hk5)) kb.2 h va wr
        refine ⟨m', ps', fr', so', va', fa', wr', ?_, z2⟩
        rw [rn_eq, b_X7_readLine_56]
        simp only [EV, LV, CB, OI, OL, NP, CZ, popN, CT, OZ, List.map_nil, List.map_cons, List.sum_nil, List.sum_cons, Option.toList, List.nil_append, List.cons_append, Int.reduceToNat, Nat.reduceAdd, Nat.reduceLT, Nat.reduceLeDiff, List.length_cons, List.length_nil, Nat.zero_add, if_true, if_false, reduceIte, and_self, and_true, true_and, eq_self, reduceCtorEq, hg]
        rw [rn_eq, b_X7_readLine_73]
        simp only [EV, LV, CB, OI, OL, NP, CZ, popN, CT, OZ, List.map_nil, List.map_cons, List.sum_nil, List.sum_cons, Option.toList, List.nil_append, List.cons_append, Int.reduceToNat, Nat.reduceAdd, Nat.reduceLT, Nat.reduceLeDiff, List.length_cons, List.length_nil, Nat.zero_add, if_true, if_false, reduceIte, and_self, and_true, true_and, eq_self, reduceCtorEq]
        exact z1
      · have hgi := Int32.le_iff_toInt_le.mp (Int32.not_lt.mp hg)
        rw [show (4 : Int32).toInt = 4 from by decide] at hgi
        have kn4 : k.toInt ≠ 4 := fun z => hv (Int32.toInt_inj.mp (by rw [z]; decide))
        by_cases h6 : (6 : Int32) ≤ m.1 72 38
        · refine ⟨m, ps, fr, so, va, 5, nI fr, ?_, ⟨hI, frm_rf, ⟨h.1, h.2.1, h.2.2.1, by decide⟩, Nat.le_refl _, fun z => absurd z (by decide)⟩, fun z => absurd z (by decide)⟩
          rw [rn_eq, b_X7_readLine_56]
          simp only [EV, LV, CB, OI, OL, NP, CZ, popN, CT, OZ, List.map_nil, List.map_cons, List.sum_nil, List.sum_cons, Option.toList, List.nil_append, List.cons_append, Int.reduceToNat, Nat.reduceAdd, Nat.reduceLT, Nat.reduceLeDiff, List.length_cons, List.length_nil, Nat.zero_add, if_true, if_false, reduceIte, and_self, and_true, true_and, eq_self, reduceCtorEq, G68, A72, e38', hg, h6]
          exact (rl_full wS d m k ps fr so va wr).2
        · have h6i := Int32.lt_iff_toInt_lt.mp (Int32.not_le.mp h6)
          rw [show (6 : Int32).toInt = 6 from by decide] at h6i
          obtain ⟨B, hB, eB⟩ := nI_of6 b38a (n := 6) (by omega)
          obtain ⟨K, hK, eK⟩ := nI_of6 kb.1 (n := 4) (by omega)
          obtain ⟨m', ps', fr', so', va', fa', wr', z1, z2⟩ := rl_78 wS d m hI (k := k) (Or.inl ⟨K, B, hK, hB, eK, eB⟩) kb.2 h va wr
          refine ⟨m', ps', fr', so', va', fa', wr', ?_, z2⟩
          rw [rn_eq, b_X7_readLine_56]
          simp only [EV, LV, CB, OI, OL, NP, CZ, popN, CT, OZ, List.map_nil, List.map_cons, List.sum_nil, List.sum_cons, Option.toList, List.nil_append, List.cons_append, Int.reduceToNat, Nat.reduceAdd, Nat.reduceLT, Nat.reduceLeDiff, List.length_cons, List.length_nil, Nat.zero_add, if_true, if_false, reduceIte, and_self, and_true, true_and, eq_self, reduceCtorEq, G68, A72, e38', hg, h6]
          exact z1
end Rn
theorem iv_6s : ivO TV 68 10 = (0, 160) ∧ ivO TV 68 11 = (0, 160) ∧ ivO TV 68 12 = (0, 3) ∧ ivO TV 68 13 = (-2147483648, 2147483647) ∧ ivO TV 68 14 = (0, 6) ∧ ivO TV 68 15 = (-2147483648, 2147483647) := by decide +kernel
theorem Inv_pm {m : Mm} (hI : InvT TV m) {ps fr : Nat} {so fa : Int32} (h : ok6 ps fr so fa) (va wr : Int32) : InvT TV (pm m ps fr so va fa wr) := by
  obtain ⟨h1, h2, h3, h4⟩ := h
  refine Inv_setR hI (fun j => ?_)
  unfold tk6
  split
  · rename_i e; rw [e, iv_6s.1, nI_toInt (by omega)]; exact ⟨by show (0 : Int) ≤ _; omega, by show _ ≤ (160 : Int); omega⟩
  split
  · rename_i e; rw [e, iv_6s.2.1, nI_toInt (by omega)]; exact ⟨by show (0 : Int) ≤ _; omega, by show _ ≤ (160 : Int); omega⟩
  split
  · rename_i e; rw [e, iv_6s.2.2.1]; exact h3
  split
  · rename_i e; rw [e, iv_6s.2.2.2.1]; exact r32 va
  split
  · rename_i e; rw [e, iv_6s.2.2.2.2.1]; exact h4
  split
  · rename_i e; rw [e, iv_6s.2.2.2.2.2]; exact r32 wr
  · exact hI 68 j
theorem ln_mem : q_X7_lineNow ∈ t_23 := by
  unfold q_X7_lineNow t_23
  simp only [List.mem_append, List.mem_cons, true_or, or_true]
theorem frm_0 {m m' : Mm} (h : frm ([], []) m m') {o j : Nat} (hj : j < 200) : m'.1 o j = m.1 o j := (h o j hj (fun z => by cases z) (fun z => by cases z)).1
/-- a line: more of the tape is read, or there is a fault, or the end -/
theorem t_rl {wS : List Value → Mm → Option Rs} (hw : WOK wS) (d : Nat) (m : Mm) (hI : InvT TV m) {ps fr : Nat} {so : Int32} (h : ok6 ps fr so 0) (va wr : Int32) : ∃ (m' : Mm) (ps' fr' : Nat) (so' va' fa' wr' : Int32), semZ shP wS (d + 29) 117 [.ref 68] (pm m ps fr so va 0 wr) = some (none, pm m' ps' fr' so' va' fa' wr') ∧ InvT TV m' ∧ frm (wB.1, [13605, 13606, 13607, 13610, 13611, 13612, 13613, 13614, 13615]) m m' ∧ ok6 ps' fr' so' fa' ∧ ps ≤ ps' ∧ (fa' = 0 → G41 m → G41 m') ∧ (fa' = 0 → ¬ so' = 0 → ps < ps') := by
  by_cases hs : so = 1
  · obtain ⟨v, m1, a1, a2, a3, a4, a5, -⟩ := hall_23 hw d q_X7_lineNow ln_mem [.ref 68] (pm m ps fr so va 0 wr) ⟨gv_rf 68, trivial⟩ (Inv_pm hI h va wr) rho_nil
    cases v with
    | none => exact a2.elim
    | some v =>
      obtain ⟨k, hk, kk, -⟩ := a2
      subst hk
      have a1 : semZ shP wS (d + 28) 112 [.ref 68] (pm m ps fr so va 0 wr) = some (some (.int k), m1) := a1
      have a5 : frm ([], []) (pm m ps fr so va 0 wr) m1 := a5
      have em : pm m1 ps fr so va 0 wr = m1 := by
        have e12 : m1.1 68 12 = so := frm_0 a5 (by omega)
        have e13 : m1.1 68 13 = va := frm_0 a5 (by omega)
        have e14 : m1.1 68 14 = 0 := frm_0 a5 (by omega)
        have e15 : m1.1 68 15 = wr := frm_0 a5 (by omega)
        have := pm_id m1 (ps := ps) (fr := fr) (frm_0 a5 (by omega)) (frm_0 a5 (by omega))
        rw [e12, e13, e14, e15] at this
        exact this
      have Fm : frm (wB.1, [13605, 13606, 13607, 13610, 13611, 13612, 13613, 13614, 13615]) m m1 := by
        intro o j hj h1 h2
        have q := a5 o j hj (fun z => by cases z) (fun z => by cases z)
        refine ⟨q.1.trans ?_, q.2⟩
        show (setR m 68 (tk6 (m.1 68) ps fr so va 0 wr)).1 o j = m.1 o j
        rw [setR_at]
        split
        · rename_i e
          subst e
          have n10 : j ≠ 10 := fun z => h2 (by rw [z]; decide)
          have n11 : j ≠ 11 := fun z => h2 (by rw [z]; decide)
          have n12 : j ≠ 12 := fun z => h2 (by rw [z]; decide)
          have n13 : j ≠ 13 := fun z => h2 (by rw [z]; decide)
          have n14 : j ≠ 14 := fun z => h2 (by rw [z]; decide)
          have n15 : j ≠ 15 := fun z => h2 (by rw [z]; decide)
          unfold tk6
          rw [if_neg n10, if_neg n11, if_neg n12, if_neg n13, if_neg n14, if_neg n15]
        · rfl
      have kb : k = -4 ∨ (0 ≤ k.toInt ∧ k.toInt ≤ 7) := by
        rcases kk with kk | kk
        · simp only [Option.some.injEq] at kk
          exact Or.inl (Int32.toInt_inj.mp (by rw [← kk]; decide))
        · exact Or.inr ⟨kk.1, kk.2.1⟩
      obtain ⟨m', ps', fr', so', va', fa', wr', z1, ⟨z2, z3, z4, z5, z6⟩, z7⟩ := rl_17 wS (d + 23) m1 a3 kb h va wr
      refine ⟨m', ps', fr', so', va', fa', wr', ?_, z2, frm_tr Fm z3 (by decide), z4, z5, fun w g => z6 w ?_, z7⟩
      · rw [se_X7_readLine, rn_eq, b_X7_readLine_0]
        simp only [EV, LV, CB, OI, OL, NP, CZ, popN, CT, OZ, List.map_nil, List.map_cons, List.sum_nil, List.sum_cons, Option.toList, List.nil_append, List.cons_append, Int.reduceToNat, Nat.reduceAdd, Nat.reduceLT, Nat.reduceLeDiff, List.length_cons, List.length_nil, Nat.zero_add, if_true, if_false, reduceIte, and_self, and_true, true_and, eq_self, reduceCtorEq, C68, G68, hs, not_true_eq_false]
        rw [hs] at a1
        simp only [a1]
        rw [em] at z1
        exact z1
      · have e41 : m1.1 72 41 = m.1 72 41 := frm_0 a5 (by omega)
        unfold G41
        rw [e41]
        exact g
  · obtain ⟨m', ps', fr', so', va', fa', wr', z1, ⟨z2, z3, z4, z5, z6⟩, z7⟩ := rl_17 wS (d + 23) m hI (k := -4) (Or.inl rfl) h va wr
    refine ⟨m', ps', fr', so', va', fa', wr', ?_, z2, frm_w z3 (by decide), z4, z5, z6, z7⟩
    rw [se_X7_readLine, rn_eq, b_X7_readLine_0]
    simp only [EV, LV, CB, OI, OL, NP, CZ, popN, CT, OZ, List.map_nil, List.map_cons, List.sum_nil, List.sum_cons, Option.toList, List.nil_append, List.cons_append, Int.reduceToNat, Nat.reduceAdd, Nat.reduceLT, Nat.reduceLeDiff, List.length_cons, List.length_nil, Nat.zero_add, if_true, if_false, reduceIte, and_self, and_true, true_and, eq_self, reduceCtorEq, G68, hs, not_false_eq_true]
    rw [rn_eq, b_X7_readLine_17] at z1
    rw [rn_eq, b_X7_readLine_15]
    simp only [EV, LV, CB, OI, OL, NP, CZ, popN, CT, OZ, List.map_nil, List.map_cons, List.sum_nil, List.sum_cons, Option.toList, List.nil_append, List.cons_append, Int.reduceToNat, Nat.reduceAdd, Nat.reduceLT, Nat.reduceLeDiff, List.length_cons, List.length_nil, Nat.zero_add, if_true, if_false, reduceIte, and_self, and_true, true_and, eq_self, reduceCtorEq] at z1
    simp only [EV, LV, CB, OI, OL, NP, CZ, popN, CT, OZ, List.map_nil, List.map_cons, List.sum_nil, List.sum_cons, Option.toList, List.nil_append, List.cons_append, Int.reduceToNat, Nat.reduceAdd, Nat.reduceLT, Nat.reduceLeDiff, List.length_cons, List.length_nil, Nat.zero_add, if_true, if_false, reduceIte, and_self, and_true, true_and, eq_self, reduceCtorEq]
    exact z1
