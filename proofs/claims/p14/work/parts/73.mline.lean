/-! THE MODEL'S LINES, by their kinds -/
section Rm
variable (wS : List Value → Mm → Option Rs) (d : Nat)
theorem sw_rl : swT 136 4 7 #[32, 85, 102, 119] 4 = 32 ∧ swT 136 4 7 #[32, 85, 102, 119] 5 = 85 ∧ swT 136 4 7 #[32, 85, 102, 119] 6 = 102 ∧ swT 136 4 7 #[32, 85, 102, 119] 7 = 119 := by decide +kernel
theorem sw_rb : ∀ k, k < 4 → swT 136 4 7 #[32, 85, 102, 119] (nI k) = 136 := by decide +kernel
/-- which line may be read now -/
def okK (m : Mm) (k : Int32) : Prop := (∃ K B : Nat, K < 4 ∧ B < 6 ∧ k = nI K ∧ m.1 72 38 = nI B) ∨ (∃ D : Nat, D < 4 ∧ k = 4 ∧ m.1 68 5 = nI D) ∨ k = 5 ∨ k = 6 ∨ k = 7
theorem hT_of {m : Mm} (hI : InvT TV m) : (m.1 68 9).toInt ≤ 160 := by
  have := (hI 68 9).2
  rw [iv_68a.2.2.2] at this
  exact this
set_option maxHeartbeats 4000000 in
theorem t_rlo (m : Mm) (hI : InvT TV m) {k : Int32} (hk : okK m k) {ps fr : Nat} {so : Int32} (h : ok6 ps fr so 0) (va wr : Int32) : ∃ (m' : Mm) (ps' fr' : Nat) (so' va' fa' wr' : Int32), semZ shP wS (d + 5) 116 [.ref 68, .int k] (pm m ps fr so va 0 wr) = some (none, pm m' ps' fr' so' va' fa' wr') ∧ Rq m ps m' ps' fr' so' fa' := by
  have hT := hT_of hI
  rcases hk with ⟨K, B, hK, hB, rfl, hm⟩ | ⟨D, hD, rfl, hm⟩ | rfl | rfl | rfl
  · obtain ⟨m', ps', fr', so', va', fa', wr', y1, y2⟩ := t_rb wS d m hI hB hm (k := nI K) ⟨by rw [nI_toInt (by omega)]; omega, by rw [nI_toInt (by omega)]; omega⟩ h va wr
    refine ⟨m', ps', fr', so', va', fa', wr', ?_, y2⟩
    rw [se_X7_readLineOf, rn_eq, b_X7_readLineOf_0]
    simp only [EV, LV, CB, OI, OL, NP, CZ, popN, CT, OZ, List.map_nil, List.map_cons, List.sum_nil, List.sum_cons, Option.toList, List.nil_append, List.cons_append, Int.reduceToNat, Nat.reduceAdd, Nat.reduceLT, Nat.reduceLeDiff, List.length_cons, List.length_nil, Nat.zero_add, if_true, if_false, reduceIte, and_self, and_true, true_and, eq_self, reduceCtorEq, sw_rb K hK]
    rw [rn_eq, b_X7_readLineOf_136]
    simp only [EV, LV, CB, OI, OL, NP, CZ, popN, CT, OZ, List.map_nil, List.map_cons, List.sum_nil, List.sum_cons, Option.toList, List.nil_append, List.cons_append, Int.reduceToNat, Nat.reduceAdd, Nat.reduceLT, Nat.reduceLeDiff, List.length_cons, List.length_nil, Nat.zero_add, if_true, if_false, reduceIte, and_self, and_true, true_and, eq_self, reduceCtorEq, C68, y1]
  · obtain ⟨i0, i1⟩ := in_D D hD
    have r0 : inR (nI (2 * D)) 63 = true := inR_nI (by omega) (by omega)
    have r1 : inR (nI (2 * D + 1)) 63 = true := inR_nI (by omega) (by omega)
    have c0 : (nI (2 * D)).toNatClampNeg = 2 * D := nI_clamp (by omega)
    have c1 : (nI (2 * D + 1)).toNatClampNeg = 2 * D + 1 := nI_clamp (by omega)
    obtain ⟨v1, p1, f1, s1, a1, u1, x1, q1, o1, le1, fe1, -, -⟩ := t_rdn wS (d + 1) m hT h va wr 0 99
    generalize hm1 : wI m 72 (2 * D) v1 = m1
    have I1 : InvT TV m1 := by rw [← hm1]; exact I72 hI (iv_72a _ (by omega)) (r32 v1).1 (r32 v1).2
    have F1 : frm wB m m1 := by rw [← hm1]; exact f72 frm_rf (by omega) v1
    have D1 : m1.1 68 5 = nI D := by rw [← hm1, (tp_wd m _ v1).2.1]; exact hm
    have g1 : G41 m → G41 m1 := fun g => by rw [← hm1]; exact g41_n (by omega) g
    obtain ⟨v2, p2, f2, s2, a2, u2, x2, q2, o2, le2, fe2, -, -⟩ := t_rdn wS (d + 1) m1 (hT_of I1) o1 a1 x1 0 9
    generalize hm2 : wI m1 72 (2 * D + 1) v2 = m2
    have I2 : InvT TV m2 := by rw [← hm2]; exact I72 I1 (iv_72a _ (by omega)) (r32 v2).1 (r32 v2).2
    have F2 : frm wB m m2 := by rw [← hm2]; exact f72 F1 (by omega) v2
    have D2 : m2.1 68 5 = nI D := by rw [← hm2, (tp_wd m1 _ v2).2.1]; exact D1
    have g2 : G41 m1 → G41 m2 := fun g => by rw [← hm2]; exact g41_n (by omega) g
    refine ⟨wI m2 68 5 (nI (D + 1)), p2, f2, s2, a2, u2, x2, ?_, Inv_wI I2 (by rw [iv_68a.1, nI_toInt (by omega)]; show (0 : Int) ≤ _; omega) (by rw [iv_68a.1, nI_toInt (by omega)]; show _ ≤ (4 : Int); omega), frm_wI (by omega) F2 (by decide), o2, by omega, fun _ g => g41_o (g2 (g1 g))⟩
    rw [se_X7_readLineOf, rn_eq, b_X7_readLineOf_0]
    simp only [EV, LV, CB, OI, OL, NP, CZ, popN, CT, OZ, List.map_nil, List.map_cons, List.sum_nil, List.sum_cons, Option.toList, List.nil_append, List.cons_append, Int.reduceToNat, Nat.reduceAdd, Nat.reduceLT, Nat.reduceLeDiff, List.length_cons, List.length_nil, Nat.zero_add, if_true, if_false, reduceIte, and_self, and_true, true_and, eq_self, reduceCtorEq, sw_rl]
    rw [rn_eq, b_X7_readLineOf_32]
    simp only [EV, LV, CB, OI, OL, NP, CZ, popN, CT, OZ, List.map_nil, List.map_cons, List.sum_nil, List.sum_cons, Option.toList, List.nil_append, List.cons_append, Int.reduceToNat, Nat.reduceAdd, Nat.reduceLT, Nat.reduceLeDiff, List.length_cons, List.length_nil, Nat.zero_add, if_true, if_false, reduceIte, and_self, and_true, true_and, eq_self, reduceCtorEq, C68, G68, P68, hm, i0, q1, S72, r0, c0, pm_wd, hm1, D1, i1, q2, r1, c1, hm2, D2, nI_1, pm_wo m2 p2 f2 s2 a2 u2 x2 5 (nI (D + 1)) (by omega)]
    rw [rn_eq, b_X7_readLineOf_141]
    simp only [EV, LV, CB, OI, OL, NP, CZ, popN, CT, OZ, List.map_nil, List.map_cons, List.sum_nil, List.sum_cons, Option.toList, List.nil_append, List.cons_append, Int.reduceToNat, Nat.reduceAdd, Nat.reduceLT, Nat.reduceLeDiff, List.length_cons, List.length_nil, Nat.zero_add, if_true, if_false, reduceIte, and_self, and_true, true_and, eq_self, reduceCtorEq]
  · obtain ⟨v1, p1, f1, s1, a1, u1, x1, q1, o1, le1, fe1, -, -⟩ := t_rdn wS (d + 1) m hT h va wr 0 20
    have e : inR (39 : Int32) 63 = true ∧ (39 : Int32).toNatClampNeg = 39 := by decide +kernel
    refine ⟨wI m 72 39 v1, p1, f1, s1, a1, u1, x1, ?_, I72 hI iv_72c.2.1 (r32 v1).1 (r32 v1).2, f72 frm_rf (by omega) v1, o1, le1, fun _ g => g41_n (by omega) g⟩
    rw [se_X7_readLineOf, rn_eq, b_X7_readLineOf_0]
    simp only [EV, LV, CB, OI, OL, NP, CZ, popN, CT, OZ, List.map_nil, List.map_cons, List.sum_nil, List.sum_cons, Option.toList, List.nil_append, List.cons_append, Int.reduceToNat, Nat.reduceAdd, Nat.reduceLT, Nat.reduceLeDiff, List.length_cons, List.length_nil, Nat.zero_add, if_true, if_false, reduceIte, and_self, and_true, true_and, eq_self, reduceCtorEq, sw_rl]
    rw [rn_eq, b_X7_readLineOf_85]
    simp only [EV, LV, CB, OI, OL, NP, CZ, popN, CT, OZ, List.map_nil, List.map_cons, List.sum_nil, List.sum_cons, Option.toList, List.nil_append, List.cons_append, Int.reduceToNat, Nat.reduceAdd, Nat.reduceLT, Nat.reduceLeDiff, List.length_cons, List.length_nil, Nat.zero_add, if_true, if_false, reduceIte, and_self, and_true, true_and, eq_self, reduceCtorEq, C68, G68, q1, S72, e, pm_wd]
    rw [rn_eq, b_X7_readLineOf_141]
    simp only [EV, LV, CB, OI, OL, NP, CZ, popN, CT, OZ, List.map_nil, List.map_cons, List.sum_nil, List.sum_cons, Option.toList, List.nil_append, List.cons_append, Int.reduceToNat, Nat.reduceAdd, Nat.reduceLT, Nat.reduceLeDiff, List.length_cons, List.length_nil, Nat.zero_add, if_true, if_false, reduceIte, and_self, and_true, true_and, eq_self, reduceCtorEq]
  · obtain ⟨v1, p1, f1, s1, a1, u1, x1, q1, o1, le1, fe1, -, -⟩ := t_rdn wS (d + 1) m hT h va wr 0 60
    have e : inR (40 : Int32) 63 = true ∧ (40 : Int32).toNatClampNeg = 40 := by decide +kernel
    refine ⟨wI m 72 40 v1, p1, f1, s1, a1, u1, x1, ?_, I72 hI iv_72c.2.2.1 (r32 v1).1 (r32 v1).2, f72 frm_rf (by omega) v1, o1, le1, fun _ g => g41_n (by omega) g⟩
    rw [se_X7_readLineOf, rn_eq, b_X7_readLineOf_0]
    simp only [EV, LV, CB, OI, OL, NP, CZ, popN, CT, OZ, List.map_nil, List.map_cons, List.sum_nil, List.sum_cons, Option.toList, List.nil_append, List.cons_append, Int.reduceToNat, Nat.reduceAdd, Nat.reduceLT, Nat.reduceLeDiff, List.length_cons, List.length_nil, Nat.zero_add, if_true, if_false, reduceIte, and_self, and_true, true_and, eq_self, reduceCtorEq, sw_rl]
    rw [rn_eq, b_X7_readLineOf_102]
    simp only [EV, LV, CB, OI, OL, NP, CZ, popN, CT, OZ, List.map_nil, List.map_cons, List.sum_nil, List.sum_cons, Option.toList, List.nil_append, List.cons_append, Int.reduceToNat, Nat.reduceAdd, Nat.reduceLT, Nat.reduceLeDiff, List.length_cons, List.length_nil, Nat.zero_add, if_true, if_false, reduceIte, and_self, and_true, true_and, eq_self, reduceCtorEq, C68, G68, q1, S72, e, pm_wd]
    rw [rn_eq, b_X7_readLineOf_141]
    simp only [EV, LV, CB, OI, OL, NP, CZ, popN, CT, OZ, List.map_nil, List.map_cons, List.sum_nil, List.sum_cons, Option.toList, List.nil_append, List.cons_append, Int.reduceToNat, Nat.reduceAdd, Nat.reduceLT, Nat.reduceLeDiff, List.length_cons, List.length_nil, Nat.zero_add, if_true, if_false, reduceIte, and_self, and_true, true_and, eq_self, reduceCtorEq]
  · obtain ⟨v1, p1, f1, s1, a1, u1, x1, q1, o1, le1, fe1, gb1, bd1⟩ := t_rdn wS (d + 1) m hT h va wr 1 9
    have vb1 := v03 bd1 (by decide) (by decide)
    have e : inR (41 : Int32) 63 = true ∧ (41 : Int32).toNatClampNeg = 41 := by decide +kernel
    refine ⟨wI m 72 41 v1, p1, f1, s1, a1, u1, x1, ?_, I72 hI iv_72c.2.2.2 vb1.1 vb1.2, f72 frm_rf (by omega) v1, o1, le1, fun z _ => ?_⟩
    · rw [se_X7_readLineOf, rn_eq, b_X7_readLineOf_0]
      simp only [EV, LV, CB, OI, OL, NP, CZ, popN, CT, OZ, List.map_nil, List.map_cons, List.sum_nil, List.sum_cons, Option.toList, List.nil_append, List.cons_append, Int.reduceToNat, Nat.reduceAdd, Nat.reduceLT, Nat.reduceLeDiff, List.length_cons, List.length_nil, Nat.zero_add, if_true, if_false, reduceIte, and_self, and_true, true_and, eq_self, reduceCtorEq, sw_rl]
      rw [rn_eq, b_X7_readLineOf_119]
      simp only [EV, LV, CB, OI, OL, NP, CZ, popN, CT, OZ, List.map_nil, List.map_cons, List.sum_nil, List.sum_cons, Option.toList, List.nil_append, List.cons_append, Int.reduceToNat, Nat.reduceAdd, Nat.reduceLT, Nat.reduceLeDiff, List.length_cons, List.length_nil, Nat.zero_add, if_true, if_false, reduceIte, and_self, and_true, true_and, eq_self, reduceCtorEq, C68, G68, q1, S72, e, pm_wd]
      rw [rn_eq, b_X7_readLineOf_141]
      simp only [EV, LV, CB, OI, OL, NP, CZ, popN, CT, OZ, List.map_nil, List.map_cons, List.sum_nil, List.sum_cons, Option.toList, List.nil_append, List.cons_append, Int.reduceToNat, Nat.reduceAdd, Nat.reduceLT, Nat.reduceLeDiff, List.length_cons, List.length_nil, Nat.zero_add, if_true, if_false, reduceIte, and_self, and_true, true_and, eq_self, reduceCtorEq]
    · unfold G41
      rw [a72_s]
      exact gb1 z
/-- behind the name of a line: its numbers, the stop -/
theorem rl_139 (m : Mm) (hI : InvT TV m) {k : Int32} (hk : okK m k) {ps fr : Nat} {so : Int32} (h : ok6 ps fr so 0) (va wr : Int32) : ∃ (m' : Mm) (ps' fr' : Nat) (so' va' fa' wr' : Int32), rn shP tb0 mN mO (semZ shP wS (d + 5)) none (codeZ 117) 139 [.ref 68, .int k] [] (pm m ps fr so va 0 wr) = some (none, pm m' ps' fr' so' va' fa' wr') ∧ Rq m ps m' ps' fr' so' fa' ∧ (fa' = 0 → ¬ so' = 0 → ps < ps') := by
  obtain ⟨m1, p1, f1, s1, a1, u1, x1, q1, ⟨I1, F1, o1, le1, g1⟩⟩ := t_rlo wS d m hI hk h va wr
  have T1 := hT_of I1
  have e10 : ¬ (1 : Int32) = 0 := by decide
  by_cases hu : u1 = 0
  · subst hu
    by_cases hs : s1 = 3
    · subst hs
      obtain ⟨p2, f2, s2, a2, u2, x2, y1, o2, le2, fe2, pr2⟩ := t_tk wS (d + 3) m1 T1 o1 a1 x1
      refine ⟨m1, p2, f2, s2, a2, u2, x2, ?_, ⟨I1, F1, o2, by omega, fun _ g => g1 rfl g⟩, fun z1 z2 => by have := pr2 z1 z2; omega⟩
      rw [rn_eq, b_X7_readLine_139]
      simp only [EV, LV, CB, OI, OL, NP, CZ, popN, CT, OZ, List.map_nil, List.map_cons, List.sum_nil, List.sum_cons, Option.toList, List.nil_append, List.cons_append, Int.reduceToNat, Nat.reduceAdd, Nat.reduceLT, Nat.reduceLeDiff, List.length_cons, List.length_nil, Nat.zero_add, if_true, if_false, reduceIte, and_self, and_true, true_and, eq_self, reduceCtorEq, C68, q1, G68, not_true_eq_false]
      rw [rn_eq, b_X7_readLine_165]
      simp only [EV, LV, CB, OI, OL, NP, CZ, popN, CT, OZ, List.map_nil, List.map_cons, List.sum_nil, List.sum_cons, Option.toList, List.nil_append, List.cons_append, Int.reduceToNat, Nat.reduceAdd, Nat.reduceLT, Nat.reduceLeDiff, List.length_cons, List.length_nil, Nat.zero_add, if_true, if_false, reduceIte, and_self, and_true, true_and, eq_self, reduceCtorEq, C68, t_needs wS (d + 4), e10, false_and, y1]
    · refine ⟨m1, p1, f1, s1, a1, 2, nI f1, ?_, ⟨I1, F1, ⟨o1.1, o1.2.1, o1.2.2.1, by decide⟩, le1, fun z => absurd z (by decide)⟩, fun z => absurd z (by decide)⟩
      rw [rn_eq, b_X7_readLine_139]
      simp only [EV, LV, CB, OI, OL, NP, CZ, popN, CT, OZ, List.map_nil, List.map_cons, List.sum_nil, List.sum_cons, Option.toList, List.nil_append, List.cons_append, Int.reduceToNat, Nat.reduceAdd, Nat.reduceLT, Nat.reduceLeDiff, List.length_cons, List.length_nil, Nat.zero_add, if_true, if_false, reduceIte, and_self, and_true, true_and, eq_self, reduceCtorEq, C68, q1, G68, hs, not_true_eq_false, not_false_eq_true]
      rw [rn_eq, b_X7_readLine_164]
      simp only [EV, LV, CB, OI, OL, NP, CZ, popN, CT, OZ, List.map_nil, List.map_cons, List.sum_nil, List.sum_cons, Option.toList, List.nil_append, List.cons_append, Int.reduceToNat, Nat.reduceAdd, Nat.reduceLT, Nat.reduceLeDiff, List.length_cons, List.length_nil, Nat.zero_add, if_true, if_false, reduceIte, and_self, and_true, true_and, eq_self, reduceCtorEq, C68, t_needs wS (d + 4), t_takes_f wS (d + 4) m1 p1 f1 s1 a1 2 (nI f1) (by decide)]
  · refine ⟨m1, p1, f1, s1, a1, u1, x1, ?_, ⟨I1, F1, o1, le1, fun z => absurd z hu⟩, fun z => absurd z hu⟩
    rw [rn_eq, b_X7_readLine_139]
    simp only [EV, LV, CB, OI, OL, NP, CZ, popN, CT, OZ, List.map_nil, List.map_cons, List.sum_nil, List.sum_cons, Option.toList, List.nil_append, List.cons_append, Int.reduceToNat, Nat.reduceAdd, Nat.reduceLT, Nat.reduceLeDiff, List.length_cons, List.length_nil, Nat.zero_add, if_true, if_false, reduceIte, and_self, and_true, true_and, eq_self, reduceCtorEq, C68, q1, G68, hu, not_false_eq_true]
    rw [rn_eq, b_X7_readLine_169]
    simp only [EV, LV, CB, OI, OL, NP, CZ, popN, CT, OZ, List.map_nil, List.map_cons, List.sum_nil, List.sum_cons, Option.toList, List.nil_append, List.cons_append, Int.reduceToNat, Nat.reduceAdd, Nat.reduceLT, Nat.reduceLeDiff, List.length_cons, List.length_nil, Nat.zero_add, if_true, if_false, reduceIte, and_self, and_true, true_and, eq_self, reduceCtorEq, C68, t_takes_f wS (d + 4) m1 p1 f1 s1 a1 u1 x1 (f_pos o1.2.2.2.1 hu)]
/-- the next token, then what is behind it -/
theorem rl_tk (m : Mm) (hI : InvT TV m) {k : Int32} (hk : okK m k) {ps fr : Nat} {so : Int32} (h : ok6 ps fr so 0) (va wr : Int32) : ∃ (p1 f1 : Nat) (s1 a1 u1 x1 : Int32), semZ shP wS (d + 5) 113 [.ref 68] (pm m ps fr so va 0 wr) = some (none, pm m p1 f1 s1 a1 u1 x1) ∧ ((0 < u1 ∧ ok6 p1 f1 s1 u1 ∧ ps ≤ p1) ∨ (u1 = 0 ∧ ∃ (m' : Mm) (ps' fr' : Nat) (so' va' fa' wr' : Int32), rn shP tb0 mN mO (semZ shP wS (d + 5)) none (codeZ 117) 139 [.ref 68, .int k] [] (pm m p1 f1 s1 a1 u1 x1) = some (none, pm m' ps' fr' so' va' fa' wr') ∧ Rq m ps m' ps' fr' so' fa' ∧ (fa' = 0 → ¬ so' = 0 → ps < ps'))) := by
  obtain ⟨p1, f1, s1, a1, u1, x1, y1, o1, le1, fe1, pr1⟩ := t_tk wS (d + 3) m (hT_of hI) h va wr
  refine ⟨p1, f1, s1, a1, u1, x1, y1, ?_⟩
  by_cases hu : u1 = 0
  · subst hu
    obtain ⟨m', ps', fr', so', va', fa', wr', z1, ⟨z2, z3, z4, z5, z6⟩, z7⟩ := rl_139 wS d m hI hk o1 a1 x1
    exact Or.inr ⟨rfl, m', ps', fr', so', va', fa', wr', z1, ⟨z2, z3, z4, by omega, z6⟩, fun w1 w2 => by have := z7 w1 w2; omega⟩
  · exact Or.inl ⟨f_pos o1.2.2.2.1 hu, o1, le1⟩
/-- from 127 on -/
theorem rl_127 (m : Mm) (hI : InvT TV m) {k : Int32} (hk : okK m k) {ps fr : Nat} {so : Int32} (h : ok6 ps fr so 0) (va wr : Int32) : ∃ (m' : Mm) (ps' fr' : Nat) (so' va' fa' wr' : Int32), rn shP tb0 mN mO (semZ shP wS (d + 5)) none (codeZ 117) 127 [.ref 68, .int k] [] (pm m ps fr so va 0 wr) = some (none, pm m' ps' fr' so' va' fa' wr') ∧ Rq m ps m' ps' fr' so' fa' ∧ (fa' = 0 → ¬ so' = 0 → ps < ps') := by
  obtain ⟨p1, f1, s1, a1, u1, x1, y1, hc⟩ := rl_tk wS d m hI hk h va wr
  rcases hc with ⟨hu, o1, le1⟩ | ⟨rfl, m', ps', fr', so', va', fa', wr', z1, z2, z3⟩
  · have nu : ¬ u1 = 0 := fun z => by rw [z] at hu; exact absurd hu (by decide)
    have nle : ¬ u1 ≤ 0 := Int32.not_le.mpr hu
    refine ⟨m, p1, f1, s1, a1, u1, x1, ?_, ⟨hI, frm_rf, o1, le1, fun z => absurd z nu⟩, fun z => absurd z nu⟩
    rw [rn_eq, b_X7_readLine_127]
    simp only [EV, LV, CB, OI, OL, NP, CZ, popN, CT, OZ, List.map_nil, List.map_cons, List.sum_nil, List.sum_cons, Option.toList, List.nil_append, List.cons_append, Int.reduceToNat, Nat.reduceAdd, Nat.reduceLT, Nat.reduceLeDiff, List.length_cons, List.length_nil, Nat.zero_add, if_true, if_false, reduceIte, and_self, and_true, true_and, eq_self, reduceCtorEq, C68, y1, G68, nle]
  · refine ⟨m', ps', fr', so', va', fa', wr', ?_, z2, z3⟩
    have e00 : (0 : Int32) ≤ 0 := by decide
    rw [rn_eq, b_X7_readLine_127]
    simp only [EV, LV, CB, OI, OL, NP, CZ, popN, CT, OZ, List.map_nil, List.map_cons, List.sum_nil, List.sum_cons, Option.toList, List.nil_append, List.cons_append, Int.reduceToNat, Nat.reduceAdd, Nat.reduceLT, Nat.reduceLeDiff, List.length_cons, List.length_nil, Nat.zero_add, if_true, if_false, reduceIte, and_self, and_true, true_and, eq_self, reduceCtorEq, C68, y1, G68, e00]
    exact z1
/-- from 127 on, with a fault -/
theorem rl_127f (m : Mm) (k : Int32) (ps fr : Nat) (so va fa wr : Int32) (hf : 0 < fa) : rn shP tb0 mN mO (semZ shP wS (d + 5)) none (codeZ 117) 127 [.ref 68, .int k] [] (pm m ps fr so va fa wr) = some (none, pm m ps fr so va fa wr) := by
  have nle : ¬ fa ≤ 0 := Int32.not_le.mpr hf
  rw [rn_eq, b_X7_readLine_127]
  simp only [EV, LV, CB, OI, OL, NP, CZ, popN, CT, OZ, List.map_nil, List.map_cons, List.sum_nil, List.sum_cons, Option.toList, List.nil_append, List.cons_append, Int.reduceToNat, Nat.reduceAdd, Nat.reduceLT, Nat.reduceLeDiff, List.length_cons, List.length_nil, Nat.zero_add, if_true, if_false, reduceIte, and_self, and_true, true_and, eq_self, reduceCtorEq, C68, t_takes_f wS (d + 4) m ps fr so va fa wr hf, G68, nle]
end Rm
