/-! THE MODEL'S LINES -/
theorem hall_23 {wS : List Value → Mm → Option Rs} (hw : WOK wS) : Hall TV wS 28 t_23 := h_up23 (h_up22 (h_up21 (h_up20 (hall_19 hw))))
/-- what lines write besides the six numbers -/
def wB : Wr := ([72], [13605, 13606, 13607])
def G41 (m : Mm) : Prop := 1 ≤ (m.1 72 41).toInt ∧ (m.1 72 41).toInt ≤ 9
def Rq (m : Mm) (ps : Nat) (m' : Mm) (ps' fr' : Nat) (so' fa' : Int32) : Prop := InvT TV m' ∧ frm wB m m' ∧ ok6 ps' fr' so' fa' ∧ ps ≤ ps' ∧ (fa' = 0 → G41 m → G41 m')
theorem in_D : ∀ D, D < 4 → (2 : Int32) * nI D + 0 = nI (2 * D) ∧ (2 : Int32) * nI D + 1 = nI (2 * D + 1) := by decide +kernel
theorem in_B : ∀ B, B < 6 → (8 : Int32) + 5 * nI B = nI (8 + 5 * B) ∧ nI (8 + 5 * B) + 0 = nI (8 + 5 * B) ∧ nI (8 + 5 * B) + 1 = nI (8 + 5 * B + 1) ∧ nI (8 + 5 * B) + 2 = nI (8 + 5 * B + 2) ∧ nI (8 + 5 * B) + 3 = nI (8 + 5 * B + 3) := by decide +kernel
theorem iv_72a : ∀ j, j < 8 → ivO TV 72 j = (-2147483648, 2147483647) := by decide +kernel
theorem iv_72b : ∀ B, B < 6 → ivO TV 72 (8 + 5 * B) = (0, 3) ∧ ivO TV 72 (8 + 5 * B + 1) = (0, 3) ∧ ivO TV 72 (8 + 5 * B + 2) = (-2147483648, 2147483647) ∧ ivO TV 72 (8 + 5 * B + 3) = (-2147483648, 2147483647) := by decide +kernel
theorem iv_72c : ivO TV 72 38 = (0, 6) ∧ ivO TV 72 39 = (-2147483648, 2147483647) ∧ ivO TV 72 40 = (-2147483648, 2147483647) ∧ ivO TV 72 41 = (0, 9) := by decide +kernel
theorem iv_68a : ivO TV 68 5 = (0, 4) ∧ ivO TV 68 6 = (-2147483648, 2147483647) ∧ ivO TV 68 7 = (-2147483648, 2147483647) ∧ ivO TV 68 9 = (0, 160) := by decide +kernel
theorem I72 {m : Mm} (hI : InvT TV m) {j : Nat} {x : Int32} {lo hi : Int} (hv : ivO TV 72 j = (lo, hi)) (h1 : lo ≤ x.toInt) (h2 : x.toInt ≤ hi) : InvT TV (wI m 72 j x) := Inv_wI hI (by rw [hv]; exact h1) (by rw [hv]; exact h2)
theorem f72 {m mE : Mm} (h : frm wB mE m) {j : Nat} (hj : j < 200) (x : Int32) : frm wB mE (wI m 72 j x) := frm_wI hj h (by unfold inW; rw [show wB.1.contains 72 = true from by decide]; rfl)
theorem tp_wd (m : Mm) (j : Nat) (x : Int32) : (wI m 72 j x).1 68 9 = m.1 68 9 ∧ (wI m 72 j x).1 68 5 = m.1 68 5 ∧ (wI m 72 j x).1 68 7 = m.1 68 7 := ⟨by rw [wI_at, if_neg (by omega)], by rw [wI_at, if_neg (by omega)], by rw [wI_at, if_neg (by omega)]⟩
theorem g41_n {m : Mm} {j : Nat} {x : Int32} (h : j ≠ 41) (g : G41 m) : G41 (wI m 72 j x) := by
  have e : (wI m 72 j x).1 72 41 = m.1 72 41 := by rw [wI_at, if_neg (fun z => h z.2.symm)]
  unfold G41
  rw [e]
  exact g
theorem g41_o {m : Mm} {j : Nat} {x : Int32} (g : G41 m) : G41 (wI m 68 j x) := by
  have e : (wI m 68 j x).1 72 41 = m.1 72 41 := by rw [wI_at, if_neg (by omega)]
  unfold G41
  rw [e]
  exact g
theorem v03 {v : Int32} {lo hi : Int32} (h : v = 0 ∨ (lo.toInt ≤ v.toInt ∧ v.toInt ≤ hi.toInt)) (hl : 0 ≤ lo.toInt) (hh : 0 ≤ hi.toInt) : 0 ≤ v.toInt ∧ v.toInt ≤ hi.toInt := by
  rcases h with rfl | h
  · rw [show (0 : Int32).toInt = 0 from by decide]
    omega
  · omega
theorem a72_s (m : Mm) (j : Nat) (x : Int32) : (wI m 72 j x).1 72 j = x := by rw [wI_at, if_pos ⟨rfl, rfl⟩]
theorem a72_n (m : Mm) {j k : Nat} (x : Int32) (h : k ≠ j) : (wI m 72 j x).1 72 k = m.1 72 k := by rw [wI_at, if_neg (fun z => h z.2)]
section Rl
variable (wS : List Value → Mm → Option Rs) (d : Nat)
set_option maxHeartbeats 4000000 in
theorem t_rb (m : Mm) (hI : InvT TV m) {B : Nat} (hB : B < 6) (hm : m.1 72 38 = nI B) {k : Int32} (hk : 0 ≤ k.toInt ∧ k.toInt ≤ 3) {ps fr : Nat} {so : Int32} (h : ok6 ps fr so 0) (va wr : Int32) : ∃ (m' : Mm) (ps' fr' : Nat) (so' va' fa' wr' : Int32), semZ shP wS (d + 4) 115 [.ref 68, .int k] (pm m ps fr so va 0 wr) = some (none, pm m' ps' fr' so' va' fa' wr') ∧ Rq m ps m' ps' fr' so' fa' := by
  obtain ⟨i0, i1, i2, i3, i4⟩ := in_B B hB
  obtain ⟨w0, w1, w2, w3⟩ := iv_72b B hB
  have hT : (m.1 68 9).toInt ≤ 160 := by
    have := (hI 68 9).2
    rw [iv_68a.2.2.2] at this
    exact this
  have e38 : inR (38 : Int32) 63 = true ∧ (38 : Int32).toNatClampNeg = 38 := by decide +kernel
  have r0 : inR (nI (8 + 5 * B)) 63 = true := inR_nI (by omega) (by omega)
  have r1 : inR (nI (8 + 5 * B + 1)) 63 = true := inR_nI (by omega) (by omega)
  have r2 : inR (nI (8 + 5 * B + 2)) 63 = true := inR_nI (by omega) (by omega)
  have r3 : inR (nI (8 + 5 * B + 3)) 63 = true := inR_nI (by omega) (by omega)
  have c0 : (nI (8 + 5 * B)).toNatClampNeg = 8 + 5 * B := nI_clamp (by omega)
  have c1 : (nI (8 + 5 * B + 1)).toNatClampNeg = 8 + 5 * B + 1 := nI_clamp (by omega)
  have c2 : (nI (8 + 5 * B + 2)).toNatClampNeg = 8 + 5 * B + 2 := nI_clamp (by omega)
  have c3 : (nI (8 + 5 * B + 3)).toNatClampNeg = 8 + 5 * B + 3 := nI_clamp (by omega)
  -- the kind
  generalize hm1 : wI m 72 (8 + 5 * B) k = m1
  have I1 : InvT TV m1 := by rw [← hm1]; exact I72 hI w0 hk.1 hk.2
  have F1 : frm wB m m1 := by rw [← hm1]; exact f72 frm_rf (by omega) k
  have T1 : (m1.1 68 9).toInt ≤ 160 := by rw [← hm1, (tp_wd m _ k).1]; exact hT
  have K1 : m1.1 72 38 = nI B := by rw [← hm1, a72_n m k (by omega)]; exact hm
  have g1 : G41 m → G41 m1 := fun g => by rw [← hm1]; exact g41_n (by omega) g
  -- where
  obtain ⟨v1, p1, f1, s1, a1, u1, x1, q1, o1, le1, fe1, -, bd1⟩ := t_rdn wS d m1 T1 h va wr 0 3
  have vb1 := v03 bd1 (by decide) (by decide)
  generalize hm2 : wI m1 72 (8 + 5 * B + 1) v1 = m2
  have I2 : InvT TV m2 := by rw [← hm2]; exact I72 I1 w1 vb1.1 vb1.2
  have F2 : frm wB m m2 := by rw [← hm2]; exact f72 F1 (by omega) v1
  have K2 : m2.1 72 38 = nI B := by rw [← hm2, a72_n m1 v1 (by omega)]; exact K1
  have A2 : m2.1 72 (8 + 5 * B + 1) = v1 := by rw [← hm2, a72_s]
  have T2 : (m2.1 68 9).toInt ≤ 160 := by rw [← hm2, (tp_wd m1 _ v1).1]; exact T1
  have g2 : G41 m1 → G41 m2 := fun g => by rw [← hm2]; exact g41_n (by omega) g
  -- the highest
  have rest : ∀ hx : Int32, ∃ (m' : Mm) (ps' fr' : Nat) (so' va' fa' wr' : Int32), (rn shP tb0 mN mO (semZ shP wS (d + 3)) none (codeZ 115) 67 [.ref 68, .int k, .int (nI (8 + 5 * B))] [.int hx, .ref 68] (pm m2 p1 f1 s1 a1 u1 x1) = some (none, pm m' ps' fr' so' va' fa' wr')) ∧ Rq m ps m' ps' fr' so' fa' := by
    intro hx
    generalize hm3 : wI m2 68 7 hx = m3
    have I3 : InvT TV m3 := by rw [← hm3]; exact Inv_wI I2 (by rw [iv_68a.2.2.1]; exact (r32 hx).1) (by rw [iv_68a.2.2.1]; exact (r32 hx).2)
    have F3 : frm wB m m3 := by rw [← hm3]; exact frm_wI (by omega) F2 (by decide)
    have K3 : m3.1 72 38 = nI B := by rw [← hm3, wI_at, if_neg (by omega)]; exact K2
    have T3 : (m3.1 68 9).toInt ≤ 160 := by rw [← hm3, wI_at, if_neg (by omega)]; exact T2
    have g3 : G41 m2 → G41 m3 := fun g => by rw [← hm3]; exact g41_o g
    obtain ⟨v2, p2, f2, s2, a2, u2, x2, q2, o2, le2, fe2, -, -⟩ := t_rdn wS d m3 T3 o1 a1 x1 0 9
    generalize hm4 : wI m3 72 (8 + 5 * B + 2) v2 = m4
    have I4 : InvT TV m4 := by rw [← hm4]; exact I72 I3 w2 (r32 v2).1 (r32 v2).2
    have F4 : frm wB m m4 := by rw [← hm4]; exact f72 F3 (by omega) v2
    have K4 : m4.1 72 38 = nI B := by rw [← hm4, a72_n m3 v2 (by omega)]; exact K3
    have T4 : (m4.1 68 9).toInt ≤ 160 := by rw [← hm4, (tp_wd m3 _ v2).1]; exact T3
    have g4 : G41 m3 → G41 m4 := fun g => by rw [← hm4]; exact g41_n (by omega) g
    obtain ⟨v3, p3, f3, s3, a3, u3, x3, q3, o3, le3, fe3, -, -⟩ := t_rdn wS d m4 T4 o2 a2 x2 0 9
    generalize hm5 : wI m4 72 (8 + 5 * B + 3) v3 = m5
    have I5 : InvT TV m5 := by rw [← hm5]; exact I72 I4 w3 (r32 v3).1 (r32 v3).2
    have F5 : frm wB m m5 := by rw [← hm5]; exact f72 F4 (by omega) v3
    have K5 : m5.1 72 38 = nI B := by rw [← hm5, a72_n m4 v3 (by omega)]; exact K4
    have g5 : G41 m4 → G41 m5 := fun g => by rw [← hm5]; exact g41_n (by omega) g
    refine ⟨wI m5 72 38 (nI (B + 1)), p3, f3, s3, a3, u3, x3, ?_, I72 I5 iv_72c.1 (by rw [nI_toInt (by omega)]; omega) (by rw [nI_toInt (by omega)]; omega), f72 F5 (by omega) _, o3, by omega, fun _ g => g41_n (by omega) (g5 (g4 (g3 (g2 (g1 g)))))⟩
    rw [rn_eq, b_X7_readBody_67]
    simp only [EV, LV, CB, OI, OL, NP, CZ, popN, CT, OZ, List.map_nil, List.map_cons, List.sum_nil, List.sum_cons, Option.toList, List.nil_append, List.cons_append, Int.reduceToNat, Nat.reduceAdd, Nat.reduceLT, Nat.reduceLeDiff, List.length_cons, List.length_nil, Nat.zero_add, if_true, if_false, reduceIte, and_self, and_true, true_and, eq_self, reduceCtorEq, C68, G68, P68, pm_wo m2 p1 f1 s1 a1 u1 x1 7 hx (by omega), hm3, i3, i4, q2, S72, r2, c2, pm_wd, hm4, q3, r3, c3, hm5, A72, e38, K5, nI_1]
  by_cases hh : m2.1 68 7 < v1
  · obtain ⟨m', ps', fr', so', va', fa', wr', y1, y2⟩ := rest v1
    refine ⟨m', ps', fr', so', va', fa', wr', ?_, y2⟩
    rw [se_X7_readBody, rn_eq, b_X7_readBody_0]
    have hle : ¬ v1 ≤ m2.1 68 7 := Int32.not_le.mpr hh
    simp only [EV, LV, CB, OI, OL, NP, CZ, popN, CT, OZ, List.map_nil, List.map_cons, List.sum_nil, List.sum_cons, Option.toList, List.nil_append, List.cons_append, Int.reduceToNat, Nat.reduceAdd, Nat.reduceLT, Nat.reduceLeDiff, List.length_cons, List.length_nil, Nat.zero_add, if_true, if_false, reduceIte, and_self, and_true, true_and, eq_self, reduceCtorEq, C68, G68, A72, e38, hm, i0, i1, i2, S72, r0, c0, pm_wd, hm1, q1, r1, c1, hm2, A2, hle]
    exact y1
  · obtain ⟨m', ps', fr', so', va', fa', wr', y1, y2⟩ := rest (m2.1 68 7)
    refine ⟨m', ps', fr', so', va', fa', wr', ?_, y2⟩
    rw [se_X7_readBody, rn_eq, b_X7_readBody_0]
    have hle : v1 ≤ m2.1 68 7 := Int32.not_lt.mp hh
    simp only [EV, LV, CB, OI, OL, NP, CZ, popN, CT, OZ, List.map_nil, List.map_cons, List.sum_nil, List.sum_cons, Option.toList, List.nil_append, List.cons_append, Int.reduceToNat, Nat.reduceAdd, Nat.reduceLT, Nat.reduceLeDiff, List.length_cons, List.length_nil, Nat.zero_add, if_true, if_false, reduceIte, and_self, and_true, true_and, eq_self, reduceCtorEq, C68, G68, A72, e38, hm, i0, i1, i2, S72, r0, c0, pm_wd, hm1, q1, r1, c1, hm2, A2, hle]
    have y1' := y1
    rw [rn_eq, b_X7_readBody_67] at y1'
    rw [rn_eq, b_X7_readBody_63]
    simp only [EV, LV, CB, OI, OL, NP, CZ, popN, CT, OZ, List.map_nil, List.map_cons, List.sum_nil, List.sum_cons, Option.toList, List.nil_append, List.cons_append, Int.reduceToNat, Nat.reduceAdd, Nat.reduceLT, Nat.reduceLeDiff, List.length_cons, List.length_nil, Nat.zero_add, if_true, if_false, reduceIte, and_self, and_true, true_and, eq_self, reduceCtorEq, C68, G68]
    simp only [EV, LV, CB, OI, OL, NP, CZ, popN, CT, OZ, List.map_nil, List.map_cons, List.sum_nil, List.sum_cons, Option.toList, List.nil_append, List.cons_append, Int.reduceToNat, Nat.reduceAdd, Nat.reduceLT, Nat.reduceLeDiff, List.length_cons, List.length_nil, Nat.zero_add, if_true, if_false, reduceIte, and_self, and_true, true_and, eq_self, reduceCtorEq, C68, G68] at y1'
    exact y1'
end Rl
