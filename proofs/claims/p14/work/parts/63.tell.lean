/-! BY HAND: tokens' contracts; the numbers of a body's line -/
/-- what isWord is taken to answer -/
def WOK (wS : List Value → Mm → Option Rs) : Prop := Hd TV (fun _ As m => wS As m) h3_1
theorem iv_24 : ivO TV 24 1 = (0, 160) ∧ ivO TV 24 2 = (0, 160) := by decide +kernel
theorem Inv_tm {m : Mm} (hI : InvT TV m) {s p : Nat} (hs : s ≤ 160) (hp : p ≤ 160) : InvT TV (tm m s p) := by
  refine Inv_setR hI (fun j => ?_)
  unfold rw3
  split
  · rename_i h
    rw [h, iv_24.1, nI_toInt (by omega)]
    exact ⟨by show (0 : Int) ≤ _; omega, by show _ ≤ (160 : Int); omega⟩
  · split
    · rename_i h
      rw [h, iv_24.2, nI_toInt (by omega)]
      exact ⟨by show (0 : Int) ≤ _; omega, by show _ ≤ (160 : Int); omega⟩
    · exact hI 24 j
theorem frm_tm {W : Wr} {mE m : Mm} (h : frm W mE m) {s p : Nat} (h1 : inW W 24 1 = true) (h2 : inW W 24 2 = true) : frm W mE (tm m s p) := by
  have a := frm_wI (x := nI s) (by decide) h h1
  have b := frm_wI (x := nI p) (by decide) a h2
  have e : wI (wI m 24 1 (nI s)) 24 2 (nI p) = tm m s p := by
    unfold tm
    rw [wI_R, wI_R, setR_s, setR_R]
    congr 1
    funext j
    simp only [upd, rw3]
    by_cases q : j = 2
    · subst q; simp
    · rw [if_neg q, if_neg q]
  rw [e] at b
  exact b
theorem hd_take (wS : List Value → Mm → Option Rs) (d : Nat) : Hd TV (semZ shP wS (d + 2)) h3_0 := by
  intro As m g hI hR
  obtain ⟨v1, vs, rfl, k1, g⟩ := gT_cons g
  cases gT_nil g
  obtain ⟨r', rfl, hr⟩ := k1
  have hr : r' = 24 := List.mem_singleton.mp hr
  subst hr
  obtain ⟨t, s, p, a1, a2, a3, a4, -⟩ := t_take wS d m hI
  exact ⟨_, _, a1, ret_i a4.1 a4.2, Inv_tm hI a2 a3, rho_nil, frm_tm frm_rf (by decide) (by decide), fun _ _ _ q hq => by cases hq⟩
theorem hd_isW {wS : List Value → Mm → Option Rs} (hw : WOK wS) (d : Nat) : Hd TV (semZ shP wS (d + 1)) h3_1 := hw
theorem hall_12 {wS : List Value → Mm → Option Rs} (hw : WOK wS) : Hall TV wS 17 t_12 := by
  intro d c hc
  unfold t_12 at hc
  rcases List.mem_append.mp hc with hc | hc
  · rcases List.mem_cons.mp hc with rfl | hc
    · exact hd_take wS (d + 15)
    rcases List.mem_cons.mp hc with rfl | hc
    · exact hd_isW hw (d + 16)
    cases hc
  · exact Hall_up (hall_11 wS) 1 d c hc
theorem hall_15 {wS : List Value → Mm → Option Rs} (hw : WOK wS) : Hall TV wS 20 t_15 := h_up15 (h_up14 (h_up13 (hall_12 hw)))
section Tn
variable (wS : List Value → Mm → Option Rs) (d : Nat)
theorem C23 : clO shP 23 = some 4 := rfl
theorem G23 (m : Mm) : gfI shP 400 23 m = some (.ref 24) ∧ gfI shP 403 23 m = some (.ref 26) ∧ (∀ x : Int32, pfI shP 401 23 (.int x) m = some (wI m 23 1 x)) ∧ (∀ x : Int32, pfI shP 402 23 (.int x) m = some (wI m 23 2 x)) := ⟨rfl, rfl, fun _ => rfl, fun _ => rfl⟩
theorem G24' (m : Mm) : gfI shP 301 24 m = some (.int (m.1 24 1)) := rfl
theorem t_refuse (a b : Int32) (m : Mm) : semZ shP wS (d + 1) 20 [.ref 23, .int a, .int b] m = some (none, wI (wI m 23 1 a) 23 2 b) := by
  rw [se_X4_refuse, rn_eq, b_X4_refuse_0]
  simp only [EV, LV, CB, OI, OL, NP, CZ, popN, CT, OZ, List.map_nil, List.map_cons, List.sum_nil, List.sum_cons, Option.toList, List.nil_append, List.cons_append, Int.reduceToNat, Nat.reduceAdd, Nat.reduceLT, Nat.reduceLeDiff, List.length_cons, List.length_nil, Nat.zero_add, if_true, if_false, reduceIte, and_self, and_true, true_and, eq_self, reduceCtorEq, G23]
theorem t_expect_y (a : Int32) (m : Mm) : semZ shP wS (d + 1) 19 [.ref 23, .int a, .int a] m = some (some (.int 1), m) := by
  rw [se_X4_expect, rn_eq, b_X4_expect_0]
  simp only [EV, LV, CB, OI, OL, NP, CZ, popN, CT, OZ, List.map_nil, List.map_cons, List.sum_nil, List.sum_cons, Option.toList, List.nil_append, List.cons_append, Int.reduceToNat, Nat.reduceAdd, Nat.reduceLT, Nat.reduceLeDiff, List.length_cons, List.length_nil, Nat.zero_add, if_true, if_false, reduceIte, and_self, and_true, true_and, eq_self, reduceCtorEq, not_true_eq_false]
theorem t_expect_n (a b : Int32) (h : ¬ a = b) (m : Mm) : ∃ x : Int32, semZ shP wS (d + 2) 19 [.ref 23, .int a, .int b] m = some (some (.int 0), wI (wI m 23 1 x) 23 2 (m.1 24 1)) := by
  by_cases h4 : a = 4
  · refine ⟨1, ?_⟩
    rw [se_X4_expect, rn_eq, b_X4_expect_0]
    simp only [EV, LV, CB, OI, OL, NP, CZ, popN, CT, OZ, List.map_nil, List.map_cons, List.sum_nil, List.sum_cons, Option.toList, List.nil_append, List.cons_append, Int.reduceToNat, Nat.reduceAdd, Nat.reduceLT, Nat.reduceLeDiff, List.length_cons, List.length_nil, Nat.zero_add, if_true, if_false, reduceIte, and_self, and_true, true_and, eq_self, reduceCtorEq, h, not_false_eq_true]
    rw [rn_eq, b_X4_expect_7]
    simp only [EV, LV, CB, OI, OL, NP, CZ, popN, CT, OZ, List.map_nil, List.map_cons, List.sum_nil, List.sum_cons, Option.toList, List.nil_append, List.cons_append, Int.reduceToNat, Nat.reduceAdd, Nat.reduceLT, Nat.reduceLeDiff, List.length_cons, List.length_nil, Nat.zero_add, if_true, if_false, reduceIte, and_self, and_true, true_and, eq_self, reduceCtorEq, h4, not_true_eq_false]
    rw [rn_eq, b_X4_expect_18]
    simp only [EV, LV, CB, OI, OL, NP, CZ, popN, CT, OZ, List.map_nil, List.map_cons, List.sum_nil, List.sum_cons, Option.toList, List.nil_append, List.cons_append, Int.reduceToNat, Nat.reduceAdd, Nat.reduceLT, Nat.reduceLeDiff, List.length_cons, List.length_nil, Nat.zero_add, if_true, if_false, reduceIte, and_self, and_true, true_and, eq_self, reduceCtorEq, C23, G23, G24', t_refuse wS d]
  · refine ⟨2, ?_⟩
    rw [se_X4_expect, rn_eq, b_X4_expect_0]
    simp only [EV, LV, CB, OI, OL, NP, CZ, popN, CT, OZ, List.map_nil, List.map_cons, List.sum_nil, List.sum_cons, Option.toList, List.nil_append, List.cons_append, Int.reduceToNat, Nat.reduceAdd, Nat.reduceLT, Nat.reduceLeDiff, List.length_cons, List.length_nil, Nat.zero_add, if_true, if_false, reduceIte, and_self, and_true, true_and, eq_self, reduceCtorEq, h, not_false_eq_true]
    rw [rn_eq, b_X4_expect_7]
    simp only [EV, LV, CB, OI, OL, NP, CZ, popN, CT, OZ, List.map_nil, List.map_cons, List.sum_nil, List.sum_cons, Option.toList, List.nil_append, List.cons_append, Int.reduceToNat, Nat.reduceAdd, Nat.reduceLT, Nat.reduceLeDiff, List.length_cons, List.length_nil, Nat.zero_add, if_true, if_false, reduceIte, and_self, and_true, true_and, eq_self, reduceCtorEq, h4, not_false_eq_true]
    rw [rn_eq, b_X4_expect_17]
    simp only [EV, LV, CB, OI, OL, NP, CZ, popN, CT, OZ, List.map_nil, List.map_cons, List.sum_nil, List.sum_cons, Option.toList, List.nil_append, List.cons_append, Int.reduceToNat, Nat.reduceAdd, Nat.reduceLT, Nat.reduceLeDiff, List.length_cons, List.length_nil, Nat.zero_add, if_true, if_false, reduceIte, and_self, and_true, true_and, eq_self, reduceCtorEq, C23, G23, G24', t_refuse wS d]
theorem num_step (m : Mm) {s p i : Nat} (hi : i < p) (hp : p ≤ 160) (v : Int32) (C : CallS) : rn shP tb0 mN mO C (some .int) (codeZ 10) 7 [.ref 24, .int v, .int (nI i)] [] (tm m s p) = rn shP tb0 mN mO C (some .int) (codeZ 10) 7 [.ref 24, .int (v * 10 + m.1 25 i - 48), .int (nI (i + 1))] [] (tm m s p) := by
  have e1 : ¬ nI p ≤ nI i := nI_ge hi (by omega)
  have e2 : inR (nI i) 160 = true := inR_nI (by omega) (by omega)
  have e3 : (nI i).toNatClampNeg = i := nI_clamp (by omega)
  rw [rn_eq, b_X3_number_7]
  simp only [EV, LV, CB, OI, OL, NP, CZ, popN, CT, OZ, List.map_nil, List.map_cons, List.sum_nil, List.sum_cons, Option.toList, List.nil_append, List.cons_append, Int.reduceToNat, Nat.reduceAdd, Nat.reduceLT, Nat.reduceLeDiff, List.length_cons, List.length_nil, Nat.zero_add, if_true, if_false, reduceIte, and_self, and_true, true_and, eq_self, reduceCtorEq, C24, G24, A25, e1, e2, e3, nI_1]
theorem num_end (m : Mm) {s p : Nat} (v : Int32) (C : CallS) : rn shP tb0 mN mO C (some .int) (codeZ 10) 7 [.ref 24, .int v, .int (nI p)] [] (tm m s p) = some (some (.int v), tm m s p) := by
  have e1 : nI p ≤ nI p := Int32.le_refl _
  rw [rn_eq, b_X3_number_7]
  simp only [EV, LV, CB, OI, OL, NP, CZ, popN, CT, OZ, List.map_nil, List.map_cons, List.sum_nil, List.sum_cons, Option.toList, List.nil_append, List.cons_append, Int.reduceToNat, Nat.reduceAdd, Nat.reduceLT, Nat.reduceLeDiff, List.length_cons, List.length_nil, Nat.zero_add, if_true, if_false, reduceIte, and_self, and_true, true_and, eq_self, reduceCtorEq, C24, G24, e1]
  rw [rn_eq, b_X3_number_36]
  simp only [EV, LV, CB, OI, OL, NP, CZ, popN, CT, OZ, List.map_nil, List.map_cons, List.sum_nil, List.sum_cons, Option.toList, List.nil_append, List.cons_append, Int.reduceToNat, Nat.reduceAdd, Nat.reduceLT, Nat.reduceLeDiff, List.length_cons, List.length_nil, Nat.zero_add, if_true, if_false, reduceIte, and_self, and_true, true_and, eq_self, reduceCtorEq]
theorem dg {b : Int32} (h1 : 48 ≤ b.toInt) (h2 : b.toInt ≤ 57) {v : Int32} (h3 : 0 ≤ v.toInt) (h4 : v.toInt ≤ 9) : (v * 10 + b - 48).toInt = v.toInt * 10 + b.toInt - 48 := by
  have e1 : (v * 10).toInt = v.toInt * 10 := by
    rw [Int32.toInt_mul, show (10 : Int32).toInt = 10 from by decide]
    exact bm32 (by omega) (by omega)
  have e2 : (v * 10 + b).toInt = v.toInt * 10 + b.toInt := by
    rw [Int32.toInt_add, e1]
    exact bm32 (by omega) (by omega)
  rw [Int32.toInt_sub, e2, show (48 : Int32).toInt = 48 from by decide]
  exact bm32 (by omega) (by omega)
theorem t_number (m : Mm) {s p : Nat} (h1 : s < p) (h2 : p ≤ s + 2) (hp : p ≤ 160) (hd : ∀ j, s ≤ j → j < p → 48 ≤ (m.1 25 j).toInt ∧ (m.1 25 j).toInt ≤ 57) : ∃ v : Int32, 0 ≤ v.toInt ∧ semZ shP wS (d + 1) 10 [.ref 24] (tm m s p) = some (some (.int v), tm m s p) := by
  have z0 : (0 : Int32).toInt = 0 := by decide
  have d0 := hd s (Nat.le_refl _) h1
  have a0 := dg d0.1 d0.2 (v := 0) (by omega) (by omega)
  by_cases hc : p = s + 1
  · subst hc
    refine ⟨0 * 10 + m.1 25 s - 48, by omega, ?_⟩
    rw [se_X3_number, rn_eq, b_X3_number_0]
    simp only [EV, LV, CB, OI, OL, NP, CZ, popN, CT, OZ, List.map_nil, List.map_cons, List.sum_nil, List.sum_cons, Option.toList, List.nil_append, List.cons_append, Int.reduceToNat, Nat.reduceAdd, Nat.reduceLT, Nat.reduceLeDiff, List.length_cons, List.length_nil, Nat.zero_add, if_true, if_false, reduceIte, and_self, and_true, true_and, eq_self, reduceCtorEq, C24, G24]
    rw [num_step m (by omega) hp, num_end]
  · have hc : p = s + 2 := by omega
    subst hc
    have d1 := hd (s + 1) (by omega) (by omega)
    have a1 := dg d1.1 d1.2 (v := 0 * 10 + m.1 25 s - 48) (by omega) (by omega)
    refine ⟨(0 * 10 + m.1 25 s - 48) * 10 + m.1 25 (s + 1) - 48, by omega, ?_⟩
    rw [se_X3_number, rn_eq, b_X3_number_0]
    simp only [EV, LV, CB, OI, OL, NP, CZ, popN, CT, OZ, List.map_nil, List.map_cons, List.sum_nil, List.sum_cons, Option.toList, List.nil_append, List.cons_append, Int.reduceToNat, Nat.reduceAdd, Nat.reduceLT, Nat.reduceLeDiff, List.length_cons, List.length_nil, Nat.zero_add, if_true, if_false, reduceIte, and_self, and_true, true_and, eq_self, reduceCtorEq, C24, G24]
    rw [num_step m (by omega) hp, num_step m (by omega) hp, num_end]
theorem sw_most : ∀ L, L < 5 → 1 ≤ L → swT 69 0 7 #[48, 69, 69, 69, 69, 60, 63, 66] (nI L) = 69 := by decide +kernel
theorem t_most (L : Nat) (h1 : 1 ≤ L) (h2 : L < 5) (m : Mm) : semZ shP wS (d + 1) 16 [.int (nI L), .int 0] m = some (some (.int 3), m) := by
  rw [se_X4_most, rn_eq, b_X4_most_0]
  simp only [EV, LV, CB, OI, OL, NP, CZ, popN, CT, OZ, List.map_nil, List.map_cons, List.sum_nil, List.sum_cons, Option.toList, List.nil_append, List.cons_append, Int.reduceToNat, Nat.reduceAdd, Nat.reduceLT, Nat.reduceLeDiff, List.length_cons, List.length_nil, Nat.zero_add, if_true, if_false, reduceIte, and_self, and_true, true_and, eq_self, reduceCtorEq, sw_most L h2 h1]
  rw [rn_eq, b_X4_most_69]
  simp only [EV, LV, CB, OI, OL, NP, CZ, popN, CT, OZ, List.map_nil, List.map_cons, List.sum_nil, List.sum_cons, Option.toList, List.nil_append, List.cons_append, Int.reduceToNat, Nat.reduceAdd, Nat.reduceLT, Nat.reduceLeDiff, List.length_cons, List.length_nil, Nat.zero_add, if_true, if_false, reduceIte, and_self, and_true, true_and, eq_self, reduceCtorEq, not_true_eq_false]
  rw [rn_eq, b_X4_most_79]
  simp only [EV, LV, CB, OI, OL, NP, CZ, popN, CT, OZ, List.map_nil, List.map_cons, List.sum_nil, List.sum_cons, Option.toList, List.nil_append, List.cons_append, Int.reduceToNat, Nat.reduceAdd, Nat.reduceLT, Nat.reduceLeDiff, List.length_cons, List.length_nil, Nat.zero_add, if_true, if_false, reduceIte, and_self, and_true, true_and, eq_self, reduceCtorEq]
end Tn
theorem nI_in4 {x : Int32} (h1 : 1 ≤ x.toInt) (h2 : x.toInt ≤ 4) : ∃ L : Nat, 1 ≤ L ∧ L < 5 ∧ x = nI L := ⟨x.toInt.toNat, by omega, by omega, i_nI (by omega)⟩
theorem mT_15 : mT 15 = some .boolean := by decide +kernel
