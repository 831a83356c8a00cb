/-! BY HAND: contracts of the small methods -/
theorem ret01 (b : Bool) : retG (iA 0 1) (some (.int (bI b))) := by
  refine ⟨bI b, rfl, gN_i ?_ ?_, Or.inl rfl, Or.inl rfl, fun _ q hq => by cases hq⟩ <;> cases b <;> decide
theorem retc0 : retG (cst 0) (some (.int 0)) := ⟨0, rfl, Or.inr ⟨by decide, by decide, ⟨0, by decide⟩⟩, Or.inl rfl, Or.inl rfl, fun _ q hq => by cases hq⟩
theorem retJ (x : Int64) : retG tJ (some (.long x)) := ⟨x, rfl, (r64 x).1, (r64 x).2, Or.inl rfl⟩
theorem frm_rf {W : Wr} {m : Mm} : frm W m m := fun _ _ _ _ _ => ⟨rfl, rfl⟩
theorem bI_nz {b : Bool} (h : (bI b).toInt ≠ 0) : b = true := by
  cases b with
  | true => rfl
  | false => exact absurd (by decide) h
def jA (lo hi : Int) : AV := some (.inr (.inr (lo, hi, 0)))
section Hh
variable {T : List (List (Int × Int))} {sh : List ShE} {wS : List Value → Mm → Option Rs} (d : Nat)
theorem hd_within (lo hi a a' b b' : Int) : Hd T (semZ sh wS (d + 1)) (99, [iA lo hi, iA a a', iA b b'], [], iA 0 1, [], ([], []), [(0, a, b')]) := by
  intro As m g hI hR
  obtain ⟨v1, vs, rfl, k1, g⟩ := gT_cons g
  obtain ⟨v2, vs, rfl, k2, g⟩ := gT_cons g
  obtain ⟨v3, vs, rfl, k3, g⟩ := gT_cons g
  cases gT_nil g
  obtain ⟨x, rfl, x1, -⟩ := k1
  obtain ⟨p, rfl, p1, -⟩ := k2
  obtain ⟨q, rfl, q1, -⟩ := k3
  have p2 : a ≤ p.toInt := (gN_hul p1).1
  have q2 : q.toInt ≤ b' := (gN_hul q1).2.1
  refine ⟨_, m, t_within wS d x p q m, ret01 _, hI, rho_nil, frm_rf, ?_⟩
  intro y hy h0 z hz
  cases hy
  rw [List.mem_singleton] at hz
  subst hz
  have h1 := bI_nz h0
  simp only [Bool.and_eq_true, decide_eq_true_eq, Int32.le_iff_toInt_le] at h1
  exact Or.inl ⟨by first | decide | (show (0 : Nat) < 1000; decide) | (show (1 : Nat) < 1000; decide), .int x, x.toInt, rfl, rfl, by show a ≤ _; omega, by show _ ≤ b'; omega⟩
theorem hd_within0 (lo hi a a' b b' : Int) (hh : hi < a ∨ b' < lo) : Hd T (semZ sh wS (d + 1)) (99, [iA lo hi, iA a a', iA b b'], [], cst 0, [], ([], []), []) := by
  intro As m g hI hR
  obtain ⟨v1, vs, rfl, k1, g⟩ := gT_cons g
  obtain ⟨v2, vs, rfl, k2, g⟩ := gT_cons g
  obtain ⟨v3, vs, rfl, k3, g⟩ := gT_cons g
  cases gT_nil g
  obtain ⟨x, rfl, x1, -⟩ := k1
  obtain ⟨p, rfl, p1, -⟩ := k2
  obtain ⟨q, rfl, q1, -⟩ := k3
  have p2 : a ≤ p.toInt := (gN_hul p1).1
  have q2 : q.toInt ≤ b' := (gN_hul q1).2.1
  have x2 : lo ≤ x.toInt := (gN_hul x1).1
  have x3 : x.toInt ≤ hi := (gN_hul x1).2.1
  have e : (decide (p ≤ x) && decide (x ≤ q)) = false := by
    cases h : (decide (p ≤ x) && decide (x ≤ q)) with
    | false => rfl
    | true =>
      simp only [Bool.and_eq_true, decide_eq_true_eq, Int32.le_iff_toInt_le] at h
      omega
  have t := t_within (sh := sh) wS d x p q m
  rw [e] at t
  exact ⟨_, m, t, retc0, hI, rho_nil, frm_rf, fun _ _ _ q hq => by cases hq⟩
theorem hd_in (lo hi a a' b b' : Int) : Hd T (semZ sh wS (d + 1)) (101, [jA lo hi, jA a a', jA b b'], [], iA 0 1, [], ([], []), [(0, a, b')]) := by
  intro As m g hI hR
  obtain ⟨v1, vs, rfl, k1, g⟩ := gT_cons g
  obtain ⟨v2, vs, rfl, k2, g⟩ := gT_cons g
  obtain ⟨v3, vs, rfl, k3, g⟩ := gT_cons g
  cases gT_nil g
  obtain ⟨x, rfl, x1, -⟩ := k1
  obtain ⟨p, rfl, p1, -⟩ := k2
  obtain ⟨q, rfl, q1, q2, -⟩ := k3
  refine ⟨_, m, t_in wS d x p q m, ret01 _, hI, rho_nil, frm_rf, ?_⟩
  intro y hy h0 z hz
  cases hy
  rw [List.mem_singleton] at hz
  subst hz
  have h1 := bI_nz h0
  simp only [Bool.and_eq_true, decide_eq_true_eq, Int64.le_iff_toInt_le] at h1
  exact Or.inl ⟨by first | decide | (show (0 : Nat) < 1000; decide) | (show (1 : Nat) < 1000; decide), .long x, x.toInt, rfl, rfl, by show a ≤ _; omega, by show _ ≤ b'; omega⟩
theorem hd_in0 (lo hi a a' b b' : Int) (hh : hi < a ∨ b' < lo) : Hd T (semZ sh wS (d + 1)) (101, [jA lo hi, jA a a', jA b b'], [], cst 0, [], ([], []), []) := by
  intro As m g hI hR
  obtain ⟨v1, vs, rfl, k1, g⟩ := gT_cons g
  obtain ⟨v2, vs, rfl, k2, g⟩ := gT_cons g
  obtain ⟨v3, vs, rfl, k3, g⟩ := gT_cons g
  cases gT_nil g
  obtain ⟨x, rfl, x1, x2, -⟩ := k1
  obtain ⟨p, rfl, p1, -⟩ := k2
  obtain ⟨q, rfl, q1, q2, -⟩ := k3
  have e : (decide (p ≤ x) && decide (x ≤ q)) = false := by
    cases h : (decide (p ≤ x) && decide (x ≤ q)) with
    | false => rfl
    | true =>
      simp only [Bool.and_eq_true, decide_eq_true_eq, Int64.le_iff_toInt_le] at h
      omega
  have t := t_in (sh := sh) wS d x p q m
  rw [e] at t
  exact ⟨_, m, t, retc0, hI, rho_nil, frm_rf, fun _ _ _ q hq => by cases hq⟩
/-- a question about one whole number, asked of an object or of none -/
theorem hd_q1 {z r : Nat} {f : Int32 → Mm → Bool} {hi : Int} {k : Nat} (ht : ∀ (v : Int32) (m : Mm), semZ sh wS k z [.ref r, .int v] m = some (some (.int (bI (f v m))), m)) (hb : ∀ (v : Int32) (m : Mm), InvT T m → f v m = true → 0 ≤ v.toInt ∧ v.toInt ≤ hi) : Hd T (semZ sh wS k) (z, [some (.inr (.inl [r])), tI], [], iA 0 1, [], ([], []), [(1, 0, hi)]) := by
  intro As m g hI hR
  obtain ⟨v1, vs, rfl, k1, g⟩ := gT_cons g
  obtain ⟨v2, vs, rfl, k2, g⟩ := gT_cons g
  cases gT_nil g
  obtain ⟨r', rfl, hr⟩ := k1
  rw [List.mem_singleton] at hr
  subst hr
  obtain ⟨x, rfl, -⟩ := k2
  refine ⟨_, m, ht x m, ret01 _, hI, rho_nil, frm_rf, ?_⟩
  intro y hy h0 z hz
  cases hy
  rw [List.mem_singleton] at hz
  subst hz
  have h1 := hb x m hI (bI_nz h0)
  exact Or.inl ⟨by first | decide | (show (0 : Nat) < 1000; decide) | (show (1 : Nat) < 1000; decide), .int x, x.toInt, rfl, rfl, h1.1, h1.2⟩
theorem hd_q0 {z : Nat} {f : Int32 → Mm → Bool} {hi : Int} {k : Nat} (ht : ∀ (v : Int32) (m : Mm), semZ sh wS k z [.int v] m = some (some (.int (bI (f v m))), m)) (hb : ∀ (v : Int32) (m : Mm), InvT T m → f v m = true → 0 ≤ v.toInt ∧ v.toInt ≤ hi) : Hd T (semZ sh wS k) (z, [tI], [], iA 0 1, [], ([], []), [(0, 0, hi)]) := by
  intro As m g hI hR
  obtain ⟨v2, vs, rfl, k2, g⟩ := gT_cons g
  cases gT_nil g
  obtain ⟨x, rfl, -⟩ := k2
  refine ⟨_, m, ht x m, ret01 _, hI, rho_nil, frm_rf, ?_⟩
  intro y hy h0 z hz
  cases hy
  rw [List.mem_singleton] at hz
  subst hz
  have h1 := hb x m hI (bI_nz h0)
  exact Or.inl ⟨by first | decide | (show (0 : Nat) < 1000; decide) | (show (1 : Nat) < 1000; decide), .int x, x.toInt, rfl, rfl, h1.1, h1.2⟩
theorem t_gd (a b : Int64) (m : Mm) : ∃ r, semZ sh wS (d + 1) 81 [.long a, .long b] m = some (some (.long r), m) := by
  obtain ⟨r, hr⟩ := t_gd_l (sh := sh) wS d m 1000 0 a b noV rfl (Or.inl rfl)
  refine ⟨r, ?_⟩
  rw [se_X6_greatestDivisor, rn_eq, b_X6_greatestDivisor_0]
  simp only [EV, LV, CB, OI, OL, NP, CZ, popN, CT, OZ, List.map_nil, List.map_cons, List.sum_nil, List.sum_cons, Option.toList, List.nil_append, List.cons_append, Int.reduceToNat, Nat.reduceAdd, Nat.reduceLT, Nat.reduceLeDiff, List.length_cons, List.length_nil, Nat.zero_add, if_true, if_false, reduceIte, and_self, and_true, true_and, eq_self, reduceCtorEq]
  exact hr
theorem hd_pf : Hd T (semZ sh wS (d + 2)) (80, [tJ, tJ, tI], [], tJ, [], ([], []), []) := by
  intro As m g hI hR
  obtain ⟨v1, vs, rfl, k1, g⟩ := gT_cons g
  obtain ⟨v2, vs, rfl, k2, g⟩ := gT_cons g
  obtain ⟨v3, vs, rfl, k3, g⟩ := gT_cons g
  cases gT_nil g
  obtain ⟨a, rfl, -⟩ := k1
  obtain ⟨b, rfl, -⟩ := k2
  obtain ⟨x, rfl, -⟩ := k3
  obtain ⟨r, hr⟩ := t_gd (sh := sh) (wS := wS) d a b m
  have key : ∃ y, semZ sh wS (d + 2) 80 [.long a, .long b, .int x] m = some (some (.long y), m) := by
    by_cases h0 : r = 0
    · refine ⟨0, ?_⟩
      have e2 : lg_cmp r 0 = 0 := by rw [h0]; decide
      rw [se_X6_partOfFraction, rn_eq, b_X6_partOfFraction_0]
      simp only [EV, LV, CB, OI, OL, NP, CZ, popN, CT, OZ, List.map_nil, List.map_cons, List.sum_nil, List.sum_cons, Option.toList, List.nil_append, List.cons_append, Int.reduceToNat, Nat.reduceAdd, Nat.reduceLT, Nat.reduceLeDiff, List.length_cons, List.length_nil, Nat.zero_add, if_true, if_false, reduceIte, and_self, and_true, true_and, eq_self, reduceCtorEq, hr, e2, not_true_eq_false]
    · have e2 : ¬ lg_cmp r 0 = 0 := by
        unfold lg_cmp
        (repeat' split) <;> first | decide | exact absurd ‹_› h0
      by_cases hx : x = 0
      · refine ⟨a / r, ?_⟩
        rw [se_X6_partOfFraction, rn_eq, b_X6_partOfFraction_0]
        simp only [EV, LV, CB, OI, OL, NP, CZ, popN, CT, OZ, List.map_nil, List.map_cons, List.sum_nil, List.sum_cons, Option.toList, List.nil_append, List.cons_append, Int.reduceToNat, Nat.reduceAdd, Nat.reduceLT, Nat.reduceLeDiff, List.length_cons, List.length_nil, Nat.zero_add, if_true, if_false, reduceIte, and_self, and_true, true_and, eq_self, reduceCtorEq, hr, e2, not_false_eq_true]
        rw [rn_eq, b_X6_partOfFraction_16]
        simp only [EV, LV, CB, OI, OL, NP, CZ, popN, CT, OZ, List.map_nil, List.map_cons, List.sum_nil, List.sum_cons, Option.toList, List.nil_append, List.cons_append, Int.reduceToNat, Nat.reduceAdd, Nat.reduceLT, Nat.reduceLeDiff, List.length_cons, List.length_nil, Nat.zero_add, if_true, if_false, reduceIte, and_self, and_true, true_and, eq_self, reduceCtorEq, hx, h0, not_true_eq_false]
        rw [rn_eq, b_X6_partOfFraction_32]
        simp only [EV, LV, CB, OI, OL, NP, CZ, popN, CT, OZ, List.map_nil, List.map_cons, List.sum_nil, List.sum_cons, Option.toList, List.nil_append, List.cons_append, Int.reduceToNat, Nat.reduceAdd, Nat.reduceLT, Nat.reduceLeDiff, List.length_cons, List.length_nil, Nat.zero_add, if_true, if_false, reduceIte, and_self, and_true, true_and, eq_self, reduceCtorEq]
      · refine ⟨b / r, ?_⟩
        rw [se_X6_partOfFraction, rn_eq, b_X6_partOfFraction_0]
        simp only [EV, LV, CB, OI, OL, NP, CZ, popN, CT, OZ, List.map_nil, List.map_cons, List.sum_nil, List.sum_cons, Option.toList, List.nil_append, List.cons_append, Int.reduceToNat, Nat.reduceAdd, Nat.reduceLT, Nat.reduceLeDiff, List.length_cons, List.length_nil, Nat.zero_add, if_true, if_false, reduceIte, and_self, and_true, true_and, eq_self, reduceCtorEq, hr, e2, not_false_eq_true]
        rw [rn_eq, b_X6_partOfFraction_16]
        simp only [EV, LV, CB, OI, OL, NP, CZ, popN, CT, OZ, List.map_nil, List.map_cons, List.sum_nil, List.sum_cons, Option.toList, List.nil_append, List.cons_append, Int.reduceToNat, Nat.reduceAdd, Nat.reduceLT, Nat.reduceLeDiff, List.length_cons, List.length_nil, Nat.zero_add, if_true, if_false, reduceIte, and_self, and_true, true_and, eq_self, reduceCtorEq, hx, h0, not_false_eq_true]
        rw [rn_eq, b_X6_partOfFraction_28]
        simp only [EV, LV, CB, OI, OL, NP, CZ, popN, CT, OZ, List.map_nil, List.map_cons, List.sum_nil, List.sum_cons, Option.toList, List.nil_append, List.cons_append, Int.reduceToNat, Nat.reduceAdd, Nat.reduceLT, Nat.reduceLeDiff, List.length_cons, List.length_nil, Nat.zero_add, if_true, if_false, reduceIte, and_self, and_true, true_and, eq_self, reduceCtorEq, h0]
  obtain ⟨y, hy⟩ := key
  exact ⟨_, m, hy, retJ y, hI, rho_nil, frm_rf, fun _ _ _ q hq => by cases hq⟩
end Hh
/-! rows written anew -/
section Hr
variable {T : List (List (Int × Int))} {m mE : Mm} {W : Wr}
theorem Inv_setR {o : Nat} {f : Nat → Int32} (h : InvT T m) (hf : ∀ j, (ivO T o j).1 ≤ (f j).toInt ∧ (f j).toInt ≤ (ivO T o j).2) : InvT T (setR m o f) := by
  intro o' j
  rw [setR_at]
  split
  · rename_i e
    rw [e]
    exact hf j
  · exact h o' j
theorem frm_setR {o : Nat} {f : Nat → Int32} (h : frm W mE m) (ho : o ∈ W.1) : frm W mE (setR m o f) := by
  intro o' j h1 h2 h3
  refine ⟨?_, (h o' j h1 h2 h3).2⟩
  rw [setR_at, if_neg (fun e => h2 (by rw [e]; exact ho))]
  exact (h o' j h1 h2 h3).1
theorem cel_setR {o : Nat} {f : Nat → Int32} {c : Nat} : cel (setR m o f) c = if c / 200 = o then (f (c % 200)).toInt else cel m c := by
  unfold cel
  rw [setR_at]
  split <;> rfl
theorem fill_bd {f g : Nat → Int32} {n o p : Nat} (hf : ∀ j, (ivO T p j).1 ≤ (f j).toInt ∧ (f j).toInt ≤ (ivO T p j).2) (hg : ∀ j, (ivO T o j).1 ≤ (g j).toInt ∧ (g j).toInt ≤ (ivO T o j).2) (hc : (List.range n).all (fun j => decide ((ivO T o j).1 ≤ (ivO T p j).1) && decide ((ivO T p j).2 ≤ (ivO T o j).2)) = true) : ∀ j, (ivO T o j).1 ≤ (fillR f g n j).toInt ∧ (fillR f g n j).toInt ≤ (ivO T o j).2 := by
  intro j
  unfold fillR
  split
  · rename_i h
    have k := List.all_eq_true.mp hc j (List.mem_range.mpr h)
    simp only [Bool.and_eq_true, decide_eq_true_eq] at k
    have := hf j
    omega
  · exact hg j
end Hr
theorem frm_row {mE m : Mm} {W : Wr} {o : Nat} {f : Nat → Int32} (h : frm W mE m) (hf : ∀ j, j < 200 → f j ≠ m.1 o j → inW W o j = true) : frm W mE (setR m o f) := by
  intro o' j h1 h2 h3
  refine ⟨?_, (h o' j h1 h2 h3).2⟩
  rw [setR_at]
  split
  · rename_i e
    subst e
    by_cases q : f j = m.1 o' j
    · rw [q]
      exact (h o' j h1 h2 h3).1
    · have := hf j h1 q
      unfold inW at this
      simp only [Bool.or_eq_true, List.contains_iff_mem] at this
      rcases this with t | t
      · exact absurd t h2
      · exact absurd t h3
  · exact (h o' j h1 h2 h3).1
theorem row_in {W : Wr} {o a j : Nat} (hc : (List.range 63).all (fun i => inW W o (a + i)) = true) (h1 : j < a + 63) (h0 : a ≤ j := by omega) : inW W o j = true := by
  have := List.all_eq_true.mp hc (j - a) (List.mem_range.mpr (by omega))
  rwa [show a + (j - a) = j by omega] at this
theorem tv_70 : (List.range 63).all (fun j => decide ((ivO TV 70 j).1 ≤ (ivO TV 69 j).1) && decide ((ivO TV 69 j).2 ≤ (ivO TV 70 j).2)) = true := by decide +kernel
theorem tv_74 : ∀ j, ivO TV 74 j = (0, 3) := fun j => by
  rw [iv_1 (by decide)]
  decide
theorem iv_6941 : ivO TV 69 41 = (1, 9) := by decide +kernel
theorem hd_starts (wS : List Value → Mm → Option Rs) (d : Nat) : Hd TV (semZ shP wS (d + 1)) h_44 := by
  intro As m g hI hR
  obtain ⟨v1, vs, rfl, k1, g⟩ := gT_cons g
  cases gT_nil g
  obtain ⟨r', rfl, hr⟩ := k1
  have hr : r' = 68 := List.mem_singleton.mp hr
  subst hr
  refine ⟨_, _, t_starts wS d MP68 m, trivial, ?_, ?_, frm_setR (frm_setR frm_rf (by decide)) (by decide), fun _ _ _ q hq => by cases hq⟩
  · refine Inv_setR (Inv_setR hI (fill_bd (fun j => hI 69 j) (fun j => hI 70 j) tv_70)) (fun j => ?_)
    rw [tv_74]
    unfold fillR
    split
    · rename_i h
      rw [nI_toInt (by omega)]
      exact ⟨by show (0 : Int) ≤ _; omega, by show _ ≤ (3 : Int); omega⟩
    · have := hI 74 j
      rw [tv_74] at this
      exact this
  · have b := hI 69 41
    rw [iv_6941] at b
    have e : fillR (m.1 (68 + 1)) (m.1 (68 + 2)) 63 (14041 % 200) = m.1 69 41 := by
      unfold fillR
      rw [if_pos (by decide)]
    refine rho_one ?_ ?_
    · rw [cel_setR, if_neg (by decide), cel_setR, if_pos (by decide), e]
      exact b.1
    · rw [cel_setR, if_neg (by decide), cel_setR, if_pos (by decide), e]
      exact b.2
theorem tv_69 : (List.range 63).all (fun j => decide (j = 41) || (decide ((ivO TV 69 j).1 ≤ (ivO TV 70 j).1) && decide ((ivO TV 70 j).2 ≤ (ivO TV 69 j).2))) = true := by decide +kernel
theorem hd_settles (wS : List Value → Mm → Option Rs) (d : Nat) : Hd TV (semZ shP wS (d + 1)) h_45 := by
  intro As m g hI hR
  obtain ⟨v1, vs, rfl, k1, g⟩ := gT_cons g
  cases gT_nil g
  obtain ⟨r', rfl, hr⟩ := k1
  have hr : r' = 68 := List.mem_singleton.mp hr
  subst hr
  refine ⟨_, _, t_settles wS d MP68 m, trivial, Inv_setR hI (fun j => ?_), rho_nil, frm_row frm_rf (fun j hj hne => row_in (a := 0) (by decide +kernel) (by unfold fillR at hne; split at hne; omega; exact absurd rfl hne)), fun _ _ _ q hq => by cases hq⟩
  unfold fillR
  split
  · rename_i h
    have k := List.all_eq_true.mp tv_69 j (List.mem_range.mpr h)
    simp only [Bool.and_eq_true, Bool.or_eq_true, decide_eq_true_eq] at k
    rcases k with k | k
    · subst k
      have := hR (14041, 1, 9) (List.mem_singleton.mpr rfl)
      rw [iv_6941]
      exact this
    · have := hI 70 j
      show (ivO TV 69 j).1 ≤ (m.1 70 j).toInt ∧ (m.1 70 j).toInt ≤ (ivO TV 69 j).2
      omega
  · exact hI 69 j
theorem tv_cp : (List.range 63).all (fun j => (decide ((ivO TV 69 (63 + j)).1 ≤ (ivO TV 69 j).1) && decide ((ivO TV 69 j).2 ≤ (ivO TV 69 (63 + j)).2)) && (decide ((ivO TV 69 (126 + j)).1 ≤ (ivO TV 69 j).1) && decide ((ivO TV 69 j).2 ≤ (ivO TV 69 (126 + j)).2)) && (decide (j = 41) || ((decide ((ivO TV 69 j).1 ≤ (ivO TV 69 (63 + j)).1) && decide ((ivO TV 69 (63 + j)).2 ≤ (ivO TV 69 j).2)) && (decide ((ivO TV 69 j).1 ≤ (ivO TV 69 (126 + j)).1) && decide ((ivO TV 69 (126 + j)).2 ≤ (ivO TV 69 j).2))))) = true := by decide +kernel
theorem cp_bd {m : Mm} (hI : InvT TV m) {t s : Nat} (h : ∀ j, j < 63 → (ivO TV 69 (t + j)).1 ≤ (m.1 69 (s + j)).toInt ∧ (m.1 69 (s + j)).toInt ≤ (ivO TV 69 (t + j)).2) : InvT TV (setR m 69 (cpR (m.1 69) t s 63)) := by
  refine Inv_setR hI (fun j => ?_)
  unfold cpR
  split
  · rename_i hj
    have := h (j - t) (by omega)
    rw [show t + (j - t) = j by omega] at this
    exact this
  · exact hI 69 j
theorem hd_copies0 (wS : List Value → Mm → Option Rs) (d : Nat) : Hd TV (semZ shP wS (d + 1)) h_49 := by
  intro As m g hI hR
  obtain ⟨v1, vs, rfl, k1, g⟩ := gT_cons g
  obtain ⟨v2, vs, rfl, k2, g⟩ := gT_cons g
  obtain ⟨v3, vs, rfl, k3, g⟩ := gT_cons g
  cases gT_nil g
  obtain ⟨r', rfl, hr⟩ := k1
  have hr : r' = 68 := List.mem_singleton.mp hr
  subst hr
  obtain ⟨x, rfl, x1, -⟩ := k2
  obtain ⟨y, rfl, y1, -⟩ := k3
  have ex : x.toInt = 63 := gN_1 x1 rfl
  have ey : y.toInt = 0 := gN_1 y1 rfl
  have fx := i_nI (y := x) (by omega)
  have fy := i_nI (y := y) (by omega)
  rw [ex] at fx
  rw [ey] at fy
  rw [fx, fy]
  refine ⟨_, _, t_copies wS d MP68 m 63 0 (by omega) (by omega) (by omega), trivial, cp_bd hI (fun j hj => ?_), ?_, frm_row frm_rf (fun j hj hne => row_in (a := 63) (by decide +kernel) (by unfold cpR at hne; split at hne; omega; exact absurd rfl hne) (by unfold cpR at hne; split at hne; omega; exact absurd rfl hne)), fun _ _ _ q hq => by cases hq⟩
  · have k := List.all_eq_true.mp tv_cp j (List.mem_range.mpr hj)
    simp only [Bool.and_eq_true, decide_eq_true_eq] at k
    obtain ⟨⟨k1, k2⟩, -⟩ := k
    have b := hI 69 j
    rw [Nat.zero_add]
    omega
  · have b := hI 69 41
    rw [iv_6941] at b
    have e : cel (setR m 69 (cpR (m.1 69) 63 0 63)) 13904 = (m.1 69 41).toInt := by
      rw [cel_setR, if_pos (by decide)]
      unfold cpR
      rw [if_pos (by decide)]
    refine rho_one ?_ ?_
    · show _ ≤ cel (setR m 69 (cpR (m.1 69) 63 0 63)) 13904
      rw [e]; exact b.1
    · show cel (setR m 69 (cpR (m.1 69) 63 0 63)) 13904 ≤ _
      rw [e]; exact b.2
theorem hd_copies1 (wS : List Value → Mm → Option Rs) (d : Nat) : Hd TV (semZ shP wS (d + 1)) h_50 := by
  intro As m g hI hR
  obtain ⟨v1, vs, rfl, k1, g⟩ := gT_cons g
  obtain ⟨v2, vs, rfl, k2, g⟩ := gT_cons g
  obtain ⟨v3, vs, rfl, k3, g⟩ := gT_cons g
  cases gT_nil g
  obtain ⟨r', rfl, hr⟩ := k1
  have hr : r' = 68 := List.mem_singleton.mp hr
  subst hr
  obtain ⟨x, rfl, x1, -⟩ := k2
  obtain ⟨y, rfl, y1, -⟩ := k3
  have ex : x.toInt = 126 := gN_1 x1 rfl
  have ey : y.toInt = 0 := gN_1 y1 rfl
  have fx := i_nI (y := x) (by omega)
  have fy := i_nI (y := y) (by omega)
  rw [ex] at fx
  rw [ey] at fy
  rw [fx, fy]
  refine ⟨_, _, t_copies wS d MP68 m 126 0 (by omega) (by omega) (by omega), trivial, cp_bd hI (fun j hj => ?_), ?_, frm_row frm_rf (fun j hj hne => row_in (a := 126) (by decide +kernel) (by unfold cpR at hne; split at hne; omega; exact absurd rfl hne) (by unfold cpR at hne; split at hne; omega; exact absurd rfl hne)), fun _ _ _ q hq => by cases hq⟩
  · have k := List.all_eq_true.mp tv_cp j (List.mem_range.mpr hj)
    simp only [Bool.and_eq_true, decide_eq_true_eq] at k
    obtain ⟨⟨k1, k2⟩, -⟩ := k
    have b := hI 69 j
    rw [Nat.zero_add]
    omega
  · have b := hI 69 41
    rw [iv_6941] at b
    have e : cel (setR m 69 (cpR (m.1 69) 126 0 63)) 13967 = (m.1 69 41).toInt := by
      rw [cel_setR, if_pos (by decide)]
      unfold cpR
      rw [if_pos (by decide)]
    refine rho_one ?_ ?_
    · show _ ≤ cel (setR m 69 (cpR (m.1 69) 126 0 63)) 13967
      rw [e]; exact b.1
    · show cel (setR m 69 (cpR (m.1 69) 126 0 63)) 13967 ≤ _
      rw [e]; exact b.2
theorem hd_copies2 (wS : List Value → Mm → Option Rs) (d : Nat) : Hd TV (semZ shP wS (d + 1)) h_47 := by
  intro As m g hI hR
  obtain ⟨v1, vs, rfl, k1, g⟩ := gT_cons g
  obtain ⟨v2, vs, rfl, k2, g⟩ := gT_cons g
  obtain ⟨v3, vs, rfl, k3, g⟩ := gT_cons g
  cases gT_nil g
  obtain ⟨r', rfl, hr⟩ := k1
  have hr : r' = 68 := List.mem_singleton.mp hr
  subst hr
  obtain ⟨x, rfl, x1, -⟩ := k2
  obtain ⟨y, rfl, y1, -⟩ := k3
  have ex : x.toInt = 0 := gN_1 x1 rfl
  have ey : y.toInt = 63 := gN_1 y1 rfl
  have fx := i_nI (y := x) (by omega)
  have fy := i_nI (y := y) (by omega)
  rw [ex] at fx
  rw [ey] at fy
  rw [fx, fy]
  refine ⟨_, _, t_copies wS d MP68 m 0 63 (by omega) (by omega) (by omega), trivial, cp_bd hI (fun j hj => ?_), rho_nil, frm_row frm_rf (fun j hj hne => row_in (a := 0) (by decide +kernel) (by unfold cpR at hne; split at hne; omega; exact absurd rfl hne)), fun _ _ _ q hq => by cases hq⟩
  have k := List.all_eq_true.mp tv_cp j (List.mem_range.mpr hj)
  simp only [Bool.and_eq_true, Bool.or_eq_true, decide_eq_true_eq] at k
  rw [Nat.zero_add]
  rcases k.2 with k | k
  · subst k
    have := hR (13904, 1, 9) (List.mem_singleton.mpr rfl)
    rw [iv_6941]
    exact this
  · have b := hI 69 (63 + j)
    omega
theorem hd_copies3 (wS : List Value → Mm → Option Rs) (d : Nat) : Hd TV (semZ shP wS (d + 1)) h_48 := by
  intro As m g hI hR
  obtain ⟨v1, vs, rfl, k1, g⟩ := gT_cons g
  obtain ⟨v2, vs, rfl, k2, g⟩ := gT_cons g
  obtain ⟨v3, vs, rfl, k3, g⟩ := gT_cons g
  cases gT_nil g
  obtain ⟨r', rfl, hr⟩ := k1
  have hr : r' = 68 := List.mem_singleton.mp hr
  subst hr
  obtain ⟨x, rfl, x1, -⟩ := k2
  obtain ⟨y, rfl, y1, -⟩ := k3
  have ex : x.toInt = 0 := gN_1 x1 rfl
  have ey : y.toInt = 126 := gN_1 y1 rfl
  have fx := i_nI (y := x) (by omega)
  have fy := i_nI (y := y) (by omega)
  rw [ex] at fx
  rw [ey] at fy
  rw [fx, fy]
  refine ⟨_, _, t_copies wS d MP68 m 0 126 (by omega) (by omega) (by omega), trivial, cp_bd hI (fun j hj => ?_), rho_nil, frm_row frm_rf (fun j hj hne => row_in (a := 0) (by decide +kernel) (by unfold cpR at hne; split at hne; omega; exact absurd rfl hne)), fun _ _ _ q hq => by cases hq⟩
  have k := List.all_eq_true.mp tv_cp j (List.mem_range.mpr hj)
  simp only [Bool.and_eq_true, Bool.or_eq_true, decide_eq_true_eq] at k
  rw [Nat.zero_add]
  rcases k.2 with k | k
  · subst k
    have := hR (13967, 1, 9) (List.mem_singleton.mpr rfl)
    rw [iv_6941]
    exact this
  · have b := hI 69 (126 + j)
    omega
theorem pw_v {m : Mm} (hI : InvT TV m) {w : Nat} (hw : ivO TV w 0 = (0, 4)) {v : Int32} (h : (decide (0 ≤ v) && decide (v < m.1 w 0)) = true) : 0 ≤ v.toInt ∧ v.toInt ≤ 3 := by
  simp only [Bool.and_eq_true, decide_eq_true_eq, Int32.le_iff_toInt_le, Int32.lt_iff_toInt_lt] at h
  have b := (hI w 0).2
  rw [hw] at b
  have h0 : (0 : Int32).toInt = 0 := by decide
  have b2 : (m.1 w 0).toInt ≤ 4 := b
  omega
theorem pw_b {m : Mm} (hI : InvT TV m) {w : Nat} (hw : ivO TV w 1 = (0, 6)) {v : Int32} (h : (decide (0 ≤ v) && decide (v < m.1 w 1)) = true) : 0 ≤ v.toInt ∧ v.toInt ≤ 5 := by
  simp only [Bool.and_eq_true, decide_eq_true_eq, Int32.le_iff_toInt_le, Int32.lt_iff_toInt_lt] at h
  have b := (hI w 1).2
  rw [hw] at b
  have h0 : (0 : Int32).toInt = 0 := by decide
  have b2 : (m.1 w 1).toInt ≤ 6 := b
  omega
theorem sub1_i {x : Int32} (h : 0 ≤ x.toInt) : (x - 1).toInt = x.toInt - 1 := by
  have r := r32 x
  rw [Int32.toInt_sub, show (1 : Int32).toInt = 1 from by decide]
  exact bm32 (by omega) (by omega)
theorem pm_v {m : Mm} (hI : InvT TV m) {v : Int32} (h : (decide (0 ≤ v.toInt64) && decide (v.toInt64 ≤ (m.1 68 3 - 1).toInt64)) = true) : 0 ≤ v.toInt ∧ v.toInt ≤ 3 := by
  simp only [Bool.and_eq_true, decide_eq_true_eq, Int64.le_iff_toInt_le, Int32.toInt_toInt64] at h
  have b := hI 68 3
  rw [show ivO TV 68 3 = (0, 4) from by decide +kernel] at b
  have b1 : 0 ≤ (m.1 68 3).toInt := b.1
  have b2 : (m.1 68 3).toInt ≤ 4 := b.2
  have h0 : (0 : Int64).toInt = 0 := by decide
  rw [sub1_i b1] at h
  omega
theorem pm_b {m : Mm} (hI : InvT TV m) {v : Int32} (h : (decide (0 ≤ v.toInt64) && decide (v.toInt64 ≤ (m.1 69 38 - 1).toInt64)) = true) : 0 ≤ v.toInt ∧ v.toInt ≤ 5 := by
  simp only [Bool.and_eq_true, decide_eq_true_eq, Int64.le_iff_toInt_le, Int32.toInt_toInt64] at h
  have b := hI 69 38
  rw [show ivO TV 69 38 = (0, 6) from by decide +kernel] at b
  have b1 : 0 ≤ (m.1 69 38).toInt := b.1
  have b2 : (m.1 69 38).toInt ≤ 6 := b.2
  have h0 : (0 : Int64).toInt = 0 := by decide
  rw [sub1_i b1] at h
  omega
theorem pm_n {n : Int64} {N : Int} (hn : n.toInt = N) {v : Int32} (h : (decide (0 ≤ v.toInt64) && decide (v.toInt64 ≤ n)) = true) : 0 ≤ v.toInt ∧ v.toInt ≤ N := by
  simp only [Bool.and_eq_true, decide_eq_true_eq, Int64.le_iff_toInt_le, Int32.toInt_toInt64] at h
  have h0 : (0 : Int64).toInt = 0 := by decide
  omega
theorem hd_sheet (wS : List Value → Mm → Option Rs) (d : Nat) : Hd TV (semZ shP wS (d + 2)) h_51 := by
  intro As m g hI hR
  obtain ⟨v1, vs, rfl, k1, g⟩ := gT_cons g
  obtain ⟨v2, vs, rfl, k2, g⟩ := gT_cons g
  cases gT_nil g
  obtain ⟨x, rfl, -⟩ := k1
  obtain ⟨y, rfl, -⟩ := k2
  refine ⟨_, m, t_isSheet wS d x y m, ret01 _, hI, rho_nil, frm_rf, ?_⟩
  intro y' hy h0 z hz
  cases hy
  have h1 := bI_nz h0
  rw [Bool.and_eq_true] at h1
  have a1 := pm_n (N := 3) (by decide) h1.1
  have a2 := pm_n (N := 2) (by decide) h1.2
  rcases List.mem_cons.mp hz with rfl | hz
  · exact Or.inl ⟨by first | decide | (show (0 : Nat) < 1000; decide) | (show (1 : Nat) < 1000; decide), .int x, x.toInt, rfl, rfl, a1.1, a1.2⟩
  · rw [List.mem_singleton] at hz
    subst hz
    exact Or.inl ⟨by first | decide | (show (0 : Nat) < 1000; decide) | (show (1 : Nat) < 1000; decide), .int y, y.toInt, rfl, rfl, a2.1, a2.2⟩
theorem hh_h_0 (wS : List Value → Mm → Option Rs) (d : Nat) : Hd TV (semZ shP wS (d + 5)) h_0 := hd_q1 (k := d + 5) (fun v m => t_hasVillage wS (d + 4) WP1 v m) (fun v m hI h => pw_v hI (w := 1) (by decide +kernel) h)
theorem hh_h_1 (wS : List Value → Mm → Option Rs) (d : Nat) : Hd TV (semZ shP wS (d + 5)) h_1 := hd_q1 (k := d + 5) (fun v m => t_hasVillage wS (d + 4) WP10 v m) (fun v m hI h => pw_v hI (w := 10) (by decide +kernel) h)
theorem hh_h_2 (wS : List Value → Mm → Option Rs) (d : Nat) : Hd TV (semZ shP wS (d + 5)) h_2 := hd_q1 (k := d + 5) (fun v m => t_hasBody wS (d + 4) WP1 v m) (fun v m hI h => pw_b hI (w := 1) (by decide +kernel) h)
theorem hh_h_3 (wS : List Value → Mm → Option Rs) (d : Nat) : Hd TV (semZ shP wS (d + 5)) h_3 := hd_q1 (k := d + 5) (fun v m => t_hasBody wS (d + 4) WP10 v m) (fun v m hI h => pw_b hI (w := 10) (by decide +kernel) h)
theorem hh_h_4 (wS : List Value → Mm → Option Rs) (d : Nat) : Hd TV (semZ shP wS (d + 5)) h_4 := hd_pf (d + 3)
theorem hh_h_5 (wS : List Value → Mm → Option Rs) (d : Nat) : Hd TV (semZ shP wS (d + 5)) h_5 := hd_within0 (d + 4) _ _ _ _ _ _ (by decide)
theorem hh_h_6 (wS : List Value → Mm → Option Rs) (d : Nat) : Hd TV (semZ shP wS (d + 5)) h_6 := hd_within0 (d + 4) _ _ _ _ _ _ (by decide)
theorem hh_h_7 (wS : List Value → Mm → Option Rs) (d : Nat) : Hd TV (semZ shP wS (d + 5)) h_7 := hd_within (d + 4) _ _ _ _ _ _
theorem hh_h_8 (wS : List Value → Mm → Option Rs) (d : Nat) : Hd TV (semZ shP wS (d + 5)) h_8 := hd_within (d + 4) _ _ _ _ _ _
theorem hh_h_9 (wS : List Value → Mm → Option Rs) (d : Nat) : Hd TV (semZ shP wS (d + 5)) h_9 := hd_within (d + 4) _ _ _ _ _ _
theorem hh_h_10 (wS : List Value → Mm → Option Rs) (d : Nat) : Hd TV (semZ shP wS (d + 5)) h_10 := hd_within (d + 4) _ _ _ _ _ _
theorem hh_h_11 (wS : List Value → Mm → Option Rs) (d : Nat) : Hd TV (semZ shP wS (d + 5)) h_11 := hd_within (d + 4) _ _ _ _ _ _
theorem hh_h_12 (wS : List Value → Mm → Option Rs) (d : Nat) : Hd TV (semZ shP wS (d + 5)) h_12 := hd_within (d + 4) _ _ _ _ _ _
theorem hh_h_13 (wS : List Value → Mm → Option Rs) (d : Nat) : Hd TV (semZ shP wS (d + 5)) h_13 := hd_within (d + 4) _ _ _ _ _ _
theorem hh_h_14 (wS : List Value → Mm → Option Rs) (d : Nat) : Hd TV (semZ shP wS (d + 5)) h_14 := hd_within (d + 4) _ _ _ _ _ _
theorem hh_h_15 (wS : List Value → Mm → Option Rs) (d : Nat) : Hd TV (semZ shP wS (d + 5)) h_15 := hd_within (d + 4) _ _ _ _ _ _
theorem hh_h_16 (wS : List Value → Mm → Option Rs) (d : Nat) : Hd TV (semZ shP wS (d + 5)) h_16 := hd_within (d + 4) _ _ _ _ _ _
theorem hh_h_17 (wS : List Value → Mm → Option Rs) (d : Nat) : Hd TV (semZ shP wS (d + 5)) h_17 := hd_within (d + 4) _ _ _ _ _ _
theorem hh_h_18 (wS : List Value → Mm → Option Rs) (d : Nat) : Hd TV (semZ shP wS (d + 5)) h_18 := hd_within (d + 4) _ _ _ _ _ _
theorem hh_h_19 (wS : List Value → Mm → Option Rs) (d : Nat) : Hd TV (semZ shP wS (d + 5)) h_19 := hd_within (d + 4) _ _ _ _ _ _
theorem hh_h_20 (wS : List Value → Mm → Option Rs) (d : Nat) : Hd TV (semZ shP wS (d + 5)) h_20 := hd_within (d + 4) _ _ _ _ _ _
theorem hh_h_21 (wS : List Value → Mm → Option Rs) (d : Nat) : Hd TV (semZ shP wS (d + 5)) h_21 := hd_within (d + 4) _ _ _ _ _ _
theorem hh_h_22 (wS : List Value → Mm → Option Rs) (d : Nat) : Hd TV (semZ shP wS (d + 5)) h_22 := hd_in0 (d + 4) _ _ _ _ _ _ (by decide)
theorem hh_h_23 (wS : List Value → Mm → Option Rs) (d : Nat) : Hd TV (semZ shP wS (d + 5)) h_23 := hd_in0 (d + 4) _ _ _ _ _ _ (by decide)
theorem hh_h_24 (wS : List Value → Mm → Option Rs) (d : Nat) : Hd TV (semZ shP wS (d + 5)) h_24 := hd_in0 (d + 4) _ _ _ _ _ _ (by decide)
theorem hh_h_25 (wS : List Value → Mm → Option Rs) (d : Nat) : Hd TV (semZ shP wS (d + 5)) h_25 := hd_in0 (d + 4) _ _ _ _ _ _ (by decide)
theorem hh_h_26 (wS : List Value → Mm → Option Rs) (d : Nat) : Hd TV (semZ shP wS (d + 5)) h_26 := hd_in0 (d + 4) _ _ _ _ _ _ (by decide)
theorem hh_h_27 (wS : List Value → Mm → Option Rs) (d : Nat) : Hd TV (semZ shP wS (d + 5)) h_27 := hd_in0 (d + 4) _ _ _ _ _ _ (by decide)
theorem hh_h_28 (wS : List Value → Mm → Option Rs) (d : Nat) : Hd TV (semZ shP wS (d + 5)) h_28 := hd_in (d + 4) _ _ _ _ _ _
theorem hh_h_29 (wS : List Value → Mm → Option Rs) (d : Nat) : Hd TV (semZ shP wS (d + 5)) h_29 := hd_in (d + 4) _ _ _ _ _ _
theorem hh_h_30 (wS : List Value → Mm → Option Rs) (d : Nat) : Hd TV (semZ shP wS (d + 5)) h_30 := hd_in (d + 4) _ _ _ _ _ _
theorem hh_h_31 (wS : List Value → Mm → Option Rs) (d : Nat) : Hd TV (semZ shP wS (d + 5)) h_31 := hd_in (d + 4) _ _ _ _ _ _
theorem hh_h_32 (wS : List Value → Mm → Option Rs) (d : Nat) : Hd TV (semZ shP wS (d + 5)) h_32 := hd_in (d + 4) _ _ _ _ _ _
theorem hh_h_33 (wS : List Value → Mm → Option Rs) (d : Nat) : Hd TV (semZ shP wS (d + 5)) h_33 := hd_in (d + 4) _ _ _ _ _ _
theorem hh_h_34 (wS : List Value → Mm → Option Rs) (d : Nat) : Hd TV (semZ shP wS (d + 5)) h_34 := hd_in (d + 4) _ _ _ _ _ _
theorem hh_h_35 (wS : List Value → Mm → Option Rs) (d : Nat) : Hd TV (semZ shP wS (d + 5)) h_35 := hd_in (d + 4) _ _ _ _ _ _
theorem hh_h_36 (wS : List Value → Mm → Option Rs) (d : Nat) : Hd TV (semZ shP wS (d + 5)) h_36 := hd_in (d + 4) _ _ _ _ _ _
theorem hh_h_37 (wS : List Value → Mm → Option Rs) (d : Nat) : Hd TV (semZ shP wS (d + 5)) h_37 := hd_in (d + 4) _ _ _ _ _ _
theorem hh_h_38 (wS : List Value → Mm → Option Rs) (d : Nat) : Hd TV (semZ shP wS (d + 5)) h_38 := hd_in (d + 4) _ _ _ _ _ _
theorem hh_h_39 (wS : List Value → Mm → Option Rs) (d : Nat) : Hd TV (semZ shP wS (d + 5)) h_39 := hd_in (d + 4) _ _ _ _ _ _
theorem hh_h_40 (wS : List Value → Mm → Option Rs) (d : Nat) : Hd TV (semZ shP wS (d + 5)) h_40 := hd_in (d + 4) _ _ _ _ _ _
theorem hh_h_41 (wS : List Value → Mm → Option Rs) (d : Nat) : Hd TV (semZ shP wS (d + 5)) h_41 := hd_q1 (k := d + 5) (fun v m => t_isVillage wS (d + 3) MP68 v m) (fun v m hI h => pm_v hI h)
theorem hh_h_42 (wS : List Value → Mm → Option Rs) (d : Nat) : Hd TV (semZ shP wS (d + 5)) h_42 := hd_q1 (k := d + 5) (fun v m => t_isBody wS (d + 3) MP68 v m) (fun v m hI h => pm_b hI h)
theorem hh_h_43 (wS : List Value → Mm → Option Rs) (d : Nat) : Hd TV (semZ shP wS (d + 5)) h_43 := hd_q0 (k := d + 5) (fun v m => t_isPart wS (d + 3) v m) (fun v m _ h => pm_n (n := 1) (by decide) h)
theorem hh_h_44 (wS : List Value → Mm → Option Rs) (d : Nat) : Hd TV (semZ shP wS (d + 5)) h_44 := hd_starts wS (d + 4)
theorem hh_h_45 (wS : List Value → Mm → Option Rs) (d : Nat) : Hd TV (semZ shP wS (d + 5)) h_45 := hd_settles wS (d + 4)
theorem hh_h_46 (wS : List Value → Mm → Option Rs) (d : Nat) : Hd TV (semZ shP wS (d + 5)) h_46 := hd_q0 (k := d + 5) (fun v m => t_isJudged wS (d + 3) v m) (fun v m _ h => pm_n (n := 20) (by decide) h)
theorem hh_h_47 (wS : List Value → Mm → Option Rs) (d : Nat) : Hd TV (semZ shP wS (d + 5)) h_47 := hd_copies2 wS (d + 4)
theorem hh_h_48 (wS : List Value → Mm → Option Rs) (d : Nat) : Hd TV (semZ shP wS (d + 5)) h_48 := hd_copies3 wS (d + 4)
theorem hh_h_49 (wS : List Value → Mm → Option Rs) (d : Nat) : Hd TV (semZ shP wS (d + 5)) h_49 := hd_copies0 wS (d + 4)
theorem hh_h_50 (wS : List Value → Mm → Option Rs) (d : Nat) : Hd TV (semZ shP wS (d + 5)) h_50 := hd_copies1 wS (d + 4)
theorem hh_h_51 (wS : List Value → Mm → Option Rs) (d : Nat) : Hd TV (semZ shP wS (d + 5)) h_51 := hd_sheet wS (d + 3)
theorem hall_0 (wS : List Value → Mm → Option Rs) : Hall TV wS 5 t_0 := by
  intro d c hc
  unfold t_0 at hc
  rcases List.mem_cons.mp hc with rfl | hc
  · exact hh_h_0 wS d
  rcases List.mem_cons.mp hc with rfl | hc
  · exact hh_h_1 wS d
  rcases List.mem_cons.mp hc with rfl | hc
  · exact hh_h_2 wS d
  rcases List.mem_cons.mp hc with rfl | hc
  · exact hh_h_3 wS d
  rcases List.mem_cons.mp hc with rfl | hc
  · exact hh_h_4 wS d
  rcases List.mem_cons.mp hc with rfl | hc
  · exact hh_h_5 wS d
  rcases List.mem_cons.mp hc with rfl | hc
  · exact hh_h_6 wS d
  rcases List.mem_cons.mp hc with rfl | hc
  · exact hh_h_7 wS d
  rcases List.mem_cons.mp hc with rfl | hc
  · exact hh_h_8 wS d
  rcases List.mem_cons.mp hc with rfl | hc
  · exact hh_h_9 wS d
  rcases List.mem_cons.mp hc with rfl | hc
  · exact hh_h_10 wS d
  rcases List.mem_cons.mp hc with rfl | hc
  · exact hh_h_11 wS d
  rcases List.mem_cons.mp hc with rfl | hc
  · exact hh_h_12 wS d
  rcases List.mem_cons.mp hc with rfl | hc
  · exact hh_h_13 wS d
  rcases List.mem_cons.mp hc with rfl | hc
  · exact hh_h_14 wS d
  rcases List.mem_cons.mp hc with rfl | hc
  · exact hh_h_15 wS d
  rcases List.mem_cons.mp hc with rfl | hc
  · exact hh_h_16 wS d
  rcases List.mem_cons.mp hc with rfl | hc
  · exact hh_h_17 wS d
  rcases List.mem_cons.mp hc with rfl | hc
  · exact hh_h_18 wS d
  rcases List.mem_cons.mp hc with rfl | hc
  · exact hh_h_19 wS d
  rcases List.mem_cons.mp hc with rfl | hc
  · exact hh_h_20 wS d
  rcases List.mem_cons.mp hc with rfl | hc
  · exact hh_h_21 wS d
  rcases List.mem_cons.mp hc with rfl | hc
  · exact hh_h_22 wS d
  rcases List.mem_cons.mp hc with rfl | hc
  · exact hh_h_23 wS d
  rcases List.mem_cons.mp hc with rfl | hc
  · exact hh_h_24 wS d
  rcases List.mem_cons.mp hc with rfl | hc
  · exact hh_h_25 wS d
  rcases List.mem_cons.mp hc with rfl | hc
  · exact hh_h_26 wS d
  rcases List.mem_cons.mp hc with rfl | hc
  · exact hh_h_27 wS d
  rcases List.mem_cons.mp hc with rfl | hc
  · exact hh_h_28 wS d
  rcases List.mem_cons.mp hc with rfl | hc
  · exact hh_h_29 wS d
  rcases List.mem_cons.mp hc with rfl | hc
  · exact hh_h_30 wS d
  rcases List.mem_cons.mp hc with rfl | hc
  · exact hh_h_31 wS d
  rcases List.mem_cons.mp hc with rfl | hc
  · exact hh_h_32 wS d
  rcases List.mem_cons.mp hc with rfl | hc
  · exact hh_h_33 wS d
  rcases List.mem_cons.mp hc with rfl | hc
  · exact hh_h_34 wS d
  rcases List.mem_cons.mp hc with rfl | hc
  · exact hh_h_35 wS d
  rcases List.mem_cons.mp hc with rfl | hc
  · exact hh_h_36 wS d
  rcases List.mem_cons.mp hc with rfl | hc
  · exact hh_h_37 wS d
  rcases List.mem_cons.mp hc with rfl | hc
  · exact hh_h_38 wS d
  rcases List.mem_cons.mp hc with rfl | hc
  · exact hh_h_39 wS d
  rcases List.mem_cons.mp hc with rfl | hc
  · exact hh_h_40 wS d
  rcases List.mem_cons.mp hc with rfl | hc
  · exact hh_h_41 wS d
  rcases List.mem_cons.mp hc with rfl | hc
  · exact hh_h_42 wS d
  rcases List.mem_cons.mp hc with rfl | hc
  · exact hh_h_43 wS d
  rcases List.mem_cons.mp hc with rfl | hc
  · exact hh_h_44 wS d
  rcases List.mem_cons.mp hc with rfl | hc
  · exact hh_h_45 wS d
  rcases List.mem_cons.mp hc with rfl | hc
  · exact hh_h_46 wS d
  rcases List.mem_cons.mp hc with rfl | hc
  · exact hh_h_47 wS d
  rcases List.mem_cons.mp hc with rfl | hc
  · exact hh_h_48 wS d
  rcases List.mem_cons.mp hc with rfl | hc
  · exact hh_h_49 wS d
  rcases List.mem_cons.mp hc with rfl | hc
  · exact hh_h_50 wS d
  rcases List.mem_cons.mp hc with rfl | hc
  · exact hh_h_51 wS d
  cases hc
theorem hall_1 (wS : List Value → Mm → Option Rs) : Hall TV wS 6 t_1 := h_up1 (hall_0 wS)
theorem hall_2 (wS : List Value → Mm → Option Rs) : Hall TV wS 7 t_2 := h_up2 (hall_1 wS)
theorem hall_3 (wS : List Value → Mm → Option Rs) : Hall TV wS 8 t_3 := h_up3 (hall_2 wS)
theorem hall_4 (wS : List Value → Mm → Option Rs) : Hall TV wS 9 t_4 := h_up4 (hall_3 wS)
theorem hall_5 (wS : List Value → Mm → Option Rs) : Hall TV wS 10 t_5 := h_up5 (hall_4 wS)
theorem hall_6 (wS : List Value → Mm → Option Rs) : Hall TV wS 11 t_6 := h_up6 (hall_5 wS)
theorem hall_7 (wS : List Value → Mm → Option Rs) : Hall TV wS 12 t_7 := h_up7 (hall_6 wS)
theorem hall_8 (wS : List Value → Mm → Option Rs) : Hall TV wS 13 t_8 := h_up8 (hall_7 wS)
