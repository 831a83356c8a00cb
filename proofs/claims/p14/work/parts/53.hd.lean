/-! BY HAND: more contracts -/
section H3
variable {sh : List ShE} {w : Nat} (wS : List Value → Mm → Option Rs) (d : Nat)
theorem t_faultAt (hw : HSh sh w) (i : Int64) (m : Mm) : semZ sh wS (d + 1) 1 [.ref w, .long i] m = some (some (.int (if m.1 w 0 = 0 then 1 else if i < 0 then 2 else if i < (m.1 w 1).toInt64 then 0 else 2)), m) := by
  rw [se_X1_faultAt, rn_eq, b_X1_faultAt_0]
  by_cases h0 : m.1 w 0 = 0
  · simp only [EV, LV, CB, OI, OL, NP, CZ, popN, CT, OZ, List.map_nil, List.map_cons, List.sum_nil, List.sum_cons, Option.toList, List.nil_append, List.cons_append, Int.reduceToNat, Nat.reduceAdd, Nat.reduceLT, Nat.reduceLeDiff, List.length_cons, List.length_nil, Nat.zero_add, if_true, if_false, reduceIte, and_self, and_true, true_and, eq_self, reduceCtorEq, gH hw, h0, not_true_eq_false]
  · simp only [EV, LV, CB, OI, OL, NP, CZ, popN, CT, OZ, List.map_nil, List.map_cons, List.sum_nil, List.sum_cons, Option.toList, List.nil_append, List.cons_append, Int.reduceToNat, Nat.reduceAdd, Nat.reduceLT, Nat.reduceLeDiff, List.length_cons, List.length_nil, Nat.zero_add, if_true, if_false, reduceIte, and_self, and_true, true_and, eq_self, reduceCtorEq, gH hw, h0, not_false_eq_true]
    rw [rn_eq, b_X1_faultAt_9]
    by_cases h1 : i < 0
    · simp only [EV, LV, CB, OI, OL, NP, CZ, popN, CT, OZ, List.map_nil, List.map_cons, List.sum_nil, List.sum_cons, Option.toList, List.nil_append, List.cons_append, Int.reduceToNat, Nat.reduceAdd, Nat.reduceLT, Nat.reduceLeDiff, List.length_cons, List.length_nil, Nat.zero_add, if_true, if_false, reduceIte, and_self, and_true, true_and, eq_self, reduceCtorEq, gH hw, lc_lt, h1]
      rw [rn_eq, b_X1_faultAt_25]
      simp only [EV, LV, CB, OI, OL, NP, CZ, popN, CT, OZ, List.map_nil, List.map_cons, List.sum_nil, List.sum_cons, Option.toList, List.nil_append, List.cons_append, Int.reduceToNat, Nat.reduceAdd, Nat.reduceLT, Nat.reduceLeDiff, List.length_cons, List.length_nil, Nat.zero_add, if_true, if_false, reduceIte, and_self, and_true, true_and, eq_self, reduceCtorEq]
      rw [rn_eq, b_X1_faultAt_30]
      simp only [EV, LV, CB, OI, OL, NP, CZ, popN, CT, OZ, List.map_nil, List.map_cons, List.sum_nil, List.sum_cons, Option.toList, List.nil_append, List.cons_append, Int.reduceToNat, Nat.reduceAdd, Nat.reduceLT, Nat.reduceLeDiff, List.length_cons, List.length_nil, Nat.zero_add, if_true, if_false, reduceIte, and_self, and_true, true_and, eq_self, reduceCtorEq]
    · by_cases h2 : i < (m.1 w 1).toInt64
      · simp only [EV, LV, CB, OI, OL, NP, CZ, popN, CT, OZ, List.map_nil, List.map_cons, List.sum_nil, List.sum_cons, Option.toList, List.nil_append, List.cons_append, Int.reduceToNat, Nat.reduceAdd, Nat.reduceLT, Nat.reduceLeDiff, List.length_cons, List.length_nil, Nat.zero_add, if_true, if_false, reduceIte, and_self, and_true, true_and, eq_self, reduceCtorEq, gH hw, lc_lt, h1, h2]
        rw [rn_eq, b_X1_faultAt_29]
        simp only [EV, LV, CB, OI, OL, NP, CZ, popN, CT, OZ, List.map_nil, List.map_cons, List.sum_nil, List.sum_cons, Option.toList, List.nil_append, List.cons_append, Int.reduceToNat, Nat.reduceAdd, Nat.reduceLT, Nat.reduceLeDiff, List.length_cons, List.length_nil, Nat.zero_add, if_true, if_false, reduceIte, and_self, and_true, true_and, eq_self, reduceCtorEq]
      · simp only [EV, LV, CB, OI, OL, NP, CZ, popN, CT, OZ, List.map_nil, List.map_cons, List.sum_nil, List.sum_cons, Option.toList, List.nil_append, List.cons_append, Int.reduceToNat, Nat.reduceAdd, Nat.reduceLT, Nat.reduceLeDiff, List.length_cons, List.length_nil, Nat.zero_add, if_true, if_false, reduceIte, and_self, and_true, true_and, eq_self, reduceCtorEq, gH hw, lc_lt, h1, h2]
        rw [rn_eq, b_X1_faultAt_30]
        simp only [EV, LV, CB, OI, OL, NP, CZ, popN, CT, OZ, List.map_nil, List.map_cons, List.sum_nil, List.sum_cons, Option.toList, List.nil_append, List.cons_append, Int.reduceToNat, Nat.reduceAdd, Nat.reduceLT, Nat.reduceLeDiff, List.length_cons, List.length_nil, Nat.zero_add, if_true, if_false, reduceIte, and_self, and_true, true_and, eq_self, reduceCtorEq]
theorem ix_85 : ∀ B, B < 6 → ∀ K, K < 5 → (8 : Int32) + 5 * nI B + nI K = nI (8 + 5 * B + K) := by decide +kernel
theorem t_becomesOf (hw : MSh sh w) {B K : Nat} (hB : B < 6) (hK : K < 5) (v : Int32) (m : Mm) : semZ sh wS (d + 1) 126 [.ref w, .int (nI B), .int (nI K), .int v] m = some (none, setR m (w + 2) (upd (m.1 (w + 2)) (8 + 5 * B + K) v)) := by
  rw [se_X7_becomesOf, rn_eq, b_X7_becomesOf_0]
  have e := ix_85 B hB K hK
  have e2 : inR (nI (8 + 5 * B + K)) 63 = true := inR_nI (by omega) (by omega)
  have e3 : (nI (8 + 5 * B + K)).toNatClampNeg = 8 + 5 * B + K := nI_clamp (by omega)
  simp only [EV, LV, CB, OI, OL, NP, CZ, popN, CT, OZ, List.map_nil, List.map_cons, List.sum_nil, List.sum_cons, Option.toList, List.nil_append, List.cons_append, Int.reduceToNat, Nat.reduceAdd, Nat.reduceLT, Nat.reduceLeDiff, List.length_cons, List.length_nil, Nat.zero_add, if_true, if_false, reduceIte, and_self, and_true, true_and, eq_self, reduceCtorEq, gM hw, sM hw, e, e2, e3, wI_R]
end H3
theorem gP0 : clO shP 0 = some 6 ∧ (∀ m : Mm, gfI shP 600 0 m = some (.ref 1) ∧ gfI shP 601 0 m = some (.ref 10) ∧ gfI shP 602 0 m = some (.ref 19) ∧ gfI shP 603 0 m = some (.ref 23) ∧ gfI shP 604 0 m = some (.ref 27) ∧ gfI shP 605 0 m = some (.ref 28) ∧ gfI shP 606 0 m = some (.ref 29) ∧ gfI shP 607 0 m = some (.ref 30) ∧ gfI shP 608 0 m = some (.ref 31) ∧ gfI shP 609 0 m = some (.int (m.1 0 9))) := ⟨rfl, fun _ => ⟨rfl, rfl, rfl, rfl, rfl, rfl, rfl, rfl, rfl, rfl⟩⟩
theorem hs_of {w : Nat} (h : w ∈ ([60, 62, 64, 66] : List Nat)) : HSh shP w := by
  simp only [List.mem_cons, List.not_mem_nil, or_false] at h
  rcases h with rfl | rfl | rfl | rfl
  · exact HP60
  · exact HP62
  · exact HP64
  · exact HP66
theorem iv_sz {w : Nat} (h : w ∈ ([60, 62, 64, 66] : List Nat)) : ivO TV w 0 = (0, 1) ∧ ivO TV w 1 = (0, 40) := by
  simp only [List.mem_cons, List.not_mem_nil, or_false] at h
  rcases h with rfl | rfl | rfl | rfl <;> exact ⟨by decide +kernel, by decide +kernel⟩
theorem ret_i {lo hi : Int} {x : Int32} (h1 : lo ≤ x.toInt) (h2 : x.toInt ≤ hi) : retG (iA lo hi) (some (.int x)) := ⟨x, rfl, gN_i h1 h2, Or.inl rfl, Or.inl rfl, fun _ q hq => by cases hq⟩
theorem hd_faultAt (wS : List Value → Mm → Option Rs) (d : Nat) (lo hi : Int) (h : hi < 0 ∨ 40 ≤ lo) : Hd TV (semZ shP wS (d + 1)) (1, [rF [60, 62, 64, 66], some (.inr (.inr (lo, hi, 0)))], [], iA 1 2, [], ([], []), []) := by
  intro As m g hI hR
  obtain ⟨v1, vs, rfl, k1, g⟩ := gT_cons g
  obtain ⟨v2, vs, rfl, k2, g⟩ := gT_cons g
  cases gT_nil g
  obtain ⟨w, rfl, hr⟩ := k1
  have hr : w ∈ ([60, 62, 64, 66] : List Nat) := hr
  obtain ⟨i, rfl, i1, i2, -⟩ := k2
  refine ⟨_, m, t_faultAt wS d (hs_of hr) i m, ?_, hI, rho_nil, frm_rf, fun _ _ _ q hq => by cases hq⟩
  have b := hI w 1
  rw [(iv_sz hr).2] at b
  have b2 : (m.1 w 1).toInt ≤ 40 := b.2
  by_cases h0 : m.1 w 0 = 0
  · rw [if_pos h0]
    exact ret_i (by decide) (by decide)
  · rw [if_neg h0]
    by_cases h1 : i < 0
    · rw [if_pos h1]
      exact ret_i (by decide) (by decide)
    · rw [if_neg h1]
      have h2 : ¬ i < (m.1 w 1).toInt64 := by
        rw [Int64.lt_iff_toInt_lt] at h1 ⊢
        rw [Int32.toInt_toInt64]
        have h0 : (0 : Int64).toInt = 0 := by decide
        omega
      rw [if_neg h2]
      exact ret_i (by decide) (by decide)
theorem sw_mb : swL 44 ([(0, 28), (1, 35)] : List (Int × Int)) 0 = 28 ∧ swL 44 ([(0, 28), (1, 35)] : List (Int × Int)) 1 = 35 ∧ swL 44 ([(0, 28), (1, 35)] : List (Int × Int)) 2 = 44 ∧ swL 44 ([(0, 28), (1, 35)] : List (Int × Int)) 3 = 44 := by decide +kernel
theorem t_mb0 (wS : List Value → Mm → Option Rs) (d : Nat) (v : Int32) (m : Mm) : semZ shP wS (d + 2) 52 [.ref 0, .int 0, .int v] m = some (some (.int (bI (decide (0 ≤ v) && decide (v ≤ 3)))), m) := by
  rw [se_X6_mayBecome, rn_eq, b_X6_mayBecome_0]
  simp only [EV, LV, CB, OI, OL, NP, CZ, popN, CT, OZ, List.map_nil, List.map_cons, List.sum_nil, List.sum_cons, Option.toList, List.nil_append, List.cons_append, Int.reduceToNat, Nat.reduceAdd, Nat.reduceLT, Nat.reduceLeDiff, List.length_cons, List.length_nil, Nat.zero_add, if_true, if_false, reduceIte, and_self, and_true, true_and, eq_self, reduceCtorEq, sw_mb]
  rw [rn_eq, b_X6_mayBecome_28]
  simp only [EV, LV, CB, OI, OL, NP, CZ, popN, CT, OZ, List.map_nil, List.map_cons, List.sum_nil, List.sum_cons, Option.toList, List.nil_append, List.cons_append, Int.reduceToNat, Nat.reduceAdd, Nat.reduceLT, Nat.reduceLeDiff, List.length_cons, List.length_nil, Nat.zero_add, if_true, if_false, reduceIte, and_self, and_true, true_and, eq_self, reduceCtorEq, t_within wS d, okb]
theorem t_mb1 (wS : List Value → Mm → Option Rs) (d : Nat) (v : Int32) (m : Mm) : semZ shP wS (d + 2) 52 [.ref 0, .int 1, .int v] m = some (some (.int (bI (decide (0 ≤ v) && decide (v < m.1 1 0)))), m) := by
  rw [se_X6_mayBecome, rn_eq, b_X6_mayBecome_0]
  simp only [EV, LV, CB, OI, OL, NP, CZ, popN, CT, OZ, List.map_nil, List.map_cons, List.sum_nil, List.sum_cons, Option.toList, List.nil_append, List.cons_append, Int.reduceToNat, Nat.reduceAdd, Nat.reduceLT, Nat.reduceLeDiff, List.length_cons, List.length_nil, Nat.zero_add, if_true, if_false, reduceIte, and_self, and_true, true_and, eq_self, reduceCtorEq, sw_mb]
  rw [rn_eq, b_X6_mayBecome_35]
  simp only [EV, LV, CB, OI, OL, NP, CZ, popN, CT, OZ, List.map_nil, List.map_cons, List.sum_nil, List.sum_cons, Option.toList, List.nil_append, List.cons_append, Int.reduceToNat, Nat.reduceAdd, Nat.reduceLT, Nat.reduceLeDiff, List.length_cons, List.length_nil, Nat.zero_add, if_true, if_false, reduceIte, and_self, and_true, true_and, eq_self, reduceCtorEq, gP0, gW WP1, t_hasVillage wS d WP1, okb]
theorem t_mb2 (wS : List Value → Mm → Option Rs) (d : Nat) (k v : Int32) (hk : k = 2 ∨ k = 3) (m : Mm) : semZ shP wS (d + 2) 52 [.ref 0, .int k, .int v] m = some (some (.int (bI (decide (0 ≤ v) && decide (v ≤ 9)))), m) := by
  rw [se_X6_mayBecome, rn_eq, b_X6_mayBecome_0]
  rcases hk with rfl | rfl
  · simp only [EV, LV, CB, OI, OL, NP, CZ, popN, CT, OZ, List.map_nil, List.map_cons, List.sum_nil, List.sum_cons, Option.toList, List.nil_append, List.cons_append, Int.reduceToNat, Nat.reduceAdd, Nat.reduceLT, Nat.reduceLeDiff, List.length_cons, List.length_nil, Nat.zero_add, if_true, if_false, reduceIte, and_self, and_true, true_and, eq_self, reduceCtorEq, sw_mb]
    rw [rn_eq, b_X6_mayBecome_44]
    simp only [EV, LV, CB, OI, OL, NP, CZ, popN, CT, OZ, List.map_nil, List.map_cons, List.sum_nil, List.sum_cons, Option.toList, List.nil_append, List.cons_append, Int.reduceToNat, Nat.reduceAdd, Nat.reduceLT, Nat.reduceLeDiff, List.length_cons, List.length_nil, Nat.zero_add, if_true, if_false, reduceIte, and_self, and_true, true_and, eq_self, reduceCtorEq, t_within wS d, okb]
  · simp only [EV, LV, CB, OI, OL, NP, CZ, popN, CT, OZ, List.map_nil, List.map_cons, List.sum_nil, List.sum_cons, Option.toList, List.nil_append, List.cons_append, Int.reduceToNat, Nat.reduceAdd, Nat.reduceLT, Nat.reduceLeDiff, List.length_cons, List.length_nil, Nat.zero_add, if_true, if_false, reduceIte, and_self, and_true, true_and, eq_self, reduceCtorEq, sw_mb]
    rw [rn_eq, b_X6_mayBecome_44]
    simp only [EV, LV, CB, OI, OL, NP, CZ, popN, CT, OZ, List.map_nil, List.map_cons, List.sum_nil, List.sum_cons, Option.toList, List.nil_append, List.cons_append, Int.reduceToNat, Nat.reduceAdd, Nat.reduceLT, Nat.reduceLeDiff, List.length_cons, List.length_nil, Nat.zero_add, if_true, if_false, reduceIte, and_self, and_true, true_and, eq_self, reduceCtorEq, t_within wS d, okb]
theorem i_cst {n : Int} {x : Int32} (y : Int32) (h : gN (n, n, 0) none x.toInt) (hy : y.toInt = n) : x = y := Int32.toInt_inj.mp (by
  have := gN_1 h rfl
  rw [hy]
  exact this)
theorem hd_mb0 (wS : List Value → Mm → Option Rs) (d : Nat) : Hd TV (semZ shP wS (d + 2)) h2_2 := by
  intro As m g hI hR
  obtain ⟨v1, vs, rfl, k1, g⟩ := gT_cons g
  obtain ⟨v2, vs, rfl, k2, g⟩ := gT_cons g
  obtain ⟨v3, vs, rfl, k3, g⟩ := gT_cons g
  cases gT_nil g
  obtain ⟨r', rfl, hr⟩ := k1
  have hr : r' = 0 := List.mem_singleton.mp hr
  subst hr
  obtain ⟨x, rfl, x1, -⟩ := k2
  obtain ⟨v, rfl, -⟩ := k3
  have ex := i_cst 0 x1 (by decide)
  subst ex
  refine ⟨_, m, t_mb0 wS d v m, ret01 _, hI, rho_nil, frm_rf, ?_⟩
  intro y hy h0 z hz
  cases hy
  have hz : z = (2, 0, 3) := List.mem_singleton.mp hz
  subst hz
  have h1 := bI_nz h0
  simp only [Bool.and_eq_true, decide_eq_true_eq, Int32.le_iff_toInt_le] at h1
  exact Or.inl ⟨by first | decide | (show (0 : Nat) < 1000; decide) | (show (1 : Nat) < 1000; decide), .int v, v.toInt, rfl, rfl, h1.1, h1.2⟩
theorem hd_mb1 (wS : List Value → Mm → Option Rs) (d : Nat) : Hd TV (semZ shP wS (d + 2)) h2_3 := by
  intro As m g hI hR
  obtain ⟨v1, vs, rfl, k1, g⟩ := gT_cons g
  obtain ⟨v2, vs, rfl, k2, g⟩ := gT_cons g
  obtain ⟨v3, vs, rfl, k3, g⟩ := gT_cons g
  cases gT_nil g
  obtain ⟨r', rfl, hr⟩ := k1
  have hr : r' = 0 := List.mem_singleton.mp hr
  subst hr
  obtain ⟨x, rfl, x1, -⟩ := k2
  obtain ⟨v, rfl, -⟩ := k3
  have ex := i_cst 1 x1 (by decide)
  subst ex
  refine ⟨_, m, t_mb1 wS d v m, ret01 _, hI, rho_nil, frm_rf, ?_⟩
  intro y hy h0 z hz
  cases hy
  have hz : z = (2, 0, 3) := List.mem_singleton.mp hz
  subst hz
  have h1 := pw_v hI (w := 1) (by decide +kernel) (bI_nz h0)
  exact Or.inl ⟨by first | decide | (show (0 : Nat) < 1000; decide) | (show (1 : Nat) < 1000; decide), .int v, v.toInt, rfl, rfl, h1.1, h1.2⟩
theorem hd_mb2 (wS : List Value → Mm → Option Rs) (d : Nat) : Hd TV (semZ shP wS (d + 2)) h2_4 := by
  intro As m g hI hR
  obtain ⟨v1, vs, rfl, k1, g⟩ := gT_cons g
  obtain ⟨v2, vs, rfl, k2, g⟩ := gT_cons g
  obtain ⟨v3, vs, rfl, k3, g⟩ := gT_cons g
  cases gT_nil g
  obtain ⟨r', rfl, hr⟩ := k1
  have hr : r' = 0 := List.mem_singleton.mp hr
  subst hr
  obtain ⟨x, rfl, x1, -⟩ := k2
  obtain ⟨v, rfl, -⟩ := k3
  have X := gN_hul x1
  have X1 : 2 ≤ x.toInt := X.1
  have X2 : x.toInt ≤ 3 := X.2.1
  have hx : x = 2 ∨ x = 3 := by
    by_cases h : x.toInt = 2
    · exact Or.inl (Int32.toInt_inj.mp (by rw [h]; decide))
    · exact Or.inr (Int32.toInt_inj.mp (by have e : x.toInt = 3 := by omega
                                           rw [e]; decide))
  exact ⟨_, m, t_mb2 wS d x v hx m, ret01 _, hI, rho_nil, frm_rf, fun _ _ _ q hq => by cases hq⟩
theorem iv_fm : ∀ B, B < 6 → ∀ K, K < 4 → 2 ≤ K → ivO TV 70 (8 + 5 * B + K) = (-2147483648, 2147483647) := by decide +kernel
theorem hd_bo (wS : List Value → Mm → Option Rs) (d : Nat) : Hd TV (semZ shP wS (d + 1)) h2_13 := by
  intro As m g hI hR
  obtain ⟨v1, vs, rfl, k1, g⟩ := gT_cons g
  obtain ⟨v2, vs, rfl, k2, g⟩ := gT_cons g
  obtain ⟨v3, vs, rfl, k3, g⟩ := gT_cons g
  obtain ⟨v4, vs, rfl, k4, g⟩ := gT_cons g
  cases gT_nil g
  obtain ⟨r', rfl, hr⟩ := k1
  have hr : r' = 68 := List.mem_singleton.mp hr
  subst hr
  obtain ⟨b, rfl, b1, -⟩ := k2
  obtain ⟨k, rfl, k1, -⟩ := k3
  obtain ⟨v, rfl, -⟩ := k4
  have X := gN_hul b1
  have X1 : 0 ≤ b.toInt := X.1
  have X2 : b.toInt ≤ 5 := X.2.1
  have Y := gN_hul k1
  have Y1 : 2 ≤ k.toInt := Y.1
  have Y2 : k.toInt ≤ 3 := Y.2.1
  have eb := i_nI (y := b) X1
  have ek := i_nI (y := k) (by omega)
  have hB : b.toInt.toNat < 6 := by omega
  have hK : k.toInt.toNat < 4 := by omega
  have hK2 : 2 ≤ k.toInt.toNat := by omega
  rw [eb, ek]
  generalize b.toInt.toNat = Bn at hB ⊢
  generalize k.toInt.toNat = Kn at hK hK2 ⊢
  refine ⟨_, _, t_becomesOf wS d MP68 hB (by omega) v m, trivial, Inv_setR hI (fun j => ?_), ?_, frm_setR frm_rf (by decide), fun _ _ _ q hq => by cases hq⟩
  · unfold upd
    split
    · rename_i hj
      rw [hj]
      show (ivO TV 70 (8 + 5 * Bn + Kn)).1 ≤ _ ∧ _ ≤ (ivO TV 70 (8 + 5 * Bn + Kn)).2
      rw [iv_fm Bn hB Kn hK hK2]
      exact r32 v
    · exact hI 70 j
  · have h41 := hR (14041, 1, 9) (List.mem_singleton.mpr rfl)
    have e : cel (setR m (68 + 2) (upd (m.1 (68 + 2)) (8 + 5 * Bn + Kn) v)) 14041 = cel m 14041 := by
      rw [cel_setR, if_pos (by decide)]
      unfold upd
      rw [if_neg (by omega)]
      rfl
    refine rho_one ?_ ?_
    · rw [e]; exact h41.1
    · rw [e]; exact h41.2
theorem hall_9 (wS : List Value → Mm → Option Rs) : Hall TV wS 14 t_9 := by
  intro d c hc
  unfold t_9 at hc
  rcases List.mem_append.mp hc with hc | hc
  · rcases List.mem_cons.mp hc with rfl | hc
    · exact hd_faultAt wS (d + 13) _ _ (by decide)
    rcases List.mem_cons.mp hc with rfl | hc
    · exact hd_faultAt wS (d + 13) _ _ (by decide)
    rcases List.mem_cons.mp hc with rfl | hc
    · exact hd_mb0 wS (d + 12)
    rcases List.mem_cons.mp hc with rfl | hc
    · exact hd_mb1 wS (d + 12)
    rcases List.mem_cons.mp hc with rfl | hc
    · exact hd_mb2 wS (d + 12)
    rcases List.mem_cons.mp hc with rfl | hc
    · exact hd_within0 (d + 13) _ _ _ _ _ _ (by decide)
    rcases List.mem_cons.mp hc with rfl | hc
    · exact hd_within0 (d + 13) _ _ _ _ _ _ (by decide)
    rcases List.mem_cons.mp hc with rfl | hc
    · exact hd_in0 (d + 13) _ _ _ _ _ _ (by decide)
    rcases List.mem_cons.mp hc with rfl | hc
    · exact hd_in0 (d + 13) _ _ _ _ _ _ (by decide)
    rcases List.mem_cons.mp hc with rfl | hc
    · exact hd_in (d + 13) _ _ _ _ _ _
    rcases List.mem_cons.mp hc with rfl | hc
    · exact hd_in (d + 13) _ _ _ _ _ _
    rcases List.mem_cons.mp hc with rfl | hc
    · exact hd_in (d + 13) _ _ _ _ _ _
    rcases List.mem_cons.mp hc with rfl | hc
    · exact hd_in (d + 13) _ _ _ _ _ _
    rcases List.mem_cons.mp hc with rfl | hc
    · exact hd_bo wS (d + 13)
    cases hc
  · exact Hall_up (hall_8 wS) 1 d c hc
