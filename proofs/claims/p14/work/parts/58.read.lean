/-! BY HAND: read of the model, its loop -/
theorem rsn_0 {ln l sz : Int32} {p : Int64} (h : rsn ln l sz p = 0) : 0 ≤ p.toInt ∧ p.toInt < sz.toInt := by
  unfold rsn at h
  split at h
  · exact absurd h (by decide)
  · split at h
    · exact absurd h (by decide)
    · split at h
      · exact absurd h (by decide)
      · rename_i h1
        split at h
        · rename_i h2
          rw [Int64.lt_iff_toInt_lt] at h1 h2
          rw [Int32.toInt_toInt64] at h2
          have h0 : (0 : Int64).toInt = 0 := by decide
          omega
        · exact absurd h (by decide)
theorem mul2_i {i : Nat} (hi : i ≤ 100) : ((2 : Int32) * nI i).toInt = 2 * (i : Int) := by
  rw [Int32.toInt_mul, nI_toInt (by omega), show (2 : Int32).toInt = 2 from by decide]
  exact bm32 (by omega) (by omega)
theorem p_i {f : Int32} {i j : Nat} (hi : i ≤ 100) (hj : j ≤ 2) : (f.toInt64 + ((2 : Int32) * nI i).toInt64 + (nI j).toInt64).toInt = f.toInt + 2 * i + j := by
  have r := r32 f
  rw [Int64.toInt_add, Int64.toInt_add, Int32.toInt_toInt64, Int32.toInt_toInt64, Int32.toInt_toInt64, mul2_i hi, nI_toInt (by omega), bm64 (z := f.toInt + 2 * (i : Int)) (by omega) (by omega)]
  exact bm64 (by omega) (by omega)
theorem ix_rd {f : Int32} {i K c : Nat} (hi : i ≤ 100) (hK : K < 4) (hc : f.toInt + 2 * i = c) (hc2 : c < 40) : (40 : Int32) * nI K + f + 2 * nI i = nI (40 * K + c) := by
  have e1 : f + (2 : Int32) * nI i = nI c := by
    apply Int32.toInt_inj.mp
    rw [Int32.toInt_add, mul2_i hi, nI_toInt (by omega), hc]
    exact bm32 (by omega) (by omega)
  have e2 : (40 : Int32) * nI K = nI (40 * K) := by
    apply Int32.toInt_inj.mp
    rw [Int32.toInt_mul, nI_toInt (by omega), nI_toInt (by omega), show (40 : Int32).toInt = 40 from by decide]
    rw [bm32 (by omega) (by omega)]
    omega
  rw [Int32.add_assoc, e1, e2, nI_add]
theorem rm_loop (wS : List Value → Mm → Option Rs) (d : Nat) {mE : Mm} {K : Nat} (hK : K < 4) (l f : Int32) (N : Nat) (hN : N ≤ 20) : ∀ (q i : Nat), i + q = N → ∀ (m : Mm) (x w : Int32) (v8 v9 : Value), InvT TV m → frm c_rm.2.2.2.2.2.1 mE m → (∀ j, j < 63 → (ivO TV 69 j).1 ≤ (m.1 80 j).toInt ∧ (m.1 80 j).toInt ≤ (ivO TV 69 j).2) → (v8 = noV ∨ ∃ y : Int32, v8 = .int y) → ((v9 = noV ∨ ∃ y : Int32, v9 = .int y) ∨ ∃ y : Int64, v9 = .long y) → ∃ r, rn shP tb0 mN mO (semZ shP wS (d + 16)) (some .int) (codeZ 182) 62 [.ref 68, .int (nI K), .int l, .int f, .int (nI N), .int x, .int w, .int (nI i), v8, v9, noV] [] m = some r ∧ PostR TV mE c_rm r := by
  intro q
  induction q with
  | zero =>
    intro i hi m x w v8 v9 hI hf hB h8 h9
    have e0 : i = N := by omega
    subst e0
    have e1 : nI i ≤ nI i := Int32.le_refl _
    obtain ⟨r, h1, h2⟩ := rm_end (semZ shP wS (d + 16)) hI hf (nI K) l f (nI i) x w (nI i) v8 v9 noV
    refine ⟨r, ?_, h2⟩
    rw [rn_eq, b_X7_read_62]
    simp only [EV, LV, CB, OI, OL, NP, CZ, popN, CT, OZ, List.map_nil, List.map_cons, List.sum_nil, List.sum_cons, Option.toList, List.nil_append, List.cons_append, Int.reduceToNat, Nat.reduceAdd, Nat.reduceLT, Nat.reduceLeDiff, List.length_cons, List.length_nil, Nat.zero_add, if_true, if_false, reduceIte, and_self, and_true, true_and, eq_self, reduceCtorEq, e1]
    exact h1
  | succ q ih =>
    intro i hi m x w v8 v9 hI hf hB h8 h9
    have e1 : ¬ nI N ≤ nI i := nI_ge (by omega) (by omega)
    by_cases hx : x = 0
    · subst hx
      have st1 : rn shP tb0 mN mO (semZ shP wS (d + 16)) (some .int) (codeZ 182) 62 [.ref 68, .int (nI K), .int l, .int f, .int (nI N), .int 0, .int w, .int (nI i), v8, v9, noV] [] m = rn shP tb0 mN mO (semZ shP wS (d + 16)) (some .int) (codeZ 182) 77 [.ref 68, .int (nI K), .int l, .int f, .int (nI N), .int 0, .int w, .int (nI i), .int (nI 0), v9, noV] [] m := by
        rw [rn_eq, b_X7_read_62]
        rcases h8 with rfl | ⟨y, rfl⟩
        · simp only [EV, LV, CB, OI, OL, NP, CZ, popN, CT, OZ, List.map_nil, List.map_cons, List.sum_nil, List.sum_cons, Option.toList, List.nil_append, List.cons_append, Int.reduceToNat, Nat.reduceAdd, Nat.reduceLT, Nat.reduceLeDiff, List.length_cons, List.length_nil, Nat.zero_add, if_true, if_false, reduceIte, and_self, and_true, true_and, eq_self, reduceCtorEq, e1, not_true_eq_false]
          rfl
        · simp only [EV, LV, CB, OI, OL, NP, CZ, popN, CT, OZ, List.map_nil, List.map_cons, List.sum_nil, List.sum_cons, Option.toList, List.nil_append, List.cons_append, Int.reduceToNat, Nat.reduceAdd, Nat.reduceLT, Nat.reduceLeDiff, List.length_cons, List.length_nil, Nat.zero_add, if_true, if_false, reduceIte, and_self, and_true, true_and, eq_self, reduceCtorEq, e1, not_true_eq_false]
          rfl
      rw [st1, rm_in _ hK l f (nI N) w i 0 noV m v9 h9 (by omega)]
      generalize hp0 : f.toInt64 + ((2 : Int32) * nI i).toInt64 + (nI 0).toInt64 = p0
      have at164 : ∀ (x : Int32) (p : Int64) (j : Nat), (¬ x = 0 ∨ j = 2) → rn shP tb0 mN mO (semZ shP wS (d + 16)) (some .int) (codeZ 182) 77 [.ref 68, .int (nI K), .int l, .int f, .int (nI N), .int x, .int w, .int (nI i), .int (nI j), .long p, noV] [] m = rn shP tb0 mN mO (semZ shP wS (d + 16)) (some .int) (codeZ 182) 164 [.ref 68, .int (nI K), .int l, .int f, .int (nI N), .int x, .int w, .int (nI i), .int (nI j), .long p, noV] [] m := by
        intro x p j hxj
        rw [rn_eq, b_X7_read_77]
        by_cases h2 : (2 : Int32) ≤ nI j
        · simp only [EV, LV, CB, OI, OL, NP, CZ, popN, CT, OZ, List.map_nil, List.map_cons, List.sum_nil, List.sum_cons, Option.toList, List.nil_append, List.cons_append, Int.reduceToNat, Nat.reduceAdd, Nat.reduceLT, Nat.reduceLeDiff, List.length_cons, List.length_nil, Nat.zero_add, if_true, if_false, reduceIte, and_self, and_true, true_and, eq_self, reduceCtorEq, h2]
        · have hx0 : ¬ x = 0 := by
            rcases hxj with h | h
            · exact h
            · rw [h] at h2
              exact absurd (by decide +kernel) h2
          simp only [EV, LV, CB, OI, OL, NP, CZ, popN, CT, OZ, List.map_nil, List.map_cons, List.sum_nil, List.sum_cons, Option.toList, List.nil_append, List.cons_append, Int.reduceToNat, Nat.reduceAdd, Nat.reduceLT, Nat.reduceLeDiff, List.length_cons, List.length_nil, Nat.zero_add, if_true, if_false, reduceIte, and_self, and_true, true_and, eq_self, reduceCtorEq, h2, hx0, not_false_eq_true]
      have bad164 : ∀ (x : Int32) (p : Int64) (j : Nat), ¬ x = 0 → ∃ r, rn shP tb0 mN mO (semZ shP wS (d + 16)) (some .int) (codeZ 182) 164 [.ref 68, .int (nI K), .int l, .int f, .int (nI N), .int x, .int w, .int (nI i), .int (nI j), .long p, noV] [] m = some r ∧ PostR TV mE c_rm r := by
        intro x p j hx0
        obtain ⟨r, h1, h2⟩ := ih (i + 1) (by omega) m x w (.int (nI j)) (.long p) hI hf hB (Or.inr ⟨_, rfl⟩) (Or.inr ⟨_, rfl⟩)
        refine ⟨r, ?_, h2⟩
        rw [rn_eq, b_X7_read_164]
        simp only [EV, LV, CB, OI, OL, NP, CZ, popN, CT, OZ, List.map_nil, List.map_cons, List.sum_nil, List.sum_cons, Option.toList, List.nil_append, List.cons_append, Int.reduceToNat, Nat.reduceAdd, Nat.reduceLT, Nat.reduceLeDiff, List.length_cons, List.length_nil, Nat.zero_add, if_true, if_false, reduceIte, and_self, and_true, true_and, eq_self, reduceCtorEq, hx0, not_false_eq_true]
        rw [rn_eq, b_X7_read_246]
        simp only [EV, LV, CB, OI, OL, NP, CZ, popN, CT, OZ, List.map_nil, List.map_cons, List.sum_nil, List.sum_cons, Option.toList, List.nil_append, List.cons_append, Int.reduceToNat, Nat.reduceAdd, Nat.reduceLT, Nat.reduceLeDiff, List.length_cons, List.length_nil, Nat.zero_add, if_true, if_false, reduceIte, and_self, and_true, true_and, eq_self, reduceCtorEq, nI_1]
        exact h1
      by_cases h0 : rsn (m.1 77 K) l (m.1 78 K) p0 = 0
      · rw [h0, rm_in _ hK l f (nI N) w i 1 noV m (.long p0) (Or.inr ⟨_, rfl⟩) (by omega)]
        generalize hp1 : f.toInt64 + ((2 : Int32) * nI i).toInt64 + (nI 1).toInt64 = p1
        rw [at164 _ p1 2 (Or.inr rfl)]
        by_cases h1 : rsn (m.1 77 K) l (m.1 78 K) p1 = 0
        · rw [h1]
          have a0 := rsn_0 h0
          have a1 := rsn_0 h1
          rw [← hp0, p_i (by omega) (by omega)] at a0
          rw [← hp1, p_i (by omega) (by omega)] at a1
          have bs := hI 78 K
          rw [show ivO TV 78 K = (0, 40) from by rw [iv_1 (by decide)]; decide] at bs
          have bs2 : (m.1 78 K).toInt ≤ 40 := bs.2
          obtain ⟨c, hc⟩ : ∃ c : Nat, f.toInt + 2 * (i : Int) = c := ⟨(f.toInt + 2 * (i : Int)).toNat, by omega⟩
          have ei := ix_rd (by omega : i ≤ 100) hK hc (by omega)
          have e2 : inR (nI (40 * K + c)) 160 = true := inR_nI (by omega) (by omega)
          have e3 : (nI (40 * K + c)).toNatClampNeg = 40 * K + c := nI_clamp (by omega)
          have e4 : inR (nI (40 * K + c + 1)) 160 = true := inR_nI (by omega) (by omega)
          have e5 : (nI (40 * K + c + 1)).toNatClampNeg = 40 * K + c + 1 := nI_clamp (by omega)
          obtain ⟨v, m', a1, a2, a3, a4, a5, -⟩ := hall_11 wS d q_X7_find fm_mem [.ref 68, .int (m.1 79 (40 * K + c)), .int (m.1 79 (40 * K + c + 1)), .int 0, .int 0] m ⟨gv_rf 68, gv_tI _, gv_tI _, gv_tI _, gv_tI _, trivial⟩ hI rho_nil
          cases v with
          | none => exact a2.elim
          | some v =>
            obtain ⟨y, hy, -⟩ := a2
            subst hy
            have a1 : semZ shP wS (d + 16) 147 [.ref 68, .int (m.1 79 (40 * K + c)), .int (m.1 79 (40 * K + c + 1)), .int 0, .int 0] m = some (some (.int y), m') := a1
            have hf' : frm c_rm.2.2.2.2.2.1 mE m' := frm_tr hf a5 (by decide)
            have hB' : ∀ j, j < 63 → (ivO TV 69 j).1 ≤ (m'.1 80 j).toInt ∧ (m'.1 80 j).toInt ≤ (ivO TV 69 j).2 := fun j hj => by
              rw [(a5 80 j (by omega) (by decide) (fun z => by
                have q := List.all_eq_true.mp (show (q_X7_find.2.2.2.2.2.1.2).all (fun c => decide (c < 16000)) = true by decide) _ z
                simp only [decide_eq_true_eq] at q
                omega)).1]
              exact hB j hj
            have g1 := gM MP68
            have b1 := aM MP68
            simp only [Nat.reduceAdd] at g1 b1
            by_cases hy : 0 ≤ y
            · obtain ⟨r, h1, h2⟩ := ih (i + 1) (by omega) m' 0 (w + 1) (.int (nI (40 * K + c))) (.long p1) a3 hf' hB' (Or.inr ⟨_, rfl⟩) (Or.inr ⟨_, rfl⟩)
              refine ⟨r, ?_, h2⟩
              rw [rn_eq, b_X7_read_164]
              simp only [EV, LV, CB, OI, OL, NP, CZ, popN, CT, OZ, List.map_nil, List.map_cons, List.sum_nil, List.sum_cons, Option.toList, List.nil_append, List.cons_append, Int.reduceToNat, Nat.reduceAdd, Nat.reduceLT, Nat.reduceLeDiff, List.length_cons, List.length_nil, Nat.zero_add, if_true, if_false, reduceIte, and_self, and_true, true_and, eq_self, reduceCtorEq, ei, g1, b1, e2, e3, nI_1, e4, e5, a1, hy, not_true_eq_false]
              rw [rn_eq, b_X7_read_243]
              simp only [EV, LV, CB, OI, OL, NP, CZ, popN, CT, OZ, List.map_nil, List.map_cons, List.sum_nil, List.sum_cons, Option.toList, List.nil_append, List.cons_append, Int.reduceToNat, Nat.reduceAdd, Nat.reduceLT, Nat.reduceLeDiff, List.length_cons, List.length_nil, Nat.zero_add, if_true, if_false, reduceIte, and_self, and_true, true_and, eq_self, reduceCtorEq, nI_1]
              exact h1
            · have bk := rm_bk (semZ shP wS (d + 16)) m' (m'.1 69) (nI K) l f (nI N) 0 w (nI i) (nI (40 * K + c)) noV 63 0 rfl
              rw [fillR_0, setR_id] at bk
              refine ⟨(some (.int (-20 - nI i)), setR m' 69 (fillR (m'.1 80) (m'.1 69) 63)), ?_, ret_tI (-20 - nI i), Inv_setR a3 (fun j => ?_), rho_nil, frm_row hf' (fun j hj hne => row_in (a := 0) (by decide +kernel) (by unfold fillR at hne; split at hne; omega; exact absurd rfl hne)), rfl⟩
              · rw [rn_eq, b_X7_read_164]
                simp only [EV, LV, CB, OI, OL, NP, CZ, popN, CT, OZ, List.map_nil, List.map_cons, List.sum_nil, List.sum_cons, Option.toList, List.nil_append, List.cons_append, Int.reduceToNat, Nat.reduceAdd, Nat.reduceLT, Nat.reduceLeDiff, List.length_cons, List.length_nil, Nat.zero_add, if_true, if_false, reduceIte, and_self, and_true, true_and, eq_self, reduceCtorEq, ei, g1, b1, e2, e3, nI_1, e4, e5, a1, hy, not_true_eq_false]
                exact bk
              · unfold fillR
                split
                · rename_i hj
                  exact hB' j hj
                · exact a3 69 j
        · exact bad164 _ p1 2 h1
      · rw [at164 _ p0 1 (Or.inl h0)]
        exact bad164 _ p0 1 h0
    · obtain ⟨r, h1, h2⟩ := rm_end (semZ shP wS (d + 16)) hI hf (nI K) l f (nI N) x w (nI i) v8 v9 noV
      refine ⟨r, ?_, h2⟩
      rw [rn_eq, b_X7_read_62]
      simp only [EV, LV, CB, OI, OL, NP, CZ, popN, CT, OZ, List.map_nil, List.map_cons, List.sum_nil, List.sum_cons, Option.toList, List.nil_append, List.cons_append, Int.reduceToNat, Nat.reduceAdd, Nat.reduceLT, Nat.reduceLeDiff, List.length_cons, List.length_nil, Nat.zero_add, if_true, if_false, reduceIte, and_self, and_true, true_and, eq_self, reduceCtorEq, e1, hx, not_false_eq_true]
      exact h1
theorem hd_rm (wS : List Value → Mm → Option Rs) (d : Nat) : Hd TV (semZ shP wS (d + 17)) c_rm := by
  apply Hd_run
  intro As m g hI hR
  obtain ⟨v1, vs, rfl, k1, g⟩ := gT_cons g
  obtain ⟨v2, vs, rfl, k2, g⟩ := gT_cons g
  obtain ⟨v3, vs, rfl, k3, g⟩ := gT_cons g
  obtain ⟨v4, vs, rfl, k4, g⟩ := gT_cons g
  obtain ⟨v5, vs, rfl, k5, g⟩ := gT_cons g
  cases gT_nil g
  obtain ⟨r', rfl, hr⟩ := k1
  have hr : r' = 68 := List.mem_singleton.mp hr
  subst hr
  obtain ⟨k, rfl, -⟩ := k2
  obtain ⟨l, rfl, -⟩ := k3
  obtain ⟨f, rfl, -⟩ := k4
  obtain ⟨n, rfl, -⟩ := k5
  show ∃ r, semZ shP wS (d + 17) 182 [.ref 68, .int k, .int l, .int f, .int n] m = some r ∧ _
  have bad : PostR TV m c_rm (some (.int (-1)), m) := ⟨ret_tI _, hI, rho_nil, frm_rf, rfl⟩
  have e10 : ¬ (1 : Int32) = 0 := by decide
  rw [se_X7_read, rn_eq, b_X7_read_0]
  cases h1 : ((decide (0 ≤ k.toInt64) && decide (k.toInt64 ≤ 3)) && (decide (0 ≤ l.toInt64) && decide (l.toInt64 ≤ 2))) with
  | false =>
    refine ⟨_, ?_, bad⟩
    simp only [EV, LV, CB, OI, OL, NP, CZ, popN, CT, OZ, List.map_nil, List.map_cons, List.sum_nil, List.sum_cons, Option.toList, List.nil_append, List.cons_append, Int.reduceToNat, Nat.reduceAdd, Nat.reduceLT, Nat.reduceLeDiff, List.length_cons, List.length_nil, Nat.zero_add, if_true, if_false, reduceIte, and_self, and_true, true_and, eq_self, reduceCtorEq, t_isSheet wS (d + 14), h1, bI_f]
    rw [rn_eq, b_X7_read_21]
    simp only [EV, LV, CB, OI, OL, NP, CZ, popN, CT, OZ, List.map_nil, List.map_cons, List.sum_nil, List.sum_cons, Option.toList, List.nil_append, List.cons_append, Int.reduceToNat, Nat.reduceAdd, Nat.reduceLT, Nat.reduceLeDiff, List.length_cons, List.length_nil, Nat.zero_add, if_true, if_false, reduceIte, and_self, and_true, true_and, eq_self, reduceCtorEq]
  | true =>
    cases h3 : (decide (0 ≤ n.toInt64) && decide (n.toInt64 ≤ 20)) with
    | false =>
      refine ⟨_, ?_, bad⟩
      simp only [EV, LV, CB, OI, OL, NP, CZ, popN, CT, OZ, List.map_nil, List.map_cons, List.sum_nil, List.sum_cons, Option.toList, List.nil_append, List.cons_append, Int.reduceToNat, Nat.reduceAdd, Nat.reduceLT, Nat.reduceLeDiff, List.length_cons, List.length_nil, Nat.zero_add, if_true, if_false, reduceIte, and_self, and_true, true_and, eq_self, reduceCtorEq, t_isSheet wS (d + 14), t_in wS (d + 15), h1, h3, bI_f, bI_t, not_true_eq_false, e10]
    | true =>
      rw [Bool.and_eq_true] at h1
      have q1 := pm_n (n := 3) (N := 3) (by decide) h1.1
      have q3 := pm_n (n := 20) (N := 20) (by decide) h3
      have h1' : ((decide (0 ≤ k.toInt64) && decide (k.toInt64 ≤ 3)) && (decide (0 ≤ l.toInt64) && decide (l.toInt64 ≤ 2))) = true := by rw [Bool.and_eq_true]; exact h1
      have ek := i_nI (y := k) (by omega)
      have en := i_nI (y := n) (by omega)
      have hk : k.toInt.toNat < 4 := by omega
      have hn : n.toInt.toNat ≤ 20 := by omega
      have bB : ∀ j, (ivO TV 80 j).1 ≤ (fillR (m.1 69) (m.1 80) 63 j).toInt ∧ (fillR (m.1 69) (m.1 80) 63 j).toInt ≤ (ivO TV 80 j).2 := fill_bd (fun j => hI 69 j) (fun j => hI 80 j) tv_80
      obtain ⟨r, a1, a2⟩ := rm_loop wS d (mE := m) hk l f n.toInt.toNat hn n.toInt.toNat 0 (by omega) (setR m 80 (fillR (m.1 69) (m.1 80) 63)) 0 0 noV noV (Inv_setR hI bB) (frm_setR frm_rf (by decide)) (fun j hj => by
        rw [setR_s]
        unfold fillR
        rw [if_pos hj]
        exact hI 69 j) (Or.inl rfl) (Or.inl (Or.inl rfl))
      rw [← ek, ← en] at a1
      have cp := rm_cp (semZ shP wS (d + 16)) m (m.1 80) k l f n [noV, noV, noV, noV, noV] 63 0 rfl
      rw [fillR_0, setR_id] at cp
      refine ⟨r, ?_, a2⟩
      simp only [EV, LV, CB, OI, OL, NP, CZ, popN, CT, OZ, List.map_nil, List.map_cons, List.sum_nil, List.sum_cons, Option.toList, List.nil_append, List.cons_append, Int.reduceToNat, Nat.reduceAdd, Nat.reduceLT, Nat.reduceLeDiff, List.length_cons, List.length_nil, Nat.zero_add, if_true, if_false, reduceIte, and_self, and_true, true_and, eq_self, reduceCtorEq, t_isSheet wS (d + 14), t_in wS (d + 15), h1', h3, bI_f, bI_t, not_true_eq_false, not_false_eq_true, e10]
      rw [rn_eq, b_X7_read_23]
      simp only [EV, LV, CB, OI, OL, NP, CZ, popN, CT, OZ, List.map_nil, List.map_cons, List.sum_nil, List.sum_cons, Option.toList, List.nil_append, List.cons_append, Int.reduceToNat, Nat.reduceAdd, Nat.reduceLT, Nat.reduceLeDiff, List.length_cons, List.length_nil, Nat.zero_add, if_true, if_false, reduceIte, and_self, and_true, true_and, eq_self, reduceCtorEq]
      refine Eq.trans cp ?_
      rw [rn_eq, b_X7_read_53]
      simp only [EV, LV, CB, OI, OL, NP, CZ, popN, CT, OZ, List.map_nil, List.map_cons, List.sum_nil, List.sum_cons, Option.toList, List.nil_append, List.cons_append, Int.reduceToNat, Nat.reduceAdd, Nat.reduceLT, Nat.reduceLeDiff, List.length_cons, List.length_nil, Nat.zero_add, if_true, if_false, reduceIte, and_self, and_true, true_and, eq_self, reduceCtorEq]
      exact a1
