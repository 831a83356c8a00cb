/-! nights of both -/
theorem nsF_o {V N : Nat} {t : Nat → Nat} (ht : ∀ i, i < V → t i < V) (hV : V ≤ 4) (hN : N ≤ 6) {j : Nat} (hj : 44 ≤ j) : ∀ k f r, Atf V N f → nsF V N t k f r j = f j := by
  intro k
  induction k with
  | zero => intro f r _; rfl
  | succ k ih =>
    intro f r ha
    have na := ng_at ht hV hN r ha
    unfold nsF
    rw [ih _ _ na.1]
    exact na.2.1 j (by omega) (by omega) (by omega)
theorem lt1000 (x : Int32) : (x < 1000) = (x ≤ 999) := by
  apply propext
  rw [Int32.lt_iff_toInt_lt, Int32.le_iff_toInt_le, show (1000 : Int32).toInt = 1000 from by decide, show (999 : Int32).toInt = 999 from by decide]
  omega
section Bn
variable {wS : List Value → Mm → Option Rs} (d : Nat) {V N : Nat} {m : Mm}
theorem r41 (hI : InvT TV m) : 0 < m.1 69 41 := by
  have i := hI 69 41
  rw [iv_at.2] at i
  have i1 : 1 ≤ (m.1 69 41).toInt := i.1
  rw [Int32.lt_iff_toInt_lt, show (0 : Int32).toInt = 0 from by decide]
  omega
theorem b_nights (n : Int32) (hI : InvT TV m) (h : LNow V N m) : ∃ x m1 m2, semZ shP wS (d + 30) 57 [.ref 0, .int n] m = some (some (.int x), m1) ∧ semZ shP wS (d + 30) 149 [.ref 68, .int n] m1 = some (some (.int x), m2) ∧ LNow V N m2 ∧ ∀ j, 44 ≤ j → j ≤ 62 → m2.1 69 j = m.1 69 j := by
  have h0 := h
  obtain ⟨h3, hC, h6, hT, hA⟩ := h
  have hV := hC.1
  have hN := hC.2.1
  have c5 := hC.2.2.2.2.2.2.2.2.1
  have e10 : ¬ (1 : Int32) = 0 := by decide
  have d1 := dec64 n 0 30 0 30 (by decide) (by decide)
  have i42 : inR 42 189 = true ∧ (42 : Int32).toNatClampNeg = 42 := by decide +kernel
  rw [se_X6_nights, r_X6_nights_0]
  cases hn : (decide (0 ≤ n) && decide (n ≤ 30)) with
  | false =>
    refine ⟨-1, m, m, ?_, ?_, h0, fun _ _ _ => rfl⟩
    · simp only [EV, LV, CB, OI, OL, NP, CZ, popN, CT, OZ, List.map_nil, List.map_cons, List.sum_nil, List.sum_cons, Option.toList, List.nil_append, List.cons_append, Int.reduceToNat, Nat.reduceAdd, Nat.reduceLT, Nat.reduceLeDiff, List.length_cons, List.length_nil, Nat.zero_add, if_true, if_false, reduceIte, and_self, and_true, true_and, eq_self, reduceCtorEq, t_within wS (d + 28), hn, bI_f, not_true_eq_false]
    · rw [se_X7_nights, r_X7_nights_0]
      simp only [EV, LV, CB, OI, OL, NP, CZ, popN, CT, OZ, List.map_nil, List.map_cons, List.sum_nil, List.sum_cons, Option.toList, List.nil_append, List.cons_append, Int.reduceToNat, Nat.reduceAdd, Nat.reduceLT, Nat.reduceLeDiff, List.length_cons, List.length_nil, Nat.zero_add, if_true, if_false, reduceIte, and_self, and_true, true_and, eq_self, reduceCtorEq, t_in wS (d + 28), d1, hn, bI_f, not_true_eq_false]
  | true =>
    by_cases q : m.1 69 42 + n < 1000
    · obtain ⟨K, hK, rfl⟩ := in_nI (N := 30) (by decide) hn
      have q' : m.1 69 42 + nI K ≤ 999 := by rw [← lt1000]; exact q
      obtain ⟨F, eF⟩ : ∃ F, F = fillR (m.1 69) (m.1 70) 63 := ⟨_, rfl⟩
      have eF' : ∀ j, j < 63 → F j = m.1 69 j := fun j hj => by
        rw [eF]
        unfold fillR
        rw [if_pos hj]
      have hC' : CW 1 V N F m := CW_e hC (fun j hj => eF' j (by omega)) (fun _ _ _ _ _ => rfl)
      have hA' : Atf V N F := Atf_e hA hN (fun j hj => eF' j (by omega))
      have ht : ∀ i, i < V → id i < V := fun i hi => hi
      have hr : 0 < F 41 := by rw [eF' 41 (by omega)]; exact r41 hI
      obtain ⟨m1, r1, k1, -, k6, kF, kA⟩ := t_passC wS (d + 25) WP1 (t := id) ht (n := K) (by omega) hC' hA' (fun i hi => hT i (by omega)) hr 0
      have r1 : semZ shP wS (d + 29) 37 [.ref 1, .int (nI K)] m = _ := r1
      have e6 : m1.1 1 6 = nsF V N id K F 0 43 := by
        rw [k6, h6, ← eF' 43 (by omega)]
        exact nsQ_43 ht hV hN K F 0 hA' (Int32.or_zero)
      have mo : ∀ o, 9 < o → m1.1 o = m.1 o := fun o ho => kF.1 o (by omega)
      obtain ⟨P, eP⟩ : ∃ P, P = setR (setR m1 (68 + 2) (fillR (m1.1 (68 + 1)) (m1.1 (68 + 2)) 63)) (68 + 6) (fillR nI (m1.1 (68 + 6)) 4) := ⟨_, rfl⟩
      have ts := t_starts (wS := wS) (d + 28) MP68 m1
      rw [← eP] at ts
      have ts : semZ shP wS (d + 29) 123 [.ref 68] m1 = some (none, P) := ts
      have p70 : P.1 70 = F := by rw [eP, setR_n _ _ (by omega), setR_s, mo (68 + 1) (by omega), mo (68 + 2) (by omega), eF]
      have p74 : ∀ i, i < V → P.1 74 i = nI (id i) := fun i hi => by
        rw [eP, setR_s]
        unfold fillR
        rw [if_pos (by omega)]
        rfl
      have po : ∀ o, o ≠ 70 → o ≠ 74 → P.1 o = m1.1 o := fun o a b => by rw [eP, setR_n _ _ (by omega), setR_n _ _ (by omega)]
      obtain ⟨M, r2, g70, -, -, gF⟩ := t_paidM wS (d + 23) (m := P) (t := id) hV hN ht (n := K) (by omega) (by rw [po 68 (by omega) (by omega), mo 68 (by omega)]; exact h3) (by rw [p70, eF' 38 (by omega)]; exact hC.2.2.2.2.1) (by rw [p70]; exact hA') p74 (by rw [p70]; exact hr)
      have r2 : semZ shP wS (d + 29) 135 [.ref 68, .int (nI K)] P = _ := r2
      rw [p70] at r2 g70
      have tt := t_settles (wS := wS) (d + 28) MP68 M
      have tt : semZ shP wS (d + 29) 124 [.ref 68] M = some (none, setR M 69 (fillR (M.1 70) (M.1 69) 63)) := tt
      obtain ⟨Q, eQ⟩ : ∃ Q, Q = setR M 69 (fillR (M.1 70) (M.1 69) 63) := ⟨_, rfl⟩
      rw [← eQ] at tt
      have q9 : ∀ j, j < 63 → Q.1 69 j = nsF V N id K F 0 j := fun j hj => by
        rw [eQ, setR_s]
        unfold fillR
        rw [if_pos hj, g70]
      have qo : ∀ o, o ≠ 69 → o ≠ 68 → o ≠ 70 → o ≠ 74 → Q.1 o = m1.1 o := fun o a b c e => by rw [eQ, setR_n _ _ a, gF.1 o c b, po o c e]
      refine ⟨smM F V 0 0 - smM (nsF V N id K F 0) V 0 0, m1, Q, ?_, ?_, LNow_g h0 (fun j hj => q9 j (by omega)) k1 kA e6 kF.2 (by rw [eQ, setR_n _ _ (by omega), gF.2 3 (by omega) (by omega), po 68 (by omega) (by omega), mo 68 (by omega)]) (fun o a b => qo o (by omega) (by omega) (by omega) (by omega)), fun j a b => ?_⟩
      · simp only [EV, LV, CB, OI, OL, NP, CZ, popN, CT, OZ, List.map_nil, List.map_cons, List.sum_nil, List.sum_cons, Option.toList, List.nil_append, List.cons_append, Int.reduceToNat, Nat.reduceAdd, Nat.reduceLT, Nat.reduceLeDiff, List.length_cons, List.length_nil, Nat.zero_add, if_true, if_false, reduceIte, and_self, and_true, true_and, eq_self, reduceCtorEq, t_within wS (d + 28), hn, bI_t, e10, not_false_eq_true, r_X6_nights_12, gP0, gW WP1, c5, q, r_X6_nights_32, r1]
      · have m42 : m1.1 69 42 + nI K ≤ 999 := by rw [mo 69 (by omega)]; exact q'
        rw [se_X7_nights, r_X7_nights_0]
        simp only [EV, LV, CB, OI, OL, NP, CZ, popN, CT, OZ, List.map_nil, List.map_cons, List.sum_nil, List.sum_cons, Option.toList, List.nil_append, List.cons_append, Int.reduceToNat, Nat.reduceAdd, Nat.reduceLT, Nat.reduceLeDiff, List.length_cons, List.length_nil, Nat.zero_add, if_true, if_false, reduceIte, and_self, and_true, true_and, eq_self, reduceCtorEq, gM MP68, aM MP68, t_in wS (d + 28), d1, hn, bI_t, e10, not_false_eq_true, r_X7_nights_14, i42, m42, r_X7_nights_32, ts, r2, tt]
      · rw [q9 j (by omega), nsF_o ht hV hN a K F 0 hA', eF' j (by omega)]
    · have q' : ¬ m.1 69 42 + n ≤ 999 := by rw [← lt1000]; exact q
      refine ⟨-3, m, m, ?_, ?_, h0, fun _ _ _ => rfl⟩
      · simp only [EV, LV, CB, OI, OL, NP, CZ, popN, CT, OZ, List.map_nil, List.map_cons, List.sum_nil, List.sum_cons, Option.toList, List.nil_append, List.cons_append, Int.reduceToNat, Nat.reduceAdd, Nat.reduceLT, Nat.reduceLeDiff, List.length_cons, List.length_nil, Nat.zero_add, if_true, if_false, reduceIte, and_self, and_true, true_and, eq_self, reduceCtorEq, t_within wS (d + 28), hn, bI_t, e10, not_false_eq_true, r_X6_nights_12, gP0, gW WP1, c5, q, r_X6_nights_40]
      · rw [se_X7_nights, r_X7_nights_0]
        simp only [EV, LV, CB, OI, OL, NP, CZ, popN, CT, OZ, List.map_nil, List.map_cons, List.sum_nil, List.sum_cons, Option.toList, List.nil_append, List.cons_append, Int.reduceToNat, Nat.reduceAdd, Nat.reduceLT, Nat.reduceLeDiff, List.length_cons, List.length_nil, Nat.zero_add, if_true, if_false, reduceIte, and_self, and_true, true_and, eq_self, reduceCtorEq, gM MP68, aM MP68, t_in wS (d + 28), d1, hn, bI_t, e10, not_false_eq_true, r_X7_nights_14, i42, q']
end Bn
