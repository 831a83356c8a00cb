/-! BY HAND: read of the class, whole; read of the model -/
theorem wi_i {a b v : Int32} (h : (decide (a ≤ v) && decide (v ≤ b)) = true) : a.toInt ≤ v.toInt ∧ v.toInt ≤ b.toInt := by
  simp only [Bool.and_eq_true, decide_eq_true_eq, Int32.le_iff_toInt_le] at h
  exact h
theorem hd_rd (wS : List Value → Mm → Option Rs) (d : Nat) : Hd TV (semZ shP wS (d + 17)) c_rd := by
  apply Hd_run
  intro As m g hI hR
  obtain ⟨v1, vs, rfl, k1, g⟩ := gT_cons g
  obtain ⟨v2, vs, rfl, k2, g⟩ := gT_cons g
  obtain ⟨v3, vs, rfl, k3, g⟩ := gT_cons g
  obtain ⟨v4, vs, rfl, k4, g⟩ := gT_cons g
  obtain ⟨v5, vs, rfl, k5, g⟩ := gT_cons g
  cases gT_nil g
  obtain ⟨r', rfl, hr⟩ := k1
  have hr : r' = 0 := List.mem_singleton.mp hr
  subst hr
  obtain ⟨k, rfl, -⟩ := k2
  obtain ⟨l, rfl, -⟩ := k3
  obtain ⟨f, rfl, -⟩ := k4
  obtain ⟨n, rfl, -⟩ := k5
  show ∃ r, semZ shP wS (d + 17) 96 [.ref 0, .int k, .int l, .int f, .int n] m = some r ∧ _
  have bad : PostR TV m c_rd (some (.int (-1)), m) := ⟨ret_tI _, hI, rho_nil, frm_rf, rfl⟩
  rw [se_X6_read, rn_eq, b_X6_read_0]
  cases h1 : (decide (0 ≤ k) && decide (k ≤ 3)) with
  | false =>
    refine ⟨_, ?_, bad⟩
    simp only [EV, LV, CB, OI, OL, NP, CZ, popN, CT, OZ, List.map_nil, List.map_cons, List.sum_nil, List.sum_cons, Option.toList, List.nil_append, List.cons_append, Int.reduceToNat, Nat.reduceAdd, Nat.reduceLT, Nat.reduceLeDiff, List.length_cons, List.length_nil, Nat.zero_add, if_true, if_false, reduceIte, and_self, and_true, true_and, eq_self, reduceCtorEq, t_within wS (d + 15), h1, bI_f]
    rw [rn_eq, b_X6_read_29]
    simp only [EV, LV, CB, OI, OL, NP, CZ, popN, CT, OZ, List.map_nil, List.map_cons, List.sum_nil, List.sum_cons, Option.toList, List.nil_append, List.cons_append, Int.reduceToNat, Nat.reduceAdd, Nat.reduceLT, Nat.reduceLeDiff, List.length_cons, List.length_nil, Nat.zero_add, if_true, if_false, reduceIte, and_self, and_true, true_and, eq_self, reduceCtorEq]
  | true =>
    cases h2 : (decide (0 ≤ l) && decide (l ≤ 2)) with
    | false =>
      refine ⟨_, ?_, bad⟩
      have e10 : ¬ (1 : Int32) = 0 := by decide
      simp only [EV, LV, CB, OI, OL, NP, CZ, popN, CT, OZ, List.map_nil, List.map_cons, List.sum_nil, List.sum_cons, Option.toList, List.nil_append, List.cons_append, Int.reduceToNat, Nat.reduceAdd, Nat.reduceLT, Nat.reduceLeDiff, List.length_cons, List.length_nil, Nat.zero_add, if_true, if_false, reduceIte, and_self, and_true, true_and, eq_self, reduceCtorEq, t_within wS (d + 15), h1, h2, bI_f, bI_t, e10]
      rw [rn_eq, b_X6_read_29]
      simp only [EV, LV, CB, OI, OL, NP, CZ, popN, CT, OZ, List.map_nil, List.map_cons, List.sum_nil, List.sum_cons, Option.toList, List.nil_append, List.cons_append, Int.reduceToNat, Nat.reduceAdd, Nat.reduceLT, Nat.reduceLeDiff, List.length_cons, List.length_nil, Nat.zero_add, if_true, if_false, reduceIte, and_self, and_true, true_and, eq_self, reduceCtorEq]
    | true =>
      cases h3 : (decide (0 ≤ n) && decide (n ≤ 20)) with
      | false =>
        refine ⟨_, ?_, bad⟩
        have e10 : ¬ (1 : Int32) = 0 := by decide
        simp only [EV, LV, CB, OI, OL, NP, CZ, popN, CT, OZ, List.map_nil, List.map_cons, List.sum_nil, List.sum_cons, Option.toList, List.nil_append, List.cons_append, Int.reduceToNat, Nat.reduceAdd, Nat.reduceLT, Nat.reduceLeDiff, List.length_cons, List.length_nil, Nat.zero_add, if_true, if_false, reduceIte, and_self, and_true, true_and, eq_self, reduceCtorEq, t_within wS (d + 15), h1, h2, h3, bI_f, bI_t, not_true_eq_false, e10]
      | true =>
        have q1 := wi_i h1
        have q3 := wi_i h3
        have z0 : (0 : Int32).toInt = 0 := by decide
        have z3 : (3 : Int32).toInt = 3 := by decide
        have z20 : (20 : Int32).toInt = 20 := by decide
        have ek := i_nI (y := k) (by omega)
        have en := i_nI (y := n) (by omega)
        have hk : k.toInt.toNat < 4 := by omega
        have hn : n.toInt.toNat ≤ 20 := by omega
        have ea := aR28 _ hk
        rw [← ek] at ea
        have hw : 60 + 2 * k.toInt.toNat ∈ ([60, 62, 64, 66] : List Nat) := by
          generalize k.toInt.toNat = K at hk
          match K, hk with
          | 0, _ => decide
          | 1, _ => decide
          | 2, _ => decide
          | 3, _ => decide
        have hb := hI 1 1
        rw [show ivO TV 1 1 = (0, 6) from by decide +kernel] at hb
        obtain ⟨r, a1, a2⟩ := rd_loop wS d (mE := m) hw k l f n.toInt.toNat hn (m.1 1 1) hb n.toInt.toNat 0 (by omega) m 0 0 noV noV noV hI frm_rf (Or.inl ⟨rfl, rfl⟩) (Or.inl rfl)
        rw [← en] at a1
        refine ⟨r, ?_, a2⟩
        have e10 : ¬ (1 : Int32) = 0 := by decide
        simp only [EV, LV, CB, OI, OL, NP, CZ, popN, CT, OZ, List.map_nil, List.map_cons, List.sum_nil, List.sum_cons, Option.toList, List.nil_append, List.cons_append, Int.reduceToNat, Nat.reduceAdd, Nat.reduceLT, Nat.reduceLeDiff, List.length_cons, List.length_nil, Nat.zero_add, if_true, if_false, reduceIte, and_self, and_true, true_and, eq_self, reduceCtorEq, t_within wS (d + 15), h1, h2, h3, bI_f, bI_t, not_true_eq_false, not_false_eq_true, e10]
        rw [rn_eq, b_X6_read_31]
        simp only [EV, LV, CB, OI, OL, NP, CZ, popN, CT, OZ, List.map_nil, List.map_cons, List.sum_nil, List.sum_cons, Option.toList, List.nil_append, List.cons_append, Int.reduceToNat, Nat.reduceAdd, Nat.reduceLT, Nat.reduceLeDiff, List.length_cons, List.length_nil, Nat.zero_add, if_true, if_false, reduceIte, and_self, and_true, true_and, eq_self, reduceCtorEq, gP0, ea, gW WP1]
        exact a1
/-! the model's read -/
def stC (a : Nat) : List Nat := (List.range 63).map (fun j => a + j)
def c_rm : CE := (182, [rF [68], tI, tI, tI, tI], [], tI, [], ([80], 13627 :: stC 13800), [])
theorem fm_mem : q_X7_find ∈ t_11 := by
  unfold q_X7_find t_11 t_10 t_9 t_8 t_7 t_6 t_5 t_4 t_3 t_2 t_1
  simp only [List.mem_append, List.mem_cons, true_or, or_true]
theorem tv_80 : (List.range 63).all (fun j => decide ((ivO TV 80 j).1 ≤ (ivO TV 69 j).1) && decide ((ivO TV 69 j).2 ≤ (ivO TV 80 j).2)) = true := by decide +kernel
section H7
variable (wS : List Value → Mm → Option Rs) (d : Nat)
theorem rm_cp (C : CallS) (m : Mm) (g : Nat → Int32) (k l f n : Int32) (V : List Value) : ∀ (q i : Nat), i + q = 63 → rn shP tb0 mN mO C (some .int) (codeZ 182) 26 ([.ref 68, .int k, .int l, .int f, .int n, .int (nI i)] ++ V) [] (setR m 80 (fillR (m.1 69) g i)) = rn shP tb0 mN mO C (some .int) (codeZ 182) 53 ([.ref 68, .int k, .int l, .int f, .int n, .int 63] ++ V) [] (setR m 80 (fillR (m.1 69) g 63)) := by
  intro q
  induction q with
  | zero =>
    intro i hi
    have e0 : i = 63 := by omega
    subst e0
    rw [rn_eq, b_X7_read_26]
    have e1 : (63 : Int32) ≤ nI 63 := by decide +kernel
    simp only [e1, EV, LV, CB, OI, OL, NP, CZ, popN, CT, OZ, List.map_nil, List.map_cons, List.sum_nil, List.sum_cons, Option.toList, List.nil_append, List.cons_append, Int.reduceToNat, Nat.reduceAdd, Nat.reduceLT, Nat.reduceLeDiff, List.length_cons, List.length_nil, Nat.zero_add, if_true, if_false, reduceIte, and_self, and_true, true_and, eq_self, reduceCtorEq]
    rfl
  | succ q ih =>
    intro i hi
    have e1 : ¬ (63 : Int32) ≤ nI i := nI_ge (a := i) (b := 63) (by omega) (by omega)
    have e2 : inR (nI i) 63 = true := inR_nI (by omega) (by omega)
    have e5 : inR (nI i) 189 = true := inR_nI (by omega) (by omega)
    have e3 : (nI i).toNatClampNeg = i := nI_clamp (by omega)
    have e4 := fillR_s (m.1 69) g i
    have e : (69 : Nat) ≠ 80 := by omega
    have g1 := gM MP68
    have a1 := aM MP68
    have s1 := sM MP68
    simp only [Nat.reduceAdd] at g1 a1 s1
    rw [rn_eq, b_X7_read_26]
    simp only [EV, LV, CB, OI, OL, NP, CZ, popN, CT, OZ, List.map_nil, List.map_cons, List.sum_nil, List.sum_cons, Option.toList, List.nil_append, List.cons_append, Int.reduceToNat, Nat.reduceAdd, Nat.reduceLT, Nat.reduceLeDiff, List.length_cons, List.length_nil, Nat.zero_add, if_true, if_false, reduceIte, and_self, and_true, true_and, eq_self, reduceCtorEq, g1, a1, s1, e1, e2, e3, e5, wI_R, setR_s, setR_n _ _ e, setR_R, e4, nI_1]
    exact ih (i + 1) (by omega)
/-- the state given back -/
theorem rm_bk (C : CallS) (m : Mm) (g : Nat → Int32) (k l f n x w i p : Int32) (v10 : Value) : ∀ (q j : Nat), j + q = 63 → rn shP tb0 mN mO C (some .int) (codeZ 182) 210 [.ref 68, .int k, .int l, .int f, .int n, .int x, .int w, .int i, .int p, .int (nI j), v10] [] (setR m 69 (fillR (m.1 80) g j)) = some (some (.int (-20 - i)), setR m 69 (fillR (m.1 80) g 63)) := by
  intro q
  induction q with
  | zero =>
    intro j hj
    have e0 : j = 63 := by omega
    subst e0
    rw [rn_eq, b_X7_read_210]
    have e1 : (63 : Int32) ≤ nI 63 := by decide +kernel
    simp only [e1, EV, LV, CB, OI, OL, NP, CZ, popN, CT, OZ, List.map_nil, List.map_cons, List.sum_nil, List.sum_cons, Option.toList, List.nil_append, List.cons_append, Int.reduceToNat, Nat.reduceAdd, Nat.reduceLT, Nat.reduceLeDiff, List.length_cons, List.length_nil, Nat.zero_add, if_true, if_false, reduceIte, and_self, and_true, true_and, eq_self, reduceCtorEq]
    rw [rn_eq, b_X7_read_237]
    simp only [EV, LV, CB, OI, OL, NP, CZ, popN, CT, OZ, List.map_nil, List.map_cons, List.sum_nil, List.sum_cons, Option.toList, List.nil_append, List.cons_append, Int.reduceToNat, Nat.reduceAdd, Nat.reduceLT, Nat.reduceLeDiff, List.length_cons, List.length_nil, Nat.zero_add, if_true, if_false, reduceIte, and_self, and_true, true_and, eq_self, reduceCtorEq]
  | succ q ih =>
    intro j hj
    have e1 : ¬ (63 : Int32) ≤ nI j := nI_ge (a := j) (b := 63) (by omega) (by omega)
    have e2 : inR (nI j) 63 = true := inR_nI (by omega) (by omega)
    have e5 : inR (nI j) 189 = true := inR_nI (by omega) (by omega)
    have e3 : (nI j).toNatClampNeg = j := nI_clamp (by omega)
    have e4 := fillR_s (m.1 80) g j
    have e : (80 : Nat) ≠ 69 := by omega
    have g1 := gM MP68
    have a1 := aM MP68
    have s1 := sM MP68
    simp only [Nat.reduceAdd] at g1 a1 s1
    rw [rn_eq, b_X7_read_210]
    simp only [EV, LV, CB, OI, OL, NP, CZ, popN, CT, OZ, List.map_nil, List.map_cons, List.sum_nil, List.sum_cons, Option.toList, List.nil_append, List.cons_append, Int.reduceToNat, Nat.reduceAdd, Nat.reduceLT, Nat.reduceLeDiff, List.length_cons, List.length_nil, Nat.zero_add, if_true, if_false, reduceIte, and_self, and_true, true_and, eq_self, reduceCtorEq, g1, a1, s1, e1, e2, e3, e5, wI_R, setR_s, setR_n _ _ e, setR_R, e4, nI_1]
    exact ih (j + 1) (by omega)
theorem rm_end (C : CallS) {mE m : Mm} (hI : InvT TV m) (hf : frm c_rm.2.2.2.2.2.1 mE m) (k l f n x w i : Int32) (v8 v9 v10 : Value) : ∃ r, rn shP tb0 mN mO C (some .int) (codeZ 182) 252 [.ref 68, .int k, .int l, .int f, .int n, .int x, .int w, .int i, v8, v9, v10] [] m = some r ∧ PostR TV mE c_rm r := by
  refine ⟨(some (.int w), wI m 68 27 x), ?_, ret_tI w, Inv_wI hI ?_ ?_, rho_nil, frm_wI (by decide) hf (by decide), rfl⟩
  · rw [rn_eq, b_X7_read_252]
    have e : pfI shP 727 68 (.int x) m = some (wI m 68 27 x) := rfl
    simp only [EV, LV, CB, OI, OL, NP, CZ, popN, CT, OZ, List.map_nil, List.map_cons, List.sum_nil, List.sum_cons, Option.toList, List.nil_append, List.cons_append, Int.reduceToNat, Nat.reduceAdd, Nat.reduceLT, Nat.reduceLeDiff, List.length_cons, List.length_nil, Nat.zero_add, if_true, if_false, reduceIte, and_self, and_true, true_and, eq_self, reduceCtorEq, e]
  · rw [show ivO TV 68 27 = (-2147483648, 2147483647) from by decide +kernel]; exact (r32 x).1
  · rw [show ivO TV 68 27 = (-2147483648, 2147483647) from by decide +kernel]; exact (r32 x).2
/-- the reason at one place -/
def rsn (ln l sz : Int32) (p : Int64) : Int32 := if ln = -4 then 1 else if ¬ ln = l then 3 else if p < 0 then 2 else if p < sz.toInt64 then 0 else 2
theorem rm_in (C : CallS) {K : Nat} (hK : K < 4) (l f n w : Int32) (i : Nat) (j : Nat) (v10 : Value) (m : Mm) (v9 : Value) (h9 : (v9 = noV ∨ ∃ y : Int32, v9 = .int y) ∨ ∃ y : Int64, v9 = .long y) (hj : j < 2) : rn shP tb0 mN mO C (some .int) (codeZ 182) 77 [.ref 68, .int (nI K), .int l, .int f, .int n, .int 0, .int w, .int (nI i), .int (nI j), v9, v10] [] m = rn shP tb0 mN mO C (some .int) (codeZ 182) 77 [.ref 68, .int (nI K), .int l, .int f, .int n, .int (rsn (m.1 77 K) l (m.1 78 K) (f.toInt64 + ((2 : Int32) * nI i).toInt64 + (nI j).toInt64)), .int w, .int (nI i), .int (nI (j + 1)), .long (f.toInt64 + ((2 : Int32) * nI i).toInt64 + (nI j).toInt64), noV] [] m := by
  generalize hp : f.toInt64 + ((2 : Int32) * nI i).toInt64 + (nI j).toInt64 = p
  have e1 : ¬ (2 : Int32) ≤ nI j := nI_ge (a := j) (b := 2) (by omega) (by omega)
  have e2 : inR (nI K) 4 = true := inR_nI (by omega) (by omega)
  have e3 : (nI K).toNatClampNeg = K := nI_clamp (by omega)
  have g1 := gM MP68
  have a1 := aM MP68
  simp only [Nat.reduceAdd] at g1 a1
  have fin : ∀ x : Int32, rn shP tb0 mN mO C (some .int) (codeZ 182) 156 [.ref 68, .int (nI K), .int l, .int f, .int n, .int 0, .int w, .int (nI i), .int (nI j), .long p, noV] [.int x] m = rn shP tb0 mN mO C (some .int) (codeZ 182) 77 [.ref 68, .int (nI K), .int l, .int f, .int n, .int x, .int w, .int (nI i), .int (nI (j + 1)), .long p, noV] [] m := by
    intro x
    rw [rn_eq, b_X7_read_156]
    simp only [EV, LV, CB, OI, OL, NP, CZ, popN, CT, OZ, List.map_nil, List.map_cons, List.sum_nil, List.sum_cons, Option.toList, List.nil_append, List.cons_append, Int.reduceToNat, Nat.reduceAdd, Nat.reduceLT, Nat.reduceLeDiff, List.length_cons, List.length_nil, Nat.zero_add, if_true, if_false, reduceIte, and_self, and_true, true_and, eq_self, reduceCtorEq, nI_1]
  have mid : rn shP tb0 mN mO C (some .int) (codeZ 182) 77 [.ref 68, .int (nI K), .int l, .int f, .int n, .int 0, .int w, .int (nI i), .int (nI j), v9, v10] [] m = if m.1 77 K = -4 then rn shP tb0 mN mO C (some .int) (codeZ 182) 156 [.ref 68, .int (nI K), .int l, .int f, .int n, .int 0, .int w, .int (nI i), .int (nI j), .long p, noV] [.int 1] m else rn shP tb0 mN mO C (some .int) (codeZ 182) 117 [.ref 68, .int (nI K), .int l, .int f, .int n, .int 0, .int w, .int (nI i), .int (nI j), .long p, noV] [] m := by
    rw [rn_eq, b_X7_read_77]
    by_cases h4 : m.1 77 K = -4
    · rcases h9 with (rfl | ⟨y, rfl⟩) | ⟨y, rfl⟩ <;> simp only [EV, LV, CB, OI, OL, NP, CZ, popN, CT, OZ, List.map_nil, List.map_cons, List.sum_nil, List.sum_cons, Option.toList, List.nil_append, List.cons_append, Int.reduceToNat, Nat.reduceAdd, Nat.reduceLT, Nat.reduceLeDiff, List.length_cons, List.length_nil, Nat.zero_add, if_true, if_false, reduceIte, and_self, and_true, true_and, eq_self, reduceCtorEq, e1, hp, g1, a1, e2, e3, h4, not_true_eq_false]
    · rcases h9 with (rfl | ⟨y, rfl⟩) | ⟨y, rfl⟩ <;> simp only [EV, LV, CB, OI, OL, NP, CZ, popN, CT, OZ, List.map_nil, List.map_cons, List.sum_nil, List.sum_cons, Option.toList, List.nil_append, List.cons_append, Int.reduceToNat, Nat.reduceAdd, Nat.reduceLT, Nat.reduceLeDiff, List.length_cons, List.length_nil, Nat.zero_add, if_true, if_false, reduceIte, and_self, and_true, true_and, eq_self, reduceCtorEq, e1, hp, g1, a1, e2, e3, h4, not_true_eq_false, not_false_eq_true]
  rw [mid]
  unfold rsn
  by_cases h4 : m.1 77 K = -4
  · rw [if_pos h4, if_pos h4, fin]
  · rw [if_neg h4, if_neg h4, rn_eq, b_X7_read_117]
    by_cases h5 : m.1 77 K = l
    · have n5 : ¬ ¬ m.1 77 K = l := fun z => z h5
      rw [if_neg n5]
      simp only [EV, LV, CB, OI, OL, NP, CZ, popN, CT, OZ, List.map_nil, List.map_cons, List.sum_nil, List.sum_cons, Option.toList, List.nil_append, List.cons_append, Int.reduceToNat, Nat.reduceAdd, Nat.reduceLT, Nat.reduceLeDiff, List.length_cons, List.length_nil, Nat.zero_add, if_true, if_false, reduceIte, and_self, and_true, true_and, eq_self, reduceCtorEq, g1, a1, e2, e3, h5]
      rw [rn_eq, b_X7_read_131]
      by_cases h6 : p < 0
      · rw [if_pos h6]
        simp only [EV, LV, CB, OI, OL, NP, CZ, popN, CT, OZ, List.map_nil, List.map_cons, List.sum_nil, List.sum_cons, Option.toList, List.nil_append, List.cons_append, Int.reduceToNat, Nat.reduceAdd, Nat.reduceLT, Nat.reduceLeDiff, List.length_cons, List.length_nil, Nat.zero_add, if_true, if_false, reduceIte, and_self, and_true, true_and, eq_self, reduceCtorEq, lc_lt, h6]
        rw [rn_eq, b_X7_read_151]
        simp only [EV, LV, CB, OI, OL, NP, CZ, popN, CT, OZ, List.map_nil, List.map_cons, List.sum_nil, List.sum_cons, Option.toList, List.nil_append, List.cons_append, Int.reduceToNat, Nat.reduceAdd, Nat.reduceLT, Nat.reduceLeDiff, List.length_cons, List.length_nil, Nat.zero_add, if_true, if_false, reduceIte, and_self, and_true, true_and, eq_self, reduceCtorEq]
        exact fin 2
      · rw [if_neg h6]
        by_cases h7 : p < (m.1 78 K).toInt64
        · rw [if_pos h7]
          simp only [EV, LV, CB, OI, OL, NP, CZ, popN, CT, OZ, List.map_nil, List.map_cons, List.sum_nil, List.sum_cons, Option.toList, List.nil_append, List.cons_append, Int.reduceToNat, Nat.reduceAdd, Nat.reduceLT, Nat.reduceLeDiff, List.length_cons, List.length_nil, Nat.zero_add, if_true, if_false, reduceIte, and_self, and_true, true_and, eq_self, reduceCtorEq, g1, a1, e2, e3, lc_lt, h6, h7]
          rw [rn_eq, b_X7_read_155]
          simp only [EV, LV, CB, OI, OL, NP, CZ, popN, CT, OZ, List.map_nil, List.map_cons, List.sum_nil, List.sum_cons, Option.toList, List.nil_append, List.cons_append, Int.reduceToNat, Nat.reduceAdd, Nat.reduceLT, Nat.reduceLeDiff, List.length_cons, List.length_nil, Nat.zero_add, if_true, if_false, reduceIte, and_self, and_true, true_and, eq_self, reduceCtorEq, nI_1]
        · rw [if_neg h7]
          simp only [EV, LV, CB, OI, OL, NP, CZ, popN, CT, OZ, List.map_nil, List.map_cons, List.sum_nil, List.sum_cons, Option.toList, List.nil_append, List.cons_append, Int.reduceToNat, Nat.reduceAdd, Nat.reduceLT, Nat.reduceLeDiff, List.length_cons, List.length_nil, Nat.zero_add, if_true, if_false, reduceIte, and_self, and_true, true_and, eq_self, reduceCtorEq, g1, a1, e2, e3, lc_lt, h6, h7]
          exact fin 2
    · rw [if_pos h5]
      simp only [EV, LV, CB, OI, OL, NP, CZ, popN, CT, OZ, List.map_nil, List.map_cons, List.sum_nil, List.sum_cons, Option.toList, List.nil_append, List.cons_append, Int.reduceToNat, Nat.reduceAdd, Nat.reduceLT, Nat.reduceLeDiff, List.length_cons, List.length_nil, Nat.zero_add, if_true, if_false, reduceIte, and_self, and_true, true_and, eq_self, reduceCtorEq, g1, a1, e2, e3, h5]
      exact fin 3
end H7
