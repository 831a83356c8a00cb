/-! readLine and text of the model, whole -/
section Ms
variable {B : Nat → Int32} {n : Nat} (wS : List Value → Mm → Option Rs) (d : Nat) {m : Mm}
theorem mdl_v : mdl 0 = 4 ∧ mdl 1 = 0 ∧ mdl 2 = 1 ∧ mdl 3 = 2 ∧ mdl 4 = 3 ∧ mdl 5 = 5 ∧ mdl 6 = 6 ∧ mdl 7 = 7 ∧ mdl 8 = -4 := ⟨rfl, rfl, rfl, rfl, rfl, rfl, rfl, rfl, rfl⟩
/-- the state with a fault at the token's begin -/
def pf (P : P6) (c : Int32) : P6 := (P.1, P.2.1, P.2.2.1, P.2.2.2.1, c, nI P.2.1)
theorem t_nd1 (P : P6) (m : Mm) (c : Int32) : semZ shP wS (d + 1) 107 [.ref 68, .int 1, .int c] (pmP m P) = some (none, pmP m P) := by
  rw [t_ndP, if_neg (fun z => absurd z.1 (by decide))]
theorem t_nd0 {P : P6} (h : P.2.2.2.2.1 = 0) (m : Mm) (c : Int32) : semZ shP wS (d + 1) 107 [.ref 68, .int 0, .int c] (pmP m P) = some (none, pmP m (pf P c)) := by
  rw [t_ndP, if_pos ⟨rfl, h⟩]
  rfl
theorem t_ndf {P : P6} (h : ¬ P.2.2.2.2.1 = 0) (m : Mm) (g c : Int32) : semZ shP wS (d + 1) 107 [.ref 68, .int g, .int c] (pmP m P) = some (none, pmP m P) := by
  rw [t_ndP, if_neg (fun z => h z.2)]
/-- no name that begins a line -/
theorem rl_no {P : P6} (h0 : P.2.2.2.2.1 = 0) {N : Nat} (hN : N ≤ 6) (h38 : m.1 72 38 = nI N) : rn shP tb0 mN mO (semZ shP wS (d + 5)) none (codeZ 117) 29 [.ref 68, .int (-4)] [.ref 68] (pmP m P) = some (none, pmP m (pf P 2)) := by
  have e20 : ¬ (2 : Int32) = 0 := by decide
  have c1 : ¬ (-4 : Int32) = 4 := by decide
  have c2 : ¬ (4 : Int32) < -4 := by decide
  have c3 : ¬ (2 : Int32) ≤ 0 := by decide
  have f2 : (pf P 2).2.2.2.2.1 = 2 := rfl
  have tf := t_tkF wS (d + 4) (P := pf P 2) (by rw [f2]; decide) m
  rw [r_X7_readLine_29]
  by_cases h : (6 : Int32) ≤ nI N
  · simp only [EV, LV, CB, OI, OL, NP, CZ, popN, CT, OZ, List.map_nil, List.map_cons, List.sum_nil, List.sum_cons, Option.toList, List.nil_append, List.cons_append, Int.reduceToNat, Nat.reduceAdd, Nat.reduceLT, Nat.reduceLeDiff, List.length_cons, List.length_nil, Nat.zero_add, if_true, if_false, reduceIte, and_self, and_true, true_and, eq_self, reduceCtorEq, C68, t_nd0 wS (d + 4) h0, c1, not_false_eq_true, r_X7_readLine_56, c2, GP68, AP72, in_cell, h38, h, r_X7_readLine_77, t_ndf wS (d + 4) (P := pf P 2) (by rw [f2]; exact e20), f2, e20, r_X7_readLine_127, tf, c3]
  · simp only [EV, LV, CB, OI, OL, NP, CZ, popN, CT, OZ, List.map_nil, List.map_cons, List.sum_nil, List.sum_cons, Option.toList, List.nil_append, List.cons_append, Int.reduceToNat, Nat.reduceAdd, Nat.reduceLT, Nat.reduceLeDiff, List.length_cons, List.length_nil, Nat.zero_add, if_true, if_false, reduceIte, and_self, and_true, true_and, eq_self, reduceCtorEq, C68, t_nd0 wS (d + 4) h0, c1, not_false_eq_true, r_X7_readLine_56, c2, GP68, AP72, in_cell, h38, h, r_X7_readLine_78, t_ndf wS (d + 4) (P := pf P 2) (by rw [f2]; exact e20), f2, e20, r_X7_readLine_127, tf, c3]
theorem t_rlX (hB : Tp B n) (hm : TM B n m) {V N : Nat} {f : Nat → Int32} {c : Nat} (hM : MT V N f c m) {p : Nat} (hp : p ≤ n) (h0 : (lx B p).1 ≠ 0) (h4 : (lx B p).1 ≠ 4) (va wr : Int32) : ∃ M, semZ shP wS (d + 6) 117 [.ref 68] (ml B m p va wr) = some (none, M) ∧ LnM B n p m M wr (line B p V N f c) := by
  obtain ⟨g1, g2, g3, g4, g5, g6, g7, g8⟩ := hM
  have hb := lx_b hB hp
  have hlt := hb.2.2.2.2.2 h0
  have so := lx_so h4
  have e10 : ¬ (1 : Int32) = 0 := by decide
  have h38 : m.1 72 38 = nI N := by rw [g1]; exact g3
  have P0 : (lexP B p va wr).2.2.2.2.1 = 0 := by
    show (if (lx B p).1 = 4 then 1 else 0) = (0 : Int32)
    rw [if_neg h4]
  have Ps : (lexP B p va wr).2.2.1 = nI (lx B p).1 := so
  have Pe : (lexP B p va wr) = ((lx B p).2.2, (lx B p).2.1, soX B (lx B p).2.1, vaX B (lx B p).2.1 (lx B p).2.2 va, 0, wr) := by
    unfold lexP
    rw [if_neg h4, if_neg h4]
  rw [ml_P, se_X7_readLine, r_X7_readLine_0]
  unfold line
  by_cases h1 : (lx B p).1 = 1
  · rw [if_pos h1]
    have Ps : (lexP B p va wr).2.2.1 = 1 := by rw [Ps, h1]; rfl
    have ln := t_lineNow wS (d + 1) hB hm hb.2.1 hb.2.2.1 (soX B (lx B p).2.1) (vaX B (lx B p).2.1 (lx B p).2.2 va) 0 wr
    have ln : semZ shP wS (d + 5) 112 [.ref 68] (pmP m (lexP B p va wr)) = some (some (.int (mdl (lnX B (lx B p).2.1 (lx B p).2.2))), pmP m (lexP B p va wr)) := by
      rw [Pe]
      exact ln
    have hl := lnX_le B (lx B p).2.1 (lx B p).2.2
    generalize lnX B (lx B p).2.1 (lx B p).2.2 = k at ln hl
    by_cases h8 : k = 8
    · rw [if_pos h8]
      subst h8
      have m8 : mdl 8 = -4 := rfl
      rw [m8] at ln
      refine ⟨pmP m (pf (lexP B p va wr) 2), ?_, FltM_P (x := (2, (lx B p).2.1)) ⟨rfl, rfl, (by decide : (0 : Int32) < 2)⟩ FrM_rf, (by decide : (0 : Int32) < 2)⟩
      simp only [EV, LV, CB, OI, OL, NP, CZ, popN, CT, OZ, List.map_nil, List.map_cons, List.sum_nil, List.sum_cons, Option.toList, List.nil_append, List.cons_append, Int.reduceToNat, Nat.reduceAdd, Nat.reduceLT, Nat.reduceLeDiff, List.length_cons, List.length_nil, Nat.zero_add, if_true, if_false, reduceIte, and_self, and_true, true_and, eq_self, reduceCtorEq, C68, GP68, Ps, not_true_eq_false, ln, r_X7_readLine_17, rl_no wS d P0 g7 h38]
    · rw [if_neg h8]
      have k8 : k < 8 := by omega
      -- up to the second check
      have st30 : exI shP tb0 mN mO (semZ shP wS (d + 5)) none (rn shP tb0 mN mO (semZ shP wS (d + 5)) none (codeZ 117)) [.aload 0, .getfield 712, .sipush (1), .if_icmp .ne 15, .aload 0, .invokevirtual 112, .goto 17] [.ref 68, noV] [] (pmP m (lexP B p va wr)) = rn shP tb0 mN mO (semZ shP wS (d + 5)) none (codeZ 117) 30 [.ref 68, .int (mdl k)] [.int 1, .ref 68] (pmP m (lexP B p va wr)) := by
        have n4 : ¬ mdl k = -4 := by
          have : ∀ k, k < 8 → ¬ mdl k = -4 := by decide
          exact this k k8
        simp only [EV, LV, CB, OI, OL, NP, CZ, popN, CT, OZ, List.map_nil, List.map_cons, List.sum_nil, List.sum_cons, Option.toList, List.nil_append, List.cons_append, Int.reduceToNat, Nat.reduceAdd, Nat.reduceLT, Nat.reduceLeDiff, List.length_cons, List.length_nil, Nat.zero_add, if_true, if_false, reduceIte, and_self, and_true, true_and, eq_self, reduceCtorEq, C68, GP68, Ps, not_true_eq_false, ln, r_X7_readLine_17, n4]
      rw [st30]
      -- takes behind the name
      have tk : ∀ m1, TM B n m1 → semZ shP wS (d + 5) 113 [.ref 68] (pmP m1 (lexP B p va wr)) = some (none, pmP m1 (lexP B (lx B p).2.2 (vaX B (lx B p).2.1 (lx B p).2.2 va) wr)) := fun m1 h => by
        rw [Pe]
        exact t_tkL wS (d + 3) hB h hb.2.2.1 (lx B p).2.1 (soX B (lx B p).2.1) (vaX B (lx B p).2.1 (lx B p).2.2 va) wr
      have fin : ∀ m1, TM B n m1 → rn shP tb0 mN mO (semZ shP wS (d + 5)) none (codeZ 117) 127 [.ref 68, .int (mdl k)] [] (pmP m1 (lexP B p va wr)) = (if (lx B (lx B p).2.2).1 = 4 then some (none, ml B m1 (lx B p).2.2 (vaX B (lx B p).2.1 (lx B p).2.2 va) wr) else rn shP tb0 mN mO (semZ shP wS (d + 5)) none (codeZ 117) 139 [.ref 68, .int (mdl k)] [] (ml B m1 (lx B p).2.2 (vaX B (lx B p).2.1 (lx B p).2.2 va) wr)) := fun m1 h => by
        rw [r_X7_readLine_127]
        by_cases q : (lx B (lx B p).2.2).1 = 4
        · have z : (lexP B (lx B p).2.2 (vaX B (lx B p).2.1 (lx B p).2.2 va) wr).2.2.2.2.1 = 1 := by
            show (if (lx B (lx B p).2.2).1 = 4 then 1 else 0) = (1 : Int32)
            rw [if_pos q]
          have z2 : ¬ (1 : Int32) ≤ 0 := by decide
          rw [if_pos q, ml_P]
          simp only [EV, LV, CB, OI, OL, NP, CZ, popN, CT, OZ, List.map_nil, List.map_cons, List.sum_nil, List.sum_cons, Option.toList, List.nil_append, List.cons_append, Int.reduceToNat, Nat.reduceAdd, Nat.reduceLT, Nat.reduceLeDiff, List.length_cons, List.length_nil, Nat.zero_add, if_true, if_false, reduceIte, and_self, and_true, true_and, eq_self, reduceCtorEq, C68, tk m1 h, GP68, z, z2]
        · have z : (lexP B (lx B p).2.2 (vaX B (lx B p).2.1 (lx B p).2.2 va) wr).2.2.2.2.1 = 0 := by
            show (if (lx B (lx B p).2.2).1 = 4 then 1 else 0) = (0 : Int32)
            rw [if_neg q]
          have z2 : (0 : Int32) ≤ 0 := by decide
          rw [if_neg q, ml_P]
          simp only [EV, LV, CB, OI, OL, NP, CZ, popN, CT, OZ, List.map_nil, List.map_cons, List.sum_nil, List.sum_cons, Option.toList, List.nil_append, List.cons_append, Int.reduceToNat, Nat.reduceAdd, Nat.reduceLT, Nat.reduceLeDiff, List.length_cons, List.length_nil, Nat.zero_add, if_true, if_false, reduceIte, and_self, and_true, true_and, eq_self, reduceCtorEq, C68, tk m1 h, GP68, z, z2]
      have f5 : (pf (lexP B p va wr) 5).2.2.2.2.1 = 5 := rfl
      have f4 : (pf (lexP B p va wr) 4).2.2.2.2.1 = 4 := rfl
      have e50 : ¬ (5 : Int32) = 0 := by decide
      have e40 : ¬ (4 : Int32) = 0 := by decide
      have l50 : ¬ (5 : Int32) ≤ 0 := by decide
      have l40 : ¬ (4 : Int32) ≤ 0 := by decide
      have tf5 := t_tkF wS (d + 4) (P := pf (lexP B p va wr) 5) (by rw [f5]; decide) m
      have nr5 : FltM m (pmP m (pf (lexP B p va wr) 5)) (5, (lx B p).2.1) := FltM_P (x := (5, (lx B p).2.1)) ⟨rfl, rfl, (by decide : (0 : Int32) < 5)⟩ FrM_rf
      have mid0 : Mid V N f c m m := ⟨FrM_rf, g1, g2, g3, g5, g6, g7, g4, g8⟩
      obtain ⟨t1, t2⟩ := tl_is c g8 k k8
      have hps : p < (lx B p).2.2 := by omega
      by_cases k0 : k = 0
      · subst k0
        have nt : toldX c 0 = false := by unfold toldX; rfl
        rw [nt, if_neg (by decide)]
        have m0 : mdl 0 = 4 := rfl
        have c44 : ¬ (4 : Int32) < 4 := by decide
        have l44 : (4 : Int32) ≤ 4 := by decide
        rw [m0] at fin ⊢
        by_cases hV : (4 : Int32) ≤ nI V
        · have hr : noRoom 0 V N = true := by
            have : V = 4 := by
              have := (nI_leI (a := 4) (b := V) (by omega) (by omega)).mp hV
              omega
            subst this
            rfl
          rw [hr, if_pos rfl]
          refine ⟨_, ?_, nr5, (by decide : (0 : Int32) < 5)⟩
          rw [r_X7_readLine_30]
          simp only [EV, LV, CB, OI, OL, NP, CZ, popN, CT, OZ, List.map_nil, List.map_cons, List.sum_nil, List.sum_cons, Option.toList, List.nil_append, List.cons_append, Int.reduceToNat, Nat.reduceAdd, Nat.reduceLT, Nat.reduceLeDiff, List.length_cons, List.length_nil, Nat.zero_add, if_true, if_false, reduceIte, and_self, and_true, true_and, eq_self, reduceCtorEq, C68, t_nd1 wS (d + 4), not_true_eq_false, GP68, g2, hV, r_X7_readLine_52, r_X7_readLine_78, t_nd0 wS (d + 4) P0, f5, e50, not_false_eq_true, r_X7_readLine_127, tf5, l50]
        · have hr : noRoom 0 V N = false := by
            have : ¬ 4 ≤ V := fun z => hV (nI_le (a := 4) z (by omega))
            cases q : noRoom 0 V N with
            | false => rfl
            | true =>
              unfold noRoom at q
              simp at q
              exact absurd q this
          rw [hr, if_neg (by decide)]
          obtain ⟨M, b1, b2⟩ := rl_go wS d hB hm (k := 0) (c := c) (by omega) hr mid0 hps hb.2.2.1 (vaX B (lx B p).2.1 (lx B p).2.2 va) wr
          refine ⟨M, ?_, b2⟩
          rw [r_X7_readLine_30]
          simp only [EV, LV, CB, OI, OL, NP, CZ, popN, CT, OZ, List.map_nil, List.map_cons, List.sum_nil, List.sum_cons, Option.toList, List.nil_append, List.cons_append, Int.reduceToNat, Nat.reduceAdd, Nat.reduceLT, Nat.reduceLeDiff, List.length_cons, List.length_nil, Nat.zero_add, if_true, if_false, reduceIte, and_self, and_true, true_and, eq_self, reduceCtorEq, C68, t_nd1 wS (d + 4), not_true_eq_false, GP68, g2, hV, r_X7_readLine_78, P0, l44]
          rw [fin m hm]
          exact b1
      · by_cases k4 : k ≤ 4
        · have nt : toldX c k = false := by
            unfold toldX
            have a5 : (k == 5) = false := by simpa using (show k ≠ 5 by omega)
            have a6 : (k == 6) = false := by simpa using (show k ≠ 6 by omega)
            have a7 : (k == 7) = false := by simpa using (show k ≠ 7 by omega)
            rw [a5, a6, a7]
            rfl
          rw [nt, if_neg (by decide)]
          have mk : ∀ k, k < 5 → k ≠ 0 → ¬ mdl k = 4 ∧ ¬ 4 < mdl k ∧ mdl k ≤ 4 := by decide
          obtain ⟨d1, d2, d3⟩ := mk k (by omega) k0
          by_cases hN : (6 : Int32) ≤ nI N
          · have hr : noRoom k V N = true := by
              have : N = 6 := by
                have := (nI_leI (a := 6) (b := N) (by omega) (by omega)).mp hN
                omega
              subst this
              cases q : noRoom k V 6 with
              | true => rfl
              | false => exact absurd (nr_N (by omega) k4 q) (by omega)
            rw [hr, if_pos rfl]
            refine ⟨_, ?_, nr5, (by decide : (0 : Int32) < 5)⟩
            rw [r_X7_readLine_30]
            simp only [EV, LV, CB, OI, OL, NP, CZ, popN, CT, OZ, List.map_nil, List.map_cons, List.sum_nil, List.sum_cons, Option.toList, List.nil_append, List.cons_append, Int.reduceToNat, Nat.reduceAdd, Nat.reduceLT, Nat.reduceLeDiff, List.length_cons, List.length_nil, Nat.zero_add, if_true, if_false, reduceIte, and_self, and_true, true_and, eq_self, reduceCtorEq, C68, t_nd1 wS (d + 4), d1, d2, not_false_eq_true, r_X7_readLine_56, GP68, AP72, in_cell, h38, hN, r_X7_readLine_77, t_nd0 wS (d + 4) P0, f5, e50, r_X7_readLine_127, tf5, l50]
          · have hr : noRoom k V N = false := by
              have n6 : ¬ 6 ≤ N := fun z => hN (nI_le (a := 6) z (by omega))
              cases q : noRoom k V N with
              | false => rfl
              | true =>
                unfold noRoom at q
                simp at q
                omega
            rw [hr, if_neg (by decide)]
            have c5 : (if 5 ≤ k then c + 2 ^ (k - 5) else c) = c := if_neg (by omega)
            obtain ⟨M, b1, b2⟩ := rl_go wS d hB hm (k := k) (c := c) k8 hr (by rw [c5]; exact mid0) hps hb.2.2.1 (vaX B (lx B p).2.1 (lx B p).2.2 va) wr
            refine ⟨M, ?_, b2⟩
            rw [r_X7_readLine_30]
            simp only [EV, LV, CB, OI, OL, NP, CZ, popN, CT, OZ, List.map_nil, List.map_cons, List.sum_nil, List.sum_cons, Option.toList, List.nil_append, List.cons_append, Int.reduceToNat, Nat.reduceAdd, Nat.reduceLT, Nat.reduceLeDiff, List.length_cons, List.length_nil, Nat.zero_add, if_true, if_false, reduceIte, and_self, and_true, true_and, eq_self, reduceCtorEq, C68, t_nd1 wS (d + 4), d1, d2, not_false_eq_true, r_X7_readLine_56, GP68, AP72, in_cell, h38, hN, r_X7_readLine_78, P0, not_true_eq_false, d3]
            rw [fin m hm]
            exact b1
        · have mk : ∀ k, k < 8 → 5 ≤ k → ¬ mdl k = 4 ∧ 4 < mdl k ∧ ¬ mdl k ≤ 4 ∧ mdl k = nI k := by decide +kernel
          obtain ⟨d1, d2, d3, d4⟩ := mk k k8 (by omega)
          rw [d4] at d1 d2 d3
          have hr : noRoom k V N = false := by
            unfold noRoom
            have a0 : (k == 0) = false := by simpa using k0
            have a4 : Nat.ble k 4 = false := by
              cases q : Nat.ble k 4 with
              | false => rfl
              | true => rw [Nat.ble_eq] at q; omega
            rw [a0, a4]
            simp
          have st78 : rn shP tb0 mN mO (semZ shP wS (d + 5)) none (codeZ 117) 30 [.ref 68, .int (mdl k)] [.int 1, .ref 68] (pmP m (lexP B p va wr)) = (if (tlV c >>> (nI k &&& 31)) &&& 1 = 0 then rn shP tb0 mN mO (semZ shP wS (d + 5)) none (codeZ 117) 111 [.ref 68, .int (mdl k)] [.int 1, .ref 68] (pmP m (lexP B p va wr)) else rn shP tb0 mN mO (semZ shP wS (d + 5)) none (codeZ 117) 110 [.ref 68, .int (mdl k)] [.ref 68] (pmP m (lexP B p va wr))) := by
            rw [r_X7_readLine_30]
            simp only [EV, LV, CB, OI, OL, NP, CZ, popN, CT, OZ, List.map_nil, List.map_cons, List.sum_nil, List.sum_cons, Option.toList, List.nil_append, List.cons_append, Int.reduceToNat, Nat.reduceAdd, Nat.reduceLT, Nat.reduceLeDiff, List.length_cons, List.length_nil, Nat.zero_add, if_true, if_false, reduceIte, and_self, and_true, true_and, eq_self, reduceCtorEq, C68, t_nd1 wS (d + 4), d1, d2, d3, not_false_eq_true, r_X7_readLine_56, r_X7_readLine_73, r_X7_readLine_78, GP68, P0, not_true_eq_false, g4, d4]
            by_cases q : (tlV c >>> (nI k &&& 31)) &&& 1 = 0
            · simp only [q, not_true_eq_false, if_true, if_false]
            · simp only [q, not_false_eq_true, if_true, if_false]
          rw [st78]
          cases ht : toldX c k with
          | true =>
            have n0 : ¬ (tlV c >>> (nI k &&& 31)) &&& 1 = 0 := fun z => by
              rw [t2.mp z] at ht
              cases ht
            rw [if_pos rfl, if_neg n0]
            have tf4 := t_tkF wS (d + 4) (P := pf (lexP B p va wr) 4) (by rw [f4]; decide)
            refine ⟨pmP (wI m 68 6 (tlV c ||| (1 <<< (nI k &&& 31)))) (pf (lexP B p va wr) 4), ?_, FltM_P (x := (4, (lx B p).2.1)) ⟨rfl, rfl, (by decide : (0 : Int32) < 4)⟩ (FrM_e FrM_rf (by omega) _), (by decide : (0 : Int32) < 4)⟩
            rw [r_X7_readLine_110]
            simp only [EV, LV, CB, OI, OL, NP, CZ, popN, CT, OZ, List.map_nil, List.map_cons, List.sum_nil, List.sum_cons, Option.toList, List.nil_append, List.cons_append, Int.reduceToNat, Nat.reduceAdd, Nat.reduceLT, Nat.reduceLeDiff, List.length_cons, List.length_nil, Nat.zero_add, if_true, if_false, reduceIte, and_self, and_true, true_and, eq_self, reduceCtorEq, C68, t_nd0 wS (d + 4) P0, GP68, PP68, g4, d4, tf4, f4, l40]
          | false =>
            rw [if_pos (t2.mpr ht), if_neg (by decide), hr, if_neg (by decide)]
            obtain ⟨o1, o2⟩ := tl_or c g8 k k8 (by omega) ht
            have c5 : (if 5 ≤ k then c + 2 ^ (k - 5) else c) = c + 2 ^ (k - 5) := if_pos (by omega)
            have hm1 : TM B n (wI m 68 6 (tlV (c + 2 ^ (k - 5)))) := TM_fr hm (FrM_e FrM_rf (by omega) _)
            have mid1 : Mid V N f (c + 2 ^ (k - 5)) m (wI m 68 6 (tlV (c + 2 ^ (k - 5)))) := ⟨FrM_e FrM_rf (by omega) _, by rw [wI_n _ _ _ _ (by omega)]; exact g1, by rw [wI_j _ _ _ _ _ (by omega)]; exact g2, g3, by rw [wI_j _ _ _ _ _ (by omega)]; exact g5, g6, g7, wI_s _ _ _ _, o2⟩
            obtain ⟨M, b1, b2⟩ := rl_go wS d hB hm1 (k := k) (c := c) k8 hr (by rw [c5]; exact mid1) hps hb.2.2.1 (vaX B (lx B p).2.1 (lx B p).2.2 va) wr
            refine ⟨M, ?_, b2⟩
            have fin1 := fin (wI m 68 6 (tlV (c + 2 ^ (k - 5)))) hm1
            rw [← fin1, r_X7_readLine_127] at b1
            rw [r_X7_readLine_111]
            have o1' : tlV c ||| (1 <<< (mdl k &&& 31)) = tlV (c + 2 ^ (k - 5)) := by rw [d4]; exact o1
            simp only [EV, LV, CB, OI, OL, NP, CZ, popN, CT, OZ, List.map_nil, List.map_cons, List.sum_nil, List.sum_cons, Option.toList, List.nil_append, List.cons_append, Int.reduceToNat, Nat.reduceAdd, Nat.reduceLT, Nat.reduceLeDiff, List.length_cons, List.length_nil, Nat.zero_add, if_true, if_false, reduceIte, and_self, and_true, true_and, eq_self, reduceCtorEq, C68, t_nd1 wS (d + 4), GP68, PP68, g4, o1']
            simp only [EV, LV, CB, OI, OL, NP, CZ, popN, CT, OZ, List.map_nil, List.map_cons, List.sum_nil, List.sum_cons, Option.toList, List.nil_append, List.cons_append, Int.reduceToNat, Nat.reduceAdd, Nat.reduceLT, Nat.reduceLeDiff, List.length_cons, List.length_nil, Nat.zero_add, if_true, if_false, reduceIte, and_self, and_true, true_and, eq_self, reduceCtorEq, C68, GP68] at b1
            exact b1
  · rw [if_neg h1]
    have n1 : ¬ nI (lx B p).1 = 1 := fun q => h1 ((nI_eq (b := 1) (by omega) (by omega)).mp q)
    have bd : bad (lx B p).1 = 2 := by
      unfold bad
      rw [if_neg h4]
    rw [bd]
    refine ⟨pmP m (pf (lexP B p va wr) 2), ?_, FltM_P (x := (2, (lx B p).2.1)) ⟨rfl, rfl, (by decide : (0 : Int32) < 2)⟩ FrM_rf, (by decide : (0 : Int32) < 2)⟩
    simp only [EV, LV, CB, OI, OL, NP, CZ, popN, CT, OZ, List.map_nil, List.map_cons, List.sum_nil, List.sum_cons, Option.toList, List.nil_append, List.cons_append, Int.reduceToNat, Nat.reduceAdd, Nat.reduceLT, Nat.reduceLeDiff, List.length_cons, List.length_nil, Nat.zero_add, if_true, if_false, reduceIte, and_self, and_true, true_and, eq_self, reduceCtorEq, C68, GP68, Ps, n1, not_false_eq_true, r_X7_readLine_15, rl_no wS d P0 g7 h38]
end Ms
