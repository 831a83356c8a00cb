/-! text of the model -/
section Mt
variable {B : Nat → Int32} {n : Nat} (wS : List Value → Mm → Option Rs) (d : Nat)
theorem PP9 (m : Mm) (P : P6) (x : Int32) : pfI shP 709 68 (.int x) (pmP m P) = some (pmP (wI m 68 9 x) P) := by
  have a : pfI shP 709 68 (.int x) (pm m P.1 P.2.1 P.2.2.1 P.2.2.2.1 P.2.2.2.2.1 P.2.2.2.2.2) = some (wI (pm m P.1 P.2.1 P.2.2.1 P.2.2.2.1 P.2.2.2.2.1 P.2.2.2.2.2) 68 9 x) := rfl
  show pfI shP 709 68 (.int x) (pm m _ _ _ _ _ _) = _
  rw [a, pm_wo m _ _ _ _ _ _ _ _ (by omega)]
  rfl
theorem GP15 (m : Mm) (P : P6) : gfI shP 715 68 (pmP m P) = some (.int P.2.2.2.2.2) := (G68 m _ _ _ _ _ _).2.2.2.2.2.1
theorem pmP_at (m : Mm) (P : P6) {o : Nat} (h : o ≠ 68) : (pmP m P).1 o = m.1 o := pm_at m _ _ _ _ _ _ h
theorem pmP_68 (m : Mm) (P : P6) : (pmP m P).1 68 14 = P.2.2.2.2.1 ∧ ∀ j, j < 10 ∨ 15 < j → (pmP m P).1 68 j = m.1 68 j := by
  unfold pmP pm
  rw [setR_s]
  refine ⟨rfl, fun j hj => ?_⟩
  unfold tk6
  rw [if_neg (by omega), if_neg (by omega), if_neg (by omega), if_neg (by omega), if_neg (by omega), if_neg (by omega)]
/-- what text of the model comes to -/
def TxM (m M : Mm) (a : Int32) (r : Flt ⊕ (Nat × Nat × Nat × (Nat → Int32))) : Prop := M.1 68 9 = 0 ∧ (match r with
  | .inl x => a = -10 - nI x.2 ∧ M.1 68 14 = x.1 ∧ (∀ o, o ≠ 68 → o ≠ 72 → M.1 o = m.1 o) ∧ M.1 68 3 = m.1 68 3
  | .inr y => a = nI y.1 ∧ M.1 68 14 = 0 ∧ M.1 68 3 = nI y.2.1 ∧ (∀ j, j < 63 → M.1 69 j = y.2.2.2 j) ∧ M.1 71 0 = 0 ∧ M.1 71 1 = 0)
theorem te_f {P : P6} {x : Flt} (h : FltP P x) (L : Int32) (m : Mm) : rn shP tb0 mN mO (semZ shP wS (d + 6)) (some .int) (codeZ 118) 44 [.ref 68, .int L] [] (pmP m P) = some (some (.int (-10 - nI x.2)), pmP (wI m 68 9 0) P) := by
  obtain ⟨h1, h2, h3⟩ := h
  have n0 : ¬ P.2.2.2.2.1 = 0 := fun z => by
    rw [h1] at z
    rw [z] at h3
    exact absurd h3 (by decide)
  have l0 : ¬ P.2.2.2.2.1 ≤ 0 := by
    rw [h1]
    exact Int32.not_le.mpr h3
  rw [r_X7_text_44]
  simp only [EV, LV, CB, OI, OL, NP, CZ, popN, CT, OZ, List.map_nil, List.map_cons, List.sum_nil, List.sum_cons, Option.toList, List.nil_append, List.cons_append, Int.reduceToNat, Nat.reduceAdd, Nat.reduceLT, Nat.reduceLeDiff, List.length_cons, List.length_nil, Nat.zero_add, if_true, if_false, reduceIte, and_self, and_true, true_and, eq_self, reduceCtorEq, C68, GP68, n0, not_false_eq_true, r_X7_text_73, PP9, l0, GP15, h2]
theorem TxM_f {m m' : Mm} (hf : FrM m m') {P : P6} {x : Flt} (h : FltP P x) : TxM m (pmP (wI m' 68 9 0) P) (-10 - nI x.2) (.inl x) := by
  have p := pmP_68 (wI m' 68 9 0) P
  refine ⟨by rw [p.2 9 (by omega), wI_s], rfl, by rw [p.1]; exact h.1, fun o h1 h2 => ?_, ?_⟩
  · rw [pmP_at _ _ h1, wI_n _ _ _ _ h1]
    exact hf.1 o h2 h1
  · rw [p.2 3 (by omega), wI_j _ _ _ _ _ (by omega)]
    exact hf.2 3 (by omega) (by omega) (by omega)
theorem Hig_lt {H : Int32} {f : Nat → Int32} {N V : Nat} (h : Hig H f N) (hV : V ≤ 4) : (H < nI V) = ((List.range N).all (fun b => decide (f (8 + 5 * b + 1) < nI V)) = true) := by
  apply propext
  constructor
  · intro q
    refine List.all_eq_true.mpr (fun b hb => decide_eq_true ?_)
    exact Int32.lt_of_le_of_lt (h.1 b (List.mem_range.mp hb)) q
  · intro q
    rcases h.2 with e | ⟨b, hb, e⟩
    · rw [e]
      exact Int32.lt_of_lt_of_le (by decide : (-4 : Int32) < 0) (nI_pos' (by omega))
    · rw [e]
      exact of_decide_eq_true (List.all_eq_true.mp q b (List.mem_range.mpr hb))
theorem te_ok (hB : Tp B n) {m : Mm} {V N : Nat} {f : Nat → Int32} {c : Nat} (hM : MT V N f c m) {p : Nat} (hp : p ≤ n) (h0 : (lx B p).1 = 0) (va wr : Int32) (L : Nat) {m0 : Mm} (hf : FrM m0 m) : ∃ a M, rn shP tb0 mN mO (semZ shP wS (d + 6)) (some .int) (codeZ 118) 44 [.ref 68, .int (nI L)] [] (ml B m p va wr) = some (some (.int a), M) ∧ TxM m0 M a (if (List.range N).all (fun b => decide (f (8 + 5 * b + 1) < nI V)) = true then .inr (L, V, N, f) else .inl (6, (lx B p).2.1)) := by
  obtain ⟨g1, g2, g3, g4, g5, g6, g7, g8⟩ := hM
  have P0 : (lexP B p va wr).2.2.2.2.1 = 0 := by
    show (if (lx B p).1 = 4 then 1 else 0) = (0 : Int32)
    rw [if_neg (by omega)]
  have hl := Hig_lt g5 g6
  rw [ml_P]
  by_cases c : m.1 68 7 < nI V
  · have c2 : ¬ nI V ≤ m.1 68 7 := Int32.not_le.mpr c
    rw [hl] at c
    rw [if_pos c]
    obtain ⟨S, eS⟩ : ∃ M, M = pmP (wI m 68 9 0) (lexP B p va wr) := ⟨_, rfl⟩
    obtain ⟨M3, e3⟩ : ∃ M, M = setR (setR (setR S 69 (fillR (S.1 72) (S.1 69) 63)) 68 (upd (S.1 68) 3 (S.1 68 5))) 71 (upd (upd (S.1 71) 0 0) 1 0) := ⟨_, rfl⟩
    have kd : semZ shP wS (d + 6) 104 [.ref 68] S = some (none, M3) := by
      rw [e3]
      exact t_keepDraft wS (d + 5) MP68 S
    have z0 : (0 : Int32) ≤ 0 := by decide
    rw [eS] at kd
    refine ⟨nI L, M3, ?_, ?_⟩
    · rw [r_X7_text_44]
      simp only [EV, LV, CB, OI, OL, NP, CZ, popN, CT, OZ, List.map_nil, List.map_cons, List.sum_nil, List.sum_cons, Option.toList, List.nil_append, List.cons_append, Int.reduceToNat, Nat.reduceAdd, Nat.reduceLT, Nat.reduceLeDiff, List.length_cons, List.length_nil, Nat.zero_add, if_true, if_false, reduceIte, and_self, and_true, true_and, eq_self, reduceCtorEq, C68, GP68, P0, not_true_eq_false, g2, c2, r_X7_text_68, t_nd1 wS (d + 5), PP9, z0, r_X7_text_93, kd]
    · have p := pmP_68 (wI m 68 9 0) (lexP B p va wr)
      rw [e3, eS]
      refine ⟨?_, rfl, ?_, ?_, fun j hj => ?_, ?_, ?_⟩
      · rw [setR_n _ _ (by omega), setR_s, upd_n _ _ (by omega), p.2 9 (by omega), wI_s]
      · rw [setR_n _ _ (by omega), setR_s, upd_n _ _ (by omega), p.1, P0]
      · rw [setR_n _ _ (by omega), setR_s, upd_s, p.2 5 (by omega), wI_j _ _ _ _ _ (by omega)]
        exact g2
      · rw [setR_n _ _ (by omega), setR_n _ _ (by omega), setR_s]
        unfold fillR
        rw [if_pos hj, pmP_at _ _ (by omega), wI_n _ _ _ _ (by omega), g1]
      · rw [setR_s, upd_n _ _ (by omega), upd_s]
      · rw [setR_s, upd_s]
  · have c2 : nI V ≤ m.1 68 7 := Int32.not_lt.mp c
    rw [hl] at c
    rw [if_neg c]
    have f6 : (pf (lexP B p va wr) 6).2.2.2.2.1 = 6 := rfl
    have l6 : ¬ (6 : Int32) ≤ 0 := by decide
    have f7 : (pf (lexP B p va wr) 6).2.2.2.2.2 = nI (lx B p).2.1 := rfl
    refine ⟨-10 - nI (lx B p).2.1, pmP (wI m 68 9 0) (pf (lexP B p va wr) 6), ?_, TxM_f (x := (6, (lx B p).2.1)) hf ⟨rfl, rfl, (by decide : (0 : Int32) < 6)⟩⟩
    rw [r_X7_text_44]
    simp only [EV, LV, CB, OI, OL, NP, CZ, popN, CT, OZ, List.map_nil, List.map_cons, List.sum_nil, List.sum_cons, Option.toList, List.nil_append, List.cons_append, Int.reduceToNat, Nat.reduceAdd, Nat.reduceLT, Nat.reduceLeDiff, List.length_cons, List.length_nil, Nat.zero_add, if_true, if_false, reduceIte, and_self, and_true, true_and, eq_self, reduceCtorEq, C68, GP68, P0, not_true_eq_false, g2, c2, r_X7_text_67, t_nd0 wS (d + 5) P0, PP9, f6, l6, GP15, f7]
theorem tx_l (hB : Tp B n) {m0 : Mm} (wr : Int32) : ∀ (q p L V N : Nat) (f : Nat → Int32) (c : Nat) (m : Mm) (va : Int32), L + q = 160 → 2 * L ≤ p → p ≤ n → TM B n m → FrM m0 m → MT V N f c m → ∃ a M, rn shP tb0 mN mO (semZ shP wS (d + 6)) (some .int) (codeZ 118) 20 [.ref 68, .int (nI L)] [] (ml B m p va wr) = some (some (.int a), M) ∧ TxM m0 M a (prs B q p L V N f c) := by
  have h160 := hB.1
  have e10 : ¬ (1 : Int32) = 0 := by decide
  intro q
  induction q with
  | zero => intro p L V N f c m va h1 h2 h3; omega
  | succ q ih =>
    intro p L V N f c m va h1 h2 hp hm hf hM
    have hb := lx_b hB hp
    unfold prs
    by_cases h4 : (lx B p).1 = 4
    · rw [if_neg (by omega)]
      have el : line B p V N f c = .inl (1, (lx B p).2.1) := by
        unfold line
        rw [if_neg (by omega), h4]
        rfl
      rw [el]
      have P1 : (lexP B p va wr).2.2.2.2.1 = 1 := by
        show (if (lx B p).1 = 4 then 1 else 0) = (1 : Int32)
        rw [if_pos h4]
      have P2 : (lexP B p va wr).2.2.2.2.2 = nI (lx B p).2.1 := by
        show (if (lx B p).1 = 4 then nI (lx B p).2.1 else wr) = _
        rw [if_pos h4]
      have fp : FltP (lexP B p va wr) (1, (lx B p).2.1) := ⟨P1, P2, (by decide : (0 : Int32) < 1)⟩
      refine ⟨_, _, ?_, TxM_f hf fp⟩
      rw [r_X7_text_20, ml_P]
      simp only [EV, LV, CB, OI, OL, NP, CZ, popN, CT, OZ, List.map_nil, List.map_cons, List.sum_nil, List.sum_cons, Option.toList, List.nil_append, List.cons_append, Int.reduceToNat, Nat.reduceAdd, Nat.reduceLT, Nat.reduceLeDiff, List.length_cons, List.length_nil, Nat.zero_add, if_true, if_false, reduceIte, and_self, and_true, true_and, eq_self, reduceCtorEq, C68, GP68, P1, e10, not_false_eq_true]
      exact te_f wS d fp (nI L) m
    · have P1 : (lexP B p va wr).2.2.2.2.1 = 0 := by
        show (if (lx B p).1 = 4 then 1 else 0) = (0 : Int32)
        rw [if_neg h4]
      have so := lx_so h4
      have Ps : (lexP B p va wr).2.2.1 = nI (lx B p).1 := so
      by_cases h0 : (lx B p).1 = 0
      · rw [if_pos h0]
        have Ps : (lexP B p va wr).2.2.1 = 0 := by rw [Ps, h0]; rfl
        obtain ⟨a, M, b1, b2⟩ := te_ok wS d hB hM hp h0 va wr L hf
        refine ⟨a, M, ?_, b2⟩
        rw [r_X7_text_20, ml_P]
        simp only [EV, LV, CB, OI, OL, NP, CZ, popN, CT, OZ, List.map_nil, List.map_cons, List.sum_nil, List.sum_cons, Option.toList, List.nil_append, List.cons_append, Int.reduceToNat, Nat.reduceAdd, Nat.reduceLT, Nat.reduceLeDiff, List.length_cons, List.length_nil, Nat.zero_add, if_true, if_false, reduceIte, and_self, and_true, true_and, eq_self, reduceCtorEq, C68, GP68, P1, Ps, not_true_eq_false]
        exact b1
      · rw [if_neg h0]
        have n0 : ¬ (lexP B p va wr).2.2.1 = 0 := by
          rw [Ps]
          exact nI_ne0 (by omega) (by omega)
        obtain ⟨M, a1, a2⟩ := t_rlX wS d hB hm hM hp h0 h4 va wr
        have st : rn shP tb0 mN mO (semZ shP wS (d + 6)) (some .int) (codeZ 118) 20 [.ref 68, .int (nI L)] [] (ml B m p va wr) = rn shP tb0 mN mO (semZ shP wS (d + 6)) (some .int) (codeZ 118) 20 [.ref 68, .int (nI (L + 1))] [] M := by
          rw [ml_P] at a1 ⊢
          rw [r_X7_text_20]
          simp only [EV, LV, CB, OI, OL, NP, CZ, popN, CT, OZ, List.map_nil, List.map_cons, List.sum_nil, List.sum_cons, Option.toList, List.nil_append, List.cons_append, Int.reduceToNat, Nat.reduceAdd, Nat.reduceLT, Nat.reduceLeDiff, List.length_cons, List.length_nil, Nat.zero_add, if_true, if_false, reduceIte, and_self, and_true, true_and, eq_self, reduceCtorEq, C68, GP68, P1, n0, not_true_eq_false, a1, nI_1]
        rw [st]
        cases e : line B p V N f c with
        | inl x =>
          rw [e] at a2
          obtain ⟨m', P, rfl, b2, b3⟩ := FltM_self a2.1 a2.2
          have n1 : ¬ P.2.2.2.2.1 = 0 := fun z => by
            have := b3.2.2
            rw [← b3.1, z] at this
            exact absurd this (by decide)
          refine ⟨_, _, ?_, TxM_f (FrM_tr hf b2) b3⟩
          rw [r_X7_text_20]
          simp only [EV, LV, CB, OI, OL, NP, CZ, popN, CT, OZ, List.map_nil, List.map_cons, List.sum_nil, List.sum_cons, Option.toList, List.nil_append, List.cons_append, Int.reduceToNat, Nat.reduceAdd, Nat.reduceLT, Nat.reduceLeDiff, List.length_cons, List.length_nil, Nat.zero_add, if_true, if_false, reduceIte, and_self, and_true, true_and, eq_self, reduceCtorEq, C68, GP68, n1, not_false_eq_true]
          exact te_f wS d b3 (nI (L + 1)) m'
        | inr y =>
          rw [e] at a2
          obtain ⟨m', va', rfl, b2, b3, b4, b5⟩ := a2
          exact ih y.1 (L + 1) y.2.1 y.2.2.1 y.2.2.2.1 y.2.2.2.2 m' va' (by omega) (by omega) b5 (TM_fr hm b2) (FrM_tr hf b2) b3
theorem dr0_F (g : Nat → Int32) : Fst (dr0 g) := by
  unfold Fst Z0 dr0
  refine ⟨rfl, rfl, rfl, rfl, rfl, fun b hb => ?_, rfl⟩
  rw [upd_n _ _ (by omega), upd_n _ _ (by omega), upd_n _ _ (by omega)]
  unfold fillR
  rw [if_pos (by omega)]
theorem t_text7 (hB : Tp B n) {m : Mm} (hm : TM B n m) {fr : Nat} (hfr : m.1 68 11 = nI fr) : ∃ a M, semZ shP wS (d + 7) 118 [.ref 68] m = some (some (.int a), M) ∧ TxM m M a (prs B 160 0 0 0 0 (dr0 (m.1 72)) 0) := by
  have g14 : ∀ (m : Mm) (x : Int32), pfI shP 714 68 (.int x) m = some (wI m 68 14 x) := fun _ _ => rfl
  have g10 : ∀ (m : Mm) (x : Int32), pfI shP 710 68 (.int x) m = some (wI m 68 10 x) := fun _ _ => rfl
  obtain ⟨m1, e1⟩ : ∃ M, M = wI (wI m 68 14 0) 68 10 0 := ⟨_, rfl⟩
  have fd := t_firstDraft wS (d + 5) MP68 m1
  obtain ⟨m2, e2⟩ : ∃ M, M = setR (setR m1 72 (dr0 (m1.1 72))) 68 (upd (upd (upd (m1.1 68) 5 0) 6 0) 7 (-4)) := ⟨_, rfl⟩
  have fd : semZ shP wS (d + 6) 103 [.ref 68] m1 = some (none, m2) := by
    rw [e2]
    exact fd
  have o1 : ∀ o, o ≠ 68 → m1.1 o = m.1 o := fun o h => by rw [e1, wI_n _ _ _ _ h, wI_n _ _ _ _ h]
  have o2 : ∀ o, o ≠ 68 → o ≠ 72 → m2.1 o = m.1 o := fun o h h2 => by rw [e2, setR_n _ _ h, setR_n _ _ h2, o1 o h]
  have r68 : m2.1 68 = upd (upd (upd (m1.1 68) 5 0) 6 0) 7 (-4) := by rw [e2, setR_s]
  have s68 : ∀ j, j ≠ 5 → j ≠ 6 → j ≠ 7 → m2.1 68 j = m1.1 68 j := fun j h5 h6 h7 => by rw [r68, upd_n _ _ h7, upd_n _ _ h6, upd_n _ _ h5]
  have k10 : m2.1 68 10 = nI 0 := by rw [s68 10 (by omega) (by omega) (by omega), e1, wI_s]; rfl
  have k11 : m2.1 68 11 = nI fr := by rw [s68 11 (by omega) (by omega) (by omega), e1, wI_j _ _ _ _ _ (by omega), wI_j _ _ _ _ _ (by omega)]; exact hfr
  have k14 : m2.1 68 14 = 0 := by rw [s68 14 (by omega) (by omega) (by omega), e1, wI_j _ _ _ _ _ (by omega), wI_s]
  have pid := pm_id m2 k10 k11
  rw [k14] at pid
  have hm2 : TM B n m2 := ⟨by rw [s68 9 (by omega) (by omega) (by omega), e1, wI_j _ _ _ _ _ (by omega), wI_j _ _ _ _ _ (by omega)]; exact hm.1, fun j hj => by rw [o2 73 (by omega) (by omega)]; exact hm.2 j hj⟩
  have tk := t_tkL wS (d + 4) hB hm2 (Nat.zero_le n) fr (m2.1 68 12) (m2.1 68 13) (m2.1 68 15)
  rw [pid] at tk
  have hf0 := dr0_F (m.1 72)
  have hM : MT 0 0 (dr0 (m.1 72)) 0 m2 := by
    refine ⟨?_, by rw [r68, upd_n _ _ (by omega), upd_n _ _ (by omega), upd_s]; rfl, hf0.1, by rw [r68, upd_n _ _ (by omega), upd_s]; rfl, ?_, by omega, by omega, by omega⟩
    · rw [e2, setR_n _ _ (by omega), setR_s, o1 72 (by omega)]
    · rw [r68, upd_s]
      exact ⟨fun b hb => by omega, Or.inl rfl⟩
  obtain ⟨a, M, b1, b2⟩ := tx_l wS d hB (m0 := m2) (m2.1 68 15) 160 0 0 0 0 (dr0 (m.1 72)) 0 m2 (m2.1 68 13) (by omega) (by omega) (Nat.zero_le n) hm2 FrM_rf hM
  refine ⟨a, M, ?_, ?_⟩
  · rw [se_X7_text, r_X7_text_0]
    simp only [EV, LV, CB, OI, OL, NP, CZ, popN, CT, OZ, List.map_nil, List.map_cons, List.sum_nil, List.sum_cons, Option.toList, List.nil_append, List.cons_append, Int.reduceToNat, Nat.reduceAdd, Nat.reduceLT, Nat.reduceLeDiff, List.length_cons, List.length_nil, Nat.zero_add, if_true, if_false, reduceIte, and_self, and_true, true_and, eq_self, reduceCtorEq, C68, g14, g10, ← e1, fd, tk]
    exact b1
  · unfold TxM at b2 ⊢
    refine ⟨b2.1, ?_⟩
    have b2 := b2.2
    split at b2
    · obtain ⟨c1, c2, c3, c4⟩ := b2
      refine ⟨c1, c2, fun o h1 h2 => by rw [c3 o h1 h2, o2 o h1 h2], ?_⟩
      rw [c4, s68 3 (by omega) (by omega) (by omega), e1, wI_j _ _ _ _ _ (by omega), wI_j _ _ _ _ _ (by omega)]
    · exact b2
end Mt
