/-! the model's lines by their kinds -/
theorem wI_row (m : Mm) (o j : Nat) (x : Int32) : (wI m o j x).1 o = upd (m.1 o) j x := by
  rw [wI_R, setR_s]
theorem num1_pos {B : Nat → Int32} {hi : Int32} {z : Bool} {p : Nat} {x : Flt} (h : num1 B hi z p = .inl x) : 0 < x.1 := by
  unfold num1 at h
  split at h
  · split at h
    · cases h; exact (by decide : (0 : Int32) < 3)
    · cases h
  · cases h
    show 0 < bad _
    unfold bad
    split <;> decide
theorem Hig_u {H : Int32} {f : Nat → Int32} {N : Nat} (h : Hig H f N) {j : Nat} (x : Int32) (hj : j < 8 ∨ 38 ≤ j) (hN : N ≤ 6) : Hig H (upd f j x) N := by
  refine ⟨fun b hb => ?_, h.2.elim Or.inl (fun ⟨b, hb, e⟩ => Or.inr ⟨b, hb, ?_⟩)⟩
  · rw [upd_n _ _ (by omega)]
    exact h.1 b hb
  · rw [upd_n _ _ (by omega)]
    exact e
theorem Hig_b {H : Int32} {f : Nat → Int32} {N : Nat} (h : Hig H f N) (hN : N < 6) (k a b e : Int32) (ha : 0 ≤ a) : Hig (if H < a then a else H) (bdF f N k a b e) (N + 1) := by
  have new : bdF f N k a b e (8 + 5 * N + 1) = a := by
    unfold bdF
    rw [upd_n _ _ (by omega), upd_n _ _ (by omega), upd_n _ _ (by omega), upd_s]
  have old : ∀ q, q < N → bdF f N k a b e (8 + 5 * q + 1) = f (8 + 5 * q + 1) := fun q hq => by
    unfold bdF
    rw [upd_n _ _ (by omega), upd_n _ _ (by omega), upd_n _ _ (by omega), upd_n _ _ (by omega), upd_n _ _ (by omega)]
  by_cases c : H < a
  · rw [if_pos c]
    refine ⟨fun q hq => ?_, Or.inr ⟨N, by omega, new.symm⟩⟩
    by_cases e : q = N
    · subst e; rw [new]; exact Int32.le_refl _
    · rw [old q (by omega)]
      exact Int32.le_of_lt (Int32.lt_of_le_of_lt (h.1 q (by omega)) c)
  · rw [if_neg c]
    refine ⟨fun q hq => ?_, h.2.elim Or.inl (fun ⟨q, hq, e⟩ => Or.inr ⟨q, by omega, by rw [old q hq]; exact e⟩)⟩
    by_cases e : q = N
    · subst e; rw [new]; exact Int32.not_lt.mp c
    · rw [old q (by omega)]
      exact h.1 q (by omega)
section Mk
variable {B : Nat → Int32} {n : Nat} (wS : List Value → Mm → Option Rs) (d : Nat) {m : Mm}
theorem ix_V {V : Nat} (hV : V < 4) : (2 : Int32) * nI V + 0 = nI (2 * V) ∧ (2 : Int32) * nI V + 1 = nI (2 * V + 1) ∧ inR (nI (2 * V)) 63 = true ∧ inR (nI (2 * V + 1)) 63 = true ∧ (nI (2 * V)).toNatClampNeg = 2 * V ∧ (nI (2 * V + 1)).toNatClampNeg = 2 * V + 1 := by
  have e : (2 : Int32) * nI V = nI (2 * V) := nI_mul 2 V
  refine ⟨by rw [e]; exact nI_add (2 * V) 0, by rw [e]; exact nI_add (2 * V) 1, inR_nI (by omega) (by omega), inR_nI (by omega) (by omega), nI_clamp (by omega), nI_clamp (by omega)⟩
theorem A72m (B : Nat → Int32) (m : Mm) (p : Nat) (va wr : Int32) (i : Int32) : alI shP tb0 0 72 i (ml B m p va wr) = if inR i 63 = true then some (m.1 72 i.toNatClampNeg) else none := A72 m _ _ _ _ _ _ i
theorem S72m (B : Nat → Int32) (m : Mm) (p : Nat) (va wr : Int32) (i x : Int32) : asI shP 0 72 i x (ml B m p va wr) = if inR i 63 = true then some (ml B (wI m 72 i.toNatClampNeg x) p va wr) else none := by
  unfold ml
  rw [S72 m, pm_wd]
theorem S72p (m : Mm) (ps fr : Nat) (so va fa wr : Int32) (i x : Int32) : asI shP 0 72 i x (pm m ps fr so va fa wr) = if inR i 63 = true then some (pm (wI m 72 i.toNatClampNeg x) ps fr so va fa wr) else none := by
  rw [S72 m, pm_wd]
theorem G68m (B : Nat → Int32) (m : Mm) (p : Nat) (va wr : Int32) : gfI shP 704 68 (ml B m p va wr) = some (.ref 72) ∧ gfI shP 705 68 (ml B m p va wr) = some (.int (m.1 68 5)) ∧ gfI shP 706 68 (ml B m p va wr) = some (.int (m.1 68 6)) ∧ gfI shP 707 68 (ml B m p va wr) = some (.int (m.1 68 7)) ∧ (∀ x : Int32, pfI shP 705 68 (.int x) (ml B m p va wr) = some (ml B (wI m 68 5 x) p va wr)) ∧ (∀ x : Int32, pfI shP 706 68 (.int x) (ml B m p va wr) = some (ml B (wI m 68 6 x) p va wr)) ∧ (∀ x : Int32, pfI shP 707 68 (.int x) (ml B m p va wr) = some (ml B (wI m 68 7 x) p va wr)) := by
  obtain ⟨a1, a2, a3, a4, a5, a6, a7⟩ := G68b m (lx B p).2.2 (lx B p).2.1 (soX B (lx B p).2.1) (vaX B (lx B p).2.1 (lx B p).2.2 va) (if (lx B p).1 = 4 then 1 else 0) (if (lx B p).1 = 4 then nI (lx B p).2.1 else wr)
  refine ⟨a1, a2, a3, a4, fun x => ?_, fun x => ?_, fun x => ?_⟩
  · rw [← ml_e B m p va wr (by omega)]; exact a5 x
  · rw [← ml_e B m p va wr (by omega)]; exact a6 x
  · rw [← ml_e B m p va wr (by omega)]; exact a7 x
theorem P68p (m : Mm) (ps fr : Nat) (so va fa wr : Int32) (x : Int32) : pfI shP 705 68 (.int x) (pm m ps fr so va fa wr) = some (pm (wI m 68 5 x) ps fr so va fa wr) ∧ pfI shP 707 68 (.int x) (pm m ps fr so va fa wr) = some (pm (wI m 68 7 x) ps fr so va fa wr) := by
  obtain ⟨-, -, -, -, a5, -, a7⟩ := G68b m ps fr so va fa wr
  exact ⟨by rw [a5, pm_wo m _ _ _ _ _ _ _ _ (by omega)], by rw [a7, pm_wo m _ _ _ _ _ _ _ _ (by omega)]⟩
theorem G68g (m : Mm) (ps fr : Nat) (so va fa wr : Int32) : gfI shP 704 68 (pm m ps fr so va fa wr) = some (.ref 72) ∧ gfI shP 705 68 (pm m ps fr so va fa wr) = some (.int (m.1 68 5)) ∧ gfI shP 706 68 (pm m ps fr so va fa wr) = some (.int (m.1 68 6)) ∧ gfI shP 707 68 (pm m ps fr so va fa wr) = some (.int (m.1 68 7)) := ⟨rfl, rfl, rfl, rfl⟩
theorem sw_rlo : swT 136 4 7 #[32, 85, 102, 119] 4 = 32 ∧ swT 136 4 7 #[32, 85, 102, 119] 5 = 85 ∧ swT 136 4 7 #[32, 85, 102, 119] 6 = 102 ∧ swT 136 4 7 #[32, 85, 102, 119] 7 = 119 ∧ swT 136 4 7 #[32, 85, 102, 119] 0 = 136 ∧ swT 136 4 7 #[32, 85, 102, 119] 1 = 136 ∧ swT 136 4 7 #[32, 85, 102, 119] 2 = 136 ∧ swT 136 4 7 #[32, 85, 102, 119] 3 = 136 := by decide +kernel
theorem m_liV (hB : Tp B n) (hm : TM B n m) {V : Nat} (hV : V < 4) (h5 : m.1 68 5 = nI V) {p : Nat} (hp : p ≤ n) (va wr : Int32) : ∃ M, semZ shP wS (d + 4) 116 [.ref 68, .int 4] (ml B m p va wr) = some (none, M) ∧ (match num1 B 99 false p with
    | .inl x => FltM m M x ∧ 0 < x.1
    | .inr y => (match num1 B 9 false y.2 with
      | .inl x => FltM m M x ∧ 0 < x.1
      | .inr y2 => ∃ va', M = ml B (wI (wI (wI m 72 (2 * V) y.1) 72 (2 * V + 1) y2.1) 68 5 (nI (V + 1))) y2.2 va' wr)) := by
  obtain ⟨i1, i2, i3, i4, i5, i6⟩ := ix_V hV
  have r1 := t_rdX wS d hB hm hp va wr (lo := 0) (hi := 99) (z := false) (Or.inl ⟨rfl, rfl⟩)
  have st : semZ shP wS (d + 4) 116 [.ref 68, .int 4] (ml B m p va wr) = rn shP tb0 mN mO (semZ shP wS (d + 3)) none (codeZ 116) 32 [.ref 68, .int 4] [] (ml B m p va wr) := by
    rw [se_X7_readLineOf, r_X7_readLineOf_0]
    simp only [EV, LV, CB, OI, OL, NP, CZ, popN, CT, OZ, List.map_nil, List.map_cons, List.sum_nil, List.sum_cons, Option.toList, List.nil_append, List.cons_append, Int.reduceToNat, Nat.reduceAdd, Nat.reduceLT, Nat.reduceLeDiff, List.length_cons, List.length_nil, Nat.zero_add, if_true, if_false, reduceIte, and_self, and_true, true_and, eq_self, reduceCtorEq, sw_rlo]
  rw [st]
  cases e1 : num1 B 99 false p with
  | inl x =>
    rw [e1] at r1
    have hx := num1_pos e1
    have r2 := fun (m : Mm) => t_rdF wS (d + 1) hx (lx B p).2.2 (lx B p).2.1 (soX B (lx B p).2.1) (vaX B (lx B p).2.1 (lx B p).2.2 va) (nI x.2) 0 9 m
    refine ⟨pm (wI (wI (wI m 72 (2 * V) 0) 72 (2 * V + 1) 0) 68 5 (nI (V + 1))) (lx B p).2.2 (lx B p).2.1 (soX B (lx B p).2.1) (vaX B (lx B p).2.1 (lx B p).2.2 va) x.1 (nI x.2), ?_, ⟨_, _, _, _, _, rfl, FrM_e (FrM_d (FrM_d FrM_rf _ _) _ _) (by omega) _⟩, hx⟩
    have q5 : (wI m 72 (2 * V) 0).1 68 5 = nI V := by rw [wI_o _ _ _ _ _ (by omega)]; exact h5
    have q6 : (wI (wI m 72 (2 * V) 0) 72 (2 * V + 1) 0).1 68 5 = nI V := by rw [wI_o _ _ _ _ _ (by omega)]; exact q5
    rw [r_X7_readLineOf_32]
    simp only [EV, LV, CB, OI, OL, NP, CZ, popN, CT, OZ, List.map_nil, List.map_cons, List.sum_nil, List.sum_cons, Option.toList, List.nil_append, List.cons_append, Int.reduceToNat, Nat.reduceAdd, Nat.reduceLT, Nat.reduceLeDiff, List.length_cons, List.length_nil, Nat.zero_add, if_true, if_false, reduceIte, and_self, and_true, true_and, eq_self, reduceCtorEq, C68, G68m, h5, i1, i2, r1, S72p, i3, i4, i5, i6, G68g, q5, q6, r2, P68p, nI_1, r_X7_readLineOf_141]
  | inr y =>
    rw [e1] at r1
    have hy := num1_p hB hp e1
    have r2 := t_rdX wS d hB (TM_fr hm (FrM_d FrM_rf (2 * V) y.1)) hy.2 y.1 wr (lo := 0) (hi := 9) (z := false) (Or.inl ⟨rfl, rfl⟩)
    have q5 : (wI m 72 (2 * V) y.1).1 68 5 = nI V := by rw [wI_o _ _ _ _ _ (by omega)]; exact h5
    simp only
    cases e2 : num1 B 9 false y.2 with
    | inl x =>
      rw [e2] at r2
      have hx := num1_pos e2
      have q6 : (wI (wI m 72 (2 * V) y.1) 72 (2 * V + 1) 0).1 68 5 = nI V := by rw [wI_o _ _ _ _ _ (by omega)]; exact q5
      refine ⟨pm (wI (wI (wI m 72 (2 * V) y.1) 72 (2 * V + 1) 0) 68 5 (nI (V + 1))) (lx B y.2).2.2 (lx B y.2).2.1 (soX B (lx B y.2).2.1) (vaX B (lx B y.2).2.1 (lx B y.2).2.2 y.1) x.1 (nI x.2), ?_, ⟨_, _, _, _, _, rfl, FrM_e (FrM_d (FrM_d FrM_rf _ _) _ _) (by omega) _⟩, hx⟩
      rw [r_X7_readLineOf_32]
      simp only [EV, LV, CB, OI, OL, NP, CZ, popN, CT, OZ, List.map_nil, List.map_cons, List.sum_nil, List.sum_cons, Option.toList, List.nil_append, List.cons_append, Int.reduceToNat, Nat.reduceAdd, Nat.reduceLT, Nat.reduceLeDiff, List.length_cons, List.length_nil, Nat.zero_add, if_true, if_false, reduceIte, and_self, and_true, true_and, eq_self, reduceCtorEq, C68, G68m, h5, i1, i2, r1, S72m, S72p, i3, i4, i5, i6, G68g, q5, q6, r2, P68p, nI_1, r_X7_readLineOf_141]
    | inr y2 =>
      rw [e2] at r2
      have q6 : (wI (wI m 72 (2 * V) y.1) 72 (2 * V + 1) y2.1).1 68 5 = nI V := by rw [wI_o _ _ _ _ _ (by omega)]; exact q5
      refine ⟨ml B (wI (wI (wI m 72 (2 * V) y.1) 72 (2 * V + 1) y2.1) 68 5 (nI (V + 1))) y2.2 y2.1 wr, ?_, _, rfl⟩
      rw [r_X7_readLineOf_32]
      simp only [EV, LV, CB, OI, OL, NP, CZ, popN, CT, OZ, List.map_nil, List.map_cons, List.sum_nil, List.sum_cons, Option.toList, List.nil_append, List.cons_append, Int.reduceToNat, Nat.reduceAdd, Nat.reduceLT, Nat.reduceLeDiff, List.length_cons, List.length_nil, Nat.zero_add, if_true, if_false, reduceIte, and_self, and_true, true_and, eq_self, reduceCtorEq, C68, G68m, h5, i1, i2, r1, S72m, i3, i4, i5, i6, q5, q6, r2, nI_1, r_X7_readLineOf_141]
theorem in_cell : inR 39 63 = true ∧ inR 40 63 = true ∧ inR 41 63 = true ∧ inR 38 63 = true ∧ (39 : Int32).toNatClampNeg = 39 ∧ (40 : Int32).toNatClampNeg = 40 ∧ (41 : Int32).toNatClampNeg = 41 ∧ (38 : Int32).toNatClampNeg = 38 := by decide +kernel
/-- price, fine, round -/
theorem m_liS (hB : Tp B n) (hm : TM B n m) {k : Nat} (k5 : 5 ≤ k) (k8 : k < 8) {p : Nat} (hp : p ≤ n) (va wr : Int32) : ∃ M, semZ shP wS (d + 4) 116 [.ref 68, .int (nI k)] (ml B m p va wr) = some (none, M) ∧ (match num1 B (mst k 0) (k == 7) p with
    | .inl x => FltM m M x ∧ 0 < x.1
    | .inr y => ∃ va', M = ml B (wI m 72 (34 + k) y.1) y.2 va' wr) := by
  match k, k5, k8 with
  | 5, _, _ =>
    have r1 := t_rdX wS d hB hm hp va wr (lo := 0) (hi := 20) (z := false) (Or.inl ⟨rfl, rfl⟩)
    show ∃ M, semZ shP wS (d + 4) 116 [.ref 68, .int 5] (ml B m p va wr) = some (none, M) ∧ (match num1 B 20 false p with
      | .inl x => FltM m M x ∧ 0 < x.1
      | .inr y => ∃ va', M = ml B (wI m 72 39 y.1) y.2 va' wr)
    rw [se_X7_readLineOf, r_X7_readLineOf_0]
    cases e1 : num1 B 20 false p with
    | inl x =>
      rw [e1] at r1
      refine ⟨pm (wI m 72 39 0) (lx B p).2.2 (lx B p).2.1 (soX B (lx B p).2.1) (vaX B (lx B p).2.1 (lx B p).2.2 va) x.1 (nI x.2), ?_, ⟨_, _, _, _, _, rfl, FrM_d FrM_rf _ _⟩, num1_pos e1⟩
      simp only [EV, LV, CB, OI, OL, NP, CZ, popN, CT, OZ, List.map_nil, List.map_cons, List.sum_nil, List.sum_cons, Option.toList, List.nil_append, List.cons_append, Int.reduceToNat, Nat.reduceAdd, Nat.reduceLT, Nat.reduceLeDiff, List.length_cons, List.length_nil, Nat.zero_add, if_true, if_false, reduceIte, and_self, and_true, true_and, eq_self, reduceCtorEq, sw_rlo, r_X7_readLineOf_85, C68, G68m, r1, S72p, in_cell, r_X7_readLineOf_141]
    | inr y =>
      rw [e1] at r1
      refine ⟨ml B (wI m 72 39 y.1) y.2 y.1 wr, ?_, _, rfl⟩
      simp only [EV, LV, CB, OI, OL, NP, CZ, popN, CT, OZ, List.map_nil, List.map_cons, List.sum_nil, List.sum_cons, Option.toList, List.nil_append, List.cons_append, Int.reduceToNat, Nat.reduceAdd, Nat.reduceLT, Nat.reduceLeDiff, List.length_cons, List.length_nil, Nat.zero_add, if_true, if_false, reduceIte, and_self, and_true, true_and, eq_self, reduceCtorEq, sw_rlo, r_X7_readLineOf_85, C68, G68m, r1, S72m, in_cell, r_X7_readLineOf_141]
  | 6, _, _ =>
    have r1 := t_rdX wS d hB hm hp va wr (lo := 0) (hi := 60) (z := false) (Or.inl ⟨rfl, rfl⟩)
    show ∃ M, semZ shP wS (d + 4) 116 [.ref 68, .int 6] (ml B m p va wr) = some (none, M) ∧ (match num1 B 60 false p with
      | .inl x => FltM m M x ∧ 0 < x.1
      | .inr y => ∃ va', M = ml B (wI m 72 40 y.1) y.2 va' wr)
    rw [se_X7_readLineOf, r_X7_readLineOf_0]
    cases e1 : num1 B 60 false p with
    | inl x =>
      rw [e1] at r1
      refine ⟨pm (wI m 72 40 0) (lx B p).2.2 (lx B p).2.1 (soX B (lx B p).2.1) (vaX B (lx B p).2.1 (lx B p).2.2 va) x.1 (nI x.2), ?_, ⟨_, _, _, _, _, rfl, FrM_d FrM_rf _ _⟩, num1_pos e1⟩
      simp only [EV, LV, CB, OI, OL, NP, CZ, popN, CT, OZ, List.map_nil, List.map_cons, List.sum_nil, List.sum_cons, Option.toList, List.nil_append, List.cons_append, Int.reduceToNat, Nat.reduceAdd, Nat.reduceLT, Nat.reduceLeDiff, List.length_cons, List.length_nil, Nat.zero_add, if_true, if_false, reduceIte, and_self, and_true, true_and, eq_self, reduceCtorEq, sw_rlo, r_X7_readLineOf_102, C68, G68m, r1, S72p, in_cell, r_X7_readLineOf_141]
    | inr y =>
      rw [e1] at r1
      refine ⟨ml B (wI m 72 40 y.1) y.2 y.1 wr, ?_, _, rfl⟩
      simp only [EV, LV, CB, OI, OL, NP, CZ, popN, CT, OZ, List.map_nil, List.map_cons, List.sum_nil, List.sum_cons, Option.toList, List.nil_append, List.cons_append, Int.reduceToNat, Nat.reduceAdd, Nat.reduceLT, Nat.reduceLeDiff, List.length_cons, List.length_nil, Nat.zero_add, if_true, if_false, reduceIte, and_self, and_true, true_and, eq_self, reduceCtorEq, sw_rlo, r_X7_readLineOf_102, C68, G68m, r1, S72m, in_cell, r_X7_readLineOf_141]
  | 7, _, _ =>
    have r1 := t_rdX wS d hB hm hp va wr (lo := 1) (hi := 9) (z := true) (Or.inr ⟨rfl, rfl⟩)
    show ∃ M, semZ shP wS (d + 4) 116 [.ref 68, .int 7] (ml B m p va wr) = some (none, M) ∧ (match num1 B 9 true p with
      | .inl x => FltM m M x ∧ 0 < x.1
      | .inr y => ∃ va', M = ml B (wI m 72 41 y.1) y.2 va' wr)
    rw [se_X7_readLineOf, r_X7_readLineOf_0]
    cases e1 : num1 B 9 true p with
    | inl x =>
      rw [e1] at r1
      refine ⟨pm (wI m 72 41 0) (lx B p).2.2 (lx B p).2.1 (soX B (lx B p).2.1) (vaX B (lx B p).2.1 (lx B p).2.2 va) x.1 (nI x.2), ?_, ⟨_, _, _, _, _, rfl, FrM_d FrM_rf _ _⟩, num1_pos e1⟩
      simp only [EV, LV, CB, OI, OL, NP, CZ, popN, CT, OZ, List.map_nil, List.map_cons, List.sum_nil, List.sum_cons, Option.toList, List.nil_append, List.cons_append, Int.reduceToNat, Nat.reduceAdd, Nat.reduceLT, Nat.reduceLeDiff, List.length_cons, List.length_nil, Nat.zero_add, if_true, if_false, reduceIte, and_self, and_true, true_and, eq_self, reduceCtorEq, sw_rlo, r_X7_readLineOf_119, C68, G68m, r1, S72p, in_cell, r_X7_readLineOf_141]
    | inr y =>
      rw [e1] at r1
      refine ⟨ml B (wI m 72 41 y.1) y.2 y.1 wr, ?_, _, rfl⟩
      simp only [EV, LV, CB, OI, OL, NP, CZ, popN, CT, OZ, List.map_nil, List.map_cons, List.sum_nil, List.sum_cons, Option.toList, List.nil_append, List.cons_append, Int.reduceToNat, Nat.reduceAdd, Nat.reduceLT, Nat.reduceLeDiff, List.length_cons, List.length_nil, Nat.zero_add, if_true, if_false, reduceIte, and_self, and_true, true_and, eq_self, reduceCtorEq, sw_rlo, r_X7_readLineOf_119, C68, G68m, r1, S72m, in_cell, r_X7_readLineOf_141]
end Mk
