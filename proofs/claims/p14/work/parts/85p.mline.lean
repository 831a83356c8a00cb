/-! a body's line of the model; the stop -/
abbrev P6 : Type := Nat × Nat × Int32 × Int32 × Int32 × Int32
def pmP (m : Mm) (P : P6) : Mm := pm m P.1 P.2.1 P.2.2.1 P.2.2.2.1 P.2.2.2.2.1 P.2.2.2.2.2
def lexP (B : Nat → Int32) (p : Nat) (va wr : Int32) : P6 := ((lx B p).2.2, (lx B p).2.1, soX B (lx B p).2.1, vaX B (lx B p).2.1 (lx B p).2.2 va, if (lx B p).1 = 4 then 1 else 0, if (lx B p).1 = 4 then nI (lx B p).2.1 else wr)
theorem ml_P (B : Nat → Int32) (m : Mm) (p : Nat) (va wr : Int32) : ml B m p va wr = pmP m (lexP B p va wr) := rfl
def FltP (P : P6) (x : Flt) : Prop := P.2.2.2.2.1 = x.1 ∧ P.2.2.2.2.2 = nI x.2 ∧ 0 < x.1
theorem FltM_P {m m' : Mm} {P : P6} {x : Flt} (h : FltP P x) (hf : FrM m m') : FltM m (pmP m' P) x := by
  obtain ⟨ps, fr, so, va, fa, wr⟩ := P
  obtain ⟨h1, h2, h3⟩ := h
  have h1 : fa = x.1 := h1
  have h2 : wr = nI x.2 := h2
  subst h1 h2
  exact ⟨m', ps, fr, so, va, rfl, hf⟩
def RD (wS : List Value → Mm → Option Rs) (d : Nat) (B : Nat → Int32) (n : Nat) (lo hi : Int32) (P : P6) (v : Int32) (P' : P6) : Prop := ∀ m, TM B n m → semZ shP wS (d + 3) 114 [.ref 68, .int lo, .int hi] (pmP m P) = some (some (.int v), pmP m P')
section Mb
variable {B : Nat → Int32} {n : Nat} (wS : List Value → Mm → Option Rs) (d : Nat) {m : Mm}
theorem rd_ml (hB : Tp B n) {p : Nat} (hp : p ≤ n) (va wr : Int32) {lo hi : Int32} {z : Bool} (hz : (lo = 0 ∧ z = false) ∨ (lo = 1 ∧ z = true)) : match num1 B hi z p with
    | .inl x => ∃ P', RD wS d B n lo hi (lexP B p va wr) 0 P' ∧ FltP P' x
    | .inr y => RD wS d B n lo hi (lexP B p va wr) y.1 (lexP B y.2 y.1 wr) := by
  cases e : num1 B hi z p with
  | inl x =>
    refine ⟨((lx B p).2.2, (lx B p).2.1, soX B (lx B p).2.1, vaX B (lx B p).2.1 (lx B p).2.2 va, x.1, nI x.2), fun m hm => ?_, rfl, rfl, num1_pos e⟩
    have := t_rdX wS d hB hm hp va wr hz (hi := hi)
    rw [e] at this
    exact this
  | inr y =>
    intro m hm
    have := t_rdX wS d hB hm hp va wr hz (hi := hi)
    rw [e] at this
    exact this
theorem rd_flt {P : P6} {x : Flt} (h : FltP P x) (lo hi : Int32) : RD wS d B n lo hi P 0 P := fun m _ => t_rdF wS (d + 1) (by rw [h.1]; exact h.2.2) _ _ _ _ _ lo hi m
theorem AP72 (m : Mm) (P : P6) (i : Int32) : alI shP tb0 0 72 i (pmP m P) = if inR i 63 = true then some (m.1 72 i.toNatClampNeg) else none := A72 m _ _ _ _ _ _ i
theorem SP72 (m : Mm) (P : P6) (i x : Int32) : asI shP 0 72 i x (pmP m P) = if inR i 63 = true then some (pmP (wI m 72 i.toNatClampNeg x) P) else none := S72p m _ _ _ _ _ _ i x
theorem GP68 (m : Mm) (P : P6) : gfI shP 704 68 (pmP m P) = some (.ref 72) ∧ gfI shP 705 68 (pmP m P) = some (.int (m.1 68 5)) ∧ gfI shP 706 68 (pmP m P) = some (.int (m.1 68 6)) ∧ gfI shP 707 68 (pmP m P) = some (.int (m.1 68 7)) ∧ gfI shP 712 68 (pmP m P) = some (.int P.2.2.1) ∧ gfI shP 714 68 (pmP m P) = some (.int P.2.2.2.2.1) := ⟨rfl, rfl, rfl, rfl, (G68 m _ _ _ _ _ _).2.2.1, (G68 m _ _ _ _ _ _).2.2.2.2.1⟩
theorem PP68 (m : Mm) (P : P6) (x : Int32) : pfI shP 707 68 (.int x) (pmP m P) = some (pmP (wI m 68 7 x) P) ∧ pfI shP 706 68 (.int x) (pmP m P) = some (pmP (wI m 68 6 x) P) := ⟨(P68p m _ _ _ _ _ _ x).2, by
  obtain ⟨-, -, -, -, -, a6, -⟩ := G68b m P.1 P.2.1 P.2.2.1 P.2.2.2.1 P.2.2.2.2.1 P.2.2.2.2.2
  show pfI shP 706 68 (.int x) (pm m _ _ _ _ _ _) = _
  rw [a6, pm_wo m _ _ _ _ _ _ _ _ (by omega)]
  rfl⟩
def hv (a H : Int32) : Int32 := if a ≤ H then H else a
theorem ix_B {N : Nat} (hN : N < 6) : (8 : Int32) + 5 * nI N = nI (8 + 5 * N) ∧ (∀ i, i < 5 → nI (8 + 5 * N) + nI i = nI (8 + 5 * N + i) ∧ inR (nI (8 + 5 * N + i)) 63 = true ∧ (nI (8 + 5 * N + i)).toNatClampNeg = 8 + 5 * N + i) := by
  refine ⟨?_, fun i hi => ⟨nI_add _ _, inR_nI (by omega) (by omega), nI_clamp (by omega)⟩⟩
  rw [← nI_add, ← nI_mul]
  rfl
theorem t_rbX {N : Nat} (hm : TM B n m) (hN : N < 6) (h38 : m.1 72 38 = nI N) {P P1 P2 P3 : P6} {k v1 v2 v3 : Int32} (r1 : RD wS d B n 0 3 P v1 P1) (r2 : RD wS d B n 0 9 P1 v2 P2) (r3 : RD wS d B n 0 9 P2 v3 P3) : semZ shP wS (d + 4) 115 [.ref 68, .int k] (pmP m P) = some (none, pmP (wI (wI (wI (wI (wI (wI m 72 (8 + 5 * N) k) 72 (8 + 5 * N + 1) v1) 68 7 (hv v1 (m.1 68 7))) 72 (8 + 5 * N + 2) v2) 72 (8 + 5 * N + 3) v3) 72 38 (nI (N + 1))) P3) := by
  obtain ⟨x0, xi⟩ := ix_B hN
  have i0 := xi 0 (by omega)
  have i1 := xi 1 (by omega)
  have i2 := xi 2 (by omega)
  have i3 := xi 3 (by omega)
  have j0 : nI (8 + 5 * N) + 0 = nI (8 + 5 * N) := i0.1
  have k0 : inR (nI (8 + 5 * N)) 63 = true ∧ (nI (8 + 5 * N)).toNatClampNeg = 8 + 5 * N := i0.2
  have j1 : nI (8 + 5 * N) + 1 = nI (8 + 5 * N + 1) := i1.1
  have j2 : nI (8 + 5 * N) + 2 = nI (8 + 5 * N + 2) := i2.1
  have j3 : nI (8 + 5 * N) + 3 = nI (8 + 5 * N + 3) := i3.1
  obtain ⟨m1, e1⟩ : ∃ M, M = wI m 72 (8 + 5 * N) k := ⟨_, rfl⟩
  obtain ⟨m2, e2⟩ : ∃ M, M = wI m1 72 (8 + 5 * N + 1) v1 := ⟨_, rfl⟩
  obtain ⟨m3, e3⟩ : ∃ M, M = wI m2 68 7 (hv v1 (m.1 68 7)) := ⟨_, rfl⟩
  obtain ⟨m4, e4⟩ : ∃ M, M = wI m3 72 (8 + 5 * N + 2) v2 := ⟨_, rfl⟩
  obtain ⟨m5, e5⟩ : ∃ M, M = wI m4 72 (8 + 5 * N + 3) v3 := ⟨_, rfl⟩
  have t1 : TM B n m1 := by rw [e1]; exact TM_fr hm (FrM_d FrM_rf _ _)
  have t3 : TM B n m3 := by rw [e3, e2]; exact TM_fr t1 (FrM_e (FrM_d FrM_rf _ _) (by omega) _)
  have t4 : TM B n m4 := by rw [e4]; exact TM_fr t3 (FrM_d FrM_rf _ _)
  have c1 := r1 m1 t1
  have c2 := r2 m3 t3
  have c3 := r3 m4 t4
  have a1 : m2.1 72 (8 + 5 * N + 1) = v1 := by rw [e2, wI_s]
  have a7 : m2.1 68 7 = m.1 68 7 := by rw [e2, e1, wI_o _ _ _ _ _ (by omega), wI_o _ _ _ _ _ (by omega)]
  have a38 : m5.1 72 38 = nI N := by
    rw [e5, wI_j _ _ _ _ _ (by omega), e4, wI_j _ _ _ _ _ (by omega), e3, wI_o _ _ _ _ _ (by omega), e2, wI_j _ _ _ _ _ (by omega), e1, wI_j _ _ _ _ _ (by omega)]
    exact h38
  rw [← e1, ← e2, ← e3, ← e4, ← e5, se_X7_readBody, r_X7_readBody_0]
  by_cases c : v1 ≤ m.1 68 7
  · have e3' : wI m2 68 7 (m.1 68 7) = m3 := by
      rw [e3]
      unfold hv
      rw [if_pos c]
    simp only [EV, LV, CB, OI, OL, NP, CZ, popN, CT, OZ, List.map_nil, List.map_cons, List.sum_nil, List.sum_cons, Option.toList, List.nil_append, List.cons_append, Int.reduceToNat, Nat.reduceAdd, Nat.reduceLT, Nat.reduceLeDiff, List.length_cons, List.length_nil, Nat.zero_add, if_true, if_false, reduceIte, and_self, and_true, true_and, eq_self, reduceCtorEq, C68, GP68, AP72, SP72, in_cell, h38, x0, j0, k0, ← e1, j1, c1, i1.2, ← e2, a1, a7, c, r_X7_readBody_63, PP68, e3', j2, c2, i2.2, ← e4, j3, c3, i3.2, ← e5, a38, nI_1]
  · have e3' : wI m2 68 7 v1 = m3 := by
      rw [e3]
      unfold hv
      rw [if_neg c]
    simp only [EV, LV, CB, OI, OL, NP, CZ, popN, CT, OZ, List.map_nil, List.map_cons, List.sum_nil, List.sum_cons, Option.toList, List.nil_append, List.cons_append, Int.reduceToNat, Nat.reduceAdd, Nat.reduceLT, Nat.reduceLeDiff, List.length_cons, List.length_nil, Nat.zero_add, if_true, if_false, reduceIte, and_self, and_true, true_and, eq_self, reduceCtorEq, C68, GP68, AP72, SP72, in_cell, h38, x0, j0, k0, ← e1, j1, c1, i1.2, ← e2, a1, a7, c, r_X7_readBody_67, PP68, e3', j2, c2, i2.2, ← e4, j3, c3, i3.2, ← e5, a38, nI_1]
/-- the memory behind a body's line -/
def rbM (m : Mm) (N : Nat) (k v1 v2 v3 : Int32) : Mm := wI (wI (wI (wI (wI (wI m 72 (8 + 5 * N) k) 72 (8 + 5 * N + 1) v1) 68 7 (hv v1 (m.1 68 7))) 72 (8 + 5 * N + 2) v2) 72 (8 + 5 * N + 3) v3) 72 38 (nI (N + 1))
theorem rbM_fr (m : Mm) (N : Nat) (k v1 v2 v3 : Int32) : FrM m (rbM m N k v1 v2 v3) := FrM_d (FrM_d (FrM_d (FrM_e (FrM_d (FrM_d FrM_rf _ _) _ _) (by omega) _) _ _) _ _) _ _
theorem rbM_72 (m : Mm) (N : Nat) (k v1 v2 v3 : Int32) : (rbM m N k v1 v2 v3).1 72 = bdF (m.1 72) N k v1 v2 v3 := by
  unfold rbM bdF
  rw [wI_row, wI_row, wI_row, wI_n _ _ _ _ (by omega), wI_row, wI_row]
theorem rbM_68 (m : Mm) (N : Nat) (k v1 v2 v3 : Int32) : (rbM m N k v1 v2 v3).1 68 7 = hv v1 (m.1 68 7) ∧ (rbM m N k v1 v2 v3).1 68 5 = m.1 68 5 ∧ (rbM m N k v1 v2 v3).1 68 6 = m.1 68 6 := by
  unfold rbM
  refine ⟨?_, ?_, ?_⟩
  · rw [wI_o _ _ _ _ _ (by omega), wI_o _ _ _ _ _ (by omega), wI_o _ _ _ _ _ (by omega), wI_s]
  · rw [wI_o _ _ _ _ _ (by omega), wI_o _ _ _ _ _ (by omega), wI_o _ _ _ _ _ (by omega), wI_j _ _ _ _ _ (by omega), wI_o _ _ _ _ _ (by omega), wI_o _ _ _ _ _ (by omega)]
  · rw [wI_o _ _ _ _ _ (by omega), wI_o _ _ _ _ _ (by omega), wI_o _ _ _ _ _ (by omega), wI_j _ _ _ _ _ (by omega), wI_o _ _ _ _ _ (by omega), wI_o _ _ _ _ _ (by omega)]
theorem sw_k {k : Nat} (hk : k < 4) : swT 136 4 7 #[32, 85, 102, 119] (nI k) = 136 := by
  match k, hk with
  | 0, _ => exact sw_rlo.2.2.2.2.1
  | 1, _ => exact sw_rlo.2.2.2.2.2.1
  | 2, _ => exact sw_rlo.2.2.2.2.2.2.1
  | 3, _ => exact sw_rlo.2.2.2.2.2.2.2
theorem m_liB (hB : Tp B n) (hm : TM B n m) {N : Nat} (hN : N < 6) (h38 : m.1 72 38 = nI N) {k : Nat} (hk : k < 4) {p : Nat} (hp : p ≤ n) (va wr : Int32) : ∃ M, semZ shP wS (d + 5) 116 [.ref 68, .int (nI k)] (ml B m p va wr) = some (none, M) ∧ (match num1 B 3 false p with
    | .inl x => FltM m M x ∧ 0 < x.1
    | .inr y => (match num1 B 9 false y.2 with
      | .inl x => FltM m M x ∧ 0 < x.1
      | .inr y2 => (match num1 B 9 false y2.2 with
        | .inl x => FltM m M x ∧ 0 < x.1
        | .inr y3 => ∃ va', M = ml B (rbM m N (nI k) y.1 y2.1 y3.1) y3.2 va' wr))) := by
  rw [ml_P]
  have st : ∀ M, semZ shP wS (d + 4) 115 [.ref 68, .int (nI k)] (pmP m (lexP B p va wr)) = some (none, M) → semZ shP wS (d + 5) 116 [.ref 68, .int (nI k)] (pmP m (lexP B p va wr)) = some (none, M) := by
    intro M h
    rw [se_X7_readLineOf, r_X7_readLineOf_0]
    simp only [EV, LV, CB, OI, OL, NP, CZ, popN, CT, OZ, List.map_nil, List.map_cons, List.sum_nil, List.sum_cons, Option.toList, List.nil_append, List.cons_append, Int.reduceToNat, Nat.reduceAdd, Nat.reduceLT, Nat.reduceLeDiff, List.length_cons, List.length_nil, Nat.zero_add, if_true, if_false, reduceIte, and_self, and_true, true_and, eq_self, reduceCtorEq, sw_k hk, r_X7_readLineOf_136, C68, h]
  have q1 := rd_ml wS d hB hp va wr (lo := 0) (hi := 3) (z := false) (Or.inl ⟨rfl, rfl⟩)
  cases e1 : num1 B 3 false p with
  | inl x =>
    rw [e1] at q1
    obtain ⟨P1, r1, f1⟩ := q1
    exact ⟨_, st _ (t_rbX wS d hm hN h38 r1 (rd_flt wS d f1 0 9) (rd_flt wS d f1 0 9)), FltM_P f1 (rbM_fr _ _ _ _ _ _), f1.2.2⟩
  | inr y =>
    rw [e1] at q1
    have hy := num1_p hB hp e1
    have q2 := rd_ml wS d hB hy.2 y.1 wr (lo := 0) (hi := 9) (z := false) (Or.inl ⟨rfl, rfl⟩)
    simp only
    cases e2 : num1 B 9 false y.2 with
    | inl x =>
      rw [e2] at q2
      obtain ⟨P1, r1, f1⟩ := q2
      exact ⟨_, st _ (t_rbX wS d hm hN h38 q1 r1 (rd_flt wS d f1 0 9)), FltM_P f1 (rbM_fr _ _ _ _ _ _), f1.2.2⟩
    | inr y2 =>
      rw [e2] at q2
      have hy2 := num1_p hB hy.2 e2
      have q3 := rd_ml wS d hB hy2.2 y2.1 wr (lo := 0) (hi := 9) (z := false) (Or.inl ⟨rfl, rfl⟩)
      simp only
      cases e3 : num1 B 9 false y2.2 with
      | inl x =>
        rw [e3] at q3
        obtain ⟨P1, r1, f1⟩ := q3
        exact ⟨_, st _ (t_rbX wS d hm hN h38 q1 q2 r1), FltM_P f1 (rbM_fr _ _ _ _ _ _), f1.2.2⟩
      | inr y3 =>
        rw [e3] at q3
        exact ⟨_, st _ (t_rbX wS d hm hN h38 q1 q2 q3), _, rfl⟩
/-- behind the numbers -/
theorem t_ndP (P : P6) (m : Mm) (g c : Int32) : semZ shP wS (d + 1) 107 [.ref 68, .int g, .int c] (pmP m P) = some (none, if g = 0 ∧ P.2.2.2.2.1 = 0 then pmP m (P.1, P.2.1, P.2.2.1, P.2.2.2.1, c, nI P.2.1) else pmP m P) := t_needs wS d m P.2.1 P.2.2.1 P.2.2.2.1 P.2.2.2.2.1 P.2.2.2.2.2 P.1 g c
theorem t_tkF {P : P6} (h : 0 < P.2.2.2.2.1) (m : Mm) : semZ shP wS (d + 1) 113 [.ref 68] (pmP m P) = some (none, pmP m P) := t_takes_f wS d m _ _ _ _ _ _ h
theorem FltM_self {m : Mm} {M : Mm} {x : Flt} (h : FltM m M x) (hx : 0 < x.1) : ∃ m' P, M = pmP m' P ∧ FrM m m' ∧ FltP P x := by
  obtain ⟨m', ps, fr, so, va, rfl, hf⟩ := h
  exact ⟨m', (ps, fr, so, va, x.1, nI x.2), rfl, hf, rfl, rfl, hx⟩
theorem rl_f {k : Int32} {S M : Mm} {x : Flt} (hr : semZ shP wS (d + 5) 116 [.ref 68, .int k] S = some (none, M)) (h : FltM m M x) (hx : 0 < x.1) : rn shP tb0 mN mO (semZ shP wS (d + 5)) none (codeZ 117) 139 [.ref 68, .int k] [] S = some (none, M) := by
  obtain ⟨m', P, rfl, hf, h1, h2, -⟩ := FltM_self h hx
  have n0 : ¬ P.2.2.2.2.1 = 0 := fun z => by
    rw [h1] at z
    rw [z] at hx
    exact absurd hx (by decide)
  rw [r_X7_readLine_139]
  simp only [EV, LV, CB, OI, OL, NP, CZ, popN, CT, OZ, List.map_nil, List.map_cons, List.sum_nil, List.sum_cons, Option.toList, List.nil_append, List.cons_append, Int.reduceToNat, Nat.reduceAdd, Nat.reduceLT, Nat.reduceLeDiff, List.length_cons, List.length_nil, Nat.zero_add, if_true, if_false, reduceIte, and_self, and_true, true_and, eq_self, reduceCtorEq, C68, hr, GP68, n0, not_false_eq_true, r_X7_readLine_169, t_tkF wS (d + 4) (P := P) (by rw [h1]; exact hx)]
theorem rl_ok (hB : Tp B n) (hm : TM B n m) {k : Int32} {S : Mm} {p : Nat} (hp : p ≤ n) {va wr : Int32} (hr : semZ shP wS (d + 5) 116 [.ref 68, .int k] S = some (none, ml B m p va wr)) : ∃ M, rn shP tb0 mN mO (semZ shP wS (d + 5)) none (codeZ 117) 139 [.ref 68, .int k] [] S = some (none, M) ∧ (match stp B p with
    | .inl x => FltM m M x ∧ 0 < x.1
    | .inr q => (∃ va', M = ml B m q va' wr) ∧ p < q ∧ q ≤ n) := by
  have hb := lx_b hB hp
  have e10 : ¬ (1 : Int32) = 0 := by decide
  have e20 : ¬ (2 : Int32) = 0 := by decide
  rw [ml_P] at hr
  have g1 : (lexP B p va wr).2.2.2.2.1 = if (lx B p).1 = 4 then 1 else 0 := rfl
  have g2 : (lexP B p va wr).2.2.1 = soX B (lx B p).2.1 := rfl
  unfold stp
  by_cases h4 : (lx B p).1 = 4
  · rw [if_pos h4] at g1
    have h3 : ¬ (lx B p).1 = 3 := by omega
    rw [if_neg h3]
    refine ⟨pmP m (lexP B p va wr), ?_, FltM_P ⟨?_, ?_, ?_⟩ FrM_rf, ?_⟩
    · rw [r_X7_readLine_139]
      simp only [EV, LV, CB, OI, OL, NP, CZ, popN, CT, OZ, List.map_nil, List.map_cons, List.sum_nil, List.sum_cons, Option.toList, List.nil_append, List.cons_append, Int.reduceToNat, Nat.reduceAdd, Nat.reduceLT, Nat.reduceLeDiff, List.length_cons, List.length_nil, Nat.zero_add, if_true, if_false, reduceIte, and_self, and_true, true_and, eq_self, reduceCtorEq, C68, hr, GP68, g1, e10, not_false_eq_true, r_X7_readLine_169, t_tkF wS (d + 4) (P := lexP B p va wr) (by rw [g1]; decide)]
    · rw [g1, h4]; rfl
    · show (if (lx B p).1 = 4 then nI (lx B p).2.1 else wr) = _
      rw [if_pos h4]
    · rw [h4]; exact (by decide : (0 : Int32) < 1)
    · rw [h4]; exact (by decide : (0 : Int32) < 1)
  · rw [if_neg h4] at g1
    have so := lx_so h4
    by_cases h3 : (lx B p).1 = 3
    · rw [if_pos h3]
      rw [so, h3] at g2
      have g2 : (lexP B p va wr).2.2.1 = 3 := g2
      have lt := hb.2.2.2.2.2 (by omega)
      have tk := t_tkL wS (d + 3) hB hm hb.2.2.1 (lx B p).2.1 (soX B (lx B p).2.1) (vaX B (lx B p).2.1 (lx B p).2.2 va) wr
      have el : pmP m (lexP B p va wr) = pm m (lx B p).2.2 (lx B p).2.1 (soX B (lx B p).2.1) (vaX B (lx B p).2.1 (lx B p).2.2 va) 0 wr := by
        unfold pmP lexP
        rw [if_neg h4, if_neg h4]
      rw [← el] at tk
      refine ⟨ml B m (lx B p).2.2 (vaX B (lx B p).2.1 (lx B p).2.2 va) wr, ?_, ⟨_, rfl⟩, by omega, hb.2.2.1⟩
      · rw [r_X7_readLine_139]
        simp only [EV, LV, CB, OI, OL, NP, CZ, popN, CT, OZ, List.map_nil, List.map_cons, List.sum_nil, List.sum_cons, Option.toList, List.nil_append, List.cons_append, Int.reduceToNat, Nat.reduceAdd, Nat.reduceLT, Nat.reduceLeDiff, List.length_cons, List.length_nil, Nat.zero_add, if_true, if_false, reduceIte, and_self, and_true, true_and, eq_self, reduceCtorEq, C68, hr, GP68, g1, g2, not_true_eq_false, r_X7_readLine_165, t_ndP wS (d + 4), e10, false_and, tk]
    · rw [if_neg h3]
      have n3 : ¬ soX B (lx B p).2.1 = 3 := by
        rw [so]
        exact fun q => h3 ((nI_eq (b := 3) (by omega) (by omega)).mp q)
      rw [← g2] at n3
      have bd : bad (lx B p).1 = 2 := by
        unfold bad
        rw [if_neg h4]
      refine ⟨pmP m ((lexP B p va wr).1, (lexP B p va wr).2.1, (lexP B p va wr).2.2.1, (lexP B p va wr).2.2.2.1, 2, nI (lexP B p va wr).2.1), ?_, FltM_P ⟨?_, rfl, ?_⟩ FrM_rf, ?_⟩
      · rw [r_X7_readLine_139]
        simp only [EV, LV, CB, OI, OL, NP, CZ, popN, CT, OZ, List.map_nil, List.map_cons, List.sum_nil, List.sum_cons, Option.toList, List.nil_append, List.cons_append, Int.reduceToNat, Nat.reduceAdd, Nat.reduceLT, Nat.reduceLeDiff, List.length_cons, List.length_nil, Nat.zero_add, if_true, if_false, reduceIte, and_self, and_true, true_and, eq_self, reduceCtorEq, C68, hr, GP68, g1, n3, not_true_eq_false, not_false_eq_true, r_X7_readLine_164, t_ndP wS (d + 4)]
        rw [t_tkF wS (d + 4) (P := ((lexP B p va wr).1, (lexP B p va wr).2.1, (lexP B p va wr).2.2.1, (lexP B p va wr).2.2.2.1, 2, nI (lexP B p va wr).2.1)) (by exact (by decide : (0 : Int32) < 2))]
        simp only [EV, LV, CB, OI, OL, NP, CZ, popN, CT, OZ, List.map_nil, List.map_cons, List.sum_nil, List.sum_cons, Option.toList, List.nil_append, List.cons_append, Int.reduceToNat, Nat.reduceAdd, Nat.reduceLT, Nat.reduceLeDiff, List.length_cons, List.length_nil, Nat.zero_add, if_true, if_false, reduceIte, and_self, and_true, true_and, eq_self, reduceCtorEq]
      · exact bd.symm
      · show 0 < bad _
        rw [bd]; decide
      · show 0 < bad _
        rw [bd]; decide
end Mb
