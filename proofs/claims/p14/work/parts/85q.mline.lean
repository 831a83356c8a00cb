/-! readLine of the model, whole -/
def LnM (B : Nat → Int32) (n p : Nat) (m M : Mm) (wr : Int32) (r : Flt ⊕ Lin) : Prop := match r with
  | .inl x => FltM m M x ∧ 0 < x.1
  | .inr y => ∃ (m' : Mm) (va' : Int32), M = ml B m' y.1 va' wr ∧ FrM m m' ∧ MT y.2.1 y.2.2.1 y.2.2.2.1 y.2.2.2.2 m' ∧ p + 2 ≤ y.1 ∧ y.1 ≤ n
theorem hv_if (a H : Int32) : hv a H = if H < a then a else H := by
  unfold hv
  by_cases h : a ≤ H
  · rw [if_pos h, if_neg (Int32.not_lt.mpr h)]
  · rw [if_neg h, if_pos (Int32.not_le.mp h)]
theorem num1_4 {B : Nat → Int32} {p : Nat} (h : (lx B p).1 = 4) (hi : Int32) (z : Bool) : num1 B hi z p = .inl (1, (lx B p).2.1) := by
  unfold num1
  rw [if_neg (by omega), h]
  rfl
theorem liK_4 {B : Nat → Int32} {p : Nat} (h : (lx B p).1 = 4) (k V N : Nat) (f : Nat → Int32) (c : Nat) : liK B k p V N f c = .inl (1, (lx B p).2.1) := by
  unfold liK
  split
  · unfold liV; rw [num1_4 h]
  · unfold liB; rw [num1_4 h]
  · unfold liB; rw [num1_4 h]
  · unfold liB; rw [num1_4 h]
  · unfold liB; rw [num1_4 h]
  · unfold liS; rw [num1_4 h]
  · unfold liS; rw [num1_4 h]
  · unfold liS; rw [num1_4 h]
section Mr
variable {B : Nat → Int32} {n : Nat} (wS : List Value → Mm → Option Rs) (d : Nat) {m : Mm}
theorem FltM_tr {m1 M : Mm} {x : Flt} (h : FrM m m1) (h2 : FltM m1 M x) : FltM m M x := by
  obtain ⟨m', ps, fr, so, va, e, h3⟩ := h2
  exact ⟨m', ps, fr, so, va, e, FrM_tr h h3⟩
/-- what holds when the numbers are read -/
def Mid (V N : Nat) (f : Nat → Int32) (c : Nat) (m m1 : Mm) : Prop := FrM m m1 ∧ m1.1 72 = f ∧ m1.1 68 5 = nI V ∧ f 38 = nI N ∧ Hig (m1.1 68 7) f N ∧ V ≤ 4 ∧ N ≤ 6 ∧ m1.1 68 6 = tlV c ∧ c < 8
theorem gl_V (hB : Tp B n) {m1 : Mm} (hm : TM B n m1) {V N : Nat} {f : Nat → Int32} {c : Nat} (hM : Mid V N f c m m1) (hV : V < 4) {p0 p : Nat} (hp0 : p0 < p) (hp : p ≤ n) (va wr : Int32) : ∃ M, rn shP tb0 mN mO (semZ shP wS (d + 5)) none (codeZ 117) 139 [.ref 68, .int 4] [] (ml B m1 p va wr) = some (none, M) ∧ LnM B n p0 m M wr (liV B p V N f c) := by
  obtain ⟨g1, g2, g3, g4, g5, g6, g7, g8, g9⟩ := hM
  obtain ⟨M1, a1, a2⟩ := m_liV wS (d + 1) hB hm hV g3 hp va wr
  unfold liV
  cases e1 : num1 B 99 false p with
  | inl x =>
    rw [e1] at a2
    exact ⟨M1, rl_f wS d a1 a2.1 a2.2, FltM_tr g1 a2.1, a2.2⟩
  | inr y =>
    rw [e1] at a2
    have hy := num1_p hB hp e1
    simp only at a2 ⊢
    cases e2 : num1 B 9 false y.2 with
    | inl x =>
      rw [e2] at a2
      exact ⟨M1, rl_f wS d a1 a2.1 a2.2, FltM_tr g1 a2.1, a2.2⟩
    | inr y2 =>
      rw [e2] at a2
      obtain ⟨va', rfl⟩ := a2
      have hy2 := num1_p hB hy.2 e2
      have fr : FrM m1 (wI (wI (wI m1 72 (2 * V) y.1) 72 (2 * V + 1) y2.1) 68 5 (nI (V + 1))) := FrM_e (FrM_d (FrM_d FrM_rf _ _) _ _) (by omega) _
      obtain ⟨M, b1, b2⟩ := rl_ok wS d hB (TM_fr hm fr) hy2.2 a1
      refine ⟨M, b1, ?_⟩
      simp only
      cases e3 : stp B y2.2 with
      | inl x =>
        rw [e3] at b2
        exact ⟨FltM_tr (FrM_tr g1 fr) b2.1, b2.2⟩
      | inr q =>
        rw [e3] at b2
        obtain ⟨⟨va2, rfl⟩, c1, c2⟩ := b2
        refine ⟨_, _, rfl, FrM_tr g1 fr, ⟨?_, wI_s _ _ _ _, ?_, ?_, ?_, (show V + 1 ≤ 4 by omega), g7, g9⟩, ?_, c2⟩
        · show _ = upd (upd f (2 * V) y.1) (2 * V + 1) y2.1
          rw [wI_n _ _ _ _ (by omega), wI_row, wI_row, g2]
        · show upd (upd f (2 * V) y.1) (2 * V + 1) y2.1 38 = nI N
          rw [upd_n _ _ (by omega), upd_n _ _ (by omega)]
          exact g4
        · rw [wI_j _ _ _ _ _ (by omega), wI_o _ _ _ _ _ (by omega), wI_o _ _ _ _ _ (by omega)]
          exact g8
        · show Hig _ (upd (upd f (2 * V) y.1) (2 * V + 1) y2.1) N
          rw [wI_j _ _ _ _ _ (by omega), wI_o _ _ _ _ _ (by omega), wI_o _ _ _ _ _ (by omega)]
          exact Hig_u (Hig_u g5 _ (by omega) g7) _ (by omega) g7
        · show p0 + 2 ≤ q; omega
theorem gl_B (hB : Tp B n) {m1 : Mm} (hm : TM B n m1) {V N : Nat} {f : Nat → Int32} {c : Nat} (hM : Mid V N f c m m1) (hN : N < 6) {k : Nat} (hk : k < 4) {p0 p : Nat} (hp0 : p0 < p) (hp : p ≤ n) (va wr : Int32) : ∃ M, rn shP tb0 mN mO (semZ shP wS (d + 5)) none (codeZ 117) 139 [.ref 68, .int (nI k)] [] (ml B m1 p va wr) = some (none, M) ∧ LnM B n p0 m M wr (liB B (nI k) p V N f c) := by
  obtain ⟨g1, g2, g3, g4, g5, g6, g7, g8, g9⟩ := hM
  obtain ⟨M1, a1, a2⟩ := m_liB wS d hB hm hN (by rw [g2]; exact g4) hk hp va wr
  unfold liB
  cases e1 : num1 B 3 false p with
  | inl x =>
    rw [e1] at a2
    exact ⟨M1, rl_f wS d a1 a2.1 a2.2, FltM_tr g1 a2.1, a2.2⟩
  | inr y =>
    rw [e1] at a2
    have hy := num1_p hB hp e1
    simp only at a2 ⊢
    cases e2 : num1 B 9 false y.2 with
    | inl x =>
      rw [e2] at a2
      exact ⟨M1, rl_f wS d a1 a2.1 a2.2, FltM_tr g1 a2.1, a2.2⟩
    | inr y2 =>
      rw [e2] at a2
      have hy2 := num1_p hB hy.2 e2
      simp only at a2 ⊢
      cases e3 : num1 B 9 false y2.2 with
      | inl x =>
        rw [e3] at a2
        exact ⟨M1, rl_f wS d a1 a2.1 a2.2, FltM_tr g1 a2.1, a2.2⟩
      | inr y3 =>
        rw [e3] at a2
        obtain ⟨va', rfl⟩ := a2
        have hy3 := num1_p hB hy2.2 e3
        have fr := rbM_fr m1 N (nI k) y.1 y2.1 y3.1
        obtain ⟨M, b1, b2⟩ := rl_ok wS d hB (TM_fr hm fr) hy3.2 a1
        refine ⟨M, b1, ?_⟩
        simp only
        cases e4 : stp B y3.2 with
        | inl x =>
          rw [e4] at b2
          exact ⟨FltM_tr (FrM_tr g1 fr) b2.1, b2.2⟩
        | inr q =>
          rw [e4] at b2
          obtain ⟨⟨va2, rfl⟩, c1, c2⟩ := b2
          have r68 := rbM_68 m1 N (nI k) y.1 y2.1 y3.1
          refine ⟨_, _, rfl, FrM_tr g1 fr, ⟨?_, by rw [r68.2.1]; exact g3, ?_, by rw [r68.2.2]; exact g8, ?_, g6, ?_, g9⟩, ?_, c2⟩
          · show _ = bdF f N (nI k) y.1 y2.1 y3.1
            rw [rbM_72, g2]
          · show bdF f N (nI k) y.1 y2.1 y3.1 38 = nI (N + 1)
            unfold bdF
            rw [upd_s]
          · show Hig _ (bdF f N (nI k) y.1 y2.1 y3.1) (N + 1)
            rw [r68.1, hv_if]
            exact Hig_b g5 hN _ _ _ _ (num1_v hB hp e1)
          · show N + 1 ≤ 6; omega
          · show p0 + 2 ≤ q; omega
theorem gl_S (hB : Tp B n) {m1 : Mm} (hm : TM B n m1) {V N : Nat} {f : Nat → Int32} {c : Nat} {k : Nat} (k5 : 5 ≤ k) (k8 : k < 8) (hM : Mid V N f (c + 2 ^ (k - 5)) m m1) {p0 p : Nat} (hp0 : p0 < p) (hp : p ≤ n) (va wr : Int32) : ∃ M, rn shP tb0 mN mO (semZ shP wS (d + 5)) none (codeZ 117) 139 [.ref 68, .int (nI k)] [] (ml B m1 p va wr) = some (none, M) ∧ LnM B n p0 m M wr (liS B (34 + k) (mst k 0) (k == 7) (2 ^ (k - 5)) p V N f c) := by
  obtain ⟨g1, g2, g3, g4, g5, g6, g7, g8, g9⟩ := hM
  obtain ⟨M1, a1, a2⟩ := m_liS wS (d + 1) hB hm k5 k8 hp va wr
  unfold liS
  cases e1 : num1 B (mst k 0) (k == 7) p with
  | inl x =>
    rw [e1] at a2
    exact ⟨M1, rl_f wS d a1 a2.1 a2.2, FltM_tr g1 a2.1, a2.2⟩
  | inr y =>
    rw [e1] at a2
    have hy := num1_p hB hp e1
    obtain ⟨va', rfl⟩ := a2
    have fr : FrM m1 (wI m1 72 (34 + k) y.1) := FrM_d FrM_rf _ _
    obtain ⟨M, b1, b2⟩ := rl_ok wS d hB (TM_fr hm fr) hy.2 a1
    refine ⟨M, b1, ?_⟩
    simp only
    cases e3 : stp B y.2 with
    | inl x =>
      rw [e3] at b2
      exact ⟨FltM_tr (FrM_tr g1 fr) b2.1, b2.2⟩
    | inr q =>
      rw [e3] at b2
      obtain ⟨⟨va2, rfl⟩, c1, c2⟩ := b2
      refine ⟨_, _, rfl, FrM_tr g1 fr, ⟨?_, ?_, ?_, ?_, ?_, g6, g7, g9⟩, ?_, c2⟩
      · show _ = upd f (34 + k) y.1
        rw [wI_row, g2]
      · rw [wI_o _ _ _ _ _ (by omega)]; exact g3
      · show upd f (34 + k) y.1 38 = nI N
        rw [upd_n _ _ (by omega)]
        exact g4
      · rw [wI_o _ _ _ _ _ (by omega)]; exact g8
      · show Hig _ (upd f (34 + k) y.1) N
        rw [wI_o _ _ _ _ _ (by omega)]
        exact Hig_u g5 _ (by omega) g7
      · show p0 + 2 ≤ q; omega
/-- a name that begins a line, as it is read -/
theorem rl_go (hB : Tp B n) {m1 : Mm} (hm : TM B n m1) {V N : Nat} {f : Nat → Int32} {c : Nat} {k : Nat} (k8 : k < 8) (hr : noRoom k V N = false) (hM : Mid V N f (if 5 ≤ k then c + 2 ^ (k - 5) else c) m m1) {p0 p : Nat} (hp0 : p0 < p) (hp : p ≤ n) (va wr : Int32) : ∃ M, (if (lx B p).1 = 4 then some (none, ml B m1 p va wr) else rn shP tb0 mN mO (semZ shP wS (d + 5)) none (codeZ 117) 139 [.ref 68, .int (mdl k)] [] (ml B m1 p va wr)) = some (none, M) ∧ LnM B n p0 m M wr (liK B k p V N f c) := by
  by_cases h4 : (lx B p).1 = 4
  · rw [if_pos h4, liK_4 h4]
    refine ⟨_, rfl, FltM_P (P := lexP B p va wr) (x := (1, (lx B p).2.1)) ⟨?_, ?_, (by decide : (0 : Int32) < 1)⟩ hM.1, (by decide : (0 : Int32) < 1)⟩
    · show (if (lx B p).1 = 4 then 1 else 0) = (1 : Int32)
      rw [if_pos h4]
    · show (if (lx B p).1 = 4 then nI (lx B p).2.1 else wr) = _
      rw [if_pos h4]
  · rw [if_neg h4]
    match k, k8 with
    | 0, _ => exact gl_V wS d hB hm hM (nr_V hr) hp0 hp va wr
    | 1, _ => exact gl_B wS d hB hm hM (nr_N (by omega) (by omega) hr) (k := 0) (by omega) hp0 hp va wr
    | 2, _ => exact gl_B wS d hB hm hM (nr_N (by omega) (by omega) hr) (k := 1) (by omega) hp0 hp va wr
    | 3, _ => exact gl_B wS d hB hm hM (nr_N (by omega) (by omega) hr) (k := 2) (by omega) hp0 hp va wr
    | 4, _ => exact gl_B wS d hB hm hM (nr_N (by omega) (by omega) hr) (k := 3) (by omega) hp0 hp va wr
    | 5, _ => exact gl_S wS d hB hm (k := 5) (by omega) (by omega) hM hp0 hp va wr
    | 6, _ => exact gl_S wS d hB hm (k := 6) (by omega) (by omega) hM hp0 hp va wr
    | 7, _ => exact gl_S wS d hB hm (k := 7) (by omega) (by omega) hM hp0 hp va wr
end Mr
