section
/-! takeLine, tell: the class's text -/
theorem F24i (m : Mm) (s e : Nat) : gfI shP 301 24 (tm m s e) = some (.int (nI s)) ∧ gfI shP 300 24 (tm m s e) = some (.int (m.1 24 0)) := ⟨(G24 m s e).2.2.1, (G24 m s e).2.1⟩
/-- a line that is told: the place behind it, what the memory holds then -/
def OkC (B : Nat → Int32) (n p : Nat) (m M : Mm) (y : Lin) : Prop := ∃ (m' : Mm) (s' : Nat), M = tm m' s' y.1 ∧ FrC m m' ∧ m'.1 23 1 = m.1 23 1 ∧ CTx y.2.1 y.2.2.1 y.2.2.2.1 y.2.2.2.2 m' ∧ p + 2 ≤ y.1 ∧ y.1 ≤ n
def LnC (B : Nat → Int32) (n p : Nat) (m M : Mm) (r : Flt ⊕ Lin) : Prop := match r with
  | .inl x => FltC m M x ∧ ¬ x.1 = 0
  | .inr y => OkC B n p m M y
theorem bad_n (t : Nat) : ¬ bad t = 0 := by
  unfold bad
  split <;> decide
theorem num1_n {B : Nat → Int32} {hi : Int32} {z : Bool} {p : Nat} {x : Flt} (h : num1 B hi z p = .inl x) : ¬ x.1 = 0 := by
  unfold num1 at h
  split at h
  · split at h
    · cases h; exact (by decide : ¬ (3 : Int32) = 0)
    · cases h
  · cases h; exact bad_n _
section Tl
variable {B : Nat → Int32} {n : Nat} (wS : List Value → Mm → Option Rs) (d : Nat) {m : Mm}
/-- behind the numbers: the stop -/
theorem tl_stop (hB : Tp B n) (hm : TC B n m) {k : Nat} (s0 : Nat) {p : Nat} (hp : p ≤ n) (mE : Mm) (he : semZ shP wS (d + 3) 17 [.ref 23, .int (nI k), .ref 10] (tm m (lx B p).2.1 (lx B p).2.2) = some (none, mE)) : ∃ M, semZ shP wS (d + 3) 8 [.ref 24] (tm m s0 p) = some (some (.int (nI (lx B p).1)), tm m (lx B p).2.1 (lx B p).2.2) ∧ (match stp B p with
    | .inl x => semZ shP wS (d + 3) 19 [.ref 23, .int (nI (lx B p).1), .int 3] (tm m (lx B p).2.1 (lx B p).2.2) = some (some (.int 0), M) ∧ FltC m M x ∧ ¬ x.1 = 0
    | .inr q => semZ shP wS (d + 3) 19 [.ref 23, .int (nI (lx B p).1), .int 3] (tm m (lx B p).2.1 (lx B p).2.2) = some (some (.int 1), tm m (lx B p).2.1 (lx B p).2.2) ∧ M = mE ∧ q = (lx B p).2.2 ∧ p < q ∧ q ≤ n) := by
  have hb := lx_b hB hp
  have tk := t_takeX wS (d + 1) hB hm s0 hp
  unfold stp
  by_cases h3 : (lx B p).1 = 3
  · rw [if_pos h3]
    have ey : semZ shP wS (d + 3) 19 [.ref 23, .int (nI 3), .int 3] (tm m (lx B p).2.1 (lx B p).2.2) = _ := t_exY wS (d + 2) 3 (tm m (lx B p).2.1 (lx B p).2.2)
    have := hb.2.2.2.2.2 (by omega)
    exact ⟨mE, tk, by rw [h3]; exact ey, rfl, rfl, by omega, hb.2.2.1⟩
  · rw [if_neg h3]
    have ex : semZ shP wS (d + 3) 19 [.ref 23, .int (nI (lx B p).1), .int 3] (tm m (lx B p).2.1 (lx B p).2.2) = _ := t_exN wS (d + 1) hB hp (b := 3) (by omega) h3 m
    exact ⟨_, tk, ex, FltC_of (x := (bad (lx B p).1, (lx B p).2.1)) FrC_rf _ _, bad_n _⟩
/-- takeLine from its numbers on -/
theorem tl_87 (hB : Tp B n) {k : Nat} {m1 : Mm} (s0 e0 : Nat) {v : Int32} {M1 : Mm} (hn : semZ shP wS (d + 3) 15 [.ref 23, .int (nI k)] (tm m s0 e0) = some (some (.int v), M1)) (t : Int32) : (v = 0 → rn shP tb0 mN mO (semZ shP wS (d + 3)) none (codeZ 13) 87 [.ref 23, .int t, .ref 10, .int (nI k)] [] (tm m s0 e0) = some (none, M1)) ∧ (v = 1 → ∀ (s1 p : Nat), M1 = tm m1 s1 p → TC B n m1 → p ≤ n → ∀ mE, semZ shP wS (d + 3) 17 [.ref 23, .int (nI k), .ref 10] (tm m1 (lx B p).2.1 (lx B p).2.2) = some (none, mE) → ∃ M, rn shP tb0 mN mO (semZ shP wS (d + 3)) none (codeZ 13) 87 [.ref 23, .int t, .ref 10, .int (nI k)] [] (tm m s0 e0) = some (none, M) ∧ (match stp B p with
    | .inl x => FltC m1 M x ∧ ¬ x.1 = 0
    | .inr q => M = mE ∧ q = (lx B p).2.2 ∧ p < q ∧ q ≤ n)) := by
  have e10 : ¬ (1 : Int32) = 0 := by decide
  constructor
  · intro h
    subst h
    rw [r_X4_takeLine_87]
    simp only [EV, LV, CB, OI, OL, NP, CZ, popN, CT, OZ, List.map_nil, List.map_cons, List.sum_nil, List.sum_cons, Option.toList, List.nil_append, List.cons_append, Int.reduceToNat, Nat.reduceAdd, Nat.reduceLT, Nat.reduceLeDiff, List.length_cons, List.length_nil, Nat.zero_add, if_true, if_false, reduceIte, and_self, and_true, true_and, eq_self, reduceCtorEq, C23, hn, r_X4_takeLine_116]
  · intro h s1 p hM hm1 hp mE he
    subst h
    subst hM
    obtain ⟨M, a1, a2⟩ := tl_stop wS d hB hm1 s1 hp mE he
    refine ⟨M, ?_, ?_⟩
    · rw [r_X4_takeLine_87]
      cases e : stp B p with
      | inl x =>
        rw [e] at a2
        simp only [EV, LV, CB, OI, OL, NP, CZ, popN, CT, OZ, List.map_nil, List.map_cons, List.sum_nil, List.sum_cons, Option.toList, List.nil_append, List.cons_append, Int.reduceToNat, Nat.reduceAdd, Nat.reduceLT, Nat.reduceLeDiff, List.length_cons, List.length_nil, Nat.zero_add, if_true, if_false, reduceIte, and_self, and_true, true_and, eq_self, reduceCtorEq, C23, C24, G23, hn, e10, a1, a2.1, r_X4_takeLine_116]
      | inr q =>
        rw [e] at a2
        simp only [EV, LV, CB, OI, OL, NP, CZ, popN, CT, OZ, List.map_nil, List.map_cons, List.sum_nil, List.sum_cons, Option.toList, List.nil_append, List.cons_append, Int.reduceToNat, Nat.reduceAdd, Nat.reduceLT, Nat.reduceLeDiff, List.length_cons, List.length_nil, Nat.zero_add, if_true, if_false, reduceIte, and_self, and_true, true_and, eq_self, reduceCtorEq, C23, C24, G23, hn, e10, a1, a2.1, he, a2.2.1]
    · cases e : stp B p with
      | inl x =>
        rw [e] at a2
        exact a2.2
      | inr q =>
        rw [e] at a2
        exact a2.2
theorem FltC_tr {m1 M : Mm} {x : Flt} (h : FrC m m1) (h2 : FltC m1 M x) : FltC m M x := by
  obtain ⟨m', s', e', h3, h4, h5, h6⟩ := h2
  exact ⟨m', s', e', h3, fun o h1 h2 h3 => (h4 o h1 h2 h3).trans (h o h1 h2 h3), h5, h6⟩
theorem liV_c (hB : Tp B n) (hm : TC B n m) {V N : Nat} {f : Nat → Int32} {c : Nat} (hC : CTx V N f c m) (hV : V < 4) (s0 : Nat) {p0 p : Nat} (hp0 : p0 < p) (hp : p ≤ n) (t : Int32) : ∃ M, rn shP tb0 mN mO (semZ shP wS (d + 3)) none (codeZ 13) 87 [.ref 23, .int t, .ref 10, .int (nI 0)] [] (tm m s0 p) = some (none, M) ∧ LnC B n p0 m M (liV B p V N f c) := by
  obtain ⟨v, M1, a1, a2⟩ := t_tn2 wS d hB hm s0 hp
  unfold liV
  cases e1 : num1 B 99 false p with
  | inl x =>
    rw [e1] at a2
    obtain ⟨rfl, a2⟩ := a2
    exact ⟨M1, (tl_87 wS d hB (m1 := m) s0 p a1 t).1 rfl, a2, num1_n e1⟩
  | inr y =>
    rw [e1] at a2
    simp only at a2 ⊢
    have hy := num1_p hB hp e1
    cases e2 : num1 B 9 false y.2 with
    | inl x =>
      rw [e2] at a2
      obtain ⟨rfl, a2⟩ := a2
      exact ⟨M1, (tl_87 wS d hB (m1 := m) s0 p a1 t).1 rfl, a2, num1_n e2⟩
    | inr y2 =>
      rw [e2] at a2
      obtain ⟨rfl, s1, hM⟩ := a2
      have hy2 := num1_p hB hy.2 e2
      have h0 : (tm (wI (wI m 26 0 y.1) 26 1 y2.1) (lx B y2.2).2.1 (lx B y2.2).2.2).1 10 0 = nI V := by
        rw [tm_at _ _ _ (by omega), wI_o _ _ _ _ _ (by omega), wI_o _ _ _ _ _ (by omega)]
        exact hC.1.2.2.1
      have en := t_enterV wS (d + 1) hV _ h0
      have q0 : (tm (wI (wI m 26 0 y.1) 26 1 y2.1) (lx B y2.2).2.1 (lx B y2.2).2.2).1 26 0 = y.1 := by
        rw [tm_at _ _ _ (by omega), wI_j _ _ _ _ _ (by omega), wI_s]
      have q1 : (tm (wI (wI m 26 0 y.1) 26 1 y2.1) (lx B y2.2).2.1 (lx B y2.2).2.2).1 26 1 = y2.1 := by
        rw [tm_at _ _ _ (by omega), wI_s]
      rw [q0, q1, tm_o _ _ _ _ _ (by omega), tm_o _ _ _ _ _ (by omega), tm_o _ _ _ _ _ (by omega)] at en
      obtain ⟨M, b1, b2⟩ := (tl_87 wS d hB (m1 := wI (wI m 26 0 y.1) 26 1 y2.1) s0 p a1 t).2 rfl s1 y2.2 hM (TC_26 (TC_26 hm _ _) _ _) hy2.2 _ en
      refine ⟨M, b1, ?_⟩
      simp only
      have f26 : FrC m (wI (wI m 26 0 y.1) 26 1 y2.1) := FrC_w (FrC_w FrC_rf (by omega)) (by omega)
      cases e3 : stp B y2.2 with
      | inl x =>
        rw [e3] at b2
        exact ⟨FltC_tr f26 b2.1, b2.2⟩
      | inr q =>
        rw [e3] at b2
        obtain ⟨c1, c2, c3, c4⟩ := b2
        have w26 : CW 10 V N f (wI (wI m 26 0 y.1) 26 1 y2.1) := CW_k hC.1 (fun o h1 h2 => by rw [wI_n _ _ _ _ (by omega), wI_n _ _ _ _ (by omega)])
        refine ⟨_, _, by rw [c1, ← c2], FrC_w (FrC_w (FrC_w f26 (by omega)) (by omega)) (by omega), ?_, ⟨CW_v w26 hV y.1 y2.1, ?_, ?_, hC.2.2.2.1, ?_⟩, ?_, ?_⟩
        · rw [wI_o _ _ _ _ _ (by omega), wI_o _ _ _ _ _ (by omega), wI_o _ _ _ _ _ (by omega), wI_o _ _ _ _ _ (by omega), wI_o _ _ _ _ _ (by omega)]
        · intro b hb
          show upd (upd f (2 * V) y.1) (2 * V + 1) y2.1 (8 + 5 * b + 4) = 0
          rw [upd_n _ _ (by omega), upd_n _ _ (by omega)]
          exact hC.2.1 b hb
        · rw [wI_o _ _ _ _ _ (by omega), wI_o _ _ _ _ _ (by omega), wI_o _ _ _ _ _ (by omega), wI_o _ _ _ _ _ (by omega), wI_o _ _ _ _ _ (by omega)]
          exact hC.2.2.1
        · show _ = upd (upd f (2 * V) y.1) (2 * V + 1) y2.1 43
          rw [wI_j _ _ _ _ _ (by omega), wI_o _ _ _ _ _ (by omega), wI_o _ _ _ _ _ (by omega), wI_o _ _ _ _ _ (by omega), wI_o _ _ _ _ _ (by omega), upd_n _ _ (by omega), upd_n _ _ (by omega)]
          exact hC.2.2.2.2
        · show p0 + 2 ≤ q; omega
        · exact c4
theorem liB_c (hB : Tp B n) (hm : TC B n m) {V N : Nat} {f : Nat → Int32} {c : Nat} (hC : CTx V N f c m) (hN : N < 6) {k : Nat} (k1 : 1 ≤ k) (k4 : k ≤ 4) (s0 : Nat) {p0 p : Nat} (hp0 : p0 < p) (hp : p ≤ n) (t : Int32) : ∃ M, rn shP tb0 mN mO (semZ shP wS (d + 3)) none (codeZ 13) 87 [.ref 23, .int t, .ref 10, .int (nI k)] [] (tm m s0 p) = some (none, M) ∧ LnC B n p0 m M (liB B (nI (k - 1)) p V N f c) := by
  obtain ⟨v, M1, a1, a2⟩ := t_tn3 wS d hB hm k1 k4 s0 hp
  unfold liB
  cases e1 : num1 B 3 false p with
  | inl x =>
    rw [e1] at a2
    obtain ⟨rfl, a2⟩ := a2
    exact ⟨M1, (tl_87 wS d hB (m1 := m) s0 p a1 t).1 rfl, a2, num1_n e1⟩
  | inr y =>
    rw [e1] at a2
    simp only at a2 ⊢
    have hy := num1_p hB hp e1
    cases e2 : num1 B 9 false y.2 with
    | inl x =>
      rw [e2] at a2
      obtain ⟨rfl, a2⟩ := a2
      exact ⟨M1, (tl_87 wS d hB (m1 := m) s0 p a1 t).1 rfl, a2, num1_n e2⟩
    | inr y2 =>
      rw [e2] at a2
      simp only at a2 ⊢
      have hy2 := num1_p hB hy.2 e2
      cases e3 : num1 B 9 false y2.2 with
      | inl x =>
        rw [e3] at a2
        obtain ⟨rfl, a2⟩ := a2
        exact ⟨M1, (tl_87 wS d hB (m1 := m) s0 p a1 t).1 rfl, a2, num1_n e3⟩
      | inr y3 =>
        rw [e3] at a2
        obtain ⟨rfl, s1, hM⟩ := a2
        have hy3 := num1_p hB hy2.2 e3
        have h0 : (tm (wI (wI (wI m 26 0 y.1) 26 1 y2.1) 26 2 y3.1) (lx B y3.2).2.1 (lx B y3.2).2.2).1 10 1 = nI N := by
          rw [tm_at _ _ _ (by omega), wI_o _ _ _ _ _ (by omega), wI_o _ _ _ _ _ (by omega), wI_o _ _ _ _ _ (by omega)]
          exact hC.1.2.2.2.1
        have en := t_enterB wS (d + 1) k1 k4 hN _ h0
        have q0 : (tm (wI (wI (wI m 26 0 y.1) 26 1 y2.1) 26 2 y3.1) (lx B y3.2).2.1 (lx B y3.2).2.2).1 26 0 = y.1 := by
          rw [tm_at _ _ _ (by omega), wI_j _ _ _ _ _ (by omega), wI_j _ _ _ _ _ (by omega), wI_s]
        have q1 : (tm (wI (wI (wI m 26 0 y.1) 26 1 y2.1) 26 2 y3.1) (lx B y3.2).2.1 (lx B y3.2).2.2).1 26 1 = y2.1 := by
          rw [tm_at _ _ _ (by omega), wI_j _ _ _ _ _ (by omega), wI_s]
        have q2 : (tm (wI (wI (wI m 26 0 y.1) 26 1 y2.1) 26 2 y3.1) (lx B y3.2).2.1 (lx B y3.2).2.2).1 26 2 = y3.1 := by
          rw [tm_at _ _ _ (by omega), wI_s]
        rw [q0, q1, q2, tm_o _ _ _ _ _ (by omega), tm_o _ _ _ _ _ (by omega), tm_o _ _ _ _ _ (by omega), tm_o _ _ _ _ _ (by omega), tm_o _ _ _ _ _ (by omega), tm_o _ _ _ _ _ (by omega)] at en
        obtain ⟨M, b1, b2⟩ := (tl_87 wS d hB (m1 := wI (wI (wI m 26 0 y.1) 26 1 y2.1) 26 2 y3.1) s0 p a1 t).2 rfl s1 y3.2 hM (TC_26 (TC_26 (TC_26 hm _ _) _ _) _ _) hy3.2 _ en
        refine ⟨M, b1, ?_⟩
        simp only
        have f26 : FrC m (wI (wI (wI m 26 0 y.1) 26 1 y2.1) 26 2 y3.1) := FrC_w (FrC_w (FrC_w FrC_rf (by omega)) (by omega)) (by omega)
        cases e4 : stp B y3.2 with
        | inl x =>
          rw [e4] at b2
          exact ⟨FltC_tr f26 b2.1, b2.2⟩
        | inr q =>
          rw [e4] at b2
          obtain ⟨c1, c2, c3, c4⟩ := b2
          have w26 : CW 10 V N f (wI (wI (wI m 26 0 y.1) 26 1 y2.1) 26 2 y3.1) := CW_k hC.1 (fun o h1 h2 => by rw [wI_n _ _ _ _ (by omega), wI_n _ _ _ _ (by omega), wI_n _ _ _ _ (by omega)])
          refine ⟨_, _, by rw [c1, ← c2], FrC_w (FrC_w (FrC_w (FrC_w (FrC_w (FrC_w f26 (by omega)) (by omega)) (by omega)) (by omega)) (by omega)) (by omega), ?_, ⟨CW_b w26 (hC.2.1 N hN) hN (nI (k - 1)) y.1 y2.1 y3.1, ?_, ?_, hC.2.2.2.1, ?_⟩, ?_, ?_⟩
          · rw [wI_o _ _ _ _ _ (by omega), wI_o _ _ _ _ _ (by omega), wI_o _ _ _ _ _ (by omega), wI_o _ _ _ _ _ (by omega), wI_o _ _ _ _ _ (by omega), wI_o _ _ _ _ _ (by omega), wI_o _ _ _ _ _ (by omega), wI_o _ _ _ _ _ (by omega), wI_o _ _ _ _ _ (by omega)]
          · intro b hb
            show bdF f N (nI (k - 1)) y.1 y2.1 y3.1 (8 + 5 * b + 4) = 0
            unfold bdF
            rw [upd_n _ _ (by omega), upd_n _ _ (by omega), upd_n _ _ (by omega), upd_n _ _ (by omega), upd_n _ _ (by omega)]
            exact hC.2.1 b hb
          · rw [wI_o _ _ _ _ _ (by omega), wI_o _ _ _ _ _ (by omega), wI_o _ _ _ _ _ (by omega), wI_o _ _ _ _ _ (by omega), wI_o _ _ _ _ _ (by omega), wI_o _ _ _ _ _ (by omega), wI_o _ _ _ _ _ (by omega), wI_o _ _ _ _ _ (by omega), wI_o _ _ _ _ _ (by omega)]
            exact hC.2.2.1
          · show _ = bdF f N (nI (k - 1)) y.1 y2.1 y3.1 43
            unfold bdF
            rw [wI_j _ _ _ _ _ (by omega), wI_o _ _ _ _ _ (by omega), wI_o _ _ _ _ _ (by omega), wI_o _ _ _ _ _ (by omega), wI_o _ _ _ _ _ (by omega), wI_o _ _ _ _ _ (by omega), wI_o _ _ _ _ _ (by omega), wI_o _ _ _ _ _ (by omega), wI_o _ _ _ _ _ (by omega), upd_n _ _ (by omega), upd_n _ _ (by omega), upd_n _ _ (by omega), upd_n _ _ (by omega), upd_n _ _ (by omega)]
            exact hC.2.2.2.2
          · show p0 + 2 ≤ q; omega
          · exact c4
/-- price, fine, round -/
theorem liS_c (hB : Tp B n) (hm : TC B n m) {V N : Nat} {f : Nat → Int32} {c : Nat} (hC : CTx V N f c m) {k : Nat} (k5 : 5 ≤ k) (k8 : k < 8) (ht : toldX c k = false) (s0 : Nat) {p0 p : Nat} (hp0 : p0 < p) (hp : p ≤ n) (t : Int32) : ∃ M, rn shP tb0 mN mO (semZ shP wS (d + 3)) none (codeZ 13) 87 [.ref 23, .int t, .ref 10, .int (nI k)] [] (tm m s0 p) = some (none, M) ∧ LnC B n p0 m M (liS B (34 + k) (mst k 0) (k == 7) (2 ^ (k - 5)) p V N f c) := by
  obtain ⟨v, M1, a1, a2⟩ := t_tn1 wS d hB hm k5 k8 s0 hp
  unfold liS
  cases e1 : num1 B (mst k 0) (k == 7) p with
  | inl x =>
    rw [e1] at a2
    obtain ⟨rfl, a2⟩ := a2
    exact ⟨M1, (tl_87 wS d hB (m1 := m) s0 p a1 t).1 rfl, a2, num1_n e1⟩
  | inr y =>
    rw [e1] at a2
    obtain ⟨rfl, s1, hM⟩ := a2
    have hy := num1_p hB hp e1
    have en : semZ shP wS (d + 3) 17 [.ref 23, .int (nI k), .ref 10] (tm (wI m 26 0 y.1) (lx B y.2).2.1 (lx B y.2).2.2) = some (none, tm (wI (wI (wI m 26 0 y.1) 10 (k - 3) y.1) 23 4 (tlV c ||| (1 <<< (nI k &&& 31)))) (lx B y.2).2.1 (lx B y.2).2.2) := by
      have q0 : (tm (wI m 26 0 y.1) (lx B y.2).2.1 (lx B y.2).2.2).1 26 0 = y.1 := by
        rw [tm_at _ _ _ (by omega), wI_s]
      have q4 : (tm (wI m 26 0 y.1) (lx B y.2).2.1 (lx B y.2).2.2).1 23 4 = tlV c := by
        rw [tm_at _ _ _ (by omega), wI_o _ _ _ _ _ (by omega)]
        exact hC.2.2.1
      match k, k5, k8 with
      | 5, _, _ =>
        have := t_enter5 wS (d + 1) (tm (wI m 26 0 y.1) (lx B y.2).2.1 (lx B y.2).2.2)
        rw [q0, q4, tm_o _ _ _ _ _ (by omega), tm_o _ _ _ _ _ (by omega)] at this
        exact this
      | 6, _, _ =>
        have := t_enter6 wS (d + 1) (tm (wI m 26 0 y.1) (lx B y.2).2.1 (lx B y.2).2.2)
        rw [q0, q4, tm_o _ _ _ _ _ (by omega), tm_o _ _ _ _ _ (by omega)] at this
        exact this
      | 7, _, _ =>
        have := t_enter7 wS (d + 1) (tm (wI m 26 0 y.1) (lx B y.2).2.1 (lx B y.2).2.2)
        rw [q0, q4, tm_o _ _ _ _ _ (by omega), tm_o _ _ _ _ _ (by omega)] at this
        exact this
    obtain ⟨M, b1, b2⟩ := (tl_87 wS d hB (m1 := wI m 26 0 y.1) s0 p a1 t).2 rfl s1 y.2 hM (TC_26 hm _ _) hy.2 _ en
    refine ⟨M, b1, ?_⟩
    simp only
    have f26 : FrC m (wI m 26 0 y.1) := FrC_w FrC_rf (by omega)
    cases e3 : stp B y.2 with
    | inl x =>
      rw [e3] at b2
      exact ⟨FltC_tr f26 b2.1, b2.2⟩
    | inr q =>
      rw [e3] at b2
      obtain ⟨c1, c2, c3, c4⟩ := b2
      have w26 : CW 10 V N f (wI m 26 0 y.1) := CW_k hC.1 (fun o h1 h2 => by rw [wI_n _ _ _ _ (by omega)])
      have ws := CW_s w26 (i := k - 3) (by omega) (by omega) y.1
      rw [show 37 + (k - 3) = 34 + k by omega] at ws
      obtain ⟨o1, o2⟩ := tl_or c hC.2.2.2.1 k k8 k5 ht
      refine ⟨_, _, by rw [c1, ← c2], FrC_w (FrC_w f26 (by omega)) (by omega), ?_, ⟨CW_k ws (fun o h1 h2 => by rw [wI_n _ _ _ _ (by omega)]), ?_, ?_, o2, ?_⟩, ?_, ?_⟩
      · rw [wI_j _ _ _ _ _ (by omega), wI_o _ _ _ _ _ (by omega), wI_o _ _ _ _ _ (by omega)]
      · intro b hb
        show upd f (34 + k) y.1 (8 + 5 * b + 4) = 0
        rw [upd_n _ _ (by omega)]
        exact hC.2.1 b hb
      · rw [wI_s]
        exact o1
      · show _ = upd f (34 + k) y.1 43
        rw [wI_o _ _ _ _ _ (by omega), wI_j _ _ _ _ _ (by omega), wI_o _ _ _ _ _ (by omega), upd_n _ _ (by omega)]
        exact hC.2.2.2.2
      · show p0 + 2 ≤ q; omega
      · exact c4
end Tl
end
section
/-! takeLine and tell, whole -/
theorem nr_V {V N : Nat} (h : noRoom 0 V N = false) : V < 4 := by
  apply Nat.lt_of_not_le
  intro z
  have q : Nat.ble 4 V = true := by rw [Nat.ble_eq]; exact z
  unfold noRoom at h
  rw [q] at h
  cases h
theorem nr_N {k V N : Nat} (h1 : 1 ≤ k) (h4 : k ≤ 4) (h : noRoom k V N = false) : N < 6 := by
  apply Nat.lt_of_not_le
  intro z
  have q : Nat.ble 6 N = true := by rw [Nat.ble_eq]; exact z
  have q1 : Nat.ble 1 k = true := by rw [Nat.ble_eq]; exact h1
  have q4 : Nat.ble k 4 = true := by rw [Nat.ble_eq]; exact h4
  unfold noRoom at h
  rw [q, q1, q4, Bool.and_self, Bool.and_self, Bool.or_true] at h
  cases h
section Tw
variable {B : Nat → Int32} {n : Nat} (wS : List Value → Mm → Option Rs) (d : Nat) {m : Mm}
theorem tm_23 (m : Mm) (s e : Nat) : (tm m s e).1 23 = m.1 23 := tm_at m s e (by omega)
theorem t_lineX (hX : WX wS) (hB : Tp B n) (hm : TC B n m) {V N : Nat} {f : Nat → Int32} {c : Nat} (hC : CTx V N f c m) {p : Nat} (hp : p ≤ n) (h0 : (lx B p).1 ≠ 0) : ∃ M, semZ shP wS (d + 4) 13 [.ref 23, .int (nI (lx B p).1), .ref 10] (tm m (lx B p).2.1 (lx B p).2.2) = some (none, M) ∧ LnC B n p m M (line B p V N f c) := by
  have e10 : ¬ (1 : Int32) = 0 := by decide
  have hb := lx_b hB hp
  have hlt := hb.2.2.2.2.2 h0
  rw [se_X4_takeLine, r_X4_takeLine_0]
  unfold line
  by_cases h1 : (lx B p).1 = 1
  · rw [if_pos h1]
    have ey : semZ shP wS (d + 3) 19 [.ref 23, .int (nI 1), .int 1] (tm m (lx B p).2.1 (lx B p).2.2) = _ := t_exY wS (d + 2) 1 (tm m (lx B p).2.1 (lx B p).2.2)
    have lo := t_lineOf wS (d + 1) hX hB hm hb.2.1 hb.2.2.1
    have hl := lnX_le B (lx B p).2.1 (lx B p).2.2
    have e23 : ∀ m : Mm, gfI shP 404 23 (tm m (lx B p).2.1 (lx B p).2.2) = some (.int (m.1 23 4)) := fun m => by rw [(F404 _).1, tm_23]
    rw [h1]
    generalize lnX B (lx B p).2.1 (lx B p).2.2 = k at lo hl
    by_cases h8 : k = 8
    · rw [if_pos h8]
      subst h8
      have el : lnI 8 = -4 := rfl
      rw [el] at lo
      refine ⟨tm (wI (wI m 23 1 2) 23 2 (nI (lx B p).2.1)) (lx B p).2.1 (lx B p).2.2, ?_, FltC_of (x := (2, (lx B p).2.1)) FrC_rf _ _, (by decide : ¬ (2 : Int32) = 0)⟩
      simp only [EV, LV, CB, OI, OL, NP, CZ, popN, CT, OZ, List.map_nil, List.map_cons, List.sum_nil, List.sum_cons, Option.toList, List.nil_append, List.cons_append, Int.reduceToNat, Nat.reduceAdd, Nat.reduceLT, Nat.reduceLeDiff, List.length_cons, List.length_nil, Nat.zero_add, if_true, if_false, reduceIte, and_self, and_true, true_and, eq_self, reduceCtorEq, C23, G23, ey, e10, not_false_eq_true, not_true_eq_false, r_X4_takeLine_10, lo, F24i, t_refuse wS (d + 2), tm_o _ _ _ _ _ (show (23 : Nat) ≠ 24 by omega), r_X4_takeLine_116]
    · rw [if_neg h8]
      have k8 : k < 8 := by omega
      have el : lnI k = nI k := by
        unfold lnI
        rw [if_neg h8]
      have n4 : ¬ nI k = -4 := fun z => by
        have := nI_pos' (n := k) (by omega)
        rw [z] at this
        exact absurd this (by decide)
      rw [el] at lo
      obtain ⟨t1, t2⟩ := tl_is c hC.2.2.2.1 k k8
      cases ht : toldX c k with
      | true =>
        have t1 := t1.mpr ht
        refine ⟨tm (wI (wI m 23 1 4) 23 2 (nI (lx B p).2.1)) (lx B p).2.1 (lx B p).2.2, ?_, FltC_of (x := (4, (lx B p).2.1)) FrC_rf _ _, (by decide : ¬ (4 : Int32) = 0)⟩
        simp only [EV, LV, CB, OI, OL, NP, CZ, popN, CT, OZ, List.map_nil, List.map_cons, List.sum_nil, List.sum_cons, Option.toList, List.nil_append, List.cons_append, Int.reduceToNat, Nat.reduceAdd, Nat.reduceLT, Nat.reduceLeDiff, List.length_cons, List.length_nil, Nat.zero_add, if_true, if_false, reduceIte, and_self, and_true, true_and, eq_self, reduceCtorEq, C23, G23, ey, e10, not_false_eq_true, not_true_eq_false, r_X4_takeLine_10, lo, n4, r_X4_takeLine_36, e23, hC.2.2.1, t1, F24i, t_refuse wS (d + 2), tm_o _ _ _ _ _ (show (23 : Nat) ≠ 24 by omega), r_X4_takeLine_116]
      | false =>
        have t2 := t2.mpr ht
        have e01 : ¬ (0 : Int32) = 1 := by decide
        have rm := t_roomX wS (d + 2) k8 hC.1.1 hC.1.2.1 (tm m (lx B p).2.1 (lx B p).2.2) (by rw [tm_at _ _ _ (by omega)]; exact hC.1.2.2.1) (by rw [tm_at _ _ _ (by omega)]; exact hC.1.2.2.2.1)
        cases hr : noRoom k V N with
        | true =>
          rw [hr] at rm
          refine ⟨tm (wI (wI m 23 1 5) 23 2 (nI (lx B p).2.1)) (lx B p).2.1 (lx B p).2.2, ?_, FltC_of (x := (5, (lx B p).2.1)) FrC_rf _ _, (by decide : ¬ (5 : Int32) = 0)⟩
          simp only [EV, LV, CB, OI, OL, NP, CZ, popN, CT, OZ, List.map_nil, List.map_cons, List.sum_nil, List.sum_cons, Option.toList, List.nil_append, List.cons_append, Int.reduceToNat, Nat.reduceAdd, Nat.reduceLT, Nat.reduceLeDiff, List.length_cons, List.length_nil, Nat.zero_add, if_true, if_false, reduceIte, and_self, and_true, true_and, eq_self, reduceCtorEq, C23, G23, ey, e10, e01, not_false_eq_true, not_true_eq_false, r_X4_takeLine_10, lo, n4, r_X4_takeLine_36, e23, hC.2.2.1, t2, r_X4_takeLine_63, rm, bI_t, F24i, t_refuse wS (d + 2), tm_o _ _ _ _ _ (show (23 : Nat) ≠ 24 by omega), r_X4_takeLine_116]
        | false =>
          rw [hr] at rm
          rw [if_neg (by decide), if_neg (by decide)]
          have st : rn shP tb0 mN mO (semZ shP wS (d + 3)) none (codeZ 13) 0 [.ref 23, .int (nI 1), .ref 10, noV] [] (tm m (lx B p).2.1 (lx B p).2.2) = rn shP tb0 mN mO (semZ shP wS (d + 3)) none (codeZ 13) 87 [.ref 23, .int (nI 1), .ref 10, .int (nI k)] [] (tm m (lx B p).2.1 (lx B p).2.2) := by
            rw [r_X4_takeLine_0]
            simp only [EV, LV, CB, OI, OL, NP, CZ, popN, CT, OZ, List.map_nil, List.map_cons, List.sum_nil, List.sum_cons, Option.toList, List.nil_append, List.cons_append, Int.reduceToNat, Nat.reduceAdd, Nat.reduceLT, Nat.reduceLeDiff, List.length_cons, List.length_nil, Nat.zero_add, if_true, if_false, reduceIte, and_self, and_true, true_and, eq_self, reduceCtorEq, C23, G23, ey, e10, e01, not_false_eq_true, not_true_eq_false, r_X4_takeLine_10, lo, n4, r_X4_takeLine_36, e23, hC.2.2.1, t2, r_X4_takeLine_63, rm, bI_f]
          rw [r_X4_takeLine_0] at st
          rw [st]
          have hs : p ≤ (lx B p).2.1 := hb.1
          match k, k8 with
          | 0, _ =>
            have hV : V < 4 := nr_V hr
            exact liV_c wS d hB hm hC hV (lx B p).2.1 (by omega) hb.2.2.1 (nI 1)
          | 1, _ =>
            have hN : N < 6 := nr_N (by omega) (by omega) hr
            exact liB_c wS d hB hm hC hN (k := 1) (by omega) (by omega) (lx B p).2.1 (by omega) hb.2.2.1 (nI 1)
          | 2, _ =>
            have hN : N < 6 := nr_N (by omega) (by omega) hr
            exact liB_c wS d hB hm hC hN (k := 2) (by omega) (by omega) (lx B p).2.1 (by omega) hb.2.2.1 (nI 1)
          | 3, _ =>
            have hN : N < 6 := nr_N (by omega) (by omega) hr
            exact liB_c wS d hB hm hC hN (k := 3) (by omega) (by omega) (lx B p).2.1 (by omega) hb.2.2.1 (nI 1)
          | 4, _ =>
            have hN : N < 6 := nr_N (by omega) (by omega) hr
            exact liB_c wS d hB hm hC hN (k := 4) (by omega) (by omega) (lx B p).2.1 (by omega) hb.2.2.1 (nI 1)
          | 5, _ => exact liS_c wS d hB hm hC (k := 5) (by omega) (by omega) ht (lx B p).2.1 (by omega) hb.2.2.1 (nI 1)
          | 6, _ => exact liS_c wS d hB hm hC (k := 6) (by omega) (by omega) ht (lx B p).2.1 (by omega) hb.2.2.1 (nI 1)
          | 7, _ => exact liS_c wS d hB hm hC (k := 7) (by omega) (by omega) ht (lx B p).2.1 (by omega) hb.2.2.1 (nI 1)
  · rw [if_neg h1]
    have ex : semZ shP wS (d + 3) 19 [.ref 23, .int (nI (lx B p).1), .int 1] (tm m (lx B p).2.1 (lx B p).2.2) = _ := t_exN wS (d + 1) hB hp (b := 1) (by omega) h1 m
    refine ⟨tm (wI (wI m 23 1 (bad (lx B p).1)) 23 2 (nI (lx B p).2.1)) (lx B p).2.1 (lx B p).2.2, ?_, FltC_of (x := (bad (lx B p).1, (lx B p).2.1)) FrC_rf _ _, bad_n _⟩
    simp only [EV, LV, CB, OI, OL, NP, CZ, popN, CT, OZ, List.map_nil, List.map_cons, List.sum_nil, List.sum_cons, Option.toList, List.nil_append, List.cons_append, Int.reduceToNat, Nat.reduceAdd, Nat.reduceLT, Nat.reduceLeDiff, List.length_cons, List.length_nil, Nat.zero_add, if_true, if_false, reduceIte, and_self, and_true, true_and, eq_self, reduceCtorEq, C23, ex, not_true_eq_false]
/-! the places of all bodies -/
theorem ck_l (hm : TC B n m) {V N : Nat} (hV : V ≤ 4) (hN : N ≤ 6) (s e : Nat) : ∀ (k b : Nat), b + k = N → ∀ m : Mm, m.1 24 0 = nI n → m.1 10 0 = nI V → m.1 10 1 = nI N → ∃ M, rn shP tb0 mN mO (semZ shP wS (d + 1)) none (codeZ 18) 2 [.ref 23, .ref 10, .int (nI b)] [] (tm m s e) = some (none, tm M s e) ∧ FrC m M ∧ M.1 10 = m.1 10 ∧ M.1 15 = m.1 15 ∧ (∀ o, 10 ≤ o → o ≤ 18 → M.1 o = m.1 o) ∧ ((∀ q, b ≤ q → q < N → 0 ≤ m.1 15 q ∧ m.1 15 q < nI V) → M = m) ∧ (((∃ q, b ≤ q ∧ q < N ∧ ¬ (0 ≤ m.1 15 q ∧ m.1 15 q < nI V)) ∨ (m.1 23 1 = 6 ∧ m.1 23 2 = nI n)) → M.1 23 1 = 6 ∧ M.1 23 2 = nI n) := by
  have e10 : ¬ (1 : Int32) = 0 := by decide
  intro k
  induction k with
  | zero =>
    intro b hb m h24 h0 h1
    have e0 : b = N := by omega
    subst e0
    have q : nI b ≤ nI b := Int32.le_refl _
    have h1' : (tm m s e).1 10 1 = nI b := by rw [tm_at _ _ _ (by omega)]; exact h1
    refine ⟨m, ?_, FrC_rf, rfl, rfl, fun _ _ _ => rfl, fun _ => rfl, fun z => z.elim (fun ⟨q, q1, q2, _⟩ => by omega) (fun y => y)⟩
    rw [r_X4_checkPlaces_2]
    simp only [EV, LV, CB, OI, OL, NP, CZ, popN, CT, OZ, List.map_nil, List.map_cons, List.sum_nil, List.sum_cons, Option.toList, List.nil_append, List.cons_append, Int.reduceToNat, Nat.reduceAdd, Nat.reduceLT, Nat.reduceLeDiff, List.length_cons, List.length_nil, Nat.zero_add, if_true, if_false, reduceIte, and_self, and_true, true_and, eq_self, reduceCtorEq, gW WP10, h1', q, r_X4_checkPlaces_42]
  | succ k ih =>
    intro b hb m h24 h0 h1
    have q : ¬ nI N ≤ nI b := nI_ge (by omega) (by omega)
    have e2 : inR (nI b) 6 = true := inR_nI (by omega) (by omega)
    have e3 : (nI b).toNatClampNeg = b := nI_clamp (by omega)
    have h1' : (tm m s e).1 10 1 = nI N := by rw [tm_at _ _ _ (by omega)]; exact h1
    have h0' : (tm m s e).1 10 0 = nI V := by rw [tm_at _ _ _ (by omega)]; exact h0
    have h15 : (tm m s e).1 15 = m.1 15 := tm_at _ _ _ (by omega)
    have hv := t_hasVillage wS d WP10 (m.1 15 b) (tm m s e)
    rw [h0'] at hv
    by_cases c : 0 ≤ m.1 15 b ∧ m.1 15 b < nI V
    · have cd : (decide (0 ≤ m.1 15 b) && decide (m.1 15 b < nI V)) = true := by simp only [c.1, c.2, decide_true, Bool.and_self]
      rw [cd] at hv
      obtain ⟨M, a1, a2, a3, a4, a4b, a5, a6⟩ := ih (b + 1) (by omega) m h24 h0 h1
      refine ⟨M, ?_, a2, a3, a4, a4b, fun z => a5 (fun q q1 q2 => z q (by omega) q2), fun z => a6 (z.elim (fun ⟨q, q1, q2, q3⟩ => Or.inl ⟨q, ?_, q2, q3⟩) Or.inr)⟩
      · rw [r_X4_checkPlaces_2]
        simp only [EV, LV, CB, OI, OL, NP, CZ, popN, CT, OZ, List.map_nil, List.map_cons, List.sum_nil, List.sum_cons, Option.toList, List.nil_append, List.cons_append, Int.reduceToNat, Nat.reduceAdd, Nat.reduceLT, Nat.reduceLeDiff, List.length_cons, List.length_nil, Nat.zero_add, if_true, if_false, reduceIte, and_self, and_true, true_and, eq_self, reduceCtorEq, gW WP10, aW WP10, h1', h15, q, e2, e3, C10, hv, bI_t, e10, not_false_eq_true, r_X4_checkPlaces_36, nI_1]
        exact a1
      · apply Nat.lt_of_not_le
        intro y
        have : q = b := by omega
        subst this
        exact q3 c
    · have cd : (decide (0 ≤ m.1 15 b) && decide (m.1 15 b < nI V)) = false := by
        cases z : (decide (0 ≤ m.1 15 b) && decide (m.1 15 b < nI V)) with
        | false => rfl
        | true =>
          simp only [Bool.and_eq_true, decide_eq_true_eq] at z
          exact absurd z c
      rw [cd] at hv
      have w : ∀ o, o ≠ 23 → (wI (wI m 23 1 6) 23 2 (nI n)).1 o = m.1 o := fun o ho => by rw [wI_n _ _ _ _ ho, wI_n _ _ _ _ ho]
      obtain ⟨M, a1, a2, a3, a4, a4b, a5, a6⟩ := ih (b + 1) (by omega) (wI (wI m 23 1 6) 23 2 (nI n)) (by rw [w 24 (by omega)]; exact h24) (by rw [w 10 (by omega)]; exact h0) (by rw [w 10 (by omega)]; exact h1)
      have fin := a6 (Or.inr ⟨by rw [wI_j _ _ _ _ _ (by omega), wI_s], wI_s _ _ _ _⟩)
      refine ⟨M, ?_, fun o o1 o2 o3 => (a2 o o1 o2 o3).trans (w o o2), a3.trans (w 10 (by omega)), a4.trans (w 15 (by omega)), fun o o1 o2 => (a4b o o1 o2).trans (w o (by omega)), fun z => absurd (z b (Nat.le_refl _) (by omega)) c, fun _ => fin⟩
      rw [r_X4_checkPlaces_2]
      simp only [EV, LV, CB, OI, OL, NP, CZ, popN, CT, OZ, List.map_nil, List.map_cons, List.sum_nil, List.sum_cons, Option.toList, List.nil_append, List.cons_append, Int.reduceToNat, Nat.reduceAdd, Nat.reduceLT, Nat.reduceLeDiff, List.length_cons, List.length_nil, Nat.zero_add, if_true, if_false, reduceIte, and_self, and_true, true_and, eq_self, reduceCtorEq, gW WP10, aW WP10, h1', h15, q, e2, e3, C10, C23, G23, hv, bI_f, not_true_eq_false, F24i, h24, t_refuse wS d, tm_o _ _ _ _ _ (show (23 : Nat) ≠ 24 by omega), nI_1]
      exact a1
theorem t_check (hm : TC B n m) {V N : Nat} {f : Nat → Int32} (hC : CW 10 V N f m) (hnn : ∀ b, b < N → 0 ≤ m.1 15 b) (s e : Nat) : ∃ M, semZ shP wS (d + 2) 18 [.ref 23, .ref 10] (tm m s e) = some (none, tm M s e) ∧ FrC m M ∧ (if (List.range N).all (fun b => decide (f (8 + 5 * b + 1) < nI V)) = true then M = m else M.1 23 1 = 6 ∧ M.1 23 2 = nI n) := by
  obtain ⟨M, a1, a2, a3, a4, -, a5, a6⟩ := ck_l wS d hm hC.1 hC.2.1 s e N 0 (by omega) m hm.1 hC.2.2.1 hC.2.2.2.1
  refine ⟨M, ?_, a2, ?_⟩
  · rw [se_X4_checkPlaces, r_X4_checkPlaces_0]
    simp only [EV, LV, CB, OI, OL, NP, CZ, popN, CT, OZ, List.map_nil, List.map_cons, List.sum_nil, List.sum_cons, Option.toList, List.nil_append, List.cons_append, Int.reduceToNat, Nat.reduceAdd, Nat.reduceLT, Nat.reduceLeDiff, List.length_cons, List.length_nil, Nat.zero_add, if_true, if_false, reduceIte, and_self, and_true, true_and, eq_self, reduceCtorEq]
    exact a1
  · have eq : ∀ b, b < N → m.1 15 b = f (8 + 5 * b + 1) := fun b hb => (hC.2.2.2.2.2.2.2.2.2.2 b hb).2.1
    by_cases h : (List.range N).all (fun b => decide (f (8 + 5 * b + 1) < nI V)) = true
    · rw [if_pos h]
      refine a5 (fun q _ q2 => ⟨hnn q q2, ?_⟩)
      rw [eq q q2]
      exact of_decide_eq_true (List.all_eq_true.mp h q (List.mem_range.mpr q2))
    · rw [if_neg h]
      refine a6 (Or.inl ?_)
      have h' : ¬ ∀ q ∈ List.range N, decide (f (8 + 5 * q + 1) < nI V) = true := fun z => h (List.all_eq_true.mpr z)
      have ⟨q, hq⟩ := Classical.not_forall.mp h'
      have ⟨hq1, hq2⟩ := Classical.not_imp.mp hq
      have q2 := List.mem_range.mp hq1
      refine ⟨q, Nat.zero_le _, q2, fun z => hq2 ?_⟩
      rw [← eq q q2]
      exact decide_eq_true z.2
end Tw
end
section
/-! tell and text of the class -/
/-- the villages of all bodies are 0 or more -/
def AT0 (f : Nat → Int32) (N : Nat) : Prop := ∀ b, b < N → 0 ≤ f (8 + 5 * b + 1)
theorem num1_v {B : Nat → Int32} {n : Nat} {hi : Int32} {z : Bool} {p : Nat} (hB : Tp B n) (hp : p ≤ n) {y : Int32 × Nat} (h : num1 B hi z p = .inr y) : 0 ≤ y.1 := by
  unfold num1 at h
  split at h
  · rename_i q
    split at h
    · cases h
    · cases h
      obtain ⟨n1, n2, n3⟩ := lx_2 hB hp q
      have := vq_nn n1 n2 n3
      rw [Int32.le_iff_toInt_le, show (0 : Int32).toInt = 0 from by decide]
      exact this.1
  · cases h
theorem AT0_u {f : Nat → Int32} {N : Nat} (h : AT0 f N) {j : Nat} (x : Int32) (hj : j < 8 ∨ 38 ≤ j) (hN : N ≤ 6) : AT0 (upd f j x) N := fun b hb => by
  rw [upd_n _ _ (by omega)]
  exact h b hb
theorem line_at {B : Nat → Int32} {n p V N : Nat} {f : Nat → Int32} {c : Nat} (hB : Tp B n) (hp : p ≤ n) (hV : V ≤ 4) (hN : N ≤ 6) (h : AT0 f N) {y : Lin} (e : line B p V N f c = .inr y) : AT0 y.2.2.2.1 y.2.2.1 := by
  have hb := lx_b hB hp
  have lv : ∀ y : Lin, V < 4 → liV B (lx B p).2.2 V N f c = .inr y → AT0 y.2.2.2.1 y.2.2.1 := by
    intro y hV e
    unfold liV at e
    split at e
    · cases e
    · split at e
      · cases e
      · split at e
        · cases e
        · cases e
          exact AT0_u (AT0_u h _ (by omega) hN) _ (by omega) hN
  have lb : ∀ (k : Int32) (y : Lin), N < 6 → liB B k (lx B p).2.2 V N f c = .inr y → AT0 y.2.2.2.1 y.2.2.1 := by
    intro k y hN6 e
    unfold liB at e
    split at e
    · cases e
    · rename_i a p1 e1
      have v1 := num1_v hB hb.2.2.1 e1
      split at e
      · cases e
      · split at e
        · cases e
        · split at e
          · cases e
          · cases e
            intro b hb2
            show 0 ≤ bdF f N k a _ _ (8 + 5 * b + 1)
            have hb2 : b < N + 1 := hb2
            unfold bdF
            by_cases q : b = N
            · subst q
              rw [upd_n _ _ (by omega), upd_n _ _ (by omega), upd_n _ _ (by omega), upd_s]
              exact v1
            · rw [upd_n _ _ (by omega), upd_n _ _ (by omega), upd_n _ _ (by omega), upd_n _ _ (by omega), upd_n _ _ (by omega)]
              exact h b (by omega)
  have ls : ∀ (cell : Nat) (hi : Int32) (z : Bool) (bit : Nat) (y : Lin), 38 ≤ cell → liS B cell hi z bit (lx B p).2.2 V N f c = .inr y → AT0 y.2.2.2.1 y.2.2.1 := by
    intro cell hi z bit y hc e
    unfold liS at e
    split at e
    · cases e
    · split at e
      · cases e
      · cases e
        exact AT0_u h _ (by omega) hN
  unfold line at e
  split at e
  · split at e
    · cases e
    · split at e
      · cases e
      · split at e
        · cases e
        · rename_i hr
          generalize lnX B (lx B p).2.1 (lx B p).2.2 = k at e hr
          have hr : noRoom k V N = false := by simpa using hr
          unfold liK at e
          split at e
          · exact lv y (nr_V hr) e
          · exact lb _ y (nr_N (by omega) (by omega) hr) e
          · exact lb _ y (nr_N (by omega) (by omega) hr) e
          · exact lb _ y (nr_N (by omega) (by omega) hr) e
          · exact lb _ y (nr_N (by omega) (by omega) hr) e
          · exact ls _ _ _ _ y (by omega) e
          · exact ls _ _ _ _ y (by omega) e
          · exact ls _ _ _ _ y (by omega) e
  · cases e
section Te
variable {B : Nat → Int32} {n : Nat} (wS : List Value → Mm → Option Rs) (d : Nat)
/-- what tell comes to -/
def PrC (m M : Mm) (v : Int32) (r : Flt ⊕ (Nat × Nat × Nat × (Nat → Int32))) : Prop := match r with
  | .inl x => FltC m M x ∧ ¬ x.1 = 0
  | .inr y => v = nI y.1 ∧ ∃ (m' : Mm) (s' e' : Nat), M = tm m' s' e' ∧ FrC m m' ∧ m'.1 23 1 = 0 ∧ CW 10 y.2.1 y.2.2.1 y.2.2.2 m' ∧ m'.1 10 6 = y.2.2.2 43
theorem PrC_tr {m m1 M : Mm} {v : Int32} {r : Flt ⊕ (Nat × Nat × Nat × (Nat → Int32))} (h : FrC m m1) (h2 : PrC m1 M v r) : PrC m M v r := by
  unfold PrC at h2 ⊢
  split at h2
  · exact ⟨FltC_tr h h2.1, h2.2⟩
  · obtain ⟨a1, m', s', e', a2, a3, a4, a5⟩ := h2
    exact ⟨a1, m', s', e', a2, fun o o1 o2 o3 => (a3 o o1 o2 o3).trans (h o o1 o2 o3), a4, a5⟩
theorem tell_l (hX : WX wS) (hB : Tp B n) : ∀ (q p L V N : Nat) (f : Nat → Int32) (c : Nat) (m : Mm) (s0 : Nat) (v3 : Value), L + q = 160 → 2 * L ≤ p → p ≤ n → TC B n m → CTx V N f c m → AT0 f N → m.1 23 1 = 0 → ∃ v M, rn shP tb0 mN mO (semZ shP wS (d + 4)) (some .int) (codeZ 12) 24 [.ref 23, .ref 10, .int (nI L), v3] [] (tm m s0 p) = some (some (.int v), M) ∧ PrC m M v (prs B q p L V N f c) := by
  have h160 := hB.1
  intro q
  induction q with
  | zero => intro p L V N f c m s0 v3 h1 h2 h3; omega
  | succ q ih =>
    intro p L V N f c m s0 v3 h1 h2 hp hm hC hA hf
    have hb := lx_b hB hp
    have q1 : ¬ (160 : Int32) ≤ nI L := nI_ge (b := 160) (by omega) (by omega)
    have tk := t_takeX wS (d + 2) hB hm s0 hp
    unfold prs
    by_cases h0 : (lx B p).1 = 0
    · rw [if_pos h0]
      rw [h0] at tk
      have z0 : nI 0 = 0 := nI_0
      rw [z0] at tk
      have en := (hb.2.2.2.2.1 h0).1
      obtain ⟨M, a1, a2, a3⟩ := t_check wS (d + 2) hm hC.1 (fun b hb => by rw [(hC.1.2.2.2.2.2.2.2.2.2.2 b hb).2.1]; exact hA b hb) (lx B p).2.1 (lx B p).2.2
      refine ⟨nI L, tm M (lx B p).2.1 (lx B p).2.2, ?_, ?_⟩
      · rw [r_X4_tell_24]
        simp only [EV, LV, CB, OI, OL, NP, CZ, popN, CT, OZ, List.map_nil, List.map_cons, List.sum_nil, List.sum_cons, Option.toList, List.nil_append, List.cons_append, Int.reduceToNat, Nat.reduceAdd, Nat.reduceLT, Nat.reduceLeDiff, List.length_cons, List.length_nil, Nat.zero_add, if_true, if_false, reduceIte, and_self, and_true, true_and, eq_self, reduceCtorEq, q1, G23, C24, C23, tk, not_true_eq_false, a1]
      · split
        · rename_i h
          rw [if_pos h] at a3
          subst a3
          exact ⟨rfl, _, _, _, rfl, a2, hf, hC.1, hC.2.2.2.2⟩
        · rename_i h
          rw [if_neg h] at a3
          refine ⟨⟨M, _, _, rfl, a2, a3.1, ?_⟩, (by decide : ¬ (6 : Int32) = 0)⟩
          show M.1 23 2 = nI (lx B p).2.1
          rw [en]
          exact a3.2
    · rw [if_neg h0]
      have n0 : ¬ nI (lx B p).1 = 0 := nI_ne0 (by omega) (by omega)
      obtain ⟨M, a1, a2⟩ := t_lineX wS d hX hB hm hC hp h0
      have st : rn shP tb0 mN mO (semZ shP wS (d + 4)) (some .int) (codeZ 12) 24 [.ref 23, .ref 10, .int (nI L), v3] [] (tm m s0 p) = (if M.1 23 1 = 0 then rn shP tb0 mN mO (semZ shP wS (d + 4)) (some .int) (codeZ 12) 65 [.ref 23, .ref 10, .int (nI L), .int (nI (lx B p).1)] [] M else some (some (.int 0), M)) := by
        rw [r_X4_tell_24]
        simp only [EV, LV, CB, OI, OL, NP, CZ, popN, CT, OZ, List.map_nil, List.map_cons, List.sum_nil, List.sum_cons, Option.toList, List.nil_append, List.cons_append, Int.reduceToNat, Nat.reduceAdd, Nat.reduceLT, Nat.reduceLeDiff, List.length_cons, List.length_nil, Nat.zero_add, if_true, if_false, reduceIte, and_self, and_true, true_and, eq_self, reduceCtorEq, q1, G23, C24, C23, tk, n0, not_false_eq_true, r_X4_tell_50, a1, F404]
      rw [st]
      cases e : line B p V N f c with
      | inl x =>
        rw [e] at a2
        obtain ⟨⟨m', s', e', rfl, b2, b3, b4⟩, b5⟩ := a2
        rw [if_neg (by rw [tm_23, b3]; exact b5)]
        exact ⟨0, _, rfl, ⟨m', s', e', rfl, b2, b3, b4⟩, b5⟩
      | inr y =>
        rw [e] at a2
        obtain ⟨m', s', rfl, b2, b3, b4, b5, b6⟩ := a2
        have hat := line_at hB hp hC.1.1 hC.1.2.1 hA e
        obtain ⟨v, M, c1, c2⟩ := ih y.1 (L + 1) y.2.1 y.2.2.1 y.2.2.2.1 y.2.2.2.2 m' s' (.int (nI (lx B p).1)) (by omega) (by omega) b6 (TC_fr hm b2) b4 hat (by rw [b3]; exact hf)
        rw [if_pos (by rw [tm_23, b3]; exact hf)]
        refine ⟨v, M, ?_, PrC_tr b2 c2⟩
        rw [r_X4_tell_65]
        simp only [EV, LV, CB, OI, OL, NP, CZ, popN, CT, OZ, List.map_nil, List.map_cons, List.sum_nil, List.sum_cons, Option.toList, List.nil_append, List.cons_append, Int.reduceToNat, Nat.reduceAdd, Nat.reduceLT, Nat.reduceLeDiff, List.length_cons, List.length_nil, Nat.zero_add, if_true, if_false, reduceIte, and_self, and_true, true_and, eq_self, reduceCtorEq, nI_1]
        exact c1
/-- how a text begins -/
def Fst (f : Nat → Int32) : Prop := f 38 = 0 ∧ f 39 = 5 ∧ f 40 = 46 ∧ f 41 = 5 ∧ f 42 = 0 ∧ Z0 f ∧ f 43 = 0
theorem t_tell (hX : WX wS) (hB : Tp B n) {m : Mm} (hm : TC B n m) {s0 : Nat} (hs : m.1 24 1 = nI s0) {f : Nat → Int32} (hf : Fst f) : ∃ v M, semZ shP wS (d + 5) 12 [.ref 23, .ref 10] m = some (some (.int v), M) ∧ PrC (setR m 13 (fillR nI (m.1 13) 4)) M v (prs B 160 0 0 0 0 f 0) := by
  have g2 : ∀ (m : Mm) (x : Int32), pfI shP 302 24 (.int x) m = some (wI m 24 2 x) := fun _ _ => rfl
  obtain ⟨m1, e1⟩ : ∃ M, M = wI (wI (wI m 24 2 0) 23 1 0) 23 4 0 := ⟨_, rfl⟩
  have cl := t_clear wS (d + 2) WP10 m1
  obtain ⟨m2, e2⟩ : ∃ M, M = setR (setR m1 10 (newF (m1.1 10))) 13 (fillR nI (m1.1 13) 4) := ⟨_, rfl⟩
  have cl : semZ shP wS (d + 4) 23 [.ref 10] m1 = some (none, m2) := by
    rw [e2]
    exact cl
  have o1 : ∀ o, o ≠ 24 → o ≠ 23 → m1.1 o = m.1 o := fun o h1 h2 => by
    rw [e1, wI_n _ _ _ _ h2, wI_n _ _ _ _ h2, wI_n _ _ _ _ h1]
  have o2 : ∀ o, o ≠ 10 → o ≠ 13 → m2.1 o = m1.1 o := fun o h1 h2 => by
    rw [e2, setR_n _ _ h2, setR_n _ _ h1]
  have t24 : m2.1 24 = (wI m 24 2 0).1 24 := by
    rw [o2 24 (by omega) (by omega), e1, wI_n _ _ _ _ (by omega), wI_n _ _ _ _ (by omega)]
  have k1 : m2.1 24 1 = nI s0 := by rw [t24, wI_j _ _ _ _ _ (by omega)]; exact hs
  have k2 : m2.1 24 2 = nI 0 := by rw [t24, wI_s]; rfl
  have k0 : m2.1 24 0 = nI n := by rw [t24, wI_j _ _ _ _ _ (by omega)]; exact hm.1
  have hm2 : TC B n m2 := ⟨k0, fun j hj => by rw [o2 25 (by omega) (by omega), o1 25 (by omega) (by omega)]; exact hm.2 j hj⟩
  have ti := tm_id m2 k1 k2
  have w10 : m2.1 10 = newF (m1.1 10) := by rw [e2, setR_n _ _ (by omega), setR_s]
  have hC : CTx 0 0 f 0 m2 := by
    obtain ⟨f1, f2, f3, f4, f5, f6, f7⟩ := hf
    refine ⟨⟨by omega, by omega, by rw [w10]; rfl, by rw [w10]; rfl, f1, by rw [w10, f2]; rfl, by rw [w10, f3]; rfl, by rw [w10, f4]; rfl, by rw [w10, f5]; rfl, fun g hg => by omega, fun b hb => by omega⟩, f6, ?_, by omega, by rw [w10, f7]; rfl⟩
    rw [o2 23 (by omega) (by omega), e1, wI_s]
    rfl
  have h23 : m2.1 23 1 = 0 := by rw [o2 23 (by omega) (by omega), e1, wI_j _ _ _ _ _ (by omega), wI_s]
  obtain ⟨v, M, a1, a2⟩ := tell_l wS d hX hB 160 0 0 0 0 f 0 m2 s0 noV (by omega) (by omega) (Nat.zero_le _) hm2 hC (fun b hb => by omega) h23
  rw [ti] at a1
  have fr : ∀ o, (o < 10 ∨ 18 < o) → o ≠ 23 → o ≠ 26 → o ≠ 24 → m2.1 o = m.1 o := fun o h1 h2 h3 h4 => by
    rw [o2 o (by omega) (by omega), o1 o h4 h2]
  have z0 : (0 : Int32) = nI 0 := nI_0.symm
  refine ⟨v, M, ?_, ?_⟩
  · rw [se_X4_tell, r_X4_tell_0]
    simp only [EV, LV, CB, OI, OL, NP, CZ, popN, CT, OZ, List.map_nil, List.map_cons, List.sum_nil, List.sum_cons, Option.toList, List.nil_append, List.cons_append, Int.reduceToNat, Nat.reduceAdd, Nat.reduceLT, Nat.reduceLeDiff, List.length_cons, List.length_nil, Nat.zero_add, if_true, if_false, reduceIte, and_self, and_true, true_and, eq_self, reduceCtorEq, G23, F404, g2, ← e1, C10, cl]
    exact a1
  · unfold PrC at a2 ⊢
    have up : ∀ (m' : Mm), FrC m2 m' → ∀ s' e' : Nat, ∃ m'' : Mm, tm m' s' e' = tm m'' s' e' ∧ FrC (setR m 13 (fillR nI (m.1 13) 4)) m'' ∧ (∀ o, o ≠ 24 → m''.1 o = m'.1 o) := by
      intro m' h s' e'
      refine ⟨setR m' 24 (m.1 24), ?_, fun o h1 h2 h3 => ?_, fun o ho => setR_n _ _ ho⟩
      · unfold tm
        rw [setR_R, setR_s]
        congr 1
        funext j
        have q := h 24 (by omega) (by omega) (by omega)
        unfold rw3
        split
        · rfl
        · split
          · rfl
          · rename_i j1 j2
            rw [q, t24, wI_j _ _ _ _ _ j2]
      · by_cases h4 : o = 24
        · subst h4
          rw [setR_s, setR_n _ _ (by omega)]
        · rw [setR_n _ _ h4, h o h1 h2 h3]
          by_cases h5 : o = 13
          · subst h5
            rw [setR_s, e2, setR_s, o1 13 (by omega) (by omega)]
          · rw [setR_n _ _ h5, fr o (by omega) h2 h3 h4]
    split at a2
    · obtain ⟨⟨m', s', e', rfl, b2, b3, b4⟩, b5⟩ := a2
      obtain ⟨m'', c1, c2, c3⟩ := up m' b2 s' e'
      exact ⟨⟨m'', s', e', c1, c2, by rw [c3 23 (by omega)]; exact b3, by rw [c3 23 (by omega)]; exact b4⟩, b5⟩
    · obtain ⟨b1, m', s', e', rfl, b2, b3, b4, b5⟩ := a2
      obtain ⟨m'', c1, c2, c3⟩ := up m' b2 s' e'
      exact ⟨b1, m'', s', e', c1, c2, by rw [c3 23 (by omega)]; exact b3, CW_k b4 (fun o h1 h2 => c3 o (by omega)), by rw [c3 10 (by omega)]; exact b5⟩
end Te
end
section
/-! text of the class -/
section Tx
variable {B : Nat → Int32} {n : Nat} (wS : List Value → Mm → Option Rs) (d : Nat)
theorem CW_b' {w v V N : Nat} {f : Nat → Int32} {m m' : Mm} (h : CW v V N f m) (h0 : ∀ j, j < 8 → m'.1 w j = m.1 v j) (h1 : ∀ j, j < 4 → m'.1 (w + 1) j = m.1 (v + 1) j) (h2 : ∀ j, j < 4 → m'.1 (w + 2) j = m.1 (v + 2) j) (h4 : ∀ j, j < 6 → m'.1 (w + 4) j = m.1 (v + 4) j) (h5 : ∀ j, j < 6 → m'.1 (w + 5) j = m.1 (v + 5) j) (h6 : ∀ j, j < 6 → m'.1 (w + 6) j = m.1 (v + 6) j) (h7 : ∀ j, j < 6 → m'.1 (w + 7) j = m.1 (v + 7) j) (h8 : ∀ j, j < 6 → m'.1 (w + 8) j = m.1 (v + 8) j) : CW w V N f m' := by
  obtain ⟨c1, c2, c3, c4, c5, c6, c7, c8, c9, hg, hb⟩ := h
  refine ⟨c1, c2, by rw [h0 0 (by omega)]; exact c3, by rw [h0 1 (by omega)]; exact c4, c5, by rw [h0 2 (by omega)]; exact c6, by rw [h0 3 (by omega)]; exact c7, by rw [h0 4 (by omega)]; exact c8, by rw [h0 5 (by omega)]; exact c9, fun g hg2 => ?_, fun q hq => ?_⟩
  · rw [h1 g (by omega), h2 g (by omega)]
    exact hg g hg2
  · rw [h4 q (by omega), h5 q (by omega), h6 q (by omega), h7 q (by omega), h8 q (by omega)]
    exact hb q hq
/-- what text of the class comes to -/
def TxC (m M : Mm) (a : Int32) (r : Flt ⊕ (Nat × Nat × Nat × (Nat → Int32))) : Prop := M.1 24 0 = 0 ∧ (match r with
  | .inl x => a = -10 - nI x.2 ∧ M.1 23 1 = x.1 ∧ ¬ x.1 = 0 ∧ ∀ o, (o < 10 ∨ 18 < o) → o ≠ 23 → o ≠ 24 → o ≠ 26 → M.1 o = m.1 o
  | .inr y => a = nI y.1 ∧ M.1 23 1 = 0 ∧ CW 1 y.2.1 y.2.2.1 y.2.2.2 M ∧ M.1 1 6 = y.2.2.2 43 ∧ (∀ j, j < 4 → M.1 4 j = nI j) ∧ M.1 19 0 = 0 ∧ M.1 32 0 = 0 ∧ M.1 46 0 = 0)
theorem t_text6 (hX : WX wS) (hB : Tp B n) {m : Mm} (hm : TC B n m) {s0 : Nat} (hs : m.1 24 1 = nI s0) {f : Nat → Int32} (hf : Fst f) : ∃ a M, semZ shP wS (d + 6) 45 [.ref 0] m = some (some (.int a), M) ∧ TxC m M a (prs B 160 0 0 0 0 f 0) := by
  have g3 : ∀ (m : Mm) (x : Int32), pfI shP 300 24 (.int x) m = some (wI m 24 0 x) := fun _ _ => rfl
  have g9 : ∀ (m : Mm) (x : Int32), pfI shP 200 19 (.int x) m = some (wI m 19 0 x) := fun _ _ => rfl
  have g32 : ∀ (m : Mm), pfI shP 0 32 (.int 0) m = some (wI m 32 0 0) := fun _ => rfl
  have g46 : ∀ (m : Mm), pfI shP 0 46 (.int 0) m = some (wI m 46 0 0) := fun _ => rfl
  have a27 : arI shP 27 0 = some 32 ∧ arI shP 27 (nI 1) = some 46 := by decide +kernel
  obtain ⟨v, M, a1, a2⟩ := t_tell wS d hX hB hm hs hf
  unfold TxC
  cases e : prs B 160 0 0 0 0 f 0 with
  | inl x =>
    rw [e] at a2
    obtain ⟨⟨m', s', e', rfl, b2, b3, b4⟩, b5⟩ := a2
    refine ⟨-10 - nI x.2, wI (tm m' s' e') 24 0 0, ?_, wI_s _ _ _ _, rfl, ?_, b5, fun o h1 h2 h3 h4 => ?_⟩
    · rw [se_X6_text, r_X6_text_0]
      have k1 : (wI (tm m' s' e') 24 0 0).1 23 1 = x.1 := by rw [wI_o _ _ _ _ _ (by omega), tm_23]; exact b3
      have k2 : (wI (tm m' s' e') 24 0 0).1 23 2 = nI x.2 := by rw [wI_o _ _ _ _ _ (by omega), tm_23]; exact b4
      simp only [EV, LV, CB, OI, OL, NP, CZ, popN, CT, OZ, List.map_nil, List.map_cons, List.sum_nil, List.sum_cons, Option.toList, List.nil_append, List.cons_append, Int.reduceToNat, Nat.reduceAdd, Nat.reduceLT, Nat.reduceLeDiff, List.length_cons, List.length_nil, Nat.zero_add, if_true, if_false, reduceIte, and_self, and_true, true_and, eq_self, reduceCtorEq, gP0, C23, a1, G23, g3, F404, k1, k2, b5]
    · rw [wI_o _ _ _ _ _ (by omega), tm_23]; exact b3
    · rw [wI_n _ _ _ _ h3, tm_at _ _ _ h3, b2 o (by omega) h2 h4, setR_n _ _ (by omega)]
  | inr y =>
    rw [e] at a2
    obtain ⟨rfl, m', s', e', rfl, b2, b3, b4, b5⟩ := a2
    obtain ⟨M1, e1⟩ : ∃ M, M = wI (tm m' s' e') 24 0 0 := ⟨_, rfl⟩
    have o1 : ∀ o, o ≠ 24 → M1.1 o = m'.1 o := fun o h => by rw [e1, wI_n _ _ _ _ h, tm_at _ _ _ h]
    obtain ⟨M2, c1, c2, c3, c4, c5, c6, c7, c8, c9, c10, c11⟩ := t_becomeW wS (d + 4) WP1 WP10 (by omega) M1
    obtain ⟨M3, e3⟩ : ∃ M, M = wI (wI (wI M2 19 0 0) 32 0 0) 46 0 0 := ⟨_, rfl⟩
    have c1 : semZ shP wS (d + 5) 25 [.ref 1, .ref 10] M1 = some (none, M2) := c1
    have k1 : M1.1 23 1 = 0 := by rw [o1 23 (by omega)]; exact b3
    have cw1 : CW 10 y.2.1 y.2.2.1 y.2.2.2 M1 := CW_k b4 (fun o h1 h2 => o1 o (by omega))
    have cw2 : CW 1 y.2.1 y.2.2.1 y.2.2.2 M2 := CW_b' cw1 c2 c3 c4 c6 c7 c8 c9 c10
    have o3 : ∀ o, o ≠ 19 → o ≠ 32 → o ≠ 46 → M3.1 o = M2.1 o := fun o h1 h2 h3 => by rw [e3, wI_n _ _ _ _ h3, wI_n _ _ _ _ h2, wI_n _ _ _ _ h1]
    refine ⟨nI y.1, M3, ?_, ?_, rfl, ?_, CW_k cw2 (fun o h1 h2 => o3 o (by omega) (by omega) (by omega)), ?_, fun j hj => ?_, ?_, ?_, ?_⟩
    · rw [se_X6_text, r_X6_text_0]
      have z1 : ¬ (2 : Int32) ≤ 0 := by decide
      have z2 : ¬ (2 : Int32) ≤ nI 1 := by decide +kernel
      have z3 : (2 : Int32) ≤ nI 2 := by decide +kernel
      have p1 : (0 : Int32) + 1 = nI 1 := by decide +kernel
      have p2 : nI 1 + 1 = nI 2 := by decide +kernel
      simp only [EV, LV, CB, OI, OL, NP, CZ, popN, CT, OZ, List.map_nil, List.map_cons, List.sum_nil, List.sum_cons, Option.toList, List.nil_append, List.cons_append, Int.reduceToNat, Nat.reduceAdd, Nat.reduceLT, Nat.reduceLeDiff, List.length_cons, List.length_nil, Nat.zero_add, if_true, if_false, reduceIte, and_self, and_true, true_and, eq_self, reduceCtorEq, gP0, C23, a1, G23, g3, ← e1, F404, k1, r_X6_text_44, (show clO shP 1 = some 5 from rfl), c1, g9]
      rw [r_X6_text_65]
      simp only [EV, LV, CB, OI, OL, NP, CZ, popN, CT, OZ, List.map_nil, List.map_cons, List.sum_nil, List.sum_cons, Option.toList, List.nil_append, List.cons_append, Int.reduceToNat, Nat.reduceAdd, Nat.reduceLT, Nat.reduceLeDiff, List.length_cons, List.length_nil, Nat.zero_add, if_true, if_false, reduceIte, and_self, and_true, true_and, eq_self, reduceCtorEq, gP0, z1, a27, g32, p1]
      rw [r_X6_text_65]
      simp only [EV, LV, CB, OI, OL, NP, CZ, popN, CT, OZ, List.map_nil, List.map_cons, List.sum_nil, List.sum_cons, Option.toList, List.nil_append, List.cons_append, Int.reduceToNat, Nat.reduceAdd, Nat.reduceLT, Nat.reduceLeDiff, List.length_cons, List.length_nil, Nat.zero_add, if_true, if_false, reduceIte, and_self, and_true, true_and, eq_self, reduceCtorEq, gP0, z2, a27, g46, p2]
      rw [r_X6_text_65]
      simp only [EV, LV, CB, OI, OL, NP, CZ, popN, CT, OZ, List.map_nil, List.map_cons, List.sum_nil, List.sum_cons, Option.toList, List.nil_append, List.cons_append, Int.reduceToNat, Nat.reduceAdd, Nat.reduceLT, Nat.reduceLeDiff, List.length_cons, List.length_nil, Nat.zero_add, if_true, if_false, reduceIte, and_self, and_true, true_and, eq_self, reduceCtorEq, z3, r_X6_text_86, e3]
    · rw [o3 24 (by omega) (by omega) (by omega), c11 24 (by omega), e1, wI_s]
    · rw [o3 23 (by omega) (by omega) (by omega), c11 23 (by omega)]; exact k1
    · rw [o3 1 (by omega) (by omega) (by omega), c2 6 (by omega), o1 10 (by omega)]; exact b5
    · rw [o3 4 (by omega) (by omega) (by omega), c5 j hj, o1 13 (by omega), b2 13 (by omega) (by omega) (by omega), setR_s]
      unfold fillR
      rw [if_pos hj]
    · rw [e3, wI_o _ _ _ _ _ (by omega), wI_o _ _ _ _ _ (by omega), wI_s]
    · rw [e3, wI_o _ _ _ _ _ (by omega), wI_s]
    · rw [e3, wI_s]
end Tx
end
section
/-! THE MODEL'S NAMES: written by wip/gen/mname.py -/
def isB (B : Nat → Int32) (s e n : Nat) (a b c : Int32) : Bool := decide (e = s + n) && (decide (B s = a) && (decide (B (s + 1) = b) && decide (B (s + 2) = c)))
def enB (B : Nat → Int32) (s : Nat) (a b c f : Int32) : Bool := decide (B (s + 3) = a) && ((decide (b = 0) || decide (B (s + 4) = b)) && ((decide (c = 0) || decide (B (s + 5) = c)) && (decide (f = 0) || decide (B (s + 6) = f))))
def mdl (k : Nat) : Int32 := ([4, 0, 1, 2, 3, 5, 6, 7] : List Int32).getD k (-4)
theorem nm_0 (B : Nat → Int32) (s e : Nat) : (isB B s e 7 118 105 108 && enB B s 108 97 103 101) = nmX B s e 0 := by
  have e : nmX B s e 0 = (decide (e = s + 7) && (decide (B (s + 0) = 118) && (decide (B (s + 1) = 105) && (decide (B (s + 2) = 108) && (decide (B (s + 3) = 108) && (decide (B (s + 4) = 97) && (decide (B (s + 5) = 103) && (decide (B (s + 6) = 101) && true)))))))) := rfl
  rw [e]
  unfold isB enB
  simp only [show decide ((97 : Int32) = 0) = false from by decide, show decide ((101 : Int32) = 0) = false from by decide, show decide ((103 : Int32) = 0) = false from by decide, decide_true, Bool.true_or, Bool.false_or, Bool.and_true, Bool.and_self, Bool.and_assoc, Nat.add_zero]
theorem nm_1 (B : Nat → Int32) (s e : Nat) : (isB B s e 5 112 108 97 && enB B s 105 110 0 0) = nmX B s e 1 := by
  have e : nmX B s e 1 = (decide (e = s + 5) && (decide (B (s + 0) = 112) && (decide (B (s + 1) = 108) && (decide (B (s + 2) = 97) && (decide (B (s + 3) = 105) && (decide (B (s + 4) = 110) && true)))))) := rfl
  rw [e]
  unfold isB enB
  simp only [show decide ((0 : Int32) = 0) = true from by decide, show decide ((110 : Int32) = 0) = false from by decide, decide_true, Bool.true_or, Bool.false_or, Bool.and_true, Bool.and_self, Bool.and_assoc, Nat.add_zero]
theorem nm_2 (B : Nat → Int32) (s e : Nat) : (isB B s e 5 114 105 118 && enB B s 101 114 0 0) = nmX B s e 2 := by
  have e : nmX B s e 2 = (decide (e = s + 5) && (decide (B (s + 0) = 114) && (decide (B (s + 1) = 105) && (decide (B (s + 2) = 118) && (decide (B (s + 3) = 101) && (decide (B (s + 4) = 114) && true)))))) := rfl
  rw [e]
  unfold isB enB
  simp only [show decide ((0 : Int32) = 0) = true from by decide, show decide ((114 : Int32) = 0) = false from by decide, decide_true, Bool.true_or, Bool.false_or, Bool.and_true, Bool.and_self, Bool.and_assoc, Nat.add_zero]
theorem nm_3 (B : Nat → Int32) (s e : Nat) : (isB B s e 7 97 100 111 && enB B s 112 116 101 100) = nmX B s e 3 := by
  have e : nmX B s e 3 = (decide (e = s + 7) && (decide (B (s + 0) = 97) && (decide (B (s + 1) = 100) && (decide (B (s + 2) = 111) && (decide (B (s + 3) = 112) && (decide (B (s + 4) = 116) && (decide (B (s + 5) = 101) && (decide (B (s + 6) = 100) && true)))))))) := rfl
  rw [e]
  unfold isB enB
  simp only [show decide ((100 : Int32) = 0) = false from by decide, show decide ((101 : Int32) = 0) = false from by decide, show decide ((116 : Int32) = 0) = false from by decide, decide_true, Bool.true_or, Bool.false_or, Bool.and_true, Bool.and_self, Bool.and_assoc, Nat.add_zero]
theorem nm_4 (B : Nat → Int32) (s e : Nat) : (isB B s e 5 109 105 120 && enB B s 101 100 0 0) = nmX B s e 4 := by
  have e : nmX B s e 4 = (decide (e = s + 5) && (decide (B (s + 0) = 109) && (decide (B (s + 1) = 105) && (decide (B (s + 2) = 120) && (decide (B (s + 3) = 101) && (decide (B (s + 4) = 100) && true)))))) := rfl
  rw [e]
  unfold isB enB
  simp only [show decide ((0 : Int32) = 0) = true from by decide, show decide ((100 : Int32) = 0) = false from by decide, decide_true, Bool.true_or, Bool.false_or, Bool.and_true, Bool.and_self, Bool.and_assoc, Nat.add_zero]
theorem nm_5 (B : Nat → Int32) (s e : Nat) : (isB B s e 5 112 114 105 && enB B s 99 101 0 0) = nmX B s e 5 := by
  have e : nmX B s e 5 = (decide (e = s + 5) && (decide (B (s + 0) = 112) && (decide (B (s + 1) = 114) && (decide (B (s + 2) = 105) && (decide (B (s + 3) = 99) && (decide (B (s + 4) = 101) && true)))))) := rfl
  rw [e]
  unfold isB enB
  simp only [show decide ((0 : Int32) = 0) = true from by decide, show decide ((101 : Int32) = 0) = false from by decide, decide_true, Bool.true_or, Bool.false_or, Bool.and_true, Bool.and_self, Bool.and_assoc, Nat.add_zero]
theorem nm_6 (B : Nat → Int32) (s e : Nat) : (isB B s e 4 102 105 110 && enB B s 101 0 0 0) = nmX B s e 6 := by
  have e : nmX B s e 6 = (decide (e = s + 4) && (decide (B (s + 0) = 102) && (decide (B (s + 1) = 105) && (decide (B (s + 2) = 110) && (decide (B (s + 3) = 101) && true))))) := rfl
  rw [e]
  unfold isB enB
  simp only [show decide ((0 : Int32) = 0) = true from by decide, decide_true, Bool.true_or, Bool.false_or, Bool.and_true, Bool.and_self, Bool.and_assoc, Nat.add_zero]
theorem nm_7 (B : Nat → Int32) (s e : Nat) : (isB B s e 5 114 111 117 && enB B s 110 100 0 0) = nmX B s e 7 := by
  have e : nmX B s e 7 = (decide (e = s + 5) && (decide (B (s + 0) = 114) && (decide (B (s + 1) = 111) && (decide (B (s + 2) = 117) && (decide (B (s + 3) = 110) && (decide (B (s + 4) = 100) && true)))))) := rfl
  rw [e]
  unfold isB enB
  simp only [show decide ((0 : Int32) = 0) = true from by decide, show decide ((100 : Int32) = 0) = false from by decide, decide_true, Bool.true_or, Bool.false_or, Bool.and_true, Bool.and_self, Bool.and_assoc, Nat.add_zero]
section Mn
variable {B : Nat → Int32} {n : Nat} (wS : List Value → Mm → Option Rs) (d : Nat) {m : Mm}
theorem t_isX (hB : Tp B n) (hm : TM B n m) {s e : Nat} (hse : s ≤ e) (he : e ≤ n) (so va fa wr : Int32) {q : Nat} (hq : q < 8) (a b c : Int32) : semZ shP wS (d + 2) 109 [.ref 68, .int (nI q), .int a, .int b, .int c] (pm m e s so va fa wr) = some (some (.int (bI (isB B s e q a b c))), pm m e s so va fa wr) := by
  have h160 := hB.1
  have es := nI_sub (a := e) (b := s) hse
  have eq : (nI (e - s) = nI q) = (e = s + q) := by
    apply propext
    rw [nI_eq (by omega) (by omega)]
    omega
  have y0 := byX wS d hB hm s so va fa wr (show s < 2 ^ 31 by omega) e
  have y1 := byX wS d hB hm s so va fa wr (show s + 1 < 2 ^ 31 by omega) e
  have y2 := byX wS d hB hm s so va fa wr (show s + 2 < 2 ^ 31 by omega) e
  have p1 : nI s + 1 = nI (s + 1) := nI_1 s
  have p2 : nI s + 2 = nI (s + 2) := nI_add s 2
  rw [se_X7_is, r_X7_is_0]
  unfold isB
  by_cases h0 : e = s + q
  · have c0 : nI (e - s) = nI q := by rw [eq]; exact h0
    rw [decide_eq_true h0]
    by_cases h1 : B s = a
    · by_cases h2 : B (s + 1) = b
      · by_cases h3 : B (s + 2) = c
        · simp only [EV, LV, CB, OI, OL, NP, CZ, popN, CT, OZ, List.map_nil, List.map_cons, List.sum_nil, List.sum_cons, Option.toList, List.nil_append, List.cons_append, Int.reduceToNat, Nat.reduceAdd, Nat.reduceLT, Nat.reduceLeDiff, List.length_cons, List.length_nil, Nat.zero_add, if_true, if_false, reduceIte, and_self, and_true, true_and, eq_self, reduceCtorEq, C68, G68, es, c0, y0, y1, y2, p1, p2, h1, h2, h3, not_true_eq_false, r_X7_is_59, decide_true, Bool.and_self, bI_t]
        · simp only [EV, LV, CB, OI, OL, NP, CZ, popN, CT, OZ, List.map_nil, List.map_cons, List.sum_nil, List.sum_cons, Option.toList, List.nil_append, List.cons_append, Int.reduceToNat, Nat.reduceAdd, Nat.reduceLT, Nat.reduceLeDiff, List.length_cons, List.length_nil, Nat.zero_add, if_true, if_false, reduceIte, and_self, and_true, true_and, eq_self, reduceCtorEq, C68, G68, es, c0, y0, y1, y2, p1, p2, h1, h2, h3, not_true_eq_false, not_false_eq_true, r_X7_is_58, decide_true, decide_false, Bool.and_false, bI_f]
      · simp only [EV, LV, CB, OI, OL, NP, CZ, popN, CT, OZ, List.map_nil, List.map_cons, List.sum_nil, List.sum_cons, Option.toList, List.nil_append, List.cons_append, Int.reduceToNat, Nat.reduceAdd, Nat.reduceLT, Nat.reduceLeDiff, List.length_cons, List.length_nil, Nat.zero_add, if_true, if_false, reduceIte, and_self, and_true, true_and, eq_self, reduceCtorEq, C68, G68, es, c0, y0, y1, p1, h1, h2, not_true_eq_false, not_false_eq_true, r_X7_is_58, decide_true, decide_false, Bool.false_and, Bool.and_false, bI_f]
    · simp only [EV, LV, CB, OI, OL, NP, CZ, popN, CT, OZ, List.map_nil, List.map_cons, List.sum_nil, List.sum_cons, Option.toList, List.nil_append, List.cons_append, Int.reduceToNat, Nat.reduceAdd, Nat.reduceLT, Nat.reduceLeDiff, List.length_cons, List.length_nil, Nat.zero_add, if_true, if_false, reduceIte, and_self, and_true, true_and, eq_self, reduceCtorEq, C68, G68, es, c0, y0, h1, not_true_eq_false, not_false_eq_true, r_X7_is_58, decide_false, Bool.false_and, Bool.and_false, bI_f]
  · have c0 : ¬ nI (e - s) = nI q := by rw [eq]; exact h0
    rw [decide_eq_false h0]
    simp only [EV, LV, CB, OI, OL, NP, CZ, popN, CT, OZ, List.map_nil, List.map_cons, List.sum_nil, List.sum_cons, Option.toList, List.nil_append, List.cons_append, Int.reduceToNat, Nat.reduceAdd, Nat.reduceLT, Nat.reduceLeDiff, List.length_cons, List.length_nil, Nat.zero_add, if_true, if_false, reduceIte, and_self, and_true, true_and, eq_self, reduceCtorEq, G68, es, c0, not_false_eq_true, r_X7_is_58, Bool.false_and, bI_f]
theorem t_enX (hB : Tp B n) (hm : TM B n m) {s e : Nat} (hs : s ≤ n) (so va fa wr : Int32) (a b c f : Int32) : semZ shP wS (d + 2) 110 [.ref 68, .int a, .int b, .int c, .int f] (pm m e s so va fa wr) = some (some (.int (bI (enB B s a b c f))), pm m e s so va fa wr) := by
  have h160 := hB.1
  have y3 := byX wS d hB hm s so va fa wr (show s + 3 < 2 ^ 31 by omega) e
  have y4 := byX wS d hB hm s so va fa wr (show s + 4 < 2 ^ 31 by omega) e
  have y5 := byX wS d hB hm s so va fa wr (show s + 5 < 2 ^ 31 by omega) e
  have y6 := byX wS d hB hm s so va fa wr (show s + 6 < 2 ^ 31 by omega) e
  have p3 : nI s + 3 = nI (s + 3) := nI_add s 3
  have p4 : nI s + 4 = nI (s + 4) := nI_add s 4
  have p5 : nI s + 5 = nI (s + 5) := nI_add s 5
  have p6 : nI s + 6 = nI (s + 6) := nI_add s 6
  rw [se_X7_ends, r_X7_ends_0]
  unfold enB
  by_cases h3 : B (s + 3) = a
  · skip
    by_cases zb : b = 0
    · skip
      by_cases zc : c = 0
      · skip
        by_cases zf : f = 0
        · skip
          simp only [EV, LV, CB, OI, OL, NP, CZ, popN, CT, OZ, List.map_nil, List.map_cons, List.sum_nil, List.sum_cons, Option.toList, List.nil_append, List.cons_append, Int.reduceToNat, Nat.reduceAdd, Nat.reduceLT, Nat.reduceLeDiff, List.length_cons, List.length_nil, Nat.zero_add, if_true, if_false, reduceIte, and_self, and_true, true_and, eq_self, reduceCtorEq, C68, G68, y3, y4, y5, y6, p3, p4, p5, p6, not_true_eq_false, not_false_eq_true, r_X7_ends_32, r_X7_ends_50, r_X7_ends_71, r_X7_ends_75, r_X7_ends_76, decide_true, decide_false, Bool.true_or, Bool.false_or, Bool.or_true, Bool.or_false, Bool.or_self, Bool.and_true, Bool.true_and, Bool.and_false, Bool.false_and, Bool.and_self, bI_t, bI_f, h3, zb, zc, zf]
        · by_cases hf : B (s + 6) = f
          · skip
            simp only [EV, LV, CB, OI, OL, NP, CZ, popN, CT, OZ, List.map_nil, List.map_cons, List.sum_nil, List.sum_cons, Option.toList, List.nil_append, List.cons_append, Int.reduceToNat, Nat.reduceAdd, Nat.reduceLT, Nat.reduceLeDiff, List.length_cons, List.length_nil, Nat.zero_add, if_true, if_false, reduceIte, and_self, and_true, true_and, eq_self, reduceCtorEq, C68, G68, y3, y4, y5, y6, p3, p4, p5, p6, not_true_eq_false, not_false_eq_true, r_X7_ends_32, r_X7_ends_50, r_X7_ends_71, r_X7_ends_75, r_X7_ends_76, decide_true, decide_false, Bool.true_or, Bool.false_or, Bool.or_true, Bool.or_false, Bool.or_self, Bool.and_true, Bool.true_and, Bool.and_false, Bool.false_and, Bool.and_self, bI_t, bI_f, h3, zb, zc, zf, hf]
          · skip
            simp only [EV, LV, CB, OI, OL, NP, CZ, popN, CT, OZ, List.map_nil, List.map_cons, List.sum_nil, List.sum_cons, Option.toList, List.nil_append, List.cons_append, Int.reduceToNat, Nat.reduceAdd, Nat.reduceLT, Nat.reduceLeDiff, List.length_cons, List.length_nil, Nat.zero_add, if_true, if_false, reduceIte, and_self, and_true, true_and, eq_self, reduceCtorEq, C68, G68, y3, y4, y5, y6, p3, p4, p5, p6, not_true_eq_false, not_false_eq_true, r_X7_ends_32, r_X7_ends_50, r_X7_ends_71, r_X7_ends_75, r_X7_ends_76, decide_true, decide_false, Bool.true_or, Bool.false_or, Bool.or_true, Bool.or_false, Bool.or_self, Bool.and_true, Bool.true_and, Bool.and_false, Bool.false_and, Bool.and_self, bI_t, bI_f, h3, zb, zc, zf, hf]
      · by_cases hc : B (s + 5) = c
        · skip
          by_cases zf : f = 0
          · skip
            simp only [EV, LV, CB, OI, OL, NP, CZ, popN, CT, OZ, List.map_nil, List.map_cons, List.sum_nil, List.sum_cons, Option.toList, List.nil_append, List.cons_append, Int.reduceToNat, Nat.reduceAdd, Nat.reduceLT, Nat.reduceLeDiff, List.length_cons, List.length_nil, Nat.zero_add, if_true, if_false, reduceIte, and_self, and_true, true_and, eq_self, reduceCtorEq, C68, G68, y3, y4, y5, y6, p3, p4, p5, p6, not_true_eq_false, not_false_eq_true, r_X7_ends_32, r_X7_ends_50, r_X7_ends_71, r_X7_ends_75, r_X7_ends_76, decide_true, decide_false, Bool.true_or, Bool.false_or, Bool.or_true, Bool.or_false, Bool.or_self, Bool.and_true, Bool.true_and, Bool.and_false, Bool.false_and, Bool.and_self, bI_t, bI_f, h3, zb, zc, hc, zf]
          · by_cases hf : B (s + 6) = f
            · skip
              simp only [EV, LV, CB, OI, OL, NP, CZ, popN, CT, OZ, List.map_nil, List.map_cons, List.sum_nil, List.sum_cons, Option.toList, List.nil_append, List.cons_append, Int.reduceToNat, Nat.reduceAdd, Nat.reduceLT, Nat.reduceLeDiff, List.length_cons, List.length_nil, Nat.zero_add, if_true, if_false, reduceIte, and_self, and_true, true_and, eq_self, reduceCtorEq, C68, G68, y3, y4, y5, y6, p3, p4, p5, p6, not_true_eq_false, not_false_eq_true, r_X7_ends_32, r_X7_ends_50, r_X7_ends_71, r_X7_ends_75, r_X7_ends_76, decide_true, decide_false, Bool.true_or, Bool.false_or, Bool.or_true, Bool.or_false, Bool.or_self, Bool.and_true, Bool.true_and, Bool.and_false, Bool.false_and, Bool.and_self, bI_t, bI_f, h3, zb, zc, hc, zf, hf]
            · skip
              simp only [EV, LV, CB, OI, OL, NP, CZ, popN, CT, OZ, List.map_nil, List.map_cons, List.sum_nil, List.sum_cons, Option.toList, List.nil_append, List.cons_append, Int.reduceToNat, Nat.reduceAdd, Nat.reduceLT, Nat.reduceLeDiff, List.length_cons, List.length_nil, Nat.zero_add, if_true, if_false, reduceIte, and_self, and_true, true_and, eq_self, reduceCtorEq, C68, G68, y3, y4, y5, y6, p3, p4, p5, p6, not_true_eq_false, not_false_eq_true, r_X7_ends_32, r_X7_ends_50, r_X7_ends_71, r_X7_ends_75, r_X7_ends_76, decide_true, decide_false, Bool.true_or, Bool.false_or, Bool.or_true, Bool.or_false, Bool.or_self, Bool.and_true, Bool.true_and, Bool.and_false, Bool.false_and, Bool.and_self, bI_t, bI_f, h3, zb, zc, hc, zf, hf]
        · skip
          simp only [EV, LV, CB, OI, OL, NP, CZ, popN, CT, OZ, List.map_nil, List.map_cons, List.sum_nil, List.sum_cons, Option.toList, List.nil_append, List.cons_append, Int.reduceToNat, Nat.reduceAdd, Nat.reduceLT, Nat.reduceLeDiff, List.length_cons, List.length_nil, Nat.zero_add, if_true, if_false, reduceIte, and_self, and_true, true_and, eq_self, reduceCtorEq, C68, G68, y3, y4, y5, y6, p3, p4, p5, p6, not_true_eq_false, not_false_eq_true, r_X7_ends_32, r_X7_ends_50, r_X7_ends_71, r_X7_ends_75, r_X7_ends_76, decide_true, decide_false, Bool.true_or, Bool.false_or, Bool.or_true, Bool.or_false, Bool.or_self, Bool.and_true, Bool.true_and, Bool.and_false, Bool.false_and, Bool.and_self, bI_t, bI_f, h3, zb, zc, hc]
    · by_cases hb : B (s + 4) = b
      · skip
        by_cases zc : c = 0
        · skip
          by_cases zf : f = 0
          · skip
            simp only [EV, LV, CB, OI, OL, NP, CZ, popN, CT, OZ, List.map_nil, List.map_cons, List.sum_nil, List.sum_cons, Option.toList, List.nil_append, List.cons_append, Int.reduceToNat, Nat.reduceAdd, Nat.reduceLT, Nat.reduceLeDiff, List.length_cons, List.length_nil, Nat.zero_add, if_true, if_false, reduceIte, and_self, and_true, true_and, eq_self, reduceCtorEq, C68, G68, y3, y4, y5, y6, p3, p4, p5, p6, not_true_eq_false, not_false_eq_true, r_X7_ends_32, r_X7_ends_50, r_X7_ends_71, r_X7_ends_75, r_X7_ends_76, decide_true, decide_false, Bool.true_or, Bool.false_or, Bool.or_true, Bool.or_false, Bool.or_self, Bool.and_true, Bool.true_and, Bool.and_false, Bool.false_and, Bool.and_self, bI_t, bI_f, h3, zb, hb, zc, zf]
          · by_cases hf : B (s + 6) = f
            · skip
              simp only [EV, LV, CB, OI, OL, NP, CZ, popN, CT, OZ, List.map_nil, List.map_cons, List.sum_nil, List.sum_cons, Option.toList, List.nil_append, List.cons_append, Int.reduceToNat, Nat.reduceAdd, Nat.reduceLT, Nat.reduceLeDiff, List.length_cons, List.length_nil, Nat.zero_add, if_true, if_false, reduceIte, and_self, and_true, true_and, eq_self, reduceCtorEq, C68, G68, y3, y4, y5, y6, p3, p4, p5, p6, not_true_eq_false, not_false_eq_true, r_X7_ends_32, r_X7_ends_50, r_X7_ends_71, r_X7_ends_75, r_X7_ends_76, decide_true, decide_false, Bool.true_or, Bool.false_or, Bool.or_true, Bool.or_false, Bool.or_self, Bool.and_true, Bool.true_and, Bool.and_false, Bool.false_and, Bool.and_self, bI_t, bI_f, h3, zb, hb, zc, zf, hf]
            · skip
              simp only [EV, LV, CB, OI, OL, NP, CZ, popN, CT, OZ, List.map_nil, List.map_cons, List.sum_nil, List.sum_cons, Option.toList, List.nil_append, List.cons_append, Int.reduceToNat, Nat.reduceAdd, Nat.reduceLT, Nat.reduceLeDiff, List.length_cons, List.length_nil, Nat.zero_add, if_true, if_false, reduceIte, and_self, and_true, true_and, eq_self, reduceCtorEq, C68, G68, y3, y4, y5, y6, p3, p4, p5, p6, not_true_eq_false, not_false_eq_true, r_X7_ends_32, r_X7_ends_50, r_X7_ends_71, r_X7_ends_75, r_X7_ends_76, decide_true, decide_false, Bool.true_or, Bool.false_or, Bool.or_true, Bool.or_false, Bool.or_self, Bool.and_true, Bool.true_and, Bool.and_false, Bool.false_and, Bool.and_self, bI_t, bI_f, h3, zb, hb, zc, zf, hf]
        · by_cases hc : B (s + 5) = c
          · skip
            by_cases zf : f = 0
            · skip
              simp only [EV, LV, CB, OI, OL, NP, CZ, popN, CT, OZ, List.map_nil, List.map_cons, List.sum_nil, List.sum_cons, Option.toList, List.nil_append, List.cons_append, Int.reduceToNat, Nat.reduceAdd, Nat.reduceLT, Nat.reduceLeDiff, List.length_cons, List.length_nil, Nat.zero_add, if_true, if_false, reduceIte, and_self, and_true, true_and, eq_self, reduceCtorEq, C68, G68, y3, y4, y5, y6, p3, p4, p5, p6, not_true_eq_false, not_false_eq_true, r_X7_ends_32, r_X7_ends_50, r_X7_ends_71, r_X7_ends_75, r_X7_ends_76, decide_true, decide_false, Bool.true_or, Bool.false_or, Bool.or_true, Bool.or_false, Bool.or_self, Bool.and_true, Bool.true_and, Bool.and_false, Bool.false_and, Bool.and_self, bI_t, bI_f, h3, zb, hb, zc, hc, zf]
            · by_cases hf : B (s + 6) = f
              · skip
                simp only [EV, LV, CB, OI, OL, NP, CZ, popN, CT, OZ, List.map_nil, List.map_cons, List.sum_nil, List.sum_cons, Option.toList, List.nil_append, List.cons_append, Int.reduceToNat, Nat.reduceAdd, Nat.reduceLT, Nat.reduceLeDiff, List.length_cons, List.length_nil, Nat.zero_add, if_true, if_false, reduceIte, and_self, and_true, true_and, eq_self, reduceCtorEq, C68, G68, y3, y4, y5, y6, p3, p4, p5, p6, not_true_eq_false, not_false_eq_true, r_X7_ends_32, r_X7_ends_50, r_X7_ends_71, r_X7_ends_75, r_X7_ends_76, decide_true, decide_false, Bool.true_or, Bool.false_or, Bool.or_true, Bool.or_false, Bool.or_self, Bool.and_true, Bool.true_and, Bool.and_false, Bool.false_and, Bool.and_self, bI_t, bI_f, h3, zb, hb, zc, hc, zf, hf]
              · skip
                simp only [EV, LV, CB, OI, OL, NP, CZ, popN, CT, OZ, List.map_nil, List.map_cons, List.sum_nil, List.sum_cons, Option.toList, List.nil_append, List.cons_append, Int.reduceToNat, Nat.reduceAdd, Nat.reduceLT, Nat.reduceLeDiff, List.length_cons, List.length_nil, Nat.zero_add, if_true, if_false, reduceIte, and_self, and_true, true_and, eq_self, reduceCtorEq, C68, G68, y3, y4, y5, y6, p3, p4, p5, p6, not_true_eq_false, not_false_eq_true, r_X7_ends_32, r_X7_ends_50, r_X7_ends_71, r_X7_ends_75, r_X7_ends_76, decide_true, decide_false, Bool.true_or, Bool.false_or, Bool.or_true, Bool.or_false, Bool.or_self, Bool.and_true, Bool.true_and, Bool.and_false, Bool.false_and, Bool.and_self, bI_t, bI_f, h3, zb, hb, zc, hc, zf, hf]
          · skip
            simp only [EV, LV, CB, OI, OL, NP, CZ, popN, CT, OZ, List.map_nil, List.map_cons, List.sum_nil, List.sum_cons, Option.toList, List.nil_append, List.cons_append, Int.reduceToNat, Nat.reduceAdd, Nat.reduceLT, Nat.reduceLeDiff, List.length_cons, List.length_nil, Nat.zero_add, if_true, if_false, reduceIte, and_self, and_true, true_and, eq_self, reduceCtorEq, C68, G68, y3, y4, y5, y6, p3, p4, p5, p6, not_true_eq_false, not_false_eq_true, r_X7_ends_32, r_X7_ends_50, r_X7_ends_71, r_X7_ends_75, r_X7_ends_76, decide_true, decide_false, Bool.true_or, Bool.false_or, Bool.or_true, Bool.or_false, Bool.or_self, Bool.and_true, Bool.true_and, Bool.and_false, Bool.false_and, Bool.and_self, bI_t, bI_f, h3, zb, hb, zc, hc]
      · skip
        simp only [EV, LV, CB, OI, OL, NP, CZ, popN, CT, OZ, List.map_nil, List.map_cons, List.sum_nil, List.sum_cons, Option.toList, List.nil_append, List.cons_append, Int.reduceToNat, Nat.reduceAdd, Nat.reduceLT, Nat.reduceLeDiff, List.length_cons, List.length_nil, Nat.zero_add, if_true, if_false, reduceIte, and_self, and_true, true_and, eq_self, reduceCtorEq, C68, G68, y3, y4, y5, y6, p3, p4, p5, p6, not_true_eq_false, not_false_eq_true, r_X7_ends_32, r_X7_ends_50, r_X7_ends_71, r_X7_ends_75, r_X7_ends_76, decide_true, decide_false, Bool.true_or, Bool.false_or, Bool.or_true, Bool.or_false, Bool.or_self, Bool.and_true, Bool.true_and, Bool.and_false, Bool.false_and, Bool.and_self, bI_t, bI_f, h3, zb, hb]
  · skip
    simp only [EV, LV, CB, OI, OL, NP, CZ, popN, CT, OZ, List.map_nil, List.map_cons, List.sum_nil, List.sum_cons, Option.toList, List.nil_append, List.cons_append, Int.reduceToNat, Nat.reduceAdd, Nat.reduceLT, Nat.reduceLeDiff, List.length_cons, List.length_nil, Nat.zero_add, if_true, if_false, reduceIte, and_self, and_true, true_and, eq_self, reduceCtorEq, C68, G68, y3, y4, y5, y6, p3, p4, p5, p6, not_true_eq_false, not_false_eq_true, r_X7_ends_32, r_X7_ends_50, r_X7_ends_71, r_X7_ends_75, r_X7_ends_76, decide_true, decide_false, Bool.true_or, Bool.false_or, Bool.or_true, Bool.or_false, Bool.or_self, Bool.and_true, Bool.true_and, Bool.and_false, Bool.false_and, Bool.and_self, bI_t, bI_f, h3]
theorem w_0 (hB : Tp B n) (hm : TM B n m) {s e : Nat} (hse : s ≤ e) (he : e ≤ n) (so va fa wr : Int32) : rn shP tb0 mN mO (semZ shP wS (d + 2)) (some .int) (codeZ 112) 0 [.ref 68] [] (pm m e s so va fa wr) = if nmX B s e 0 = true then some (some (.int 4), pm m e s so va fa wr) else rn shP tb0 mN mO (semZ shP wS (d + 2)) (some .int) (codeZ 112) 32 [.ref 68] [] (pm m e s so va fa wr) := by
  have e10 : ¬ (1 : Int32) = 0 := by decide
  have i := t_isX wS d hB hm hse he so va fa wr (q := 7) (by omega) 118 105 108
  have i : semZ shP wS (d + 2) 109 [.ref 68, .int 7, .int 118, .int 105, .int 108] (pm m e s so va fa wr) = _ := i
  have u := t_enX wS d hB hm (show s ≤ n by omega) so va fa wr (e := e) 108 97 103 101
  rw [← nm_0 B s e, r_X7_lineNow_0]
  cases h1 : isB B s e 7 118 105 108 with
  | false =>
    rw [h1] at i
    simp only [EV, LV, CB, OI, OL, NP, CZ, popN, CT, OZ, List.map_nil, List.map_cons, List.sum_nil, List.sum_cons, Option.toList, List.nil_append, List.cons_append, Int.reduceToNat, Nat.reduceAdd, Nat.reduceLT, Nat.reduceLeDiff, List.length_cons, List.length_nil, Nat.zero_add, if_true, if_false, reduceIte, and_self, and_true, true_and, eq_self, reduceCtorEq, C68, i, bI_f, Bool.false_and, Bool.false_eq_true]
  | true =>
    rw [h1] at i
    cases h2 : enB B s 108 97 103 101 with
    | false =>
      rw [h2] at u
      simp only [EV, LV, CB, OI, OL, NP, CZ, popN, CT, OZ, List.map_nil, List.map_cons, List.sum_nil, List.sum_cons, Option.toList, List.nil_append, List.cons_append, Int.reduceToNat, Nat.reduceAdd, Nat.reduceLT, Nat.reduceLeDiff, List.length_cons, List.length_nil, Nat.zero_add, if_true, if_false, reduceIte, and_self, and_true, true_and, eq_self, reduceCtorEq, C68, i, u, bI_t, bI_f, e10, Bool.and_false, Bool.false_eq_true]
    | true =>
      rw [h2] at u
      simp only [EV, LV, CB, OI, OL, NP, CZ, popN, CT, OZ, List.map_nil, List.map_cons, List.sum_nil, List.sum_cons, Option.toList, List.nil_append, List.cons_append, Int.reduceToNat, Nat.reduceAdd, Nat.reduceLT, Nat.reduceLeDiff, List.length_cons, List.length_nil, Nat.zero_add, if_true, if_false, reduceIte, and_self, and_true, true_and, eq_self, reduceCtorEq, C68, i, u, bI_t, e10, Bool.and_self]
theorem w_5 (hB : Tp B n) (hm : TM B n m) {s e : Nat} (hse : s ≤ e) (he : e ≤ n) (so va fa wr : Int32) : rn shP tb0 mN mO (semZ shP wS (d + 2)) (some .int) (codeZ 112) 32 [.ref 68] [] (pm m e s so va fa wr) = if nmX B s e 5 = true then some (some (.int 5), pm m e s so va fa wr) else rn shP tb0 mN mO (semZ shP wS (d + 2)) (some .int) (codeZ 112) 61 [.ref 68] [] (pm m e s so va fa wr) := by
  have e10 : ¬ (1 : Int32) = 0 := by decide
  have i := t_isX wS d hB hm hse he so va fa wr (q := 5) (by omega) 112 114 105
  have i : semZ shP wS (d + 2) 109 [.ref 68, .int 5, .int 112, .int 114, .int 105] (pm m e s so va fa wr) = _ := i
  have u := t_enX wS d hB hm (show s ≤ n by omega) so va fa wr (e := e) 99 101 0 0
  rw [← nm_5 B s e, r_X7_lineNow_32]
  cases h1 : isB B s e 5 112 114 105 with
  | false =>
    rw [h1] at i
    simp only [EV, LV, CB, OI, OL, NP, CZ, popN, CT, OZ, List.map_nil, List.map_cons, List.sum_nil, List.sum_cons, Option.toList, List.nil_append, List.cons_append, Int.reduceToNat, Nat.reduceAdd, Nat.reduceLT, Nat.reduceLeDiff, List.length_cons, List.length_nil, Nat.zero_add, if_true, if_false, reduceIte, and_self, and_true, true_and, eq_self, reduceCtorEq, C68, i, bI_f, Bool.false_and, Bool.false_eq_true]
  | true =>
    rw [h1] at i
    cases h2 : enB B s 99 101 0 0 with
    | false =>
      rw [h2] at u
      simp only [EV, LV, CB, OI, OL, NP, CZ, popN, CT, OZ, List.map_nil, List.map_cons, List.sum_nil, List.sum_cons, Option.toList, List.nil_append, List.cons_append, Int.reduceToNat, Nat.reduceAdd, Nat.reduceLT, Nat.reduceLeDiff, List.length_cons, List.length_nil, Nat.zero_add, if_true, if_false, reduceIte, and_self, and_true, true_and, eq_self, reduceCtorEq, C68, i, u, bI_t, bI_f, e10, Bool.and_false, Bool.false_eq_true]
    | true =>
      rw [h2] at u
      simp only [EV, LV, CB, OI, OL, NP, CZ, popN, CT, OZ, List.map_nil, List.map_cons, List.sum_nil, List.sum_cons, Option.toList, List.nil_append, List.cons_append, Int.reduceToNat, Nat.reduceAdd, Nat.reduceLT, Nat.reduceLeDiff, List.length_cons, List.length_nil, Nat.zero_add, if_true, if_false, reduceIte, and_self, and_true, true_and, eq_self, reduceCtorEq, C68, i, u, bI_t, e10, Bool.and_self]
theorem w_6 (hB : Tp B n) (hm : TM B n m) {s e : Nat} (hse : s ≤ e) (he : e ≤ n) (so va fa wr : Int32) : rn shP tb0 mN mO (semZ shP wS (d + 2)) (some .int) (codeZ 112) 61 [.ref 68] [] (pm m e s so va fa wr) = if nmX B s e 6 = true then some (some (.int 6), pm m e s so va fa wr) else rn shP tb0 mN mO (semZ shP wS (d + 2)) (some .int) (codeZ 112) 92 [.ref 68] [] (pm m e s so va fa wr) := by
  have e10 : ¬ (1 : Int32) = 0 := by decide
  have i := t_isX wS d hB hm hse he so va fa wr (q := 4) (by omega) 102 105 110
  have i : semZ shP wS (d + 2) 109 [.ref 68, .int 4, .int 102, .int 105, .int 110] (pm m e s so va fa wr) = _ := i
  have u := t_enX wS d hB hm (show s ≤ n by omega) so va fa wr (e := e) 101 0 0 0
  rw [← nm_6 B s e, r_X7_lineNow_61]
  cases h1 : isB B s e 4 102 105 110 with
  | false =>
    rw [h1] at i
    simp only [EV, LV, CB, OI, OL, NP, CZ, popN, CT, OZ, List.map_nil, List.map_cons, List.sum_nil, List.sum_cons, Option.toList, List.nil_append, List.cons_append, Int.reduceToNat, Nat.reduceAdd, Nat.reduceLT, Nat.reduceLeDiff, List.length_cons, List.length_nil, Nat.zero_add, if_true, if_false, reduceIte, and_self, and_true, true_and, eq_self, reduceCtorEq, C68, i, bI_f, Bool.false_and, Bool.false_eq_true]
  | true =>
    rw [h1] at i
    cases h2 : enB B s 101 0 0 0 with
    | false =>
      rw [h2] at u
      simp only [EV, LV, CB, OI, OL, NP, CZ, popN, CT, OZ, List.map_nil, List.map_cons, List.sum_nil, List.sum_cons, Option.toList, List.nil_append, List.cons_append, Int.reduceToNat, Nat.reduceAdd, Nat.reduceLT, Nat.reduceLeDiff, List.length_cons, List.length_nil, Nat.zero_add, if_true, if_false, reduceIte, and_self, and_true, true_and, eq_self, reduceCtorEq, C68, i, u, bI_t, bI_f, e10, Bool.and_false, Bool.false_eq_true]
    | true =>
      rw [h2] at u
      simp only [EV, LV, CB, OI, OL, NP, CZ, popN, CT, OZ, List.map_nil, List.map_cons, List.sum_nil, List.sum_cons, Option.toList, List.nil_append, List.cons_append, Int.reduceToNat, Nat.reduceAdd, Nat.reduceLT, Nat.reduceLeDiff, List.length_cons, List.length_nil, Nat.zero_add, if_true, if_false, reduceIte, and_self, and_true, true_and, eq_self, reduceCtorEq, C68, i, u, bI_t, e10, Bool.and_self, r_X7_lineNow_128]
theorem w_7 (hB : Tp B n) (hm : TM B n m) {s e : Nat} (hse : s ≤ e) (he : e ≤ n) (so va fa wr : Int32) : rn shP tb0 mN mO (semZ shP wS (d + 2)) (some .int) (codeZ 112) 92 [.ref 68] [] (pm m e s so va fa wr) = if nmX B s e 7 = true then some (some (.int 7), pm m e s so va fa wr) else rn shP tb0 mN mO (semZ shP wS (d + 2)) (some .int) (codeZ 112) 124 [.ref 68] [] (pm m e s so va fa wr) := by
  have e10 : ¬ (1 : Int32) = 0 := by decide
  have i := t_isX wS d hB hm hse he so va fa wr (q := 5) (by omega) 114 111 117
  have i : semZ shP wS (d + 2) 109 [.ref 68, .int 5, .int 114, .int 111, .int 117] (pm m e s so va fa wr) = _ := i
  have u := t_enX wS d hB hm (show s ≤ n by omega) so va fa wr (e := e) 110 100 0 0
  rw [← nm_7 B s e, r_X7_lineNow_92]
  cases h1 : isB B s e 5 114 111 117 with
  | false =>
    rw [h1] at i
    simp only [EV, LV, CB, OI, OL, NP, CZ, popN, CT, OZ, List.map_nil, List.map_cons, List.sum_nil, List.sum_cons, Option.toList, List.nil_append, List.cons_append, Int.reduceToNat, Nat.reduceAdd, Nat.reduceLT, Nat.reduceLeDiff, List.length_cons, List.length_nil, Nat.zero_add, if_true, if_false, reduceIte, and_self, and_true, true_and, eq_self, reduceCtorEq, C68, i, bI_f, Bool.false_and, Bool.false_eq_true]
  | true =>
    rw [h1] at i
    cases h2 : enB B s 110 100 0 0 with
    | false =>
      rw [h2] at u
      simp only [EV, LV, CB, OI, OL, NP, CZ, popN, CT, OZ, List.map_nil, List.map_cons, List.sum_nil, List.sum_cons, Option.toList, List.nil_append, List.cons_append, Int.reduceToNat, Nat.reduceAdd, Nat.reduceLT, Nat.reduceLeDiff, List.length_cons, List.length_nil, Nat.zero_add, if_true, if_false, reduceIte, and_self, and_true, true_and, eq_self, reduceCtorEq, C68, i, u, bI_t, bI_f, e10, Bool.and_false, Bool.false_eq_true]
    | true =>
      rw [h2] at u
      simp only [EV, LV, CB, OI, OL, NP, CZ, popN, CT, OZ, List.map_nil, List.map_cons, List.sum_nil, List.sum_cons, Option.toList, List.nil_append, List.cons_append, Int.reduceToNat, Nat.reduceAdd, Nat.reduceLT, Nat.reduceLeDiff, List.length_cons, List.length_nil, Nat.zero_add, if_true, if_false, reduceIte, and_self, and_true, true_and, eq_self, reduceCtorEq, C68, i, u, bI_t, e10, Bool.and_self, r_X7_lineNow_128]
theorem w_1 (hB : Tp B n) (hm : TM B n m) {s e : Nat} (hse : s ≤ e) (he : e ≤ n) (so va fa wr : Int32) : rn shP tb0 mN mO (semZ shP wS (d + 2)) (some .int) (codeZ 111) 0 [.ref 68] [] (pm m e s so va fa wr) = if nmX B s e 1 = true then some (some (.int 0), pm m e s so va fa wr) else rn shP tb0 mN mO (semZ shP wS (d + 2)) (some .int) (codeZ 111) 29 [.ref 68] [] (pm m e s so va fa wr) := by
  have e10 : ¬ (1 : Int32) = 0 := by decide
  have i := t_isX wS d hB hm hse he so va fa wr (q := 5) (by omega) 112 108 97
  have i : semZ shP wS (d + 2) 109 [.ref 68, .int 5, .int 112, .int 108, .int 97] (pm m e s so va fa wr) = _ := i
  have u := t_enX wS d hB hm (show s ≤ n by omega) so va fa wr (e := e) 105 110 0 0
  rw [← nm_1 B s e, r_X7_kindNow_0]
  cases h1 : isB B s e 5 112 108 97 with
  | false =>
    rw [h1] at i
    simp only [EV, LV, CB, OI, OL, NP, CZ, popN, CT, OZ, List.map_nil, List.map_cons, List.sum_nil, List.sum_cons, Option.toList, List.nil_append, List.cons_append, Int.reduceToNat, Nat.reduceAdd, Nat.reduceLT, Nat.reduceLeDiff, List.length_cons, List.length_nil, Nat.zero_add, if_true, if_false, reduceIte, and_self, and_true, true_and, eq_self, reduceCtorEq, C68, i, bI_f, Bool.false_and, Bool.false_eq_true]
  | true =>
    rw [h1] at i
    cases h2 : enB B s 105 110 0 0 with
    | false =>
      rw [h2] at u
      simp only [EV, LV, CB, OI, OL, NP, CZ, popN, CT, OZ, List.map_nil, List.map_cons, List.sum_nil, List.sum_cons, Option.toList, List.nil_append, List.cons_append, Int.reduceToNat, Nat.reduceAdd, Nat.reduceLT, Nat.reduceLeDiff, List.length_cons, List.length_nil, Nat.zero_add, if_true, if_false, reduceIte, and_self, and_true, true_and, eq_self, reduceCtorEq, C68, i, u, bI_t, bI_f, e10, Bool.and_false, Bool.false_eq_true]
    | true =>
      rw [h2] at u
      simp only [EV, LV, CB, OI, OL, NP, CZ, popN, CT, OZ, List.map_nil, List.map_cons, List.sum_nil, List.sum_cons, Option.toList, List.nil_append, List.cons_append, Int.reduceToNat, Nat.reduceAdd, Nat.reduceLT, Nat.reduceLeDiff, List.length_cons, List.length_nil, Nat.zero_add, if_true, if_false, reduceIte, and_self, and_true, true_and, eq_self, reduceCtorEq, C68, i, u, bI_t, e10, Bool.and_self]
theorem w_2 (hB : Tp B n) (hm : TM B n m) {s e : Nat} (hse : s ≤ e) (he : e ≤ n) (so va fa wr : Int32) : rn shP tb0 mN mO (semZ shP wS (d + 2)) (some .int) (codeZ 111) 29 [.ref 68] [] (pm m e s so va fa wr) = if nmX B s e 2 = true then some (some (.int 1), pm m e s so va fa wr) else rn shP tb0 mN mO (semZ shP wS (d + 2)) (some .int) (codeZ 111) 58 [.ref 68] [] (pm m e s so va fa wr) := by
  have e10 : ¬ (1 : Int32) = 0 := by decide
  have i := t_isX wS d hB hm hse he so va fa wr (q := 5) (by omega) 114 105 118
  have i : semZ shP wS (d + 2) 109 [.ref 68, .int 5, .int 114, .int 105, .int 118] (pm m e s so va fa wr) = _ := i
  have u := t_enX wS d hB hm (show s ≤ n by omega) so va fa wr (e := e) 101 114 0 0
  rw [← nm_2 B s e, r_X7_kindNow_29]
  cases h1 : isB B s e 5 114 105 118 with
  | false =>
    rw [h1] at i
    simp only [EV, LV, CB, OI, OL, NP, CZ, popN, CT, OZ, List.map_nil, List.map_cons, List.sum_nil, List.sum_cons, Option.toList, List.nil_append, List.cons_append, Int.reduceToNat, Nat.reduceAdd, Nat.reduceLT, Nat.reduceLeDiff, List.length_cons, List.length_nil, Nat.zero_add, if_true, if_false, reduceIte, and_self, and_true, true_and, eq_self, reduceCtorEq, C68, i, bI_f, Bool.false_and, Bool.false_eq_true]
  | true =>
    rw [h1] at i
    cases h2 : enB B s 101 114 0 0 with
    | false =>
      rw [h2] at u
      simp only [EV, LV, CB, OI, OL, NP, CZ, popN, CT, OZ, List.map_nil, List.map_cons, List.sum_nil, List.sum_cons, Option.toList, List.nil_append, List.cons_append, Int.reduceToNat, Nat.reduceAdd, Nat.reduceLT, Nat.reduceLeDiff, List.length_cons, List.length_nil, Nat.zero_add, if_true, if_false, reduceIte, and_self, and_true, true_and, eq_self, reduceCtorEq, C68, i, u, bI_t, bI_f, e10, Bool.and_false, Bool.false_eq_true]
    | true =>
      rw [h2] at u
      simp only [EV, LV, CB, OI, OL, NP, CZ, popN, CT, OZ, List.map_nil, List.map_cons, List.sum_nil, List.sum_cons, Option.toList, List.nil_append, List.cons_append, Int.reduceToNat, Nat.reduceAdd, Nat.reduceLT, Nat.reduceLeDiff, List.length_cons, List.length_nil, Nat.zero_add, if_true, if_false, reduceIte, and_self, and_true, true_and, eq_self, reduceCtorEq, C68, i, u, bI_t, e10, Bool.and_self]
theorem w_3 (hB : Tp B n) (hm : TM B n m) {s e : Nat} (hse : s ≤ e) (he : e ≤ n) (so va fa wr : Int32) : rn shP tb0 mN mO (semZ shP wS (d + 2)) (some .int) (codeZ 111) 58 [.ref 68] [] (pm m e s so va fa wr) = if nmX B s e 3 = true then some (some (.int 2), pm m e s so va fa wr) else rn shP tb0 mN mO (semZ shP wS (d + 2)) (some .int) (codeZ 111) 92 [.ref 68] [] (pm m e s so va fa wr) := by
  have e10 : ¬ (1 : Int32) = 0 := by decide
  have i := t_isX wS d hB hm hse he so va fa wr (q := 7) (by omega) 97 100 111
  have i : semZ shP wS (d + 2) 109 [.ref 68, .int 7, .int 97, .int 100, .int 111] (pm m e s so va fa wr) = _ := i
  have u := t_enX wS d hB hm (show s ≤ n by omega) so va fa wr (e := e) 112 116 101 100
  rw [← nm_3 B s e, r_X7_kindNow_58]
  cases h1 : isB B s e 7 97 100 111 with
  | false =>
    rw [h1] at i
    simp only [EV, LV, CB, OI, OL, NP, CZ, popN, CT, OZ, List.map_nil, List.map_cons, List.sum_nil, List.sum_cons, Option.toList, List.nil_append, List.cons_append, Int.reduceToNat, Nat.reduceAdd, Nat.reduceLT, Nat.reduceLeDiff, List.length_cons, List.length_nil, Nat.zero_add, if_true, if_false, reduceIte, and_self, and_true, true_and, eq_self, reduceCtorEq, C68, i, bI_f, Bool.false_and, Bool.false_eq_true]
  | true =>
    rw [h1] at i
    cases h2 : enB B s 112 116 101 100 with
    | false =>
      rw [h2] at u
      simp only [EV, LV, CB, OI, OL, NP, CZ, popN, CT, OZ, List.map_nil, List.map_cons, List.sum_nil, List.sum_cons, Option.toList, List.nil_append, List.cons_append, Int.reduceToNat, Nat.reduceAdd, Nat.reduceLT, Nat.reduceLeDiff, List.length_cons, List.length_nil, Nat.zero_add, if_true, if_false, reduceIte, and_self, and_true, true_and, eq_self, reduceCtorEq, C68, i, u, bI_t, bI_f, e10, Bool.and_false, Bool.false_eq_true]
    | true =>
      rw [h2] at u
      simp only [EV, LV, CB, OI, OL, NP, CZ, popN, CT, OZ, List.map_nil, List.map_cons, List.sum_nil, List.sum_cons, Option.toList, List.nil_append, List.cons_append, Int.reduceToNat, Nat.reduceAdd, Nat.reduceLT, Nat.reduceLeDiff, List.length_cons, List.length_nil, Nat.zero_add, if_true, if_false, reduceIte, and_self, and_true, true_and, eq_self, reduceCtorEq, C68, i, u, bI_t, e10, Bool.and_self, r_X7_kindNow_125]
theorem w_4 (hB : Tp B n) (hm : TM B n m) {s e : Nat} (hse : s ≤ e) (he : e ≤ n) (so va fa wr : Int32) : rn shP tb0 mN mO (semZ shP wS (d + 2)) (some .int) (codeZ 111) 92 [.ref 68] [] (pm m e s so va fa wr) = if nmX B s e 4 = true then some (some (.int 3), pm m e s so va fa wr) else rn shP tb0 mN mO (semZ shP wS (d + 2)) (some .int) (codeZ 111) 123 [.ref 68] [] (pm m e s so va fa wr) := by
  have e10 : ¬ (1 : Int32) = 0 := by decide
  have i := t_isX wS d hB hm hse he so va fa wr (q := 5) (by omega) 109 105 120
  have i : semZ shP wS (d + 2) 109 [.ref 68, .int 5, .int 109, .int 105, .int 120] (pm m e s so va fa wr) = _ := i
  have u := t_enX wS d hB hm (show s ≤ n by omega) so va fa wr (e := e) 101 100 0 0
  rw [← nm_4 B s e, r_X7_kindNow_92]
  cases h1 : isB B s e 5 109 105 120 with
  | false =>
    rw [h1] at i
    simp only [EV, LV, CB, OI, OL, NP, CZ, popN, CT, OZ, List.map_nil, List.map_cons, List.sum_nil, List.sum_cons, Option.toList, List.nil_append, List.cons_append, Int.reduceToNat, Nat.reduceAdd, Nat.reduceLT, Nat.reduceLeDiff, List.length_cons, List.length_nil, Nat.zero_add, if_true, if_false, reduceIte, and_self, and_true, true_and, eq_self, reduceCtorEq, C68, i, bI_f, Bool.false_and, Bool.false_eq_true]
  | true =>
    rw [h1] at i
    cases h2 : enB B s 101 100 0 0 with
    | false =>
      rw [h2] at u
      simp only [EV, LV, CB, OI, OL, NP, CZ, popN, CT, OZ, List.map_nil, List.map_cons, List.sum_nil, List.sum_cons, Option.toList, List.nil_append, List.cons_append, Int.reduceToNat, Nat.reduceAdd, Nat.reduceLT, Nat.reduceLeDiff, List.length_cons, List.length_nil, Nat.zero_add, if_true, if_false, reduceIte, and_self, and_true, true_and, eq_self, reduceCtorEq, C68, i, u, bI_t, bI_f, e10, Bool.and_false, Bool.false_eq_true]
    | true =>
      rw [h2] at u
      simp only [EV, LV, CB, OI, OL, NP, CZ, popN, CT, OZ, List.map_nil, List.map_cons, List.sum_nil, List.sum_cons, Option.toList, List.nil_append, List.cons_append, Int.reduceToNat, Nat.reduceAdd, Nat.reduceLT, Nat.reduceLeDiff, List.length_cons, List.length_nil, Nat.zero_add, if_true, if_false, reduceIte, and_self, and_true, true_and, eq_self, reduceCtorEq, C68, i, u, bI_t, e10, Bool.and_self, r_X7_kindNow_125]
theorem t_lineNow (hB : Tp B n) (hm : TM B n m) {s e : Nat} (hse : s ≤ e) (he : e ≤ n) (so va fa wr : Int32) : semZ shP wS (d + 4) 112 [.ref 68] (pm m e s so va fa wr) = some (some (.int (mdl (lnX B s e))), pm m e s so va fa wr) := by
  have kn : semZ shP wS (d + 3) 111 [.ref 68] (pm m e s so va fa wr) = some (some (.int (if nmX B s e 1 = true then 0 else if nmX B s e 2 = true then 1 else if nmX B s e 3 = true then 2 else if nmX B s e 4 = true then 3 else -4)), pm m e s so va fa wr) := by
    rw [se_X7_kindNow, w_1 wS d hB hm hse he so va fa wr, w_2 wS d hB hm hse he so va fa wr, w_3 wS d hB hm hse he so va fa wr, w_4 wS d hB hm hse he so va fa wr, r_X7_kindNow_123]
    simp only [EV, LV, CB, OI, OL, NP, CZ, popN, CT, OZ, List.map_nil, List.map_cons, List.sum_nil, List.sum_cons, Option.toList, List.nil_append, List.cons_append, Int.reduceToNat, Nat.reduceAdd, Nat.reduceLT, Nat.reduceLeDiff, List.length_cons, List.length_nil, Nat.zero_add, if_true, if_false, reduceIte, and_self, and_true, true_and, eq_self, reduceCtorEq]
    (repeat' split) <;> rfl
  rw [se_X7_lineNow, w_0 wS (d + 1) hB hm hse he so va fa wr, w_5 wS (d + 1) hB hm hse he so va fa wr, w_6 wS (d + 1) hB hm hse he so va fa wr, w_7 wS (d + 1) hB hm hse he so va fa wr, r_X7_lineNow_124]
  simp only [EV, LV, CB, OI, OL, NP, CZ, popN, CT, OZ, List.map_nil, List.map_cons, List.sum_nil, List.sum_cons, Option.toList, List.nil_append, List.cons_append, Int.reduceToNat, Nat.reduceAdd, Nat.reduceLT, Nat.reduceLeDiff, List.length_cons, List.length_nil, Nat.zero_add, if_true, if_false, reduceIte, and_self, and_true, true_and, eq_self, reduceCtorEq, C68, kn]
  have h8 := lnX_le B s e
  have no : ∀ j, j < 8 → lnX B s e ≠ j → nmX B s e j = false := fun j hj h => lnX_no hj h
  generalize hk : lnX B s e = k at h8 no
  match k, h8 with
  | 0, _ => simp only [no 1 (by omega) (by omega), no 2 (by omega) (by omega), no 3 (by omega) (by omega), no 4 (by omega) (by omega), no 5 (by omega) (by omega), no 6 (by omega) (by omega), no 7 (by omega) (by omega), lnX_yes (show 0 < 8 by omega) hk, if_true, if_false, Bool.false_eq_true, reduceIte]; rfl
  | 1, _ => simp only [no 0 (by omega) (by omega), no 2 (by omega) (by omega), no 3 (by omega) (by omega), no 4 (by omega) (by omega), no 5 (by omega) (by omega), no 6 (by omega) (by omega), no 7 (by omega) (by omega), lnX_yes (show 1 < 8 by omega) hk, if_true, if_false, Bool.false_eq_true, reduceIte]; rfl
  | 2, _ => simp only [no 0 (by omega) (by omega), no 1 (by omega) (by omega), no 3 (by omega) (by omega), no 4 (by omega) (by omega), no 5 (by omega) (by omega), no 6 (by omega) (by omega), no 7 (by omega) (by omega), lnX_yes (show 2 < 8 by omega) hk, if_true, if_false, Bool.false_eq_true, reduceIte]; rfl
  | 3, _ => simp only [no 0 (by omega) (by omega), no 1 (by omega) (by omega), no 2 (by omega) (by omega), no 4 (by omega) (by omega), no 5 (by omega) (by omega), no 6 (by omega) (by omega), no 7 (by omega) (by omega), lnX_yes (show 3 < 8 by omega) hk, if_true, if_false, Bool.false_eq_true, reduceIte]; rfl
  | 4, _ => simp only [no 0 (by omega) (by omega), no 1 (by omega) (by omega), no 2 (by omega) (by omega), no 3 (by omega) (by omega), no 5 (by omega) (by omega), no 6 (by omega) (by omega), no 7 (by omega) (by omega), lnX_yes (show 4 < 8 by omega) hk, if_true, if_false, Bool.false_eq_true, reduceIte]; rfl
  | 5, _ => simp only [no 0 (by omega) (by omega), no 1 (by omega) (by omega), no 2 (by omega) (by omega), no 3 (by omega) (by omega), no 4 (by omega) (by omega), no 6 (by omega) (by omega), no 7 (by omega) (by omega), lnX_yes (show 5 < 8 by omega) hk, if_true, if_false, Bool.false_eq_true, reduceIte]; rfl
  | 6, _ => simp only [no 0 (by omega) (by omega), no 1 (by omega) (by omega), no 2 (by omega) (by omega), no 3 (by omega) (by omega), no 4 (by omega) (by omega), no 5 (by omega) (by omega), no 7 (by omega) (by omega), lnX_yes (show 6 < 8 by omega) hk, if_true, if_false, Bool.false_eq_true, reduceIte]; rfl
  | 7, _ => simp only [no 0 (by omega) (by omega), no 1 (by omega) (by omega), no 2 (by omega) (by omega), no 3 (by omega) (by omega), no 4 (by omega) (by omega), no 5 (by omega) (by omega), no 6 (by omega) (by omega), lnX_yes (show 7 < 8 by omega) hk, if_true, if_false, Bool.false_eq_true, reduceIte]; rfl
  | 8, _ => simp only [no 0 (by omega) (by omega), no 1 (by omega) (by omega), no 2 (by omega) (by omega), no 3 (by omega) (by omega), no 4 (by omega) (by omega), no 5 (by omega) (by omega), no 6 (by omega) (by omega), no 7 (by omega) (by omega), if_true, if_false, Bool.false_eq_true, reduceIte]; rfl
end Mn
end
section
/-! THE MODEL'S LINES, exactly -/
/-- the model when the token at p has been read -/
def ml (B : Nat → Int32) (m : Mm) (p : Nat) (va wr : Int32) : Mm := pm m (lx B p).2.2 (lx B p).2.1 (soX B (lx B p).2.1) (vaX B (lx B p).2.1 (lx B p).2.2 va) (if (lx B p).1 = 4 then 1 else 0) (if (lx B p).1 = 4 then nI (lx B p).2.1 else wr)
theorem lx_va {B : Nat → Int32} {n : Nat} (hB : Tp B n) {p : Nat} (hp : p ≤ n) (h : (lx B p).1 = 2) (va : Int32) : vaX B (lx B p).2.1 (lx B p).2.2 va = vq B (lx B p).2.1 (lx B p).2.2 := by
  obtain ⟨n1, n2, n3⟩ := lx_2 hB hp h
  unfold vaX
  rw [if_pos (n3 _ (Nat.le_refl _) n1)]
section Ml
variable {B : Nat → Int32} {n : Nat} (wS : List Value → Mm → Option Rs) (d : Nat) {m : Mm}
theorem t_tkL (hB : Tp B n) (hm : TM B n m) {p : Nat} (hp : p ≤ n) (fr : Nat) (so va wr : Int32) : semZ shP wS (d + 2) 113 [.ref 68] (pm m p fr so va 0 wr) = some (none, ml B m p va wr) := t_takesX wS d hB hm hp fr so va wr
theorem t_rdF {fa : Int32} (hf : 0 < fa) (ps fr : Nat) (so va wr lo hi : Int32) (m : Mm) : semZ shP wS (d + 2) 114 [.ref 68, .int lo, .int hi] (pm m ps fr so va fa wr) = some (some (.int 0), pm m ps fr so va fa wr) := by
  have h0 : ¬ fa = 0 := fun z => by rw [z] at hf; exact absurd hf (by decide)
  rw [se_X7_readNumber, r_X7_readNumber_0]
  simp only [EV, LV, CB, OI, OL, NP, CZ, popN, CT, OZ, List.map_nil, List.map_cons, List.sum_nil, List.sum_cons, Option.toList, List.nil_append, List.cons_append, Int.reduceToNat, Nat.reduceAdd, Nat.reduceLT, Nat.reduceLeDiff, List.length_cons, List.length_nil, Nat.zero_add, if_true, if_false, reduceIte, and_self, and_true, true_and, eq_self, reduceCtorEq, C68, G68, h0, not_false_eq_true, r_X7_readNumber_25, r_X7_readNumber_49, r_X7_readNumber_63, t_takes_f wS d m ps fr so va fa wr hf]
theorem t_rdX (hB : Tp B n) (hm : TM B n m) {p : Nat} (hp : p ≤ n) (va wr : Int32) {lo hi : Int32} {z : Bool} (hz : (lo = 0 ∧ z = false) ∨ (lo = 1 ∧ z = true)) : semZ shP wS (d + 3) 114 [.ref 68, .int lo, .int hi] (ml B m p va wr) = (match num1 B hi z p with
    | .inl x => some (some (.int 0), pm m (lx B p).2.2 (lx B p).2.1 (soX B (lx B p).2.1) (vaX B (lx B p).2.1 (lx B p).2.2 va) x.1 (nI x.2))
    | .inr y => some (some (.int y.1), ml B m y.2 y.1 wr)) := by
  have hb := lx_b hB hp
  have e10 : ¬ (1 : Int32) = 0 := by decide
  have e20 : ¬ (2 : Int32) = 0 := by decide
  have e30 : ¬ (3 : Int32) = 0 := by decide
  unfold num1
  by_cases h4 : (lx B p).1 = 4
  · have h2 : ¬ (lx B p).1 = 2 := by omega
    rw [if_neg h2]
    unfold ml
    rw [if_pos h4, if_pos h4]
    have := t_rdF wS (d + 1) (fa := 1) (by decide) (lx B p).2.2 (lx B p).2.1 (soX B (lx B p).2.1) (vaX B (lx B p).2.1 (lx B p).2.2 va) (nI (lx B p).2.1) lo hi m
    rw [show bad (lx B p).1 = 1 from by rw [h4]; rfl]
    exact this
  · have so := lx_so h4
    have f1 : ∀ (fa' wr' : Int32), 0 < fa' → semZ shP wS (d + 2) 113 [.ref 68] (pm m (lx B p).2.2 (lx B p).2.1 (soX B (lx B p).2.1) (vaX B (lx B p).2.1 (lx B p).2.2 va) fa' wr') = some (none, pm m (lx B p).2.2 (lx B p).2.1 (soX B (lx B p).2.1) (vaX B (lx B p).2.1 (lx B p).2.2 va) fa' wr') := fun fa' wr' h => t_takes_f wS (d + 1) m _ _ _ _ _ _ h
    unfold ml
    rw [if_neg h4, if_neg h4, se_X7_readNumber, r_X7_readNumber_0]
    by_cases h2 : (lx B p).1 = 2
    · rw [if_pos h2]
      obtain ⟨n1, n2, n3⟩ := lx_2 hB hp h2
      have vb := vq_nn n1 n2 n3
      have ev := lx_va hB hp h2 va
      rw [h2] at so
      have so2 : soX B (lx B p).2.1 = 2 := so
      rw [ev, so2] at *
      have dd := dec64 (vq B (lx B p).2.1 (lx B p).2.2) lo hi lo.toInt64 hi.toInt64 rfl rfl
      generalize vq B (lx B p).2.1 (lx B p).2.2 = v at *
      have tk := t_tkL wS d hB hm hb.2.2.1 (lx B p).2.1 2 v wr
      by_cases c : hi < v ∨ (z = true ∧ v = 0)
      · have cd : (decide (lo ≤ v) && decide (v ≤ hi)) = false := by
          cases q : (decide (lo ≤ v) && decide (v ≤ hi)) with
          | false => rfl
          | true =>
            simp only [Bool.and_eq_true, decide_eq_true_eq] at q
            rcases c with c | ⟨c1, c2⟩
            · exact absurd q.2 (Int32.not_le.mpr c)
            · rcases hz with ⟨_, hz⟩ | ⟨hz, _⟩
              · rw [hz] at c1; cases c1
              · rw [hz, c2] at q
                exact absurd q.1 (by decide)
        rw [cd] at dd
        rw [if_pos c]
        have f3 := t_takes_f wS (d + 1) m (lx B p).2.2 (lx B p).2.1 2 v 3 (nI (lx B p).2.1) (by decide)
        simp only [EV, LV, CB, OI, OL, NP, CZ, popN, CT, OZ, List.map_nil, List.map_cons, List.sum_nil, List.sum_cons, Option.toList, List.nil_append, List.cons_append, Int.reduceToNat, Nat.reduceAdd, Nat.reduceLT, Nat.reduceLeDiff, List.length_cons, List.length_nil, Nat.zero_add, if_true, if_false, reduceIte, and_self, and_true, true_and, eq_self, reduceCtorEq, C68, G68, not_true_eq_false, not_false_eq_true, r_X7_readNumber_21, t_needs wS (d + 1), e10, false_and, t_in wS (d + 1), dd, bI_f, e30, r_X7_readNumber_63, f3]
      · have cd : (decide (lo ≤ v) && decide (v ≤ hi)) = true := by
          have q1 : v ≤ hi := Int32.not_lt.mp (fun q => c (Or.inl q))
          have q2 : lo ≤ v := by
            rcases hz with ⟨hz, _⟩ | ⟨hz, hz2⟩
            · rw [hz, Int32.le_iff_toInt_le, show (0 : Int32).toInt = 0 from by decide]
              exact vb.1
            · have v0 : ¬ v = 0 := fun q => c (Or.inr ⟨hz2, q⟩)
              have : v.toInt ≠ 0 := fun q => v0 (Int32.toInt_inj.mp (by rw [q]; decide))
              rw [hz, Int32.le_iff_toInt_le, show (1 : Int32).toInt = 1 from by decide]
              omega
          simp only [q1, q2, decide_true, Bool.and_self]
        rw [cd] at dd
        rw [if_neg c]
        simp only [EV, LV, CB, OI, OL, NP, CZ, popN, CT, OZ, List.map_nil, List.map_cons, List.sum_nil, List.sum_cons, Option.toList, List.nil_append, List.cons_append, Int.reduceToNat, Nat.reduceAdd, Nat.reduceLT, Nat.reduceLeDiff, List.length_cons, List.length_nil, Nat.zero_add, if_true, if_false, reduceIte, and_self, and_true, true_and, eq_self, reduceCtorEq, C68, G68, not_true_eq_false, not_false_eq_true, r_X7_readNumber_21, t_needs wS (d + 1), e10, false_and, t_in wS (d + 1), dd, bI_t, r_X7_readNumber_64, tk]
        rfl
    · rw [if_neg h2]
      have n2 : ¬ soX B (lx B p).2.1 = 2 := by
        rw [so]
        exact fun q => h2 ((nI_eq (b := 2) (by omega) (by omega)).mp q)
      have bd : bad (lx B p).1 = 2 := by
        unfold bad
        rw [if_neg h4]
      rw [bd]
      simp only [EV, LV, CB, OI, OL, NP, CZ, popN, CT, OZ, List.map_nil, List.map_cons, List.sum_nil, List.sum_cons, Option.toList, List.nil_append, List.cons_append, Int.reduceToNat, Nat.reduceAdd, Nat.reduceLT, Nat.reduceLeDiff, List.length_cons, List.length_nil, Nat.zero_add, if_true, if_false, reduceIte, and_self, and_true, true_and, eq_self, reduceCtorEq, C68, G68, not_true_eq_false, not_false_eq_true, n2, r_X7_readNumber_20, t_needs wS (d + 1), e20, r_X7_readNumber_49, r_X7_readNumber_63, f1 2 _ (by decide)]
end Ml
/-- what the model's lines may change -/
def FrM (m m' : Mm) : Prop := (∀ o, o ≠ 72 → o ≠ 68 → m'.1 o = m.1 o) ∧ ∀ j, j ≠ 5 → j ≠ 6 → j ≠ 7 → m'.1 68 j = m.1 68 j
theorem FrM_rf {m : Mm} : FrM m m := ⟨fun _ _ _ => rfl, fun _ _ _ _ => rfl⟩
theorem FrM_d {m m' : Mm} (h : FrM m m') (j : Nat) (x : Int32) : FrM m (wI m' 72 j x) := ⟨fun o h1 h2 => by rw [wI_n _ _ _ _ h1]; exact h.1 o h1 h2, fun j h1 h2 h3 => by rw [wI_o _ _ _ _ _ (by omega)]; exact h.2 j h1 h2 h3⟩
theorem FrM_e {m m' : Mm} (h : FrM m m') {j : Nat} (hj : j = 5 ∨ j = 6 ∨ j = 7) (x : Int32) : FrM m (wI m' 68 j x) := ⟨fun o h1 h2 => by rw [wI_n _ _ _ _ h2]; exact h.1 o h1 h2, fun i h1 h2 h3 => by rw [wI_j _ _ _ _ _ (by omega)]; exact h.2 i h1 h2 h3⟩
theorem FrM_tr {m m1 m2 : Mm} (h : FrM m m1) (h2 : FrM m1 m2) : FrM m m2 := ⟨fun o h3 h4 => (h2.1 o h3 h4).trans (h.1 o h3 h4), fun j h3 h4 h5 => (h2.2 j h3 h4 h5).trans (h.2 j h3 h4 h5)⟩
theorem TM_fr {B : Nat → Int32} {n : Nat} {m m' : Mm} (h : TM B n m) (hf : FrM m m') : TM B n m' := ⟨by rw [hf.2 9 (by omega) (by omega) (by omega)]; exact h.1, fun j hj => by rw [hf.1 73 (by omega) (by omega)]; exact h.2 j hj⟩
def FltM (m M : Mm) (x : Flt) : Prop := ∃ (m' : Mm) (ps fr : Nat) (so va : Int32), M = pm m' ps fr so va x.1 (nI x.2) ∧ FrM m m'
/-- the highest village of a body -/
def Hig (H : Int32) (f : Nat → Int32) (N : Nat) : Prop := (∀ b, b < N → f (8 + 5 * b + 1) ≤ H) ∧ (H = -4 ∨ ∃ b, b < N ∧ H = f (8 + 5 * b + 1))
def MT (V N : Nat) (f : Nat → Int32) (c : Nat) (m : Mm) : Prop := m.1 72 = f ∧ m.1 68 5 = nI V ∧ f 38 = nI N ∧ m.1 68 6 = tlV c ∧ Hig (m.1 68 7) f N ∧ V ≤ 4 ∧ N ≤ 6 ∧ c < 8
theorem pm_at (m : Mm) (ps fr : Nat) (so va fa wr : Int32) {o : Nat} (h : o ≠ 68) : (pm m ps fr so va fa wr).1 o = m.1 o := setR_n _ _ h
theorem G68b (m : Mm) (ps fr : Nat) (so va fa wr : Int32) : gfI shP 704 68 (pm m ps fr so va fa wr) = some (.ref 72) ∧ gfI shP 705 68 (pm m ps fr so va fa wr) = some (.int (m.1 68 5)) ∧ gfI shP 706 68 (pm m ps fr so va fa wr) = some (.int (m.1 68 6)) ∧ gfI shP 707 68 (pm m ps fr so va fa wr) = some (.int (m.1 68 7)) ∧ (∀ x : Int32, pfI shP 705 68 (.int x) (pm m ps fr so va fa wr) = some (wI (pm m ps fr so va fa wr) 68 5 x)) ∧ (∀ x : Int32, pfI shP 706 68 (.int x) (pm m ps fr so va fa wr) = some (wI (pm m ps fr so va fa wr) 68 6 x)) ∧ (∀ x : Int32, pfI shP 707 68 (.int x) (pm m ps fr so va fa wr) = some (wI (pm m ps fr so va fa wr) 68 7 x)) := ⟨rfl, rfl, rfl, rfl, fun _ => rfl, fun _ => rfl, fun _ => rfl⟩
theorem ml_d (B : Nat → Int32) (m : Mm) (p : Nat) (va wr : Int32) (j : Nat) (x : Int32) : wI (ml B m p va wr) 72 j x = ml B (wI m 72 j x) p va wr := pm_wd m _ _ _ _ _ _ j x
theorem ml_e (B : Nat → Int32) (m : Mm) (p : Nat) (va wr : Int32) {j : Nat} (hj : j = 5 ∨ j = 6 ∨ j = 7) (x : Int32) : wI (ml B m p va wr) 68 j x = ml B (wI m 68 j x) p va wr := pm_wo m _ _ _ _ _ _ j x (by omega)
end
section
/-! the model's lines by their kinds -/
theorem wI_row (m : Mm) (o j : Nat) (x : Int32) : (wI m o j x).1 o = upd (m.1 o) j x := by
  rw [wI_R, setR_s]
theorem num1_pos {B : Nat → Int32} {hi : Int32} {z : Bool} {p : Nat} {x : Flt} (h : num1 B hi z p = .inl x) : 0 < x.1 := by
  unfold num1 at h
  split at h
  · split at h
    · cases h; exact (by decide : (0 : Int32) < 3)
    · cases h
  · cases h
    show 0 < bad _
    unfold bad
    split <;> decide
theorem Hig_u {H : Int32} {f : Nat → Int32} {N : Nat} (h : Hig H f N) {j : Nat} (x : Int32) (hj : j < 8 ∨ 38 ≤ j) (hN : N ≤ 6) : Hig H (upd f j x) N := by
  refine ⟨fun b hb => ?_, h.2.elim Or.inl (fun ⟨b, hb, e⟩ => Or.inr ⟨b, hb, ?_⟩)⟩
  · rw [upd_n _ _ (by omega)]
    exact h.1 b hb
  · rw [upd_n _ _ (by omega)]
    exact e
theorem Hig_b {H : Int32} {f : Nat → Int32} {N : Nat} (h : Hig H f N) (hN : N < 6) (k a b e : Int32) (ha : 0 ≤ a) : Hig (if H < a then a else H) (bdF f N k a b e) (N + 1) := by
  have new : bdF f N k a b e (8 + 5 * N + 1) = a := by
    unfold bdF
    rw [upd_n _ _ (by omega), upd_n _ _ (by omega), upd_n _ _ (by omega), upd_s]
  have old : ∀ q, q < N → bdF f N k a b e (8 + 5 * q + 1) = f (8 + 5 * q + 1) := fun q hq => by
    unfold bdF
    rw [upd_n _ _ (by omega), upd_n _ _ (by omega), upd_n _ _ (by omega), upd_n _ _ (by omega), upd_n _ _ (by omega)]
  by_cases c : H < a
  · rw [if_pos c]
    refine ⟨fun q hq => ?_, Or.inr ⟨N, by omega, new.symm⟩⟩
    by_cases e : q = N
    · subst e; rw [new]; exact Int32.le_refl _
    · rw [old q (by omega)]
      exact Int32.le_of_lt (Int32.lt_of_le_of_lt (h.1 q (by omega)) c)
  · rw [if_neg c]
    refine ⟨fun q hq => ?_, h.2.elim Or.inl (fun ⟨q, hq, e⟩ => Or.inr ⟨q, by omega, by rw [old q hq]; exact e⟩)⟩
    by_cases e : q = N
    · subst e; rw [new]; exact Int32.not_lt.mp c
    · rw [old q (by omega)]
      exact h.1 q (by omega)
section Mk
variable {B : Nat → Int32} {n : Nat} (wS : List Value → Mm → Option Rs) (d : Nat) {m : Mm}
theorem ix_V {V : Nat} (hV : V < 4) : (2 : Int32) * nI V + 0 = nI (2 * V) ∧ (2 : Int32) * nI V + 1 = nI (2 * V + 1) ∧ inR (nI (2 * V)) 63 = true ∧ inR (nI (2 * V + 1)) 63 = true ∧ (nI (2 * V)).toNatClampNeg = 2 * V ∧ (nI (2 * V + 1)).toNatClampNeg = 2 * V + 1 := by
  have e : (2 : Int32) * nI V = nI (2 * V) := nI_mul 2 V
  refine ⟨by rw [e]; exact nI_add (2 * V) 0, by rw [e]; exact nI_add (2 * V) 1, inR_nI (by omega) (by omega), inR_nI (by omega) (by omega), nI_clamp (by omega), nI_clamp (by omega)⟩
theorem A72m (B : Nat → Int32) (m : Mm) (p : Nat) (va wr : Int32) (i : Int32) : alI shP tb0 0 72 i (ml B m p va wr) = if inR i 63 = true then some (m.1 72 i.toNatClampNeg) else none := A72 m _ _ _ _ _ _ i
theorem S72m (B : Nat → Int32) (m : Mm) (p : Nat) (va wr : Int32) (i x : Int32) : asI shP 0 72 i x (ml B m p va wr) = if inR i 63 = true then some (ml B (wI m 72 i.toNatClampNeg x) p va wr) else none := by
  unfold ml
  rw [S72 m, pm_wd]
theorem S72p (m : Mm) (ps fr : Nat) (so va fa wr : Int32) (i x : Int32) : asI shP 0 72 i x (pm m ps fr so va fa wr) = if inR i 63 = true then some (pm (wI m 72 i.toNatClampNeg x) ps fr so va fa wr) else none := by
  rw [S72 m, pm_wd]
theorem G68m (B : Nat → Int32) (m : Mm) (p : Nat) (va wr : Int32) : gfI shP 704 68 (ml B m p va wr) = some (.ref 72) ∧ gfI shP 705 68 (ml B m p va wr) = some (.int (m.1 68 5)) ∧ gfI shP 706 68 (ml B m p va wr) = some (.int (m.1 68 6)) ∧ gfI shP 707 68 (ml B m p va wr) = some (.int (m.1 68 7)) ∧ (∀ x : Int32, pfI shP 705 68 (.int x) (ml B m p va wr) = some (ml B (wI m 68 5 x) p va wr)) ∧ (∀ x : Int32, pfI shP 706 68 (.int x) (ml B m p va wr) = some (ml B (wI m 68 6 x) p va wr)) ∧ (∀ x : Int32, pfI shP 707 68 (.int x) (ml B m p va wr) = some (ml B (wI m 68 7 x) p va wr)) := by
  obtain ⟨a1, a2, a3, a4, a5, a6, a7⟩ := G68b m (lx B p).2.2 (lx B p).2.1 (soX B (lx B p).2.1) (vaX B (lx B p).2.1 (lx B p).2.2 va) (if (lx B p).1 = 4 then 1 else 0) (if (lx B p).1 = 4 then nI (lx B p).2.1 else wr)
  refine ⟨a1, a2, a3, a4, fun x => ?_, fun x => ?_, fun x => ?_⟩
  · rw [← ml_e B m p va wr (by omega)]; exact a5 x
  · rw [← ml_e B m p va wr (by omega)]; exact a6 x
  · rw [← ml_e B m p va wr (by omega)]; exact a7 x
theorem P68p (m : Mm) (ps fr : Nat) (so va fa wr : Int32) (x : Int32) : pfI shP 705 68 (.int x) (pm m ps fr so va fa wr) = some (pm (wI m 68 5 x) ps fr so va fa wr) ∧ pfI shP 707 68 (.int x) (pm m ps fr so va fa wr) = some (pm (wI m 68 7 x) ps fr so va fa wr) := by
  obtain ⟨-, -, -, -, a5, -, a7⟩ := G68b m ps fr so va fa wr
  exact ⟨by rw [a5, pm_wo m _ _ _ _ _ _ _ _ (by omega)], by rw [a7, pm_wo m _ _ _ _ _ _ _ _ (by omega)]⟩
theorem G68g (m : Mm) (ps fr : Nat) (so va fa wr : Int32) : gfI shP 704 68 (pm m ps fr so va fa wr) = some (.ref 72) ∧ gfI shP 705 68 (pm m ps fr so va fa wr) = some (.int (m.1 68 5)) ∧ gfI shP 706 68 (pm m ps fr so va fa wr) = some (.int (m.1 68 6)) ∧ gfI shP 707 68 (pm m ps fr so va fa wr) = some (.int (m.1 68 7)) := ⟨rfl, rfl, rfl, rfl⟩
theorem sw_rlo : swT 136 4 7 #[32, 85, 102, 119] 4 = 32 ∧ swT 136 4 7 #[32, 85, 102, 119] 5 = 85 ∧ swT 136 4 7 #[32, 85, 102, 119] 6 = 102 ∧ swT 136 4 7 #[32, 85, 102, 119] 7 = 119 ∧ swT 136 4 7 #[32, 85, 102, 119] 0 = 136 ∧ swT 136 4 7 #[32, 85, 102, 119] 1 = 136 ∧ swT 136 4 7 #[32, 85, 102, 119] 2 = 136 ∧ swT 136 4 7 #[32, 85, 102, 119] 3 = 136 := by decide +kernel
theorem m_liV (hB : Tp B n) (hm : TM B n m) {V : Nat} (hV : V < 4) (h5 : m.1 68 5 = nI V) {p : Nat} (hp : p ≤ n) (va wr : Int32) : ∃ M, semZ shP wS (d + 4) 116 [.ref 68, .int 4] (ml B m p va wr) = some (none, M) ∧ (match num1 B 99 false p with
    | .inl x => FltM m M x ∧ 0 < x.1
    | .inr y => (match num1 B 9 false y.2 with
      | .inl x => FltM m M x ∧ 0 < x.1
      | .inr y2 => ∃ va', M = ml B (wI (wI (wI m 72 (2 * V) y.1) 72 (2 * V + 1) y2.1) 68 5 (nI (V + 1))) y2.2 va' wr)) := by
  obtain ⟨i1, i2, i3, i4, i5, i6⟩ := ix_V hV
  have r1 := t_rdX wS d hB hm hp va wr (lo := 0) (hi := 99) (z := false) (Or.inl ⟨rfl, rfl⟩)
  have st : semZ shP wS (d + 4) 116 [.ref 68, .int 4] (ml B m p va wr) = rn shP tb0 mN mO (semZ shP wS (d + 3)) none (codeZ 116) 32 [.ref 68, .int 4] [] (ml B m p va wr) := by
    rw [se_X7_readLineOf, r_X7_readLineOf_0]
    simp only [EV, LV, CB, OI, OL, NP, CZ, popN, CT, OZ, List.map_nil, List.map_cons, List.sum_nil, List.sum_cons, Option.toList, List.nil_append, List.cons_append, Int.reduceToNat, Nat.reduceAdd, Nat.reduceLT, Nat.reduceLeDiff, List.length_cons, List.length_nil, Nat.zero_add, if_true, if_false, reduceIte, and_self, and_true, true_and, eq_self, reduceCtorEq, sw_rlo]
  rw [st]
  cases e1 : num1 B 99 false p with
  | inl x =>
    rw [e1] at r1
    have hx := num1_pos e1
    have r2 := fun (m : Mm) => t_rdF wS (d + 1) hx (lx B p).2.2 (lx B p).2.1 (soX B (lx B p).2.1) (vaX B (lx B p).2.1 (lx B p).2.2 va) (nI x.2) 0 9 m
    refine ⟨pm (wI (wI (wI m 72 (2 * V) 0) 72 (2 * V + 1) 0) 68 5 (nI (V + 1))) (lx B p).2.2 (lx B p).2.1 (soX B (lx B p).2.1) (vaX B (lx B p).2.1 (lx B p).2.2 va) x.1 (nI x.2), ?_, ⟨_, _, _, _, _, rfl, FrM_e (FrM_d (FrM_d FrM_rf _ _) _ _) (by omega) _⟩, hx⟩
    have q5 : (wI m 72 (2 * V) 0).1 68 5 = nI V := by rw [wI_o _ _ _ _ _ (by omega)]; exact h5
    have q6 : (wI (wI m 72 (2 * V) 0) 72 (2 * V + 1) 0).1 68 5 = nI V := by rw [wI_o _ _ _ _ _ (by omega)]; exact q5
    rw [r_X7_readLineOf_32]
    simp only [EV, LV, CB, OI, OL, NP, CZ, popN, CT, OZ, List.map_nil, List.map_cons, List.sum_nil, List.sum_cons, Option.toList, List.nil_append, List.cons_append, Int.reduceToNat, Nat.reduceAdd, Nat.reduceLT, Nat.reduceLeDiff, List.length_cons, List.length_nil, Nat.zero_add, if_true, if_false, reduceIte, and_self, and_true, true_and, eq_self, reduceCtorEq, C68, G68m, h5, i1, i2, r1, S72p, i3, i4, i5, i6, G68g, q5, q6, r2, P68p, nI_1, r_X7_readLineOf_141]
  | inr y =>
    rw [e1] at r1
    have hy := num1_p hB hp e1
    have r2 := t_rdX wS d hB (TM_fr hm (FrM_d FrM_rf (2 * V) y.1)) hy.2 y.1 wr (lo := 0) (hi := 9) (z := false) (Or.inl ⟨rfl, rfl⟩)
    have q5 : (wI m 72 (2 * V) y.1).1 68 5 = nI V := by rw [wI_o _ _ _ _ _ (by omega)]; exact h5
    simp only
    cases e2 : num1 B 9 false y.2 with
    | inl x =>
      rw [e2] at r2
      have hx := num1_pos e2
      have q6 : (wI (wI m 72 (2 * V) y.1) 72 (2 * V + 1) 0).1 68 5 = nI V := by rw [wI_o _ _ _ _ _ (by omega)]; exact q5
      refine ⟨pm (wI (wI (wI m 72 (2 * V) y.1) 72 (2 * V + 1) 0) 68 5 (nI (V + 1))) (lx B y.2).2.2 (lx B y.2).2.1 (soX B (lx B y.2).2.1) (vaX B (lx B y.2).2.1 (lx B y.2).2.2 y.1) x.1 (nI x.2), ?_, ⟨_, _, _, _, _, rfl, FrM_e (FrM_d (FrM_d FrM_rf _ _) _ _) (by omega) _⟩, hx⟩
      rw [r_X7_readLineOf_32]
      simp only [EV, LV, CB, OI, OL, NP, CZ, popN, CT, OZ, List.map_nil, List.map_cons, List.sum_nil, List.sum_cons, Option.toList, List.nil_append, List.cons_append, Int.reduceToNat, Nat.reduceAdd, Nat.reduceLT, Nat.reduceLeDiff, List.length_cons, List.length_nil, Nat.zero_add, if_true, if_false, reduceIte, and_self, and_true, true_and, eq_self, reduceCtorEq, C68, G68m, h5, i1, i2, r1, S72m, S72p, i3, i4, i5, i6, G68g, q5, q6, r2, P68p, nI_1, r_X7_readLineOf_141]
    | inr y2 =>
      rw [e2] at r2
      have q6 : (wI (wI m 72 (2 * V) y.1) 72 (2 * V + 1) y2.1).1 68 5 = nI V := by rw [wI_o _ _ _ _ _ (by omega)]; exact q5
      refine ⟨ml B (wI (wI (wI m 72 (2 * V) y.1) 72 (2 * V + 1) y2.1) 68 5 (nI (V + 1))) y2.2 y2.1 wr, ?_, _, rfl⟩
      rw [r_X7_readLineOf_32]
      simp only [EV, LV, CB, OI, OL, NP, CZ, popN, CT, OZ, List.map_nil, List.map_cons, List.sum_nil, List.sum_cons, Option.toList, List.nil_append, List.cons_append, Int.reduceToNat, Nat.reduceAdd, Nat.reduceLT, Nat.reduceLeDiff, List.length_cons, List.length_nil, Nat.zero_add, if_true, if_false, reduceIte, and_self, and_true, true_and, eq_self, reduceCtorEq, C68, G68m, h5, i1, i2, r1, S72m, i3, i4, i5, i6, q5, q6, r2, nI_1, r_X7_readLineOf_141]
theorem in_cell : inR 39 63 = true ∧ inR 40 63 = true ∧ inR 41 63 = true ∧ inR 38 63 = true ∧ (39 : Int32).toNatClampNeg = 39 ∧ (40 : Int32).toNatClampNeg = 40 ∧ (41 : Int32).toNatClampNeg = 41 ∧ (38 : Int32).toNatClampNeg = 38 := by decide +kernel
/-- price, fine, round -/
theorem m_liS (hB : Tp B n) (hm : TM B n m) {k : Nat} (k5 : 5 ≤ k) (k8 : k < 8) {p : Nat} (hp : p ≤ n) (va wr : Int32) : ∃ M, semZ shP wS (d + 4) 116 [.ref 68, .int (nI k)] (ml B m p va wr) = some (none, M) ∧ (match num1 B (mst k 0) (k == 7) p with
    | .inl x => FltM m M x ∧ 0 < x.1
    | .inr y => ∃ va', M = ml B (wI m 72 (34 + k) y.1) y.2 va' wr) := by
  match k, k5, k8 with
  | 5, _, _ =>
    have r1 := t_rdX wS d hB hm hp va wr (lo := 0) (hi := 20) (z := false) (Or.inl ⟨rfl, rfl⟩)
    show ∃ M, semZ shP wS (d + 4) 116 [.ref 68, .int 5] (ml B m p va wr) = some (none, M) ∧ (match num1 B 20 false p with
      | .inl x => FltM m M x ∧ 0 < x.1
      | .inr y => ∃ va', M = ml B (wI m 72 39 y.1) y.2 va' wr)
    rw [se_X7_readLineOf, r_X7_readLineOf_0]
    cases e1 : num1 B 20 false p with
    | inl x =>
      rw [e1] at r1
      refine ⟨pm (wI m 72 39 0) (lx B p).2.2 (lx B p).2.1 (soX B (lx B p).2.1) (vaX B (lx B p).2.1 (lx B p).2.2 va) x.1 (nI x.2), ?_, ⟨_, _, _, _, _, rfl, FrM_d FrM_rf _ _⟩, num1_pos e1⟩
      simp only [EV, LV, CB, OI, OL, NP, CZ, popN, CT, OZ, List.map_nil, List.map_cons, List.sum_nil, List.sum_cons, Option.toList, List.nil_append, List.cons_append, Int.reduceToNat, Nat.reduceAdd, Nat.reduceLT, Nat.reduceLeDiff, List.length_cons, List.length_nil, Nat.zero_add, if_true, if_false, reduceIte, and_self, and_true, true_and, eq_self, reduceCtorEq, sw_rlo, r_X7_readLineOf_85, C68, G68m, r1, S72p, in_cell, r_X7_readLineOf_141]
    | inr y =>
      rw [e1] at r1
      refine ⟨ml B (wI m 72 39 y.1) y.2 y.1 wr, ?_, _, rfl⟩
      simp only [EV, LV, CB, OI, OL, NP, CZ, popN, CT, OZ, List.map_nil, List.map_cons, List.sum_nil, List.sum_cons, Option.toList, List.nil_append, List.cons_append, Int.reduceToNat, Nat.reduceAdd, Nat.reduceLT, Nat.reduceLeDiff, List.length_cons, List.length_nil, Nat.zero_add, if_true, if_false, reduceIte, and_self, and_true, true_and, eq_self, reduceCtorEq, sw_rlo, r_X7_readLineOf_85, C68, G68m, r1, S72m, in_cell, r_X7_readLineOf_141]
  | 6, _, _ =>
    have r1 := t_rdX wS d hB hm hp va wr (lo := 0) (hi := 60) (z := false) (Or.inl ⟨rfl, rfl⟩)
    show ∃ M, semZ shP wS (d + 4) 116 [.ref 68, .int 6] (ml B m p va wr) = some (none, M) ∧ (match num1 B 60 false p with
      | .inl x => FltM m M x ∧ 0 < x.1
      | .inr y => ∃ va', M = ml B (wI m 72 40 y.1) y.2 va' wr)
    rw [se_X7_readLineOf, r_X7_readLineOf_0]
    cases e1 : num1 B 60 false p with
    | inl x =>
      rw [e1] at r1
      refine ⟨pm (wI m 72 40 0) (lx B p).2.2 (lx B p).2.1 (soX B (lx B p).2.1) (vaX B (lx B p).2.1 (lx B p).2.2 va) x.1 (nI x.2), ?_, ⟨_, _, _, _, _, rfl, FrM_d FrM_rf _ _⟩, num1_pos e1⟩
      simp only [EV, LV, CB, OI, OL, NP, CZ, popN, CT, OZ, List.map_nil, List.map_cons, List.sum_nil, List.sum_cons, Option.toList, List.nil_append, List.cons_append, Int.reduceToNat, Nat.reduceAdd, Nat.reduceLT, Nat.reduceLeDiff, List.length_cons, List.length_nil, Nat.zero_add, if_true, if_false, reduceIte, and_self, and_true, true_and, eq_self, reduceCtorEq, sw_rlo, r_X7_readLineOf_102, C68, G68m, r1, S72p, in_cell, r_X7_readLineOf_141]
    | inr y =>
      rw [e1] at r1
      refine ⟨ml B (wI m 72 40 y.1) y.2 y.1 wr, ?_, _, rfl⟩
      simp only [EV, LV, CB, OI, OL, NP, CZ, popN, CT, OZ, List.map_nil, List.map_cons, List.sum_nil, List.sum_cons, Option.toList, List.nil_append, List.cons_append, Int.reduceToNat, Nat.reduceAdd, Nat.reduceLT, Nat.reduceLeDiff, List.length_cons, List.length_nil, Nat.zero_add, if_true, if_false, reduceIte, and_self, and_true, true_and, eq_self, reduceCtorEq, sw_rlo, r_X7_readLineOf_102, C68, G68m, r1, S72m, in_cell, r_X7_readLineOf_141]
  | 7, _, _ =>
    have r1 := t_rdX wS d hB hm hp va wr (lo := 1) (hi := 9) (z := true) (Or.inr ⟨rfl, rfl⟩)
    show ∃ M, semZ shP wS (d + 4) 116 [.ref 68, .int 7] (ml B m p va wr) = some (none, M) ∧ (match num1 B 9 true p with
      | .inl x => FltM m M x ∧ 0 < x.1
      | .inr y => ∃ va', M = ml B (wI m 72 41 y.1) y.2 va' wr)
    rw [se_X7_readLineOf, r_X7_readLineOf_0]
    cases e1 : num1 B 9 true p with
    | inl x =>
      rw [e1] at r1
      refine ⟨pm (wI m 72 41 0) (lx B p).2.2 (lx B p).2.1 (soX B (lx B p).2.1) (vaX B (lx B p).2.1 (lx B p).2.2 va) x.1 (nI x.2), ?_, ⟨_, _, _, _, _, rfl, FrM_d FrM_rf _ _⟩, num1_pos e1⟩
      simp only [EV, LV, CB, OI, OL, NP, CZ, popN, CT, OZ, List.map_nil, List.map_cons, List.sum_nil, List.sum_cons, Option.toList, List.nil_append, List.cons_append, Int.reduceToNat, Nat.reduceAdd, Nat.reduceLT, Nat.reduceLeDiff, List.length_cons, List.length_nil, Nat.zero_add, if_true, if_false, reduceIte, and_self, and_true, true_and, eq_self, reduceCtorEq, sw_rlo, r_X7_readLineOf_119, C68, G68m, r1, S72p, in_cell, r_X7_readLineOf_141]
    | inr y =>
      rw [e1] at r1
      refine ⟨ml B (wI m 72 41 y.1) y.2 y.1 wr, ?_, _, rfl⟩
      simp only [EV, LV, CB, OI, OL, NP, CZ, popN, CT, OZ, List.map_nil, List.map_cons, List.sum_nil, List.sum_cons, Option.toList, List.nil_append, List.cons_append, Int.reduceToNat, Nat.reduceAdd, Nat.reduceLT, Nat.reduceLeDiff, List.length_cons, List.length_nil, Nat.zero_add, if_true, if_false, reduceIte, and_self, and_true, true_and, eq_self, reduceCtorEq, sw_rlo, r_X7_readLineOf_119, C68, G68m, r1, S72m, in_cell, r_X7_readLineOf_141]
end Mk
end
section
/-! a body's line of the model; the stop -/
abbrev P6 : Type := Nat × Nat × Int32 × Int32 × Int32 × Int32
def pmP (m : Mm) (P : P6) : Mm := pm m P.1 P.2.1 P.2.2.1 P.2.2.2.1 P.2.2.2.2.1 P.2.2.2.2.2
def lexP (B : Nat → Int32) (p : Nat) (va wr : Int32) : P6 := ((lx B p).2.2, (lx B p).2.1, soX B (lx B p).2.1, vaX B (lx B p).2.1 (lx B p).2.2 va, if (lx B p).1 = 4 then 1 else 0, if (lx B p).1 = 4 then nI (lx B p).2.1 else wr)
theorem ml_P (B : Nat → Int32) (m : Mm) (p : Nat) (va wr : Int32) : ml B m p va wr = pmP m (lexP B p va wr) := rfl
def FltP (P : P6) (x : Flt) : Prop := P.2.2.2.2.1 = x.1 ∧ P.2.2.2.2.2 = nI x.2 ∧ 0 < x.1
theorem FltM_P {m m' : Mm} {P : P6} {x : Flt} (h : FltP P x) (hf : FrM m m') : FltM m (pmP m' P) x := by
  obtain ⟨ps, fr, so, va, fa, wr⟩ := P
  obtain ⟨h1, h2, h3⟩ := h
  have h1 : fa = x.1 := h1
  have h2 : wr = nI x.2 := h2
  subst h1 h2
  exact ⟨m', ps, fr, so, va, rfl, hf⟩
def RD (wS : List Value → Mm → Option Rs) (d : Nat) (B : Nat → Int32) (n : Nat) (lo hi : Int32) (P : P6) (v : Int32) (P' : P6) : Prop := ∀ m, TM B n m → semZ shP wS (d + 3) 114 [.ref 68, .int lo, .int hi] (pmP m P) = some (some (.int v), pmP m P')
section Mb
variable {B : Nat → Int32} {n : Nat} (wS : List Value → Mm → Option Rs) (d : Nat) {m : Mm}
theorem rd_ml (hB : Tp B n) {p : Nat} (hp : p ≤ n) (va wr : Int32) {lo hi : Int32} {z : Bool} (hz : (lo = 0 ∧ z = false) ∨ (lo = 1 ∧ z = true)) : match num1 B hi z p with
    | .inl x => ∃ P', RD wS d B n lo hi (lexP B p va wr) 0 P' ∧ FltP P' x
    | .inr y => RD wS d B n lo hi (lexP B p va wr) y.1 (lexP B y.2 y.1 wr) := by
  cases e : num1 B hi z p with
  | inl x =>
    refine ⟨((lx B p).2.2, (lx B p).2.1, soX B (lx B p).2.1, vaX B (lx B p).2.1 (lx B p).2.2 va, x.1, nI x.2), fun m hm => ?_, rfl, rfl, num1_pos e⟩
    have := t_rdX wS d hB hm hp va wr hz (hi := hi)
    rw [e] at this
    exact this
  | inr y =>
    intro m hm
    have := t_rdX wS d hB hm hp va wr hz (hi := hi)
    rw [e] at this
    exact this
theorem rd_flt {P : P6} {x : Flt} (h : FltP P x) (lo hi : Int32) : RD wS d B n lo hi P 0 P := fun m _ => t_rdF wS (d + 1) (by rw [h.1]; exact h.2.2) _ _ _ _ _ lo hi m
theorem AP72 (m : Mm) (P : P6) (i : Int32) : alI shP tb0 0 72 i (pmP m P) = if inR i 63 = true then some (m.1 72 i.toNatClampNeg) else none := A72 m _ _ _ _ _ _ i
theorem SP72 (m : Mm) (P : P6) (i x : Int32) : asI shP 0 72 i x (pmP m P) = if inR i 63 = true then some (pmP (wI m 72 i.toNatClampNeg x) P) else none := S72p m _ _ _ _ _ _ i x
theorem GP68 (m : Mm) (P : P6) : gfI shP 704 68 (pmP m P) = some (.ref 72) ∧ gfI shP 705 68 (pmP m P) = some (.int (m.1 68 5)) ∧ gfI shP 706 68 (pmP m P) = some (.int (m.1 68 6)) ∧ gfI shP 707 68 (pmP m P) = some (.int (m.1 68 7)) ∧ gfI shP 712 68 (pmP m P) = some (.int P.2.2.1) ∧ gfI shP 714 68 (pmP m P) = some (.int P.2.2.2.2.1) := ⟨rfl, rfl, rfl, rfl, (G68 m _ _ _ _ _ _).2.2.1, (G68 m _ _ _ _ _ _).2.2.2.2.1⟩
theorem PP68 (m : Mm) (P : P6) (x : Int32) : pfI shP 707 68 (.int x) (pmP m P) = some (pmP (wI m 68 7 x) P) ∧ pfI shP 706 68 (.int x) (pmP m P) = some (pmP (wI m 68 6 x) P) := ⟨(P68p m _ _ _ _ _ _ x).2, by
  obtain ⟨-, -, -, -, -, a6, -⟩ := G68b m P.1 P.2.1 P.2.2.1 P.2.2.2.1 P.2.2.2.2.1 P.2.2.2.2.2
  show pfI shP 706 68 (.int x) (pm m _ _ _ _ _ _) = _
  rw [a6, pm_wo m _ _ _ _ _ _ _ _ (by omega)]
  rfl⟩
def hv (a H : Int32) : Int32 := if a ≤ H then H else a
theorem ix_B {N : Nat} (hN : N < 6) : (8 : Int32) + 5 * nI N = nI (8 + 5 * N) ∧ (∀ i, i < 5 → nI (8 + 5 * N) + nI i = nI (8 + 5 * N + i) ∧ inR (nI (8 + 5 * N + i)) 63 = true ∧ (nI (8 + 5 * N + i)).toNatClampNeg = 8 + 5 * N + i) := by
  refine ⟨?_, fun i hi => ⟨nI_add _ _, inR_nI (by omega) (by omega), nI_clamp (by omega)⟩⟩
  rw [← nI_add, ← nI_mul]
  rfl
theorem t_rbX {N : Nat} (hm : TM B n m) (hN : N < 6) (h38 : m.1 72 38 = nI N) {P P1 P2 P3 : P6} {k v1 v2 v3 : Int32} (r1 : RD wS d B n 0 3 P v1 P1) (r2 : RD wS d B n 0 9 P1 v2 P2) (r3 : RD wS d B n 0 9 P2 v3 P3) : semZ shP wS (d + 4) 115 [.ref 68, .int k] (pmP m P) = some (none, pmP (wI (wI (wI (wI (wI (wI m 72 (8 + 5 * N) k) 72 (8 + 5 * N + 1) v1) 68 7 (hv v1 (m.1 68 7))) 72 (8 + 5 * N + 2) v2) 72 (8 + 5 * N + 3) v3) 72 38 (nI (N + 1))) P3) := by
  obtain ⟨x0, xi⟩ := ix_B hN
  have i0 := xi 0 (by omega)
  have i1 := xi 1 (by omega)
  have i2 := xi 2 (by omega)
  have i3 := xi 3 (by omega)
  have j0 : nI (8 + 5 * N) + 0 = nI (8 + 5 * N) := i0.1
  have k0 : inR (nI (8 + 5 * N)) 63 = true ∧ (nI (8 + 5 * N)).toNatClampNeg = 8 + 5 * N := i0.2
  have j1 : nI (8 + 5 * N) + 1 = nI (8 + 5 * N + 1) := i1.1
  have j2 : nI (8 + 5 * N) + 2 = nI (8 + 5 * N + 2) := i2.1
  have j3 : nI (8 + 5 * N) + 3 = nI (8 + 5 * N + 3) := i3.1
  obtain ⟨m1, e1⟩ : ∃ M, M = wI m 72 (8 + 5 * N) k := ⟨_, rfl⟩
  obtain ⟨m2, e2⟩ : ∃ M, M = wI m1 72 (8 + 5 * N + 1) v1 := ⟨_, rfl⟩
  obtain ⟨m3, e3⟩ : ∃ M, M = wI m2 68 7 (hv v1 (m.1 68 7)) := ⟨_, rfl⟩
  obtain ⟨m4, e4⟩ : ∃ M, M = wI m3 72 (8 + 5 * N + 2) v2 := ⟨_, rfl⟩
  obtain ⟨m5, e5⟩ : ∃ M, M = wI m4 72 (8 + 5 * N + 3) v3 := ⟨_, rfl⟩
  have t1 : TM B n m1 := by rw [e1]; exact TM_fr hm (FrM_d FrM_rf _ _)
  have t3 : TM B n m3 := by rw [e3, e2]; exact TM_fr t1 (FrM_e (FrM_d FrM_rf _ _) (by omega) _)
  have t4 : TM B n m4 := by rw [e4]; exact TM_fr t3 (FrM_d FrM_rf _ _)
  have c1 := r1 m1 t1
  have c2 := r2 m3 t3
  have c3 := r3 m4 t4
  have a1 : m2.1 72 (8 + 5 * N + 1) = v1 := by rw [e2, wI_s]
  have a7 : m2.1 68 7 = m.1 68 7 := by rw [e2, e1, wI_o _ _ _ _ _ (by omega), wI_o _ _ _ _ _ (by omega)]
  have a38 : m5.1 72 38 = nI N := by
    rw [e5, wI_j _ _ _ _ _ (by omega), e4, wI_j _ _ _ _ _ (by omega), e3, wI_o _ _ _ _ _ (by omega), e2, wI_j _ _ _ _ _ (by omega), e1, wI_j _ _ _ _ _ (by omega)]
    exact h38
  rw [← e1, ← e2, ← e3, ← e4, ← e5, se_X7_readBody, r_X7_readBody_0]
  by_cases c : v1 ≤ m.1 68 7
  · have e3' : wI m2 68 7 (m.1 68 7) = m3 := by
      rw [e3]
      unfold hv
      rw [if_pos c]
    simp only [EV, LV, CB, OI, OL, NP, CZ, popN, CT, OZ, List.map_nil, List.map_cons, List.sum_nil, List.sum_cons, Option.toList, List.nil_append, List.cons_append, Int.reduceToNat, Nat.reduceAdd, Nat.reduceLT, Nat.reduceLeDiff, List.length_cons, List.length_nil, Nat.zero_add, if_true, if_false, reduceIte, and_self, and_true, true_and, eq_self, reduceCtorEq, C68, GP68, AP72, SP72, in_cell, h38, x0, j0, k0, ← e1, j1, c1, i1.2, ← e2, a1, a7, c, r_X7_readBody_63, PP68, e3', j2, c2, i2.2, ← e4, j3, c3, i3.2, ← e5, a38, nI_1]
  · have e3' : wI m2 68 7 v1 = m3 := by
      rw [e3]
      unfold hv
      rw [if_neg c]
    simp only [EV, LV, CB, OI, OL, NP, CZ, popN, CT, OZ, List.map_nil, List.map_cons, List.sum_nil, List.sum_cons, Option.toList, List.nil_append, List.cons_append, Int.reduceToNat, Nat.reduceAdd, Nat.reduceLT, Nat.reduceLeDiff, List.length_cons, List.length_nil, Nat.zero_add, if_true, if_false, reduceIte, and_self, and_true, true_and, eq_self, reduceCtorEq, C68, GP68, AP72, SP72, in_cell, h38, x0, j0, k0, ← e1, j1, c1, i1.2, ← e2, a1, a7, c, r_X7_readBody_67, PP68, e3', j2, c2, i2.2, ← e4, j3, c3, i3.2, ← e5, a38, nI_1]
/-- the memory behind a body's line -/
def rbM (m : Mm) (N : Nat) (k v1 v2 v3 : Int32) : Mm := wI (wI (wI (wI (wI (wI m 72 (8 + 5 * N) k) 72 (8 + 5 * N + 1) v1) 68 7 (hv v1 (m.1 68 7))) 72 (8 + 5 * N + 2) v2) 72 (8 + 5 * N + 3) v3) 72 38 (nI (N + 1))
theorem rbM_fr (m : Mm) (N : Nat) (k v1 v2 v3 : Int32) : FrM m (rbM m N k v1 v2 v3) := FrM_d (FrM_d (FrM_d (FrM_e (FrM_d (FrM_d FrM_rf _ _) _ _) (by omega) _) _ _) _ _) _ _
theorem rbM_72 (m : Mm) (N : Nat) (k v1 v2 v3 : Int32) : (rbM m N k v1 v2 v3).1 72 = bdF (m.1 72) N k v1 v2 v3 := by
  unfold rbM bdF
  rw [wI_row, wI_row, wI_row, wI_n _ _ _ _ (by omega), wI_row, wI_row]
theorem rbM_68 (m : Mm) (N : Nat) (k v1 v2 v3 : Int32) : (rbM m N k v1 v2 v3).1 68 7 = hv v1 (m.1 68 7) ∧ (rbM m N k v1 v2 v3).1 68 5 = m.1 68 5 ∧ (rbM m N k v1 v2 v3).1 68 6 = m.1 68 6 := by
  unfold rbM
  refine ⟨?_, ?_, ?_⟩
  · rw [wI_o _ _ _ _ _ (by omega), wI_o _ _ _ _ _ (by omega), wI_o _ _ _ _ _ (by omega), wI_s]
  · rw [wI_o _ _ _ _ _ (by omega), wI_o _ _ _ _ _ (by omega), wI_o _ _ _ _ _ (by omega), wI_j _ _ _ _ _ (by omega), wI_o _ _ _ _ _ (by omega), wI_o _ _ _ _ _ (by omega)]
  · rw [wI_o _ _ _ _ _ (by omega), wI_o _ _ _ _ _ (by omega), wI_o _ _ _ _ _ (by omega), wI_j _ _ _ _ _ (by omega), wI_o _ _ _ _ _ (by omega), wI_o _ _ _ _ _ (by omega)]
theorem sw_k {k : Nat} (hk : k < 4) : swT 136 4 7 #[32, 85, 102, 119] (nI k) = 136 := by
  match k, hk with
  | 0, _ => exact sw_rlo.2.2.2.2.1
  | 1, _ => exact sw_rlo.2.2.2.2.2.1
  | 2, _ => exact sw_rlo.2.2.2.2.2.2.1
  | 3, _ => exact sw_rlo.2.2.2.2.2.2.2
theorem m_liB (hB : Tp B n) (hm : TM B n m) {N : Nat} (hN : N < 6) (h38 : m.1 72 38 = nI N) {k : Nat} (hk : k < 4) {p : Nat} (hp : p ≤ n) (va wr : Int32) : ∃ M, semZ shP wS (d + 5) 116 [.ref 68, .int (nI k)] (ml B m p va wr) = some (none, M) ∧ (match num1 B 3 false p with
    | .inl x => FltM m M x ∧ 0 < x.1
    | .inr y => (match num1 B 9 false y.2 with
      | .inl x => FltM m M x ∧ 0 < x.1
      | .inr y2 => (match num1 B 9 false y2.2 with
        | .inl x => FltM m M x ∧ 0 < x.1
        | .inr y3 => ∃ va', M = ml B (rbM m N (nI k) y.1 y2.1 y3.1) y3.2 va' wr))) := by
  rw [ml_P]
  have st : ∀ M, semZ shP wS (d + 4) 115 [.ref 68, .int (nI k)] (pmP m (lexP B p va wr)) = some (none, M) → semZ shP wS (d + 5) 116 [.ref 68, .int (nI k)] (pmP m (lexP B p va wr)) = some (none, M) := by
    intro M h
    rw [se_X7_readLineOf, r_X7_readLineOf_0]
    simp only [EV, LV, CB, OI, OL, NP, CZ, popN, CT, OZ, List.map_nil, List.map_cons, List.sum_nil, List.sum_cons, Option.toList, List.nil_append, List.cons_append, Int.reduceToNat, Nat.reduceAdd, Nat.reduceLT, Nat.reduceLeDiff, List.length_cons, List.length_nil, Nat.zero_add, if_true, if_false, reduceIte, and_self, and_true, true_and, eq_self, reduceCtorEq, sw_k hk, r_X7_readLineOf_136, C68, h]
  have q1 := rd_ml wS d hB hp va wr (lo := 0) (hi := 3) (z := false) (Or.inl ⟨rfl, rfl⟩)
  cases e1 : num1 B 3 false p with
  | inl x =>
    rw [e1] at q1
    obtain ⟨P1, r1, f1⟩ := q1
    exact ⟨_, st _ (t_rbX wS d hm hN h38 r1 (rd_flt wS d f1 0 9) (rd_flt wS d f1 0 9)), FltM_P f1 (rbM_fr _ _ _ _ _ _), f1.2.2⟩
  | inr y =>
    rw [e1] at q1
    have hy := num1_p hB hp e1
    have q2 := rd_ml wS d hB hy.2 y.1 wr (lo := 0) (hi := 9) (z := false) (Or.inl ⟨rfl, rfl⟩)
    simp only
    cases e2 : num1 B 9 false y.2 with
    | inl x =>
      rw [e2] at q2
      obtain ⟨P1, r1, f1⟩ := q2
      exact ⟨_, st _ (t_rbX wS d hm hN h38 q1 r1 (rd_flt wS d f1 0 9)), FltM_P f1 (rbM_fr _ _ _ _ _ _), f1.2.2⟩
    | inr y2 =>
      rw [e2] at q2
      have hy2 := num1_p hB hy.2 e2
      have q3 := rd_ml wS d hB hy2.2 y2.1 wr (lo := 0) (hi := 9) (z := false) (Or.inl ⟨rfl, rfl⟩)
      simp only
      cases e3 : num1 B 9 false y2.2 with
      | inl x =>
        rw [e3] at q3
        obtain ⟨P1, r1, f1⟩ := q3
        exact ⟨_, st _ (t_rbX wS d hm hN h38 q1 q2 r1), FltM_P f1 (rbM_fr _ _ _ _ _ _), f1.2.2⟩
      | inr y3 =>
        rw [e3] at q3
        exact ⟨_, st _ (t_rbX wS d hm hN h38 q1 q2 q3), _, rfl⟩
/-- behind the numbers -/
theorem t_ndP (P : P6) (m : Mm) (g c : Int32) : semZ shP wS (d + 1) 107 [.ref 68, .int g, .int c] (pmP m P) = some (none, if g = 0 ∧ P.2.2.2.2.1 = 0 then pmP m (P.1, P.2.1, P.2.2.1, P.2.2.2.1, c, nI P.2.1) else pmP m P) := t_needs wS d m P.2.1 P.2.2.1 P.2.2.2.1 P.2.2.2.2.1 P.2.2.2.2.2 P.1 g c
theorem t_tkF {P : P6} (h : 0 < P.2.2.2.2.1) (m : Mm) : semZ shP wS (d + 1) 113 [.ref 68] (pmP m P) = some (none, pmP m P) := t_takes_f wS d m _ _ _ _ _ _ h
theorem FltM_self {m : Mm} {M : Mm} {x : Flt} (h : FltM m M x) (hx : 0 < x.1) : ∃ m' P, M = pmP m' P ∧ FrM m m' ∧ FltP P x := by
  obtain ⟨m', ps, fr, so, va, rfl, hf⟩ := h
  exact ⟨m', (ps, fr, so, va, x.1, nI x.2), rfl, hf, rfl, rfl, hx⟩
theorem rl_f {k : Int32} {S M : Mm} {x : Flt} (hr : semZ shP wS (d + 5) 116 [.ref 68, .int k] S = some (none, M)) (h : FltM m M x) (hx : 0 < x.1) : rn shP tb0 mN mO (semZ shP wS (d + 5)) none (codeZ 117) 139 [.ref 68, .int k] [] S = some (none, M) := by
  obtain ⟨m', P, rfl, hf, h1, h2, -⟩ := FltM_self h hx
  have n0 : ¬ P.2.2.2.2.1 = 0 := fun z => by
    rw [h1] at z
    rw [z] at hx
    exact absurd hx (by decide)
  rw [r_X7_readLine_139]
  simp only [EV, LV, CB, OI, OL, NP, CZ, popN, CT, OZ, List.map_nil, List.map_cons, List.sum_nil, List.sum_cons, Option.toList, List.nil_append, List.cons_append, Int.reduceToNat, Nat.reduceAdd, Nat.reduceLT, Nat.reduceLeDiff, List.length_cons, List.length_nil, Nat.zero_add, if_true, if_false, reduceIte, and_self, and_true, true_and, eq_self, reduceCtorEq, C68, hr, GP68, n0, not_false_eq_true, r_X7_readLine_169, t_tkF wS (d + 4) (P := P) (by rw [h1]; exact hx)]
theorem rl_ok (hB : Tp B n) (hm : TM B n m) {k : Int32} {S : Mm} {p : Nat} (hp : p ≤ n) {va wr : Int32} (hr : semZ shP wS (d + 5) 116 [.ref 68, .int k] S = some (none, ml B m p va wr)) : ∃ M, rn shP tb0 mN mO (semZ shP wS (d + 5)) none (codeZ 117) 139 [.ref 68, .int k] [] S = some (none, M) ∧ (match stp B p with
    | .inl x => FltM m M x ∧ 0 < x.1
    | .inr q => (∃ va', M = ml B m q va' wr) ∧ p < q ∧ q ≤ n) := by
  have hb := lx_b hB hp
  have e10 : ¬ (1 : Int32) = 0 := by decide
  have e20 : ¬ (2 : Int32) = 0 := by decide
  rw [ml_P] at hr
  have g1 : (lexP B p va wr).2.2.2.2.1 = if (lx B p).1 = 4 then 1 else 0 := rfl
  have g2 : (lexP B p va wr).2.2.1 = soX B (lx B p).2.1 := rfl
  unfold stp
  by_cases h4 : (lx B p).1 = 4
  · rw [if_pos h4] at g1
    have h3 : ¬ (lx B p).1 = 3 := by omega
    rw [if_neg h3]
    refine ⟨pmP m (lexP B p va wr), ?_, FltM_P ⟨?_, ?_, ?_⟩ FrM_rf, ?_⟩
    · rw [r_X7_readLine_139]
      simp only [EV, LV, CB, OI, OL, NP, CZ, popN, CT, OZ, List.map_nil, List.map_cons, List.sum_nil, List.sum_cons, Option.toList, List.nil_append, List.cons_append, Int.reduceToNat, Nat.reduceAdd, Nat.reduceLT, Nat.reduceLeDiff, List.length_cons, List.length_nil, Nat.zero_add, if_true, if_false, reduceIte, and_self, and_true, true_and, eq_self, reduceCtorEq, C68, hr, GP68, g1, e10, not_false_eq_true, r_X7_readLine_169, t_tkF wS (d + 4) (P := lexP B p va wr) (by rw [g1]; decide)]
    · rw [g1, h4]; rfl
    · show (if (lx B p).1 = 4 then nI (lx B p).2.1 else wr) = _
      rw [if_pos h4]
    · rw [h4]; exact (by decide : (0 : Int32) < 1)
    · rw [h4]; exact (by decide : (0 : Int32) < 1)
  · rw [if_neg h4] at g1
    have so := lx_so h4
    by_cases h3 : (lx B p).1 = 3
    · rw [if_pos h3]
      rw [so, h3] at g2
      have g2 : (lexP B p va wr).2.2.1 = 3 := g2
      have lt := hb.2.2.2.2.2 (by omega)
      have tk := t_tkL wS (d + 3) hB hm hb.2.2.1 (lx B p).2.1 (soX B (lx B p).2.1) (vaX B (lx B p).2.1 (lx B p).2.2 va) wr
      have el : pmP m (lexP B p va wr) = pm m (lx B p).2.2 (lx B p).2.1 (soX B (lx B p).2.1) (vaX B (lx B p).2.1 (lx B p).2.2 va) 0 wr := by
        unfold pmP lexP
        rw [if_neg h4, if_neg h4]
      rw [← el] at tk
      refine ⟨ml B m (lx B p).2.2 (vaX B (lx B p).2.1 (lx B p).2.2 va) wr, ?_, ⟨_, rfl⟩, by omega, hb.2.2.1⟩
      · rw [r_X7_readLine_139]
        simp only [EV, LV, CB, OI, OL, NP, CZ, popN, CT, OZ, List.map_nil, List.map_cons, List.sum_nil, List.sum_cons, Option.toList, List.nil_append, List.cons_append, Int.reduceToNat, Nat.reduceAdd, Nat.reduceLT, Nat.reduceLeDiff, List.length_cons, List.length_nil, Nat.zero_add, if_true, if_false, reduceIte, and_self, and_true, true_and, eq_self, reduceCtorEq, C68, hr, GP68, g1, g2, not_true_eq_false, r_X7_readLine_165, t_ndP wS (d + 4), e10, false_and, tk]
    · rw [if_neg h3]
      have n3 : ¬ soX B (lx B p).2.1 = 3 := by
        rw [so]
        exact fun q => h3 ((nI_eq (b := 3) (by omega) (by omega)).mp q)
      rw [← g2] at n3
      have bd : bad (lx B p).1 = 2 := by
        unfold bad
        rw [if_neg h4]
      refine ⟨pmP m ((lexP B p va wr).1, (lexP B p va wr).2.1, (lexP B p va wr).2.2.1, (lexP B p va wr).2.2.2.1, 2, nI (lexP B p va wr).2.1), ?_, FltM_P ⟨?_, rfl, ?_⟩ FrM_rf, ?_⟩
      · rw [r_X7_readLine_139]
        simp only [EV, LV, CB, OI, OL, NP, CZ, popN, CT, OZ, List.map_nil, List.map_cons, List.sum_nil, List.sum_cons, Option.toList, List.nil_append, List.cons_append, Int.reduceToNat, Nat.reduceAdd, Nat.reduceLT, Nat.reduceLeDiff, List.length_cons, List.length_nil, Nat.zero_add, if_true, if_false, reduceIte, and_self, and_true, true_and, eq_self, reduceCtorEq, C68, hr, GP68, g1, n3, not_true_eq_false, not_false_eq_true, r_X7_readLine_164, t_ndP wS (d + 4)]
        rw [t_tkF wS (d + 4) (P := ((lexP B p va wr).1, (lexP B p va wr).2.1, (lexP B p va wr).2.2.1, (lexP B p va wr).2.2.2.1, 2, nI (lexP B p va wr).2.1)) (by exact (by decide : (0 : Int32) < 2))]
        simp only [EV, LV, CB, OI, OL, NP, CZ, popN, CT, OZ, List.map_nil, List.map_cons, List.sum_nil, List.sum_cons, Option.toList, List.nil_append, List.cons_append, Int.reduceToNat, Nat.reduceAdd, Nat.reduceLT, Nat.reduceLeDiff, List.length_cons, List.length_nil, Nat.zero_add, if_true, if_false, reduceIte, and_self, and_true, true_and, eq_self, reduceCtorEq]
      · exact bd.symm
      · show 0 < bad _
        rw [bd]; decide
      · show 0 < bad _
        rw [bd]; decide
end Mb
end
section
/-! readLine of the model, whole -/
def LnM (B : Nat → Int32) (n p : Nat) (m M : Mm) (wr : Int32) (r : Flt ⊕ Lin) : Prop := match r with
  | .inl x => FltM m M x ∧ 0 < x.1
  | .inr y => ∃ (m' : Mm) (va' : Int32), M = ml B m' y.1 va' wr ∧ FrM m m' ∧ MT y.2.1 y.2.2.1 y.2.2.2.1 y.2.2.2.2 m' ∧ p + 2 ≤ y.1 ∧ y.1 ≤ n
theorem hv_if (a H : Int32) : hv a H = if H < a then a else H := by
  unfold hv
  by_cases h : a ≤ H
  · rw [if_pos h, if_neg (Int32.not_lt.mpr h)]
  · rw [if_neg h, if_pos (Int32.not_le.mp h)]
theorem num1_4 {B : Nat → Int32} {p : Nat} (h : (lx B p).1 = 4) (hi : Int32) (z : Bool) : num1 B hi z p = .inl (1, (lx B p).2.1) := by
  unfold num1
  rw [if_neg (by omega), h]
  rfl
theorem liK_4 {B : Nat → Int32} {p : Nat} (h : (lx B p).1 = 4) (k V N : Nat) (f : Nat → Int32) (c : Nat) : liK B k p V N f c = .inl (1, (lx B p).2.1) := by
  unfold liK
  split
  · unfold liV; rw [num1_4 h]
  · unfold liB; rw [num1_4 h]
  · unfold liB; rw [num1_4 h]
  · unfold liB; rw [num1_4 h]
  · unfold liB; rw [num1_4 h]
  · unfold liS; rw [num1_4 h]
  · unfold liS; rw [num1_4 h]
  · unfold liS; rw [num1_4 h]
section Mr
variable {B : Nat → Int32} {n : Nat} (wS : List Value → Mm → Option Rs) (d : Nat) {m : Mm}
theorem FltM_tr {m1 M : Mm} {x : Flt} (h : FrM m m1) (h2 : FltM m1 M x) : FltM m M x := by
  obtain ⟨m', ps, fr, so, va, e, h3⟩ := h2
  exact ⟨m', ps, fr, so, va, e, FrM_tr h h3⟩
/-- what holds when the numbers are read -/
def Mid (V N : Nat) (f : Nat → Int32) (c : Nat) (m m1 : Mm) : Prop := FrM m m1 ∧ m1.1 72 = f ∧ m1.1 68 5 = nI V ∧ f 38 = nI N ∧ Hig (m1.1 68 7) f N ∧ V ≤ 4 ∧ N ≤ 6 ∧ m1.1 68 6 = tlV c ∧ c < 8
theorem gl_V (hB : Tp B n) {m1 : Mm} (hm : TM B n m1) {V N : Nat} {f : Nat → Int32} {c : Nat} (hM : Mid V N f c m m1) (hV : V < 4) {p0 p : Nat} (hp0 : p0 < p) (hp : p ≤ n) (va wr : Int32) : ∃ M, rn shP tb0 mN mO (semZ shP wS (d + 5)) none (codeZ 117) 139 [.ref 68, .int 4] [] (ml B m1 p va wr) = some (none, M) ∧ LnM B n p0 m M wr (liV B p V N f c) := by
  obtain ⟨g1, g2, g3, g4, g5, g6, g7, g8, g9⟩ := hM
  obtain ⟨M1, a1, a2⟩ := m_liV wS (d + 1) hB hm hV g3 hp va wr
  unfold liV
  cases e1 : num1 B 99 false p with
  | inl x =>
    rw [e1] at a2
    exact ⟨M1, rl_f wS d a1 a2.1 a2.2, FltM_tr g1 a2.1, a2.2⟩
  | inr y =>
    rw [e1] at a2
    have hy := num1_p hB hp e1
    simp only at a2 ⊢
    cases e2 : num1 B 9 false y.2 with
    | inl x =>
      rw [e2] at a2
      exact ⟨M1, rl_f wS d a1 a2.1 a2.2, FltM_tr g1 a2.1, a2.2⟩
    | inr y2 =>
      rw [e2] at a2
      obtain ⟨va', rfl⟩ := a2
      have hy2 := num1_p hB hy.2 e2
      have fr : FrM m1 (wI (wI (wI m1 72 (2 * V) y.1) 72 (2 * V + 1) y2.1) 68 5 (nI (V + 1))) := FrM_e (FrM_d (FrM_d FrM_rf _ _) _ _) (by omega) _
      obtain ⟨M, b1, b2⟩ := rl_ok wS d hB (TM_fr hm fr) hy2.2 a1
      refine ⟨M, b1, ?_⟩
      simp only
      cases e3 : stp B y2.2 with
      | inl x =>
        rw [e3] at b2
        exact ⟨FltM_tr (FrM_tr g1 fr) b2.1, b2.2⟩
      | inr q =>
        rw [e3] at b2
        obtain ⟨⟨va2, rfl⟩, c1, c2⟩ := b2
        refine ⟨_, _, rfl, FrM_tr g1 fr, ⟨?_, wI_s _ _ _ _, ?_, ?_, ?_, (show V + 1 ≤ 4 by omega), g7, g9⟩, ?_, c2⟩
        · show _ = upd (upd f (2 * V) y.1) (2 * V + 1) y2.1
          rw [wI_n _ _ _ _ (by omega), wI_row, wI_row, g2]
        · show upd (upd f (2 * V) y.1) (2 * V + 1) y2.1 38 = nI N
          rw [upd_n _ _ (by omega), upd_n _ _ (by omega)]
          exact g4
        · rw [wI_j _ _ _ _ _ (by omega), wI_o _ _ _ _ _ (by omega), wI_o _ _ _ _ _ (by omega)]
          exact g8
        · show Hig _ (upd (upd f (2 * V) y.1) (2 * V + 1) y2.1) N
          rw [wI_j _ _ _ _ _ (by omega), wI_o _ _ _ _ _ (by omega), wI_o _ _ _ _ _ (by omega)]
          exact Hig_u (Hig_u g5 _ (by omega) g7) _ (by omega) g7
        · show p0 + 2 ≤ q; omega
theorem gl_B (hB : Tp B n) {m1 : Mm} (hm : TM B n m1) {V N : Nat} {f : Nat → Int32} {c : Nat} (hM : Mid V N f c m m1) (hN : N < 6) {k : Nat} (hk : k < 4) {p0 p : Nat} (hp0 : p0 < p) (hp : p ≤ n) (va wr : Int32) : ∃ M, rn shP tb0 mN mO (semZ shP wS (d + 5)) none (codeZ 117) 139 [.ref 68, .int (nI k)] [] (ml B m1 p va wr) = some (none, M) ∧ LnM B n p0 m M wr (liB B (nI k) p V N f c) := by
  obtain ⟨g1, g2, g3, g4, g5, g6, g7, g8, g9⟩ := hM
  obtain ⟨M1, a1, a2⟩ := m_liB wS d hB hm hN (by rw [g2]; exact g4) hk hp va wr
  unfold liB
  cases e1 : num1 B 3 false p with
  | inl x =>
    rw [e1] at a2
    exact ⟨M1, rl_f wS d a1 a2.1 a2.2, FltM_tr g1 a2.1, a2.2⟩
  | inr y =>
    rw [e1] at a2
    have hy := num1_p hB hp e1
    simp only at a2 ⊢
    cases e2 : num1 B 9 false y.2 with
    | inl x =>
      rw [e2] at a2
      exact ⟨M1, rl_f wS d a1 a2.1 a2.2, FltM_tr g1 a2.1, a2.2⟩
    | inr y2 =>
      rw [e2] at a2
      have hy2 := num1_p hB hy.2 e2
      simp only at a2 ⊢
      cases e3 : num1 B 9 false y2.2 with
      | inl x =>
        rw [e3] at a2
        exact ⟨M1, rl_f wS d a1 a2.1 a2.2, FltM_tr g1 a2.1, a2.2⟩
      | inr y3 =>
        rw [e3] at a2
        obtain ⟨va', rfl⟩ := a2
        have hy3 := num1_p hB hy2.2 e3
        have fr := rbM_fr m1 N (nI k) y.1 y2.1 y3.1
        obtain ⟨M, b1, b2⟩ := rl_ok wS d hB (TM_fr hm fr) hy3.2 a1
        refine ⟨M, b1, ?_⟩
        simp only
        cases e4 : stp B y3.2 with
        | inl x =>
          rw [e4] at b2
          exact ⟨FltM_tr (FrM_tr g1 fr) b2.1, b2.2⟩
        | inr q =>
          rw [e4] at b2
          obtain ⟨⟨va2, rfl⟩, c1, c2⟩ := b2
          have r68 := rbM_68 m1 N (nI k) y.1 y2.1 y3.1
          refine ⟨_, _, rfl, FrM_tr g1 fr, ⟨?_, by rw [r68.2.1]; exact g3, ?_, by rw [r68.2.2]; exact g8, ?_, g6, ?_, g9⟩, ?_, c2⟩
          · show _ = bdF f N (nI k) y.1 y2.1 y3.1
            rw [rbM_72, g2]
          · show bdF f N (nI k) y.1 y2.1 y3.1 38 = nI (N + 1)
            unfold bdF
            rw [upd_s]
          · show Hig _ (bdF f N (nI k) y.1 y2.1 y3.1) (N + 1)
            rw [r68.1, hv_if]
            exact Hig_b g5 hN _ _ _ _ (num1_v hB hp e1)
          · show N + 1 ≤ 6; omega
          · show p0 + 2 ≤ q; omega
theorem gl_S (hB : Tp B n) {m1 : Mm} (hm : TM B n m1) {V N : Nat} {f : Nat → Int32} {c : Nat} {k : Nat} (k5 : 5 ≤ k) (k8 : k < 8) (hM : Mid V N f (c + 2 ^ (k - 5)) m m1) {p0 p : Nat} (hp0 : p0 < p) (hp : p ≤ n) (va wr : Int32) : ∃ M, rn shP tb0 mN mO (semZ shP wS (d + 5)) none (codeZ 117) 139 [.ref 68, .int (nI k)] [] (ml B m1 p va wr) = some (none, M) ∧ LnM B n p0 m M wr (liS B (34 + k) (mst k 0) (k == 7) (2 ^ (k - 5)) p V N f c) := by
  obtain ⟨g1, g2, g3, g4, g5, g6, g7, g8, g9⟩ := hM
  obtain ⟨M1, a1, a2⟩ := m_liS wS (d + 1) hB hm k5 k8 hp va wr
  unfold liS
  cases e1 : num1 B (mst k 0) (k == 7) p with
  | inl x =>
    rw [e1] at a2
    exact ⟨M1, rl_f wS d a1 a2.1 a2.2, FltM_tr g1 a2.1, a2.2⟩
  | inr y =>
    rw [e1] at a2
    have hy := num1_p hB hp e1
    obtain ⟨va', rfl⟩ := a2
    have fr : FrM m1 (wI m1 72 (34 + k) y.1) := FrM_d FrM_rf _ _
    obtain ⟨M, b1, b2⟩ := rl_ok wS d hB (TM_fr hm fr) hy.2 a1
    refine ⟨M, b1, ?_⟩
    simp only
    cases e3 : stp B y.2 with
    | inl x =>
      rw [e3] at b2
      exact ⟨FltM_tr (FrM_tr g1 fr) b2.1, b2.2⟩
    | inr q =>
      rw [e3] at b2
      obtain ⟨⟨va2, rfl⟩, c1, c2⟩ := b2
      refine ⟨_, _, rfl, FrM_tr g1 fr, ⟨?_, ?_, ?_, ?_, ?_, g6, g7, g9⟩, ?_, c2⟩
      · show _ = upd f (34 + k) y.1
        rw [wI_row, g2]
      · rw [wI_o _ _ _ _ _ (by omega)]; exact g3
      · show upd f (34 + k) y.1 38 = nI N
        rw [upd_n _ _ (by omega)]
        exact g4
      · rw [wI_o _ _ _ _ _ (by omega)]; exact g8
      · show Hig _ (upd f (34 + k) y.1) N
        rw [wI_o _ _ _ _ _ (by omega)]
        exact Hig_u g5 _ (by omega) g7
      · show p0 + 2 ≤ q; omega
/-- a name that begins a line, as it is read -/
theorem rl_go (hB : Tp B n) {m1 : Mm} (hm : TM B n m1) {V N : Nat} {f : Nat → Int32} {c : Nat} {k : Nat} (k8 : k < 8) (hr : noRoom k V N = false) (hM : Mid V N f (if 5 ≤ k then c + 2 ^ (k - 5) else c) m m1) {p0 p : Nat} (hp0 : p0 < p) (hp : p ≤ n) (va wr : Int32) : ∃ M, (if (lx B p).1 = 4 then some (none, ml B m1 p va wr) else rn shP tb0 mN mO (semZ shP wS (d + 5)) none (codeZ 117) 139 [.ref 68, .int (mdl k)] [] (ml B m1 p va wr)) = some (none, M) ∧ LnM B n p0 m M wr (liK B k p V N f c) := by
  by_cases h4 : (lx B p).1 = 4
  · rw [if_pos h4, liK_4 h4]
    refine ⟨_, rfl, FltM_P (P := lexP B p va wr) (x := (1, (lx B p).2.1)) ⟨?_, ?_, (by decide : (0 : Int32) < 1)⟩ hM.1, (by decide : (0 : Int32) < 1)⟩
    · show (if (lx B p).1 = 4 then 1 else 0) = (1 : Int32)
      rw [if_pos h4]
    · show (if (lx B p).1 = 4 then nI (lx B p).2.1 else wr) = _
      rw [if_pos h4]
  · rw [if_neg h4]
    match k, k8 with
    | 0, _ => exact gl_V wS d hB hm hM (nr_V hr) hp0 hp va wr
    | 1, _ => exact gl_B wS d hB hm hM (nr_N (by omega) (by omega) hr) (k := 0) (by omega) hp0 hp va wr
    | 2, _ => exact gl_B wS d hB hm hM (nr_N (by omega) (by omega) hr) (k := 1) (by omega) hp0 hp va wr
    | 3, _ => exact gl_B wS d hB hm hM (nr_N (by omega) (by omega) hr) (k := 2) (by omega) hp0 hp va wr
    | 4, _ => exact gl_B wS d hB hm hM (nr_N (by omega) (by omega) hr) (k := 3) (by omega) hp0 hp va wr
    | 5, _ => exact gl_S wS d hB hm (k := 5) (by omega) (by omega) hM hp0 hp va wr
    | 6, _ => exact gl_S wS d hB hm (k := 6) (by omega) (by omega) hM hp0 hp va wr
    | 7, _ => exact gl_S wS d hB hm (k := 7) (by omega) (by omega) hM hp0 hp va wr
end Mr
end
section
/-! readLine and text of the model, whole -/
section Ms
variable {B : Nat → Int32} {n : Nat} (wS : List Value → Mm → Option Rs) (d : Nat) {m : Mm}
theorem mdl_v : mdl 0 = 4 ∧ mdl 1 = 0 ∧ mdl 2 = 1 ∧ mdl 3 = 2 ∧ mdl 4 = 3 ∧ mdl 5 = 5 ∧ mdl 6 = 6 ∧ mdl 7 = 7 ∧ mdl 8 = -4 := ⟨rfl, rfl, rfl, rfl, rfl, rfl, rfl, rfl, rfl⟩
/-- the state with a fault at the token's begin -/
def pf (P : P6) (c : Int32) : P6 := (P.1, P.2.1, P.2.2.1, P.2.2.2.1, c, nI P.2.1)
theorem t_nd1 (P : P6) (m : Mm) (c : Int32) : semZ shP wS (d + 1) 107 [.ref 68, .int 1, .int c] (pmP m P) = some (none, pmP m P) := by
  rw [t_ndP, if_neg (fun z => absurd z.1 (by decide))]
theorem t_nd0 {P : P6} (h : P.2.2.2.2.1 = 0) (m : Mm) (c : Int32) : semZ shP wS (d + 1) 107 [.ref 68, .int 0, .int c] (pmP m P) = some (none, pmP m (pf P c)) := by
  rw [t_ndP, if_pos ⟨rfl, h⟩]
  rfl
theorem t_ndf {P : P6} (h : ¬ P.2.2.2.2.1 = 0) (m : Mm) (g c : Int32) : semZ shP wS (d + 1) 107 [.ref 68, .int g, .int c] (pmP m P) = some (none, pmP m P) := by
  rw [t_ndP, if_neg (fun z => h z.2)]
/-- no name that begins a line -/
theorem rl_no {P : P6} (h0 : P.2.2.2.2.1 = 0) {N : Nat} (hN : N ≤ 6) (h38 : m.1 72 38 = nI N) : rn shP tb0 mN mO (semZ shP wS (d + 5)) none (codeZ 117) 29 [.ref 68, .int (-4)] [.ref 68] (pmP m P) = some (none, pmP m (pf P 2)) := by
  have e20 : ¬ (2 : Int32) = 0 := by decide
  have c1 : ¬ (-4 : Int32) = 4 := by decide
  have c2 : ¬ (4 : Int32) < -4 := by decide
  have c3 : ¬ (2 : Int32) ≤ 0 := by decide
  have f2 : (pf P 2).2.2.2.2.1 = 2 := rfl
  have tf := t_tkF wS (d + 4) (P := pf P 2) (by rw [f2]; decide) m
  rw [r_X7_readLine_29]
  by_cases h : (6 : Int32) ≤ nI N
  · simp only [EV, LV, CB, OI, OL, NP, CZ, popN, CT, OZ, List.map_nil, List.map_cons, List.sum_nil, List.sum_cons, Option.toList, List.nil_append, List.cons_append, Int.reduceToNat, Nat.reduceAdd, Nat.reduceLT, Nat.reduceLeDiff, List.length_cons, List.length_nil, Nat.zero_add, if_true, if_false, reduceIte, and_self, and_true, true_and, eq_self, reduceCtorEq, C68, t_nd0 wS (d + 4) h0, c1, not_false_eq_true, r_X7_readLine_56, c2, GP68, AP72, in_cell, h38, h, r_X7_readLine_77, t_ndf wS (d + 4) (P := pf P 2) (by rw [f2]; exact e20), f2, e20, r_X7_readLine_127, tf, c3]
  · simp only [EV, LV, CB, OI, OL, NP, CZ, popN, CT, OZ, List.map_nil, List.map_cons, List.sum_nil, List.sum_cons, Option.toList, List.nil_append, List.cons_append, Int.reduceToNat, Nat.reduceAdd, Nat.reduceLT, Nat.reduceLeDiff, List.length_cons, List.length_nil, Nat.zero_add, if_true, if_false, reduceIte, and_self, and_true, true_and, eq_self, reduceCtorEq, C68, t_nd0 wS (d + 4) h0, c1, not_false_eq_true, r_X7_readLine_56, c2, GP68, AP72, in_cell, h38, h, r_X7_readLine_78, t_ndf wS (d + 4) (P := pf P 2) (by rw [f2]; exact e20), f2, e20, r_X7_readLine_127, tf, c3]
theorem t_rlX (hB : Tp B n) (hm : TM B n m) {V N : Nat} {f : Nat → Int32} {c : Nat} (hM : MT V N f c m) {p : Nat} (hp : p ≤ n) (h0 : (lx B p).1 ≠ 0) (h4 : (lx B p).1 ≠ 4) (va wr : Int32) : ∃ M, semZ shP wS (d + 6) 117 [.ref 68] (ml B m p va wr) = some (none, M) ∧ LnM B n p m M wr (line B p V N f c) := by
  obtain ⟨g1, g2, g3, g4, g5, g6, g7, g8⟩ := hM
  have hb := lx_b hB hp
  have hlt := hb.2.2.2.2.2 h0
  have so := lx_so h4
  have e10 : ¬ (1 : Int32) = 0 := by decide
  have h38 : m.1 72 38 = nI N := by rw [g1]; exact g3
  have P0 : (lexP B p va wr).2.2.2.2.1 = 0 := by
    show (if (lx B p).1 = 4 then 1 else 0) = (0 : Int32)
    rw [if_neg h4]
  have Ps : (lexP B p va wr).2.2.1 = nI (lx B p).1 := so
  have Pe : (lexP B p va wr) = ((lx B p).2.2, (lx B p).2.1, soX B (lx B p).2.1, vaX B (lx B p).2.1 (lx B p).2.2 va, 0, wr) := by
    unfold lexP
    rw [if_neg h4, if_neg h4]
  rw [ml_P, se_X7_readLine, r_X7_readLine_0]
  unfold line
  by_cases h1 : (lx B p).1 = 1
  · rw [if_pos h1]
    have Ps : (lexP B p va wr).2.2.1 = 1 := by rw [Ps, h1]; rfl
    have ln := t_lineNow wS (d + 1) hB hm hb.2.1 hb.2.2.1 (soX B (lx B p).2.1) (vaX B (lx B p).2.1 (lx B p).2.2 va) 0 wr
    have ln : semZ shP wS (d + 5) 112 [.ref 68] (pmP m (lexP B p va wr)) = some (some (.int (mdl (lnX B (lx B p).2.1 (lx B p).2.2))), pmP m (lexP B p va wr)) := by
      rw [Pe]
      exact ln
    have hl := lnX_le B (lx B p).2.1 (lx B p).2.2
    generalize lnX B (lx B p).2.1 (lx B p).2.2 = k at ln hl
    by_cases h8 : k = 8
    · rw [if_pos h8]
      subst h8
      have m8 : mdl 8 = -4 := rfl
      rw [m8] at ln
      refine ⟨pmP m (pf (lexP B p va wr) 2), ?_, FltM_P (x := (2, (lx B p).2.1)) ⟨rfl, rfl, (by decide : (0 : Int32) < 2)⟩ FrM_rf, (by decide : (0 : Int32) < 2)⟩
      simp only [EV, LV, CB, OI, OL, NP, CZ, popN, CT, OZ, List.map_nil, List.map_cons, List.sum_nil, List.sum_cons, Option.toList, List.nil_append, List.cons_append, Int.reduceToNat, Nat.reduceAdd, Nat.reduceLT, Nat.reduceLeDiff, List.length_cons, List.length_nil, Nat.zero_add, if_true, if_false, reduceIte, and_self, and_true, true_and, eq_self, reduceCtorEq, C68, GP68, Ps, not_true_eq_false, ln, r_X7_readLine_17, rl_no wS d P0 g7 h38]
    · rw [if_neg h8]
      have k8 : k < 8 := by omega
      -- up to the second check
      have st30 : exI shP tb0 mN mO (semZ shP wS (d + 5)) none (rn shP tb0 mN mO (semZ shP wS (d + 5)) none (codeZ 117)) [.aload 0, .getfield 712, .sipush (1), .if_icmp .ne 15, .aload 0, .invokevirtual 112, .goto 17] [.ref 68, noV] [] (pmP m (lexP B p va wr)) = rn shP tb0 mN mO (semZ shP wS (d + 5)) none (codeZ 117) 30 [.ref 68, .int (mdl k)] [.int 1, .ref 68] (pmP m (lexP B p va wr)) := by
        have n4 : ¬ mdl k = -4 := by
          have : ∀ k, k < 8 → ¬ mdl k = -4 := by decide
          exact this k k8
        simp only [EV, LV, CB, OI, OL, NP, CZ, popN, CT, OZ, List.map_nil, List.map_cons, List.sum_nil, List.sum_cons, Option.toList, List.nil_append, List.cons_append, Int.reduceToNat, Nat.reduceAdd, Nat.reduceLT, Nat.reduceLeDiff, List.length_cons, List.length_nil, Nat.zero_add, if_true, if_false, reduceIte, and_self, and_true, true_and, eq_self, reduceCtorEq, C68, GP68, Ps, not_true_eq_false, ln, r_X7_readLine_17, n4]
      rw [st30]
      -- takes behind the name
      have tk : ∀ m1, TM B n m1 → semZ shP wS (d + 5) 113 [.ref 68] (pmP m1 (lexP B p va wr)) = some (none, pmP m1 (lexP B (lx B p).2.2 (vaX B (lx B p).2.1 (lx B p).2.2 va) wr)) := fun m1 h => by
        rw [Pe]
        exact t_tkL wS (d + 3) hB h hb.2.2.1 (lx B p).2.1 (soX B (lx B p).2.1) (vaX B (lx B p).2.1 (lx B p).2.2 va) wr
      have fin : ∀ m1, TM B n m1 → rn shP tb0 mN mO (semZ shP wS (d + 5)) none (codeZ 117) 127 [.ref 68, .int (mdl k)] [] (pmP m1 (lexP B p va wr)) = (if (lx B (lx B p).2.2).1 = 4 then some (none, ml B m1 (lx B p).2.2 (vaX B (lx B p).2.1 (lx B p).2.2 va) wr) else rn shP tb0 mN mO (semZ shP wS (d + 5)) none (codeZ 117) 139 [.ref 68, .int (mdl k)] [] (ml B m1 (lx B p).2.2 (vaX B (lx B p).2.1 (lx B p).2.2 va) wr)) := fun m1 h => by
        rw [r_X7_readLine_127]
        by_cases q : (lx B (lx B p).2.2).1 = 4
        · have z : (lexP B (lx B p).2.2 (vaX B (lx B p).2.1 (lx B p).2.2 va) wr).2.2.2.2.1 = 1 := by
            show (if (lx B (lx B p).2.2).1 = 4 then 1 else 0) = (1 : Int32)
            rw [if_pos q]
          have z2 : ¬ (1 : Int32) ≤ 0 := by decide
          rw [if_pos q, ml_P]
          simp only [EV, LV, CB, OI, OL, NP, CZ, popN, CT, OZ, List.map_nil, List.map_cons, List.sum_nil, List.sum_cons, Option.toList, List.nil_append, List.cons_append, Int.reduceToNat, Nat.reduceAdd, Nat.reduceLT, Nat.reduceLeDiff, List.length_cons, List.length_nil, Nat.zero_add, if_true, if_false, reduceIte, and_self, and_true, true_and, eq_self, reduceCtorEq, C68, tk m1 h, GP68, z, z2]
        · have z : (lexP B (lx B p).2.2 (vaX B (lx B p).2.1 (lx B p).2.2 va) wr).2.2.2.2.1 = 0 := by
            show (if (lx B (lx B p).2.2).1 = 4 then 1 else 0) = (0 : Int32)
            rw [if_neg q]
          have z2 : (0 : Int32) ≤ 0 := by decide
          rw [if_neg q, ml_P]
          simp only [EV, LV, CB, OI, OL, NP, CZ, popN, CT, OZ, List.map_nil, List.map_cons, List.sum_nil, List.sum_cons, Option.toList, List.nil_append, List.cons_append, Int.reduceToNat, Nat.reduceAdd, Nat.reduceLT, Nat.reduceLeDiff, List.length_cons, List.length_nil, Nat.zero_add, if_true, if_false, reduceIte, and_self, and_true, true_and, eq_self, reduceCtorEq, C68, tk m1 h, GP68, z, z2]
      have f5 : (pf (lexP B p va wr) 5).2.2.2.2.1 = 5 := rfl
      have f4 : (pf (lexP B p va wr) 4).2.2.2.2.1 = 4 := rfl
      have e50 : ¬ (5 : Int32) = 0 := by decide
      have e40 : ¬ (4 : Int32) = 0 := by decide
      have l50 : ¬ (5 : Int32) ≤ 0 := by decide
      have l40 : ¬ (4 : Int32) ≤ 0 := by decide
      have tf5 := t_tkF wS (d + 4) (P := pf (lexP B p va wr) 5) (by rw [f5]; decide) m
      have nr5 : FltM m (pmP m (pf (lexP B p va wr) 5)) (5, (lx B p).2.1) := FltM_P (x := (5, (lx B p).2.1)) ⟨rfl, rfl, (by decide : (0 : Int32) < 5)⟩ FrM_rf
      have mid0 : Mid V N f c m m := ⟨FrM_rf, g1, g2, g3, g5, g6, g7, g4, g8⟩
      obtain ⟨t1, t2⟩ := tl_is c g8 k k8
      have hps : p < (lx B p).2.2 := by omega
      by_cases k0 : k = 0
      · subst k0
        have nt : toldX c 0 = false := by unfold toldX; rfl
        rw [nt, if_neg (by decide)]
        have m0 : mdl 0 = 4 := rfl
        have c44 : ¬ (4 : Int32) < 4 := by decide
        have l44 : (4 : Int32) ≤ 4 := by decide
        rw [m0] at fin ⊢
        by_cases hV : (4 : Int32) ≤ nI V
        · have hr : noRoom 0 V N = true := by
            have : V = 4 := by
              have := (nI_leI (a := 4) (b := V) (by omega) (by omega)).mp hV
              omega
            subst this
            rfl
          rw [hr, if_pos rfl]
          refine ⟨_, ?_, nr5, (by decide : (0 : Int32) < 5)⟩
          rw [r_X7_readLine_30]
          simp only [EV, LV, CB, OI, OL, NP, CZ, popN, CT, OZ, List.map_nil, List.map_cons, List.sum_nil, List.sum_cons, Option.toList, List.nil_append, List.cons_append, Int.reduceToNat, Nat.reduceAdd, Nat.reduceLT, Nat.reduceLeDiff, List.length_cons, List.length_nil, Nat.zero_add, if_true, if_false, reduceIte, and_self, and_true, true_and, eq_self, reduceCtorEq, C68, t_nd1 wS (d + 4), not_true_eq_false, GP68, g2, hV, r_X7_readLine_52, r_X7_readLine_78, t_nd0 wS (d + 4) P0, f5, e50, not_false_eq_true, r_X7_readLine_127, tf5, l50]
        · have hr : noRoom 0 V N = false := by
            have : ¬ 4 ≤ V := fun z => hV (nI_le (a := 4) z (by omega))
            cases q : noRoom 0 V N with
            | false => rfl
            | true =>
              unfold noRoom at q
              simp at q
              exact absurd q this
          rw [hr, if_neg (by decide)]
          obtain ⟨M, b1, b2⟩ := rl_go wS d hB hm (k := 0) (c := c) (by omega) hr mid0 hps hb.2.2.1 (vaX B (lx B p).2.1 (lx B p).2.2 va) wr
          refine ⟨M, ?_, b2⟩
          rw [r_X7_readLine_30]
          simp only [EV, LV, CB, OI, OL, NP, CZ, popN, CT, OZ, List.map_nil, List.map_cons, List.sum_nil, List.sum_cons, Option.toList, List.nil_append, List.cons_append, Int.reduceToNat, Nat.reduceAdd, Nat.reduceLT, Nat.reduceLeDiff, List.length_cons, List.length_nil, Nat.zero_add, if_true, if_false, reduceIte, and_self, and_true, true_and, eq_self, reduceCtorEq, C68, t_nd1 wS (d + 4), not_true_eq_false, GP68, g2, hV, r_X7_readLine_78, P0, l44]
          rw [fin m hm]
          exact b1
      · by_cases k4 : k ≤ 4
        · have nt : toldX c k = false := by
            unfold toldX
            have a5 : (k == 5) = false := by simpa using (show k ≠ 5 by omega)
            have a6 : (k == 6) = false := by simpa using (show k ≠ 6 by omega)
            have a7 : (k == 7) = false := by simpa using (show k ≠ 7 by omega)
            rw [a5, a6, a7]
            rfl
          rw [nt, if_neg (by decide)]
          have mk : ∀ k, k < 5 → k ≠ 0 → ¬ mdl k = 4 ∧ ¬ 4 < mdl k ∧ mdl k ≤ 4 := by decide
          obtain ⟨d1, d2, d3⟩ := mk k (by omega) k0
          by_cases hN : (6 : Int32) ≤ nI N
          · have hr : noRoom k V N = true := by
              have : N = 6 := by
                have := (nI_leI (a := 6) (b := N) (by omega) (by omega)).mp hN
                omega
              subst this
              cases q : noRoom k V 6 with
              | true => rfl
              | false => exact absurd (nr_N (by omega) k4 q) (by omega)
            rw [hr, if_pos rfl]
            refine ⟨_, ?_, nr5, (by decide : (0 : Int32) < 5)⟩
            rw [r_X7_readLine_30]
            simp only [EV, LV, CB, OI, OL, NP, CZ, popN, CT, OZ, List.map_nil, List.map_cons, List.sum_nil, List.sum_cons, Option.toList, List.nil_append, List.cons_append, Int.reduceToNat, Nat.reduceAdd, Nat.reduceLT, Nat.reduceLeDiff, List.length_cons, List.length_nil, Nat.zero_add, if_true, if_false, reduceIte, and_self, and_true, true_and, eq_self, reduceCtorEq, C68, t_nd1 wS (d + 4), d1, d2, not_false_eq_true, r_X7_readLine_56, GP68, AP72, in_cell, h38, hN, r_X7_readLine_77, t_nd0 wS (d + 4) P0, f5, e50, r_X7_readLine_127, tf5, l50]
          · have hr : noRoom k V N = false := by
              have n6 : ¬ 6 ≤ N := fun z => hN (nI_le (a := 6) z (by omega))
              cases q : noRoom k V N with
              | false => rfl
              | true =>
                unfold noRoom at q
                simp at q
                omega
            rw [hr, if_neg (by decide)]
            have c5 : (if 5 ≤ k then c + 2 ^ (k - 5) else c) = c := if_neg (by omega)
            obtain ⟨M, b1, b2⟩ := rl_go wS d hB hm (k := k) (c := c) k8 hr (by rw [c5]; exact mid0) hps hb.2.2.1 (vaX B (lx B p).2.1 (lx B p).2.2 va) wr
            refine ⟨M, ?_, b2⟩
            rw [r_X7_readLine_30]
            simp only [EV, LV, CB, OI, OL, NP, CZ, popN, CT, OZ, List.map_nil, List.map_cons, List.sum_nil, List.sum_cons, Option.toList, List.nil_append, List.cons_append, Int.reduceToNat, Nat.reduceAdd, Nat.reduceLT, Nat.reduceLeDiff, List.length_cons, List.length_nil, Nat.zero_add, if_true, if_false, reduceIte, and_self, and_true, true_and, eq_self, reduceCtorEq, C68, t_nd1 wS (d + 4), d1, d2, not_false_eq_true, r_X7_readLine_56, GP68, AP72, in_cell, h38, hN, r_X7_readLine_78, P0, not_true_eq_false, d3]
            rw [fin m hm]
            exact b1
        · have mk : ∀ k, k < 8 → 5 ≤ k → ¬ mdl k = 4 ∧ 4 < mdl k ∧ ¬ mdl k ≤ 4 ∧ mdl k = nI k := by decide +kernel
          obtain ⟨d1, d2, d3, d4⟩ := mk k k8 (by omega)
          rw [d4] at d1 d2 d3
          have hr : noRoom k V N = false := by
            unfold noRoom
            have a0 : (k == 0) = false := by simpa using k0
            have a4 : Nat.ble k 4 = false := by
              cases q : Nat.ble k 4 with
              | false => rfl
              | true => rw [Nat.ble_eq] at q; omega
            rw [a0, a4]
            simp
          have st78 : rn shP tb0 mN mO (semZ shP wS (d + 5)) none (codeZ 117) 30 [.ref 68, .int (mdl k)] [.int 1, .ref 68] (pmP m (lexP B p va wr)) = (if (tlV c >>> (nI k &&& 31)) &&& 1 = 0 then rn shP tb0 mN mO (semZ shP wS (d + 5)) none (codeZ 117) 111 [.ref 68, .int (mdl k)] [.int 1, .ref 68] (pmP m (lexP B p va wr)) else rn shP tb0 mN mO (semZ shP wS (d + 5)) none (codeZ 117) 110 [.ref 68, .int (mdl k)] [.ref 68] (pmP m (lexP B p va wr))) := by
            rw [r_X7_readLine_30]
            simp only [EV, LV, CB, OI, OL, NP, CZ, popN, CT, OZ, List.map_nil, List.map_cons, List.sum_nil, List.sum_cons, Option.toList, List.nil_append, List.cons_append, Int.reduceToNat, Nat.reduceAdd, Nat.reduceLT, Nat.reduceLeDiff, List.length_cons, List.length_nil, Nat.zero_add, if_true, if_false, reduceIte, and_self, and_true, true_and, eq_self, reduceCtorEq, C68, t_nd1 wS (d + 4), d1, d2, d3, not_false_eq_true, r_X7_readLine_56, r_X7_readLine_73, r_X7_readLine_78, GP68, P0, not_true_eq_false, g4, d4]
            by_cases q : (tlV c >>> (nI k &&& 31)) &&& 1 = 0
            · simp only [q, not_true_eq_false, if_true, if_false]
            · simp only [q, not_false_eq_true, if_true, if_false]
          rw [st78]
          cases ht : toldX c k with
          | true =>
            have n0 : ¬ (tlV c >>> (nI k &&& 31)) &&& 1 = 0 := fun z => by
              rw [t2.mp z] at ht
              cases ht
            rw [if_pos rfl, if_neg n0]
            have tf4 := t_tkF wS (d + 4) (P := pf (lexP B p va wr) 4) (by rw [f4]; decide)
            refine ⟨pmP (wI m 68 6 (tlV c ||| (1 <<< (nI k &&& 31)))) (pf (lexP B p va wr) 4), ?_, FltM_P (x := (4, (lx B p).2.1)) ⟨rfl, rfl, (by decide : (0 : Int32) < 4)⟩ (FrM_e FrM_rf (by omega) _), (by decide : (0 : Int32) < 4)⟩
            rw [r_X7_readLine_110]
            simp only [EV, LV, CB, OI, OL, NP, CZ, popN, CT, OZ, List.map_nil, List.map_cons, List.sum_nil, List.sum_cons, Option.toList, List.nil_append, List.cons_append, Int.reduceToNat, Nat.reduceAdd, Nat.reduceLT, Nat.reduceLeDiff, List.length_cons, List.length_nil, Nat.zero_add, if_true, if_false, reduceIte, and_self, and_true, true_and, eq_self, reduceCtorEq, C68, t_nd0 wS (d + 4) P0, GP68, PP68, g4, d4, tf4, f4, l40]
          | false =>
            rw [if_pos (t2.mpr ht), if_neg (by decide), hr, if_neg (by decide)]
            obtain ⟨o1, o2⟩ := tl_or c g8 k k8 (by omega) ht
            have c5 : (if 5 ≤ k then c + 2 ^ (k - 5) else c) = c + 2 ^ (k - 5) := if_pos (by omega)
            have hm1 : TM B n (wI m 68 6 (tlV (c + 2 ^ (k - 5)))) := TM_fr hm (FrM_e FrM_rf (by omega) _)
            have mid1 : Mid V N f (c + 2 ^ (k - 5)) m (wI m 68 6 (tlV (c + 2 ^ (k - 5)))) := ⟨FrM_e FrM_rf (by omega) _, by rw [wI_n _ _ _ _ (by omega)]; exact g1, by rw [wI_j _ _ _ _ _ (by omega)]; exact g2, g3, by rw [wI_j _ _ _ _ _ (by omega)]; exact g5, g6, g7, wI_s _ _ _ _, o2⟩
            obtain ⟨M, b1, b2⟩ := rl_go wS d hB hm1 (k := k) (c := c) k8 hr (by rw [c5]; exact mid1) hps hb.2.2.1 (vaX B (lx B p).2.1 (lx B p).2.2 va) wr
            refine ⟨M, ?_, b2⟩
            have fin1 := fin (wI m 68 6 (tlV (c + 2 ^ (k - 5)))) hm1
            rw [← fin1, r_X7_readLine_127] at b1
            rw [r_X7_readLine_111]
            have o1' : tlV c ||| (1 <<< (mdl k &&& 31)) = tlV (c + 2 ^ (k - 5)) := by rw [d4]; exact o1
            simp only [EV, LV, CB, OI, OL, NP, CZ, popN, CT, OZ, List.map_nil, List.map_cons, List.sum_nil, List.sum_cons, Option.toList, List.nil_append, List.cons_append, Int.reduceToNat, Nat.reduceAdd, Nat.reduceLT, Nat.reduceLeDiff, List.length_cons, List.length_nil, Nat.zero_add, if_true, if_false, reduceIte, and_self, and_true, true_and, eq_self, reduceCtorEq, C68, t_nd1 wS (d + 4), GP68, PP68, g4, o1']
            simp only [EV, LV, CB, OI, OL, NP, CZ, popN, CT, OZ, List.map_nil, List.map_cons, List.sum_nil, List.sum_cons, Option.toList, List.nil_append, List.cons_append, Int.reduceToNat, Nat.reduceAdd, Nat.reduceLT, Nat.reduceLeDiff, List.length_cons, List.length_nil, Nat.zero_add, if_true, if_false, reduceIte, and_self, and_true, true_and, eq_self, reduceCtorEq, C68, GP68] at b1
            exact b1
  · rw [if_neg h1]
    have n1 : ¬ nI (lx B p).1 = 1 := fun q => h1 ((nI_eq (b := 1) (by omega) (by omega)).mp q)
    have bd : bad (lx B p).1 = 2 := by
      unfold bad
      rw [if_neg h4]
    rw [bd]
    refine ⟨pmP m (pf (lexP B p va wr) 2), ?_, FltM_P (x := (2, (lx B p).2.1)) ⟨rfl, rfl, (by decide : (0 : Int32) < 2)⟩ FrM_rf, (by decide : (0 : Int32) < 2)⟩
    simp only [EV, LV, CB, OI, OL, NP, CZ, popN, CT, OZ, List.map_nil, List.map_cons, List.sum_nil, List.sum_cons, Option.toList, List.nil_append, List.cons_append, Int.reduceToNat, Nat.reduceAdd, Nat.reduceLT, Nat.reduceLeDiff, List.length_cons, List.length_nil, Nat.zero_add, if_true, if_false, reduceIte, and_self, and_true, true_and, eq_self, reduceCtorEq, C68, GP68, Ps, n1, not_false_eq_true, r_X7_readLine_15, rl_no wS d P0 g7 h38]
end Ms
end
section
/-! text of the model -/
section Mt
variable {B : Nat → Int32} {n : Nat} (wS : List Value → Mm → Option Rs) (d : Nat)
theorem PP9 (m : Mm) (P : P6) (x : Int32) : pfI shP 709 68 (.int x) (pmP m P) = some (pmP (wI m 68 9 x) P) := by
  have a : pfI shP 709 68 (.int x) (pm m P.1 P.2.1 P.2.2.1 P.2.2.2.1 P.2.2.2.2.1 P.2.2.2.2.2) = some (wI (pm m P.1 P.2.1 P.2.2.1 P.2.2.2.1 P.2.2.2.2.1 P.2.2.2.2.2) 68 9 x) := rfl
  show pfI shP 709 68 (.int x) (pm m _ _ _ _ _ _) = _
  rw [a, pm_wo m _ _ _ _ _ _ _ _ (by omega)]
  rfl
theorem GP15 (m : Mm) (P : P6) : gfI shP 715 68 (pmP m P) = some (.int P.2.2.2.2.2) := (G68 m _ _ _ _ _ _).2.2.2.2.2.1
theorem pmP_at (m : Mm) (P : P6) {o : Nat} (h : o ≠ 68) : (pmP m P).1 o = m.1 o := pm_at m _ _ _ _ _ _ h
theorem pmP_68 (m : Mm) (P : P6) : (pmP m P).1 68 14 = P.2.2.2.2.1 ∧ ∀ j, j < 10 ∨ 15 < j → (pmP m P).1 68 j = m.1 68 j := by
  unfold pmP pm
  rw [setR_s]
  refine ⟨rfl, fun j hj => ?_⟩
  unfold tk6
  rw [if_neg (by omega), if_neg (by omega), if_neg (by omega), if_neg (by omega), if_neg (by omega), if_neg (by omega)]
/-- what text of the model comes to -/
def TxM (m M : Mm) (a : Int32) (r : Flt ⊕ (Nat × Nat × Nat × (Nat → Int32))) : Prop := M.1 68 9 = 0 ∧ (match r with
  | .inl x => a = -10 - nI x.2 ∧ M.1 68 14 = x.1 ∧ (∀ o, o ≠ 68 → o ≠ 72 → M.1 o = m.1 o) ∧ M.1 68 3 = m.1 68 3
  | .inr y => a = nI y.1 ∧ M.1 68 14 = 0 ∧ M.1 68 3 = nI y.2.1 ∧ (∀ j, j < 63 → M.1 69 j = y.2.2.2 j) ∧ M.1 71 0 = 0 ∧ M.1 71 1 = 0)
theorem te_f {P : P6} {x : Flt} (h : FltP P x) (L : Int32) (m : Mm) : rn shP tb0 mN mO (semZ shP wS (d + 6)) (some .int) (codeZ 118) 44 [.ref 68, .int L] [] (pmP m P) = some (some (.int (-10 - nI x.2)), pmP (wI m 68 9 0) P) := by
  obtain ⟨h1, h2, h3⟩ := h
  have n0 : ¬ P.2.2.2.2.1 = 0 := fun z => by
    rw [h1] at z
    rw [z] at h3
    exact absurd h3 (by decide)
  have l0 : ¬ P.2.2.2.2.1 ≤ 0 := by
    rw [h1]
    exact Int32.not_le.mpr h3
  rw [r_X7_text_44]
  simp only [EV, LV, CB, OI, OL, NP, CZ, popN, CT, OZ, List.map_nil, List.map_cons, List.sum_nil, List.sum_cons, Option.toList, List.nil_append, List.cons_append, Int.reduceToNat, Nat.reduceAdd, Nat.reduceLT, Nat.reduceLeDiff, List.length_cons, List.length_nil, Nat.zero_add, if_true, if_false, reduceIte, and_self, and_true, true_and, eq_self, reduceCtorEq, C68, GP68, n0, not_false_eq_true, r_X7_text_73, PP9, l0, GP15, h2]
theorem TxM_f {m m' : Mm} (hf : FrM m m') {P : P6} {x : Flt} (h : FltP P x) : TxM m (pmP (wI m' 68 9 0) P) (-10 - nI x.2) (.inl x) := by
  have p := pmP_68 (wI m' 68 9 0) P
  refine ⟨by rw [p.2 9 (by omega), wI_s], rfl, by rw [p.1]; exact h.1, fun o h1 h2 => ?_, ?_⟩
  · rw [pmP_at _ _ h1, wI_n _ _ _ _ h1]
    exact hf.1 o h2 h1
  · rw [p.2 3 (by omega), wI_j _ _ _ _ _ (by omega)]
    exact hf.2 3 (by omega) (by omega) (by omega)
theorem Hig_lt {H : Int32} {f : Nat → Int32} {N V : Nat} (h : Hig H f N) (hV : V ≤ 4) : (H < nI V) = ((List.range N).all (fun b => decide (f (8 + 5 * b + 1) < nI V)) = true) := by
  apply propext
  constructor
  · intro q
    refine List.all_eq_true.mpr (fun b hb => decide_eq_true ?_)
    exact Int32.lt_of_le_of_lt (h.1 b (List.mem_range.mp hb)) q
  · intro q
    rcases h.2 with e | ⟨b, hb, e⟩
    · rw [e]
      exact Int32.lt_of_lt_of_le (by decide : (-4 : Int32) < 0) (nI_pos' (by omega))
    · rw [e]
      exact of_decide_eq_true (List.all_eq_true.mp q b (List.mem_range.mpr hb))
theorem te_ok (hB : Tp B n) {m : Mm} {V N : Nat} {f : Nat → Int32} {c : Nat} (hM : MT V N f c m) {p : Nat} (hp : p ≤ n) (h0 : (lx B p).1 = 0) (va wr : Int32) (L : Nat) {m0 : Mm} (hf : FrM m0 m) : ∃ a M, rn shP tb0 mN mO (semZ shP wS (d + 6)) (some .int) (codeZ 118) 44 [.ref 68, .int (nI L)] [] (ml B m p va wr) = some (some (.int a), M) ∧ TxM m0 M a (if (List.range N).all (fun b => decide (f (8 + 5 * b + 1) < nI V)) = true then .inr (L, V, N, f) else .inl (6, (lx B p).2.1)) := by
  obtain ⟨g1, g2, g3, g4, g5, g6, g7, g8⟩ := hM
  have P0 : (lexP B p va wr).2.2.2.2.1 = 0 := by
    show (if (lx B p).1 = 4 then 1 else 0) = (0 : Int32)
    rw [if_neg (by omega)]
  have hl := Hig_lt g5 g6
  rw [ml_P]
  by_cases c : m.1 68 7 < nI V
  · have c2 : ¬ nI V ≤ m.1 68 7 := Int32.not_le.mpr c
    rw [hl] at c
    rw [if_pos c]
    obtain ⟨S, eS⟩ : ∃ M, M = pmP (wI m 68 9 0) (lexP B p va wr) := ⟨_, rfl⟩
    obtain ⟨M3, e3⟩ : ∃ M, M = setR (setR (setR S 69 (fillR (S.1 72) (S.1 69) 63)) 68 (upd (S.1 68) 3 (S.1 68 5))) 71 (upd (upd (S.1 71) 0 0) 1 0) := ⟨_, rfl⟩
    have kd : semZ shP wS (d + 6) 104 [.ref 68] S = some (none, M3) := by
      rw [e3]
      exact t_keepDraft wS (d + 5) MP68 S
    have z0 : (0 : Int32) ≤ 0 := by decide
    rw [eS] at kd
    refine ⟨nI L, M3, ?_, ?_⟩
    · rw [r_X7_text_44]
      simp only [EV, LV, CB, OI, OL, NP, CZ, popN, CT, OZ, List.map_nil, List.map_cons, List.sum_nil, List.sum_cons, Option.toList, List.nil_append, List.cons_append, Int.reduceToNat, Nat.reduceAdd, Nat.reduceLT, Nat.reduceLeDiff, List.length_cons, List.length_nil, Nat.zero_add, if_true, if_false, reduceIte, and_self, and_true, true_and, eq_self, reduceCtorEq, C68, GP68, P0, not_true_eq_false, g2, c2, r_X7_text_68, t_nd1 wS (d + 5), PP9, z0, r_X7_text_93, kd]
    · have p := pmP_68 (wI m 68 9 0) (lexP B p va wr)
      rw [e3, eS]
      refine ⟨?_, rfl, ?_, ?_, fun j hj => ?_, ?_, ?_⟩
      · rw [setR_n _ _ (by omega), setR_s, upd_n _ _ (by omega), p.2 9 (by omega), wI_s]
      · rw [setR_n _ _ (by omega), setR_s, upd_n _ _ (by omega), p.1, P0]
      · rw [setR_n _ _ (by omega), setR_s, upd_s, p.2 5 (by omega), wI_j _ _ _ _ _ (by omega)]
        exact g2
      · rw [setR_n _ _ (by omega), setR_n _ _ (by omega), setR_s]
        unfold fillR
        rw [if_pos hj, pmP_at _ _ (by omega), wI_n _ _ _ _ (by omega), g1]
      · rw [setR_s, upd_n _ _ (by omega), upd_s]
      · rw [setR_s, upd_s]
  · have c2 : nI V ≤ m.1 68 7 := Int32.not_lt.mp c
    rw [hl] at c
    rw [if_neg c]
    have f6 : (pf (lexP B p va wr) 6).2.2.2.2.1 = 6 := rfl
    have l6 : ¬ (6 : Int32) ≤ 0 := by decide
    have f7 : (pf (lexP B p va wr) 6).2.2.2.2.2 = nI (lx B p).2.1 := rfl
    refine ⟨-10 - nI (lx B p).2.1, pmP (wI m 68 9 0) (pf (lexP B p va wr) 6), ?_, TxM_f (x := (6, (lx B p).2.1)) hf ⟨rfl, rfl, (by decide : (0 : Int32) < 6)⟩⟩
    rw [r_X7_text_44]
    simp only [EV, LV, CB, OI, OL, NP, CZ, popN, CT, OZ, List.map_nil, List.map_cons, List.sum_nil, List.sum_cons, Option.toList, List.nil_append, List.cons_append, Int.reduceToNat, Nat.reduceAdd, Nat.reduceLT, Nat.reduceLeDiff, List.length_cons, List.length_nil, Nat.zero_add, if_true, if_false, reduceIte, and_self, and_true, true_and, eq_self, reduceCtorEq, C68, GP68, P0, not_true_eq_false, g2, c2, r_X7_text_67, t_nd0 wS (d + 5) P0, PP9, f6, l6, GP15, f7]
theorem tx_l (hB : Tp B n) {m0 : Mm} (wr : Int32) : ∀ (q p L V N : Nat) (f : Nat → Int32) (c : Nat) (m : Mm) (va : Int32), L + q = 160 → 2 * L ≤ p → p ≤ n → TM B n m → FrM m0 m → MT V N f c m → ∃ a M, rn shP tb0 mN mO (semZ shP wS (d + 6)) (some .int) (codeZ 118) 20 [.ref 68, .int (nI L)] [] (ml B m p va wr) = some (some (.int a), M) ∧ TxM m0 M a (prs B q p L V N f c) := by
  have h160 := hB.1
  have e10 : ¬ (1 : Int32) = 0 := by decide
  intro q
  induction q with
  | zero => intro p L V N f c m va h1 h2 h3; omega
  | succ q ih =>
    intro p L V N f c m va h1 h2 hp hm hf hM
    have hb := lx_b hB hp
    unfold prs
    by_cases h4 : (lx B p).1 = 4
    · rw [if_neg (by omega)]
      have el : line B p V N f c = .inl (1, (lx B p).2.1) := by
        unfold line
        rw [if_neg (by omega), h4]
        rfl
      rw [el]
      have P1 : (lexP B p va wr).2.2.2.2.1 = 1 := by
        show (if (lx B p).1 = 4 then 1 else 0) = (1 : Int32)
        rw [if_pos h4]
      have P2 : (lexP B p va wr).2.2.2.2.2 = nI (lx B p).2.1 := by
        show (if (lx B p).1 = 4 then nI (lx B p).2.1 else wr) = _
        rw [if_pos h4]
      have fp : FltP (lexP B p va wr) (1, (lx B p).2.1) := ⟨P1, P2, (by decide : (0 : Int32) < 1)⟩
      refine ⟨_, _, ?_, TxM_f hf fp⟩
      rw [r_X7_text_20, ml_P]
      simp only [EV, LV, CB, OI, OL, NP, CZ, popN, CT, OZ, List.map_nil, List.map_cons, List.sum_nil, List.sum_cons, Option.toList, List.nil_append, List.cons_append, Int.reduceToNat, Nat.reduceAdd, Nat.reduceLT, Nat.reduceLeDiff, List.length_cons, List.length_nil, Nat.zero_add, if_true, if_false, reduceIte, and_self, and_true, true_and, eq_self, reduceCtorEq, C68, GP68, P1, e10, not_false_eq_true]
      exact te_f wS d fp (nI L) m
    · have P1 : (lexP B p va wr).2.2.2.2.1 = 0 := by
        show (if (lx B p).1 = 4 then 1 else 0) = (0 : Int32)
        rw [if_neg h4]
      have so := lx_so h4
      have Ps : (lexP B p va wr).2.2.1 = nI (lx B p).1 := so
      by_cases h0 : (lx B p).1 = 0
      · rw [if_pos h0]
        have Ps : (lexP B p va wr).2.2.1 = 0 := by rw [Ps, h0]; rfl
        obtain ⟨a, M, b1, b2⟩ := te_ok wS d hB hM hp h0 va wr L hf
        refine ⟨a, M, ?_, b2⟩
        rw [r_X7_text_20, ml_P]
        simp only [EV, LV, CB, OI, OL, NP, CZ, popN, CT, OZ, List.map_nil, List.map_cons, List.sum_nil, List.sum_cons, Option.toList, List.nil_append, List.cons_append, Int.reduceToNat, Nat.reduceAdd, Nat.reduceLT, Nat.reduceLeDiff, List.length_cons, List.length_nil, Nat.zero_add, if_true, if_false, reduceIte, and_self, and_true, true_and, eq_self, reduceCtorEq, C68, GP68, P1, Ps, not_true_eq_false]
        exact b1
      · rw [if_neg h0]
        have n0 : ¬ (lexP B p va wr).2.2.1 = 0 := by
          rw [Ps]
          exact nI_ne0 (by omega) (by omega)
        obtain ⟨M, a1, a2⟩ := t_rlX wS d hB hm hM hp h0 h4 va wr
        have st : rn shP tb0 mN mO (semZ shP wS (d + 6)) (some .int) (codeZ 118) 20 [.ref 68, .int (nI L)] [] (ml B m p va wr) = rn shP tb0 mN mO (semZ shP wS (d + 6)) (some .int) (codeZ 118) 20 [.ref 68, .int (nI (L + 1))] [] M := by
          rw [ml_P] at a1 ⊢
          rw [r_X7_text_20]
          simp only [EV, LV, CB, OI, OL, NP, CZ, popN, CT, OZ, List.map_nil, List.map_cons, List.sum_nil, List.sum_cons, Option.toList, List.nil_append, List.cons_append, Int.reduceToNat, Nat.reduceAdd, Nat.reduceLT, Nat.reduceLeDiff, List.length_cons, List.length_nil, Nat.zero_add, if_true, if_false, reduceIte, and_self, and_true, true_and, eq_self, reduceCtorEq, C68, GP68, P1, n0, not_true_eq_false, a1, nI_1]
        rw [st]
        cases e : line B p V N f c with
        | inl x =>
          rw [e] at a2
          obtain ⟨m', P, rfl, b2, b3⟩ := FltM_self a2.1 a2.2
          have n1 : ¬ P.2.2.2.2.1 = 0 := fun z => by
            have := b3.2.2
            rw [← b3.1, z] at this
            exact absurd this (by decide)
          refine ⟨_, _, ?_, TxM_f (FrM_tr hf b2) b3⟩
          rw [r_X7_text_20]
          simp only [EV, LV, CB, OI, OL, NP, CZ, popN, CT, OZ, List.map_nil, List.map_cons, List.sum_nil, List.sum_cons, Option.toList, List.nil_append, List.cons_append, Int.reduceToNat, Nat.reduceAdd, Nat.reduceLT, Nat.reduceLeDiff, List.length_cons, List.length_nil, Nat.zero_add, if_true, if_false, reduceIte, and_self, and_true, true_and, eq_self, reduceCtorEq, C68, GP68, n1, not_false_eq_true]
          exact te_f wS d b3 (nI (L + 1)) m'
        | inr y =>
          rw [e] at a2
          obtain ⟨m', va', rfl, b2, b3, b4, b5⟩ := a2
          exact ih y.1 (L + 1) y.2.1 y.2.2.1 y.2.2.2.1 y.2.2.2.2 m' va' (by omega) (by omega) b5 (TM_fr hm b2) (FrM_tr hf b2) b3
theorem dr0_F (g : Nat → Int32) : Fst (dr0 g) := by
  unfold Fst Z0 dr0
  refine ⟨rfl, rfl, rfl, rfl, rfl, fun b hb => ?_, rfl⟩
  rw [upd_n _ _ (by omega), upd_n _ _ (by omega), upd_n _ _ (by omega)]
  unfold fillR
  rw [if_pos (by omega)]
theorem t_text7 (hB : Tp B n) {m : Mm} (hm : TM B n m) {fr : Nat} (hfr : m.1 68 11 = nI fr) : ∃ a M, semZ shP wS (d + 7) 118 [.ref 68] m = some (some (.int a), M) ∧ TxM m M a (prs B 160 0 0 0 0 (dr0 (m.1 72)) 0) := by
  have g14 : ∀ (m : Mm) (x : Int32), pfI shP 714 68 (.int x) m = some (wI m 68 14 x) := fun _ _ => rfl
  have g10 : ∀ (m : Mm) (x : Int32), pfI shP 710 68 (.int x) m = some (wI m 68 10 x) := fun _ _ => rfl
  obtain ⟨m1, e1⟩ : ∃ M, M = wI (wI m 68 14 0) 68 10 0 := ⟨_, rfl⟩
  have fd := t_firstDraft wS (d + 5) MP68 m1
  obtain ⟨m2, e2⟩ : ∃ M, M = setR (setR m1 72 (dr0 (m1.1 72))) 68 (upd (upd (upd (m1.1 68) 5 0) 6 0) 7 (-4)) := ⟨_, rfl⟩
  have fd : semZ shP wS (d + 6) 103 [.ref 68] m1 = some (none, m2) := by
    rw [e2]
    exact fd
  have o1 : ∀ o, o ≠ 68 → m1.1 o = m.1 o := fun o h => by rw [e1, wI_n _ _ _ _ h, wI_n _ _ _ _ h]
  have o2 : ∀ o, o ≠ 68 → o ≠ 72 → m2.1 o = m.1 o := fun o h h2 => by rw [e2, setR_n _ _ h, setR_n _ _ h2, o1 o h]
  have r68 : m2.1 68 = upd (upd (upd (m1.1 68) 5 0) 6 0) 7 (-4) := by rw [e2, setR_s]
  have s68 : ∀ j, j ≠ 5 → j ≠ 6 → j ≠ 7 → m2.1 68 j = m1.1 68 j := fun j h5 h6 h7 => by rw [r68, upd_n _ _ h7, upd_n _ _ h6, upd_n _ _ h5]
  have k10 : m2.1 68 10 = nI 0 := by rw [s68 10 (by omega) (by omega) (by omega), e1, wI_s]; rfl
  have k11 : m2.1 68 11 = nI fr := by rw [s68 11 (by omega) (by omega) (by omega), e1, wI_j _ _ _ _ _ (by omega), wI_j _ _ _ _ _ (by omega)]; exact hfr
  have k14 : m2.1 68 14 = 0 := by rw [s68 14 (by omega) (by omega) (by omega), e1, wI_j _ _ _ _ _ (by omega), wI_s]
  have pid := pm_id m2 k10 k11
  rw [k14] at pid
  have hm2 : TM B n m2 := ⟨by rw [s68 9 (by omega) (by omega) (by omega), e1, wI_j _ _ _ _ _ (by omega), wI_j _ _ _ _ _ (by omega)]; exact hm.1, fun j hj => by rw [o2 73 (by omega) (by omega)]; exact hm.2 j hj⟩
  have tk := t_tkL wS (d + 4) hB hm2 (Nat.zero_le n) fr (m2.1 68 12) (m2.1 68 13) (m2.1 68 15)
  rw [pid] at tk
  have hf0 := dr0_F (m.1 72)
  have hM : MT 0 0 (dr0 (m.1 72)) 0 m2 := by
    refine ⟨?_, by rw [r68, upd_n _ _ (by omega), upd_n _ _ (by omega), upd_s]; rfl, hf0.1, by rw [r68, upd_n _ _ (by omega), upd_s]; rfl, ?_, by omega, by omega, by omega⟩
    · rw [e2, setR_n _ _ (by omega), setR_s, o1 72 (by omega)]
    · rw [r68, upd_s]
      exact ⟨fun b hb => by omega, Or.inl rfl⟩
  obtain ⟨a, M, b1, b2⟩ := tx_l wS d hB (m0 := m2) (m2.1 68 15) 160 0 0 0 0 (dr0 (m.1 72)) 0 m2 (m2.1 68 13) (by omega) (by omega) (Nat.zero_le n) hm2 FrM_rf hM
  refine ⟨a, M, ?_, ?_⟩
  · rw [se_X7_text, r_X7_text_0]
    simp only [EV, LV, CB, OI, OL, NP, CZ, popN, CT, OZ, List.map_nil, List.map_cons, List.sum_nil, List.sum_cons, Option.toList, List.nil_append, List.cons_append, Int.reduceToNat, Nat.reduceAdd, Nat.reduceLT, Nat.reduceLeDiff, List.length_cons, List.length_nil, Nat.zero_add, if_true, if_false, reduceIte, and_self, and_true, true_and, eq_self, reduceCtorEq, C68, g14, g10, ← e1, fd, tk]
    exact b1
  · unfold TxM at b2 ⊢
    refine ⟨b2.1, ?_⟩
    have b2 := b2.2
    split at b2
    · obtain ⟨c1, c2, c3, c4⟩ := b2
      refine ⟨c1, c2, fun o h1 h2 => by rw [c3 o h1 h2, o2 o h1 h2], ?_⟩
      rw [c4, s68 3 (by omega) (by omega) (by omega), e1, wI_j _ _ _ _ _ (by omega), wI_j _ _ _ _ _ (by omega)]
    · exact b2
end Mt
end
section
/-! THE RELATION of class and model: tape and fault -/
def TR (n : Nat) (m : Mm) : Prop := ∃ B, Tp B n ∧ TC B n m ∧ TM B n m
def FR (m : Mm) : Prop := m.1 23 1 = m.1 68 14
theorem TR_len {n : Nat} {m : Mm} (h : TR n m) : m.1 24 0 = nI n ∧ m.1 68 9 = nI n ∧ n ≤ 160 := by
  obtain ⟨B, h1, h2, h3⟩ := h
  exact ⟨h2.1, h3.1, h1.1⟩
theorem g01 : (∀ j, grp 0 25 j = true) ∧ grp 0 24 0 = true ∧ (∀ j, grp 1 73 j = true) ∧ grp 1 68 9 = true ∧ grp 2 23 1 = true ∧ grp 3 68 14 = true := ⟨fun _ => rfl, rfl, fun _ => rfl, rfl, rfl, rfl⟩
theorem TC_Kp {B : Nat → Int32} {n : Nat} {q : List Nat} {m m' : Mm} (hn : n ≤ 160) (h : TC B n m) (hk : Kp q m m') (h0 : 0 ∈ q) : TC B n m' := ⟨by rw [Kp_at hk h0 (by omega) g01.2.1]; exact h.1, fun j hj => by rw [Kp_at hk h0 (by omega) (g01.1 j)]; exact h.2 j hj⟩
theorem TM_Kp {B : Nat → Int32} {n : Nat} {q : List Nat} {m m' : Mm} (hn : n ≤ 160) (h : TM B n m) (hk : Kp q m m') (h1 : 1 ∈ q) : TM B n m' := ⟨by rw [Kp_at hk h1 (by omega) g01.2.2.2.1]; exact h.1, fun j hj => by rw [Kp_at hk h1 (by omega) (g01.2.2.1 j)]; exact h.2 j hj⟩
theorem TR_Kp {n : Nat} {q : List Nat} {m m' : Mm} (h : TR n m) (hk : Kp q m m') (h0 : 0 ∈ q) (h1 : 1 ∈ q) : TR n m' := by
  obtain ⟨B, a1, a2, a3⟩ := h
  exact ⟨B, a1, TC_Kp a1.1 a2 hk h0, TM_Kp a1.1 a3 hk h1⟩
theorem FR_Kp {q : List Nat} {m m' : Mm} (h : FR m) (hk : Kp q m m') (h2 : 2 ∈ q) (h3 : 3 ∈ q) : FR m' := by
  unfold FR
  rw [Kp_at hk h2 (by omega) g01.2.2.2.2.1, Kp_at hk h3 (by omega) g01.2.2.2.2.2]
  exact h
theorem TR_0 {m : Mm} (h0 : m.1 24 0 = 0) (h1 : m.1 68 9 = 0) : TR 0 m := ⟨fun _ => -1, ⟨by omega, fun _ _ => rfl, fun j hj => by omega⟩, ⟨by rw [h0]; rfl, fun j hj => by omega⟩, ⟨by rw [h1]; rfl, fun j hj => by omega⟩⟩
theorem TR_feed {n : Nat} {m m1 m2 : Mm} {c : Int32} (h : TR n m) (a1 : m1.1 24 0 = nI (fdN c n)) (f1 : FdB 25 c n m m1) (k1 : frm ([25], [4800]) m m1) (a2 : m2.1 68 9 = nI (fdN c n)) (f2 : FdB 73 c n m1 m2) (k2 : frm ([73], [13609]) m1 m2) : TR (fdN c n) m2 := by
  obtain ⟨B, b1, b2, b3⟩ := h
  have h160 := b1.1
  have e24 : m2.1 24 0 = m1.1 24 0 := inW_f k2 (by omega) (by decide)
  have e25 : ∀ j, j < 160 → m2.1 25 j = m1.1 25 j := fun j hj => inW_f k2 (by omega) (by
    unfold inW
    have : (([73], [13609]) : Wr).2.contains (cd 25 j) = false := by
      simp [cd]
      omega
    rw [this]
    rfl)
  have e73 : ∀ j, j < 160 → m1.1 73 j = m.1 73 j := fun j hj => inW_f k1 (by omega) (by
    unfold inW
    have : (([25], [4800]) : Wr).2.contains (cd 73 j) = false := by
      simp [cd]
      omega
    rw [this]
    rfl)
  by_cases hc : (0 ≤ c ∧ c ≤ 127) ∧ n < 160
  · have en : fdN c n = n + 1 := by
      unfold fdN
      rw [if_pos hc.1, if_pos hc.2]
    rw [en] at a1 a2 ⊢
    refine ⟨upd B n c, ⟨by omega, fun j hj => ?_, fun j hj => ?_⟩, ⟨by rw [e24]; exact a1, fun j hj => ?_⟩, ⟨a2, fun j hj => ?_⟩⟩
    · rw [upd_n _ _ (by omega)]
      exact b1.2.1 j (by omega)
    · by_cases e : j = n
      · rw [e, upd_s]; exact hc.1
      · rw [upd_n _ _ e]; exact b1.2.2 j (by omega)
    · rw [e25 j (by omega), f1.1 hc]
      by_cases e : j = n
      · rw [e, upd_s, upd_s]
      · rw [upd_n _ _ e, upd_n _ _ e]; exact b2.2 j (by omega)
    · rw [f2.1 hc]
      by_cases e : j = n
      · rw [e, upd_s, upd_s]
      · rw [upd_n _ _ e, upd_n _ _ e, e73 j (by omega)]; exact b3.2 j (by omega)
  · have en : fdN c n = n := by
      unfold fdN
      split
      · rename_i q1
        split
        · rename_i q2; exact absurd ⟨q1, q2⟩ hc
        · rfl
      · rfl
    rw [en] at a1 a2 ⊢
    refine ⟨B, b1, ⟨by rw [e24]; exact a1, fun j hj => ?_⟩, ⟨a2, fun j hj => ?_⟩⟩
    · rw [e25 j (by omega), f1.2 hc]; exact b2.2 j hj
    · rw [f2.2 hc, e73 j (by omega)]; exact b3.2 j hj
theorem TR_end {n k : Nat} {m m1 m2 : Mm} (h : TR n m) (hk : k ≤ n) (a1 : m1.1 24 0 = nI k) (k1 : frm ([], [4800]) m m1) (a2 : m2.1 68 9 = nI k) (k2 : frm ([], [13609]) m1 m2) : TR k m2 := by
  obtain ⟨B, b1, b2, b3⟩ := h
  have h160 := b1.1
  have q1 : ∀ o j, j < 200 → o * 200 + j ≠ 4800 → m1.1 o j = m.1 o j := fun o j hj ho => (k1 o j hj (by simp) (by simpa using ho)).1
  have q2 : ∀ o j, j < 200 → o * 200 + j ≠ 13609 → m2.1 o j = m1.1 o j := fun o j hj ho => (k2 o j hj (by simp) (by simpa using ho)).1
  refine ⟨fun j => if j < k then B j else -1, ⟨by omega, fun j hj => if_neg (by omega), fun j hj => ?_⟩, ⟨by rw [q2 24 0 (by omega) (by omega)]; exact a1, fun j hj => ?_⟩, ⟨a2, fun j hj => ?_⟩⟩
  · show 0 ≤ (if j < k then B j else -1) ∧ (if j < k then B j else -1) ≤ 127
    rw [if_pos hj]
    exact b1.2.2 j (by omega)
  · show _ = if j < k then B j else -1
    rw [if_pos hj, q2 25 j (by omega) (by omega), q1 25 j (by omega) (by omega)]
    exact b2.2 j (by omega)
  · show _ = if j < k then B j else -1
    rw [if_pos hj, q2 73 j (by omega) (by omega), q1 73 j (by omega) (by omega)]
    exact b3.2 j (by omega)
theorem enN_n (x : Int32) {n : Nat} (h : n ≤ 160) : ∃ k : Nat, k ≤ n ∧ enN x n = nI k := by
  unfold enN
  split
  · rename_i q
    have hb := wi_i q
    rw [show (0 : Int32).toInt = 0 from by decide, nI_toInt (by omega)] at hb
    exact ⟨x.toInt.toNat, by omega, i_nI hb.1⟩
  · exact ⟨n, Nat.le_refl _, rfl⟩
section Rt
variable {wS : List Value → Mm → Option Rs} (d : Nat)
theorem t_fault6 (m : Mm) : semZ shP wS (d + 1) 46 [.ref 0] m = some (some (.int (m.1 23 1)), m) := by
  rw [se_X6_fault, r_X6_fault_0]
  simp only [EV, LV, CB, OI, OL, NP, CZ, popN, CT, OZ, List.map_nil, List.map_cons, List.sum_nil, List.sum_cons, Option.toList, List.nil_append, List.cons_append, Int.reduceToNat, Nat.reduceAdd, Nat.reduceLT, Nat.reduceLeDiff, List.length_cons, List.length_nil, Nat.zero_add, if_true, if_false, reduceIte, and_self, and_true, true_and, eq_self, reduceCtorEq, gP0, F404]
theorem t_fault7 (m : Mm) : semZ shP wS (d + 1) 119 [.ref 68] m = some (some (.int (m.1 68 14)), m) := by
  rw [se_X7_fault, r_X7_fault_0]
  simp only [EV, LV, CB, OI, OL, NP, CZ, popN, CT, OZ, List.map_nil, List.map_cons, List.sum_nil, List.sum_cons, Option.toList, List.nil_append, List.cons_append, Int.reduceToNat, Nat.reduceAdd, Nat.reduceLT, Nat.reduceLeDiff, List.length_cons, List.length_nil, Nat.zero_add, if_true, if_false, reduceIte, and_self, and_true, true_and, eq_self, reduceCtorEq, gM MP68]
theorem iv_tp : ivO TV 24 1 = (0, 160) ∧ ivO TV 68 11 = (0, 160) := by decide +kernel
theorem b_fault {m : Mm} (h : FR m) : ∃ v m1 m2, semZ shP wS (d + 30) 46 [.ref 0] m = some (some (.int v), m1) ∧ semZ shP wS (d + 30) 119 [.ref 68] m1 = some (some (.int v), m2) ∧ m2 = m := by
  refine ⟨m.1 23 1, m, m, t_fault6 (d + 29) m, ?_, rfl⟩
  rw [h]
  exact t_fault7 (d + 29) m
/-- text of both -/
theorem b_text (hw : WOK wS) (hX : WX wS) {n : Nat} {m : Mm} (hI : InvT TV m) (hJ : JK m) (hT : TR n m) : ∃ v m1 m2 B, semZ shP wS (d + 30) 45 [.ref 0] m = some (some (.int v), m1) ∧ semZ shP wS (d + 30) 118 [.ref 68] m1 = some (some (.int v), m2) ∧ InvT TV m1 ∧ InvT TV m2 ∧ JK m2 ∧ Kp (qx [0, 2, 8, 10, 12]) m m1 ∧ Kp (qx [1, 3, 9, 11, 13]) m1 m2 ∧ TxC m m1 v (prs B 160 0 0 0 0 (dr0 (m1.1 72)) 0) ∧ TxM m1 m2 v (prs B 160 0 0 0 0 (dr0 (m1.1 72)) 0) ∧ Tp B n := by
  obtain ⟨v1, m1, a1, p1, p2, p3, p4, k1⟩ := ok_X6_text (d + 2) hw m hI hJ
  have a1 : semZ shP wS (d + 30) 45 [.ref 0] m = some (some (.int v1), m1) := a1
  obtain ⟨v2, m2, b1, q1, q2, q3, q4, k2⟩ := ok_X7_text d hw m1 p1 p2
  obtain ⟨B, c1, c2, c3⟩ := hT
  have i1 := hI 24 1
  rw [iv_tp.1] at i1
  have i2 := p1 68 11
  rw [iv_tp.2] at i2
  obtain ⟨a, M, d1, d2⟩ := t_text6 wS (d + 24) hX c1 c2 (s0 := (m.1 24 1).toInt.toNat) (i_nI i1.1) (dr0_F (m1.1 72))
  have d1 : semZ shP wS (d + 30) 45 [.ref 0] m = some (some (.int a), M) := d1
  have e := a1.symm.trans d1
  simp only [Option.some.injEq, Prod.mk.injEq, Value.int.injEq] at e
  obtain ⟨rfl, rfl⟩ := e
  obtain ⟨a2, M2, f1, f2⟩ := t_text7 wS (d + 23) c1 (TM_Kp c1.1 c3 k1 (by decide)) (fr := (m1.1 68 11).toInt.toNat) (i_nI i2.1)
  have f1 : semZ shP wS (d + 30) 118 [.ref 68] m1 = some (some (.int a2), M2) := f1
  have e := b1.symm.trans f1
  simp only [Option.some.injEq, Prod.mk.injEq, Value.int.injEq] at e
  obtain ⟨rfl, rfl⟩ := e
  have ev : v1 = v2 := by
    have x1 := d2.2
    have x2 := f2.2
    generalize prs B 160 0 0 0 0 (dr0 (m1.1 72)) 0 = r at x1 x2
    cases r with
    | inl x => exact x1.1.trans x2.1.symm
    | inr y => exact x1.1.trans x2.1.symm
  subst ev
  exact ⟨v1, m1, m2, B, a1, b1, p1, q1, q2, k1, k2, d2, f2, c1⟩
theorem FR_text {m m1 m2 : Mm} {v : Int32} {r : Flt ⊕ (Nat × Nat × Nat × (Nat → Int32))} (h1 : TxC m m1 v r) (h2 : TxM m1 m2 v r) (k : Kp (qx [1, 3, 9, 11, 13]) m1 m2) : FR m2 := by
  have e : m2.1 23 1 = m1.1 23 1 := Kp_at k (by decide) (by omega) g01.2.2.2.2.1
  unfold FR
  rw [e]
  have x1 := h1.2
  have x2 := h2.2
  cases r with
  | inl x => exact x1.2.1.trans x2.2.1.symm
  | inr y => exact x1.2.1.trans x2.2.1.symm
end Rt
end
