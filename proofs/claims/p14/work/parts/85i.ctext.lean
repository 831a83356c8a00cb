/-! takeLine, tell: the class's text -/
theorem F24i (m : Mm) (s e : Nat) : gfI shP 301 24 (tm m s e) = some (.int (nI s)) ∧ gfI shP 300 24 (tm m s e) = some (.int (m.1 24 0)) := ⟨(G24 m s e).2.2.1, (G24 m s e).2.1⟩
/-- a line that is told: the place behind it, what the memory holds then -/
def OkC (B : Nat → Int32) (n p : Nat) (m M : Mm) (y : Lin) : Prop := ∃ (m' : Mm) (s' : Nat), M = tm m' s' y.1 ∧ FrC m m' ∧ m'.1 23 1 = m.1 23 1 ∧ CTx y.2.1 y.2.2.1 y.2.2.2.1 y.2.2.2.2 m' ∧ p + 2 ≤ y.1 ∧ y.1 ≤ n
def LnC (B : Nat → Int32) (n p : Nat) (m M : Mm) (r : Flt ⊕ Lin) : Prop := match r with
  | .inl x => FltC m M x ∧ ¬ x.1 = 0
  | .inr y => OkC B n p m M y
theorem bad_n (t : Nat) : ¬ bad t = 0 := by
  unfold bad
  split <;> decide
theorem num1_n {B : Nat → Int32} {hi : Int32} {z : Bool} {p : Nat} {x : Flt} (h : num1 B hi z p = .inl x) : ¬ x.1 = 0 := by
  unfold num1 at h
  split at h
  · split at h
    · cases h; exact (by decide : ¬ (3 : Int32) = 0)
    · cases h
  · cases h; exact bad_n _
section Tl
variable {B : Nat → Int32} {n : Nat} (wS : List Value → Mm → Option Rs) (d : Nat) {m : Mm}
/-- behind the numbers: the stop -/
theorem tl_stop (hB : Tp B n) (hm : TC B n m) {k : Nat} (s0 : Nat) {p : Nat} (hp : p ≤ n) (mE : Mm) (he : semZ shP wS (d + 3) 17 [.ref 23, .int (nI k), .ref 10] (tm m (lx B p).2.1 (lx B p).2.2) = some (none, mE)) : ∃ M, semZ shP wS (d + 3) 8 [.ref 24] (tm m s0 p) = some (some (.int (nI (lx B p).1)), tm m (lx B p).2.1 (lx B p).2.2) ∧ (match stp B p with
    | .inl x => semZ shP wS (d + 3) 19 [.ref 23, .int (nI (lx B p).1), .int 3] (tm m (lx B p).2.1 (lx B p).2.2) = some (some (.int 0), M) ∧ FltC m M x ∧ ¬ x.1 = 0
    | .inr q => semZ shP wS (d + 3) 19 [.ref 23, .int (nI (lx B p).1), .int 3] (tm m (lx B p).2.1 (lx B p).2.2) = some (some (.int 1), tm m (lx B p).2.1 (lx B p).2.2) ∧ M = mE ∧ q = (lx B p).2.2 ∧ p < q ∧ q ≤ n) := by
  have hb := lx_b hB hp
  have tk := t_takeX wS (d + 1) hB hm s0 hp
  unfold stp
  by_cases h3 : (lx B p).1 = 3
  · rw [if_pos h3]
    have ey : semZ shP wS (d + 3) 19 [.ref 23, .int (nI 3), .int 3] (tm m (lx B p).2.1 (lx B p).2.2) = _ := t_exY wS (d + 2) 3 (tm m (lx B p).2.1 (lx B p).2.2)
    have := hb.2.2.2.2.2 (by omega)
    exact ⟨mE, tk, by rw [h3]; exact ey, rfl, rfl, by omega, hb.2.2.1⟩
  · rw [if_neg h3]
    have ex : semZ shP wS (d + 3) 19 [.ref 23, .int (nI (lx B p).1), .int 3] (tm m (lx B p).2.1 (lx B p).2.2) = _ := t_exN wS (d + 1) hB hp (b := 3) (by omega) h3 m
    exact ⟨_, tk, ex, FltC_of (x := (bad (lx B p).1, (lx B p).2.1)) FrC_rf _ _, bad_n _⟩
/-- takeLine from its numbers on -/
theorem tl_87 (hB : Tp B n) {k : Nat} {m1 : Mm} (s0 e0 : Nat) {v : Int32} {M1 : Mm} (hn : semZ shP wS (d + 3) 15 [.ref 23, .int (nI k)] (tm m s0 e0) = some (some (.int v), M1)) (t : Int32) : (v = 0 → rn shP tb0 mN mO (semZ shP wS (d + 3)) none (codeZ 13) 87 [.ref 23, .int t, .ref 10, .int (nI k)] [] (tm m s0 e0) = some (none, M1)) ∧ (v = 1 → ∀ (s1 p : Nat), M1 = tm m1 s1 p → TC B n m1 → p ≤ n → ∀ mE, semZ shP wS (d + 3) 17 [.ref 23, .int (nI k), .ref 10] (tm m1 (lx B p).2.1 (lx B p).2.2) = some (none, mE) → ∃ M, rn shP tb0 mN mO (semZ shP wS (d + 3)) none (codeZ 13) 87 [.ref 23, .int t, .ref 10, .int (nI k)] [] (tm m s0 e0) = some (none, M) ∧ (match stp B p with
    | .inl x => FltC m1 M x ∧ ¬ x.1 = 0
    | .inr q => M = mE ∧ q = (lx B p).2.2 ∧ p < q ∧ q ≤ n)) := by
  have e10 : ¬ (1 : Int32) = 0 := by decide
  constructor
  · intro h
    subst h
    rw [r_X4_takeLine_87]
    simp only [EV, LV, CB, OI, OL, NP, CZ, popN, CT, OZ, List.map_nil, List.map_cons, List.sum_nil, List.sum_cons, Option.toList, List.nil_append, List.cons_append, Int.reduceToNat, Nat.reduceAdd, Nat.reduceLT, Nat.reduceLeDiff, List.length_cons, List.length_nil, Nat.zero_add, if_true, if_false, reduceIte, and_self, and_true, true_and, eq_self, reduceCtorEq, C23, hn, r_X4_takeLine_116]
  · intro h s1 p hM hm1 hp mE he
    subst h
    subst hM
    obtain ⟨M, a1, a2⟩ := tl_stop wS d hB hm1 s1 hp mE he
    refine ⟨M, ?_, ?_⟩
    · rw [r_X4_takeLine_87]
      cases e : stp B p with
      | inl x =>
        rw [e] at a2
        simp only [EV, LV, CB, OI, OL, NP, CZ, popN, CT, OZ, List.map_nil, List.map_cons, List.sum_nil, List.sum_cons, Option.toList, List.nil_append, List.cons_append, Int.reduceToNat, Nat.reduceAdd, Nat.reduceLT, Nat.reduceLeDiff, List.length_cons, List.length_nil, Nat.zero_add, if_true, if_false, reduceIte, and_self, and_true, true_and, eq_self, reduceCtorEq, C23, C24, G23, hn, e10, a1, a2.1, r_X4_takeLine_116]
      | inr q =>
        rw [e] at a2
        simp only [EV, LV, CB, OI, OL, NP, CZ, popN, CT, OZ, List.map_nil, List.map_cons, List.sum_nil, List.sum_cons, Option.toList, List.nil_append, List.cons_append, Int.reduceToNat, Nat.reduceAdd, Nat.reduceLT, Nat.reduceLeDiff, List.length_cons, List.length_nil, Nat.zero_add, if_true, if_false, reduceIte, and_self, and_true, true_and, eq_self, reduceCtorEq, C23, C24, G23, hn, e10, a1, a2.1, he, a2.2.1]
    · cases e : stp B p with
      | inl x =>
        rw [e] at a2
        exact a2.2
      | inr q =>
        rw [e] at a2
        exact a2.2
theorem FltC_tr {m1 M : Mm} {x : Flt} (h : FrC m m1) (h2 : FltC m1 M x) : FltC m M x := by
  obtain ⟨m', s', e', h3, h4, h5, h6⟩ := h2
  exact ⟨m', s', e', h3, fun o h1 h2 h3 => (h4 o h1 h2 h3).trans (h o h1 h2 h3), h5, h6⟩
theorem liV_c (hB : Tp B n) (hm : TC B n m) {V N : Nat} {f : Nat → Int32} {c : Nat} (hC : CTx V N f c m) (hV : V < 4) (s0 : Nat) {p0 p : Nat} (hp0 : p0 < p) (hp : p ≤ n) (t : Int32) : ∃ M, rn shP tb0 mN mO (semZ shP wS (d + 3)) none (codeZ 13) 87 [.ref 23, .int t, .ref 10, .int (nI 0)] [] (tm m s0 p) = some (none, M) ∧ LnC B n p0 m M (liV B p V N f c) := by
  obtain ⟨v, M1, a1, a2⟩ := t_tn2 wS d hB hm s0 hp
  unfold liV
  cases e1 : num1 B 99 false p with
  | inl x =>
    rw [e1] at a2
    obtain ⟨rfl, a2⟩ := a2
    exact ⟨M1, (tl_87 wS d hB (m1 := m) s0 p a1 t).1 rfl, a2, num1_n e1⟩
  | inr y =>
    rw [e1] at a2
    simp only at a2 ⊢
    have hy := num1_p hB hp e1
    cases e2 : num1 B 9 false y.2 with
    | inl x =>
      rw [e2] at a2
      obtain ⟨rfl, a2⟩ := a2
      exact ⟨M1, (tl_87 wS d hB (m1 := m) s0 p a1 t).1 rfl, a2, num1_n e2⟩
    | inr y2 =>
      rw [e2] at a2
      obtain ⟨rfl, s1, hM⟩ := a2
      have hy2 := num1_p hB hy.2 e2
      have h0 : (tm (wI (wI m 26 0 y.1) 26 1 y2.1) (lx B y2.2).2.1 (lx B y2.2).2.2).1 10 0 = nI V := by
        rw [tm_at _ _ _ (by omega), wI_o _ _ _ _ _ (by omega), wI_o _ _ _ _ _ (by omega)]
        exact hC.1.2.2.1
      have en := t_enterV wS (d + 1) hV _ h0
      have q0 : (tm (wI (wI m 26 0 y.1) 26 1 y2.1) (lx B y2.2).2.1 (lx B y2.2).2.2).1 26 0 = y.1 := by
        rw [tm_at _ _ _ (by omega), wI_j _ _ _ _ _ (by omega), wI_s]
      have q1 : (tm (wI (wI m 26 0 y.1) 26 1 y2.1) (lx B y2.2).2.1 (lx B y2.2).2.2).1 26 1 = y2.1 := by
        rw [tm_at _ _ _ (by omega), wI_s]
      rw [q0, q1, tm_o _ _ _ _ _ (by omega), tm_o _ _ _ _ _ (by omega), tm_o _ _ _ _ _ (by omega)] at en
      obtain ⟨M, b1, b2⟩ := (tl_87 wS d hB (m1 := wI (wI m 26 0 y.1) 26 1 y2.1) s0 p a1 t).2 rfl s1 y2.2 hM (TC_26 (TC_26 hm _ _) _ _) hy2.2 _ en
      refine ⟨M, b1, ?_⟩
      simp only
      have f26 : FrC m (wI (wI m 26 0 y.1) 26 1 y2.1) := FrC_w (FrC_w FrC_rf (by omega)) (by omega)
      cases e3 : stp B y2.2 with
      | inl x =>
        rw [e3] at b2
        exact ⟨FltC_tr f26 b2.1, b2.2⟩
      | inr q =>
        rw [e3] at b2
        obtain ⟨c1, c2, c3, c4⟩ := b2
        have w26 : CW 10 V N f (wI (wI m 26 0 y.1) 26 1 y2.1) := CW_k hC.1 (fun o h1 h2 => by rw [wI_n _ _ _ _ (by omega), wI_n _ _ _ _ (by omega)])
        refine ⟨_, _, by rw [c1, ← c2], FrC_w (FrC_w (FrC_w f26 (by omega)) (by omega)) (by omega), ?_, ⟨CW_v w26 hV y.1 y2.1, ?_, ?_, hC.2.2.2.1, ?_⟩, ?_, ?_⟩
        · rw [wI_o _ _ _ _ _ (by omega), wI_o _ _ _ _ _ (by omega), wI_o _ _ _ _ _ (by omega), wI_o _ _ _ _ _ (by omega), wI_o _ _ _ _ _ (by omega)]
        · intro b hb
          show upd (upd f (2 * V) y.1) (2 * V + 1) y2.1 (8 + 5 * b + 4) = 0
          rw [upd_n _ _ (by omega), upd_n _ _ (by omega)]
          exact hC.2.1 b hb
        · rw [wI_o _ _ _ _ _ (by omega), wI_o _ _ _ _ _ (by omega), wI_o _ _ _ _ _ (by omega), wI_o _ _ _ _ _ (by omega), wI_o _ _ _ _ _ (by omega)]
          exact hC.2.2.1
        · show _ = upd (upd f (2 * V) y.1) (2 * V + 1) y2.1 43
          rw [wI_j _ _ _ _ _ (by omega), wI_o _ _ _ _ _ (by omega), wI_o _ _ _ _ _ (by omega), wI_o _ _ _ _ _ (by omega), wI_o _ _ _ _ _ (by omega), upd_n _ _ (by omega), upd_n _ _ (by omega)]
          exact hC.2.2.2.2
        · show p0 + 2 ≤ q; omega
        · exact c4
theorem liB_c (hB : Tp B n) (hm : TC B n m) {V N : Nat} {f : Nat → Int32} {c : Nat} (hC : CTx V N f c m) (hN : N < 6) {k : Nat} (k1 : 1 ≤ k) (k4 : k ≤ 4) (s0 : Nat) {p0 p : Nat} (hp0 : p0 < p) (hp : p ≤ n) (t : Int32) : ∃ M, rn shP tb0 mN mO (semZ shP wS (d + 3)) none (codeZ 13) 87 [.ref 23, .int t, .ref 10, .int (nI k)] [] (tm m s0 p) = some (none, M) ∧ LnC B n p0 m M (liB B (nI (k - 1)) p V N f c) := by
  obtain ⟨v, M1, a1, a2⟩ := t_tn3 wS d hB hm k1 k4 s0 hp
  unfold liB
  cases e1 : num1 B 3 false p with
  | inl x =>
    rw [e1] at a2
    obtain ⟨rfl, a2⟩ := a2
    exact ⟨M1, (tl_87 wS d hB (m1 := m) s0 p a1 t).1 rfl, a2, num1_n e1⟩
  | inr y =>
    rw [e1] at a2
    simp only at a2 ⊢
    have hy := num1_p hB hp e1
    cases e2 : num1 B 9 false y.2 with
    | inl x =>
      rw [e2] at a2
      obtain ⟨rfl, a2⟩ := a2
      exact ⟨M1, (tl_87 wS d hB (m1 := m) s0 p a1 t).1 rfl, a2, num1_n e2⟩
    | inr y2 =>
      rw [e2] at a2
      simp only at a2 ⊢
      have hy2 := num1_p hB hy.2 e2
      cases e3 : num1 B 9 false y2.2 with
      | inl x =>
        rw [e3] at a2
        obtain ⟨rfl, a2⟩ := a2
        exact ⟨M1, (tl_87 wS d hB (m1 := m) s0 p a1 t).1 rfl, a2, num1_n e3⟩
      | inr y3 =>
        rw [e3] at a2
        obtain ⟨rfl, s1, hM⟩ := a2
        have hy3 := num1_p hB hy2.2 e3
        have h0 : (tm (wI (wI (wI m 26 0 y.1) 26 1 y2.1) 26 2 y3.1) (lx B y3.2).2.1 (lx B y3.2).2.2).1 10 1 = nI N := by
          rw [tm_at _ _ _ (by omega), wI_o _ _ _ _ _ (by omega), wI_o _ _ _ _ _ (by omega), wI_o _ _ _ _ _ (by omega)]
          exact hC.1.2.2.2.1
        have en := t_enterB wS (d + 1) k1 k4 hN _ h0
        have q0 : (tm (wI (wI (wI m 26 0 y.1) 26 1 y2.1) 26 2 y3.1) (lx B y3.2).2.1 (lx B y3.2).2.2).1 26 0 = y.1 := by
          rw [tm_at _ _ _ (by omega), wI_j _ _ _ _ _ (by omega), wI_j _ _ _ _ _ (by omega), wI_s]
        have q1 : (tm (wI (wI (wI m 26 0 y.1) 26 1 y2.1) 26 2 y3.1) (lx B y3.2).2.1 (lx B y3.2).2.2).1 26 1 = y2.1 := by
          rw [tm_at _ _ _ (by omega), wI_j _ _ _ _ _ (by omega), wI_s]
        have q2 : (tm (wI (wI (wI m 26 0 y.1) 26 1 y2.1) 26 2 y3.1) (lx B y3.2).2.1 (lx B y3.2).2.2).1 26 2 = y3.1 := by
          rw [tm_at _ _ _ (by omega), wI_s]
        rw [q0, q1, q2, tm_o _ _ _ _ _ (by omega), tm_o _ _ _ _ _ (by omega), tm_o _ _ _ _ _ (by omega), tm_o _ _ _ _ _ (by omega), tm_o _ _ _ _ _ (by omega), tm_o _ _ _ _ _ (by omega)] at en
        obtain ⟨M, b1, b2⟩ := (tl_87 wS d hB (m1 := wI (wI (wI m 26 0 y.1) 26 1 y2.1) 26 2 y3.1) s0 p a1 t).2 rfl s1 y3.2 hM (TC_26 (TC_26 (TC_26 hm _ _) _ _) _ _) hy3.2 _ en
        refine ⟨M, b1, ?_⟩
        simp only
        have f26 : FrC m (wI (wI (wI m 26 0 y.1) 26 1 y2.1) 26 2 y3.1) := FrC_w (FrC_w (FrC_w FrC_rf (by omega)) (by omega)) (by omega)
        cases e4 : stp B y3.2 with
        | inl x =>
          rw [e4] at b2
          exact ⟨FltC_tr f26 b2.1, b2.2⟩
        | inr q =>
          rw [e4] at b2
          obtain ⟨c1, c2, c3, c4⟩ := b2
          have w26 : CW 10 V N f (wI (wI (wI m 26 0 y.1) 26 1 y2.1) 26 2 y3.1) := CW_k hC.1 (fun o h1 h2 => by rw [wI_n _ _ _ _ (by omega), wI_n _ _ _ _ (by omega), wI_n _ _ _ _ (by omega)])
          refine ⟨_, _, by rw [c1, ← c2], FrC_w (FrC_w (FrC_w (FrC_w (FrC_w (FrC_w f26 (by omega)) (by omega)) (by omega)) (by omega)) (by omega)) (by omega), ?_, ⟨CW_b w26 (hC.2.1 N hN) hN (nI (k - 1)) y.1 y2.1 y3.1, ?_, ?_, hC.2.2.2.1, ?_⟩, ?_, ?_⟩
          · rw [wI_o _ _ _ _ _ (by omega), wI_o _ _ _ _ _ (by omega), wI_o _ _ _ _ _ (by omega), wI_o _ _ _ _ _ (by omega), wI_o _ _ _ _ _ (by omega), wI_o _ _ _ _ _ (by omega), wI_o _ _ _ _ _ (by omega), wI_o _ _ _ _ _ (by omega), wI_o _ _ _ _ _ (by omega)]
          · intro b hb
            show bdF f N (nI (k - 1)) y.1 y2.1 y3.1 (8 + 5 * b + 4) = 0
            unfold bdF
            rw [upd_n _ _ (by omega), upd_n _ _ (by omega), upd_n _ _ (by omega), upd_n _ _ (by omega), upd_n _ _ (by omega)]
            exact hC.2.1 b hb
          · rw [wI_o _ _ _ _ _ (by omega), wI_o _ _ _ _ _ (by omega), wI_o _ _ _ _ _ (by omega), wI_o _ _ _ _ _ (by omega), wI_o _ _ _ _ _ (by omega), wI_o _ _ _ _ _ (by omega), wI_o _ _ _ _ _ (by omega), wI_o _ _ _ _ _ (by omega), wI_o _ _ _ _ _ (by omega)]
            exact hC.2.2.1
          · show _ = bdF f N (nI (k - 1)) y.1 y2.1 y3.1 43
            unfold bdF
            rw [wI_j _ _ _ _ _ (by omega), wI_o _ _ _ _ _ (by omega), wI_o _ _ _ _ _ (by omega), wI_o _ _ _ _ _ (by omega), wI_o _ _ _ _ _ (by omega), wI_o _ _ _ _ _ (by omega), wI_o _ _ _ _ _ (by omega), wI_o _ _ _ _ _ (by omega), wI_o _ _ _ _ _ (by omega), upd_n _ _ (by omega), upd_n _ _ (by omega), upd_n _ _ (by omega), upd_n _ _ (by omega), upd_n _ _ (by omega)]
            exact hC.2.2.2.2
          · show p0 + 2 ≤ q; omega
          · exact c4
/-- price, fine, round -/
theorem liS_c (hB : Tp B n) (hm : TC B n m) {V N : Nat} {f : Nat → Int32} {c : Nat} (hC : CTx V N f c m) {k : Nat} (k5 : 5 ≤ k) (k8 : k < 8) (ht : toldX c k = false) (s0 : Nat) {p0 p : Nat} (hp0 : p0 < p) (hp : p ≤ n) (t : Int32) : ∃ M, rn shP tb0 mN mO (semZ shP wS (d + 3)) none (codeZ 13) 87 [.ref 23, .int t, .ref 10, .int (nI k)] [] (tm m s0 p) = some (none, M) ∧ LnC B n p0 m M (liS B (34 + k) (mst k 0) (k == 7) (2 ^ (k - 5)) p V N f c) := by
  obtain ⟨v, M1, a1, a2⟩ := t_tn1 wS d hB hm k5 k8 s0 hp
  unfold liS
  cases e1 : num1 B (mst k 0) (k == 7) p with
  | inl x =>
    rw [e1] at a2
    obtain ⟨rfl, a2⟩ := a2
    exact ⟨M1, (tl_87 wS d hB (m1 := m) s0 p a1 t).1 rfl, a2, num1_n e1⟩
  | inr y =>
    rw [e1] at a2
    obtain ⟨rfl, s1, hM⟩ := a2
    have hy := num1_p hB hp e1
    have en : semZ shP wS (d + 3) 17 [.ref 23, .int (nI k), .ref 10] (tm (wI m 26 0 y.1) (lx B y.2).2.1 (lx B y.2).2.2) = some (none, tm (wI (wI (wI m 26 0 y.1) 10 (k - 3) y.1) 23 4 (tlV c ||| (1 <<< (nI k &&& 31)))) (lx B y.2).2.1 (lx B y.2).2.2) := by
      have q0 : (tm (wI m 26 0 y.1) (lx B y.2).2.1 (lx B y.2).2.2).1 26 0 = y.1 := by
        rw [tm_at _ _ _ (by omega), wI_s]
      have q4 : (tm (wI m 26 0 y.1) (lx B y.2).2.1 (lx B y.2).2.2).1 23 4 = tlV c := by
        rw [tm_at _ _ _ (by omega), wI_o _ _ _ _ _ (by omega)]
        exact hC.2.2.1
      match k, k5, k8 with
      | 5, _, _ =>
        have := t_enter5 wS (d + 1) (tm (wI m 26 0 y.1) (lx B y.2).2.1 (lx B y.2).2.2)
        rw [q0, q4, tm_o _ _ _ _ _ (by omega), tm_o _ _ _ _ _ (by omega)] at this
        exact this
      | 6, _, _ =>
        have := t_enter6 wS (d + 1) (tm (wI m 26 0 y.1) (lx B y.2).2.1 (lx B y.2).2.2)
        rw [q0, q4, tm_o _ _ _ _ _ (by omega), tm_o _ _ _ _ _ (by omega)] at this
        exact this
      | 7, _, _ =>
        have := t_enter7 wS (d + 1) (tm (wI m 26 0 y.1) (lx B y.2).2.1 (lx B y.2).2.2)
        rw [q0, q4, tm_o _ _ _ _ _ (by omega), tm_o _ _ _ _ _ (by omega)] at this
        exact this
    obtain ⟨M, b1, b2⟩ := (tl_87 wS d hB (m1 := wI m 26 0 y.1) s0 p a1 t).2 rfl s1 y.2 hM (TC_26 hm _ _) hy.2 _ en
    refine ⟨M, b1, ?_⟩
    simp only
    have f26 : FrC m (wI m 26 0 y.1) := FrC_w FrC_rf (by omega)
    cases e3 : stp B y.2 with
    | inl x =>
      rw [e3] at b2
      exact ⟨FltC_tr f26 b2.1, b2.2⟩
    | inr q =>
      rw [e3] at b2
      obtain ⟨c1, c2, c3, c4⟩ := b2
      have w26 : CW 10 V N f (wI m 26 0 y.1) := CW_k hC.1 (fun o h1 h2 => by rw [wI_n _ _ _ _ (by omega)])
      have ws := CW_s w26 (i := k - 3) (by omega) (by omega) y.1
      rw [show 37 + (k - 3) = 34 + k by omega] at ws
      obtain ⟨o1, o2⟩ := tl_or c hC.2.2.2.1 k k8 k5 ht
      refine ⟨_, _, by rw [c1, ← c2], FrC_w (FrC_w f26 (by omega)) (by omega), ?_, ⟨CW_k ws (fun o h1 h2 => by rw [wI_n _ _ _ _ (by omega)]), ?_, ?_, o2, ?_⟩, ?_, ?_⟩
      · rw [wI_j _ _ _ _ _ (by omega), wI_o _ _ _ _ _ (by omega), wI_o _ _ _ _ _ (by omega)]
      · intro b hb
        show upd f (34 + k) y.1 (8 + 5 * b + 4) = 0
        rw [upd_n _ _ (by omega)]
        exact hC.2.1 b hb
      · rw [wI_s]
        exact o1
      · show _ = upd f (34 + k) y.1 43
        rw [wI_o _ _ _ _ _ (by omega), wI_j _ _ _ _ _ (by omega), wI_o _ _ _ _ _ (by omega), upd_n _ _ (by omega)]
        exact hC.2.2.2.2
      · show p0 + 2 ≤ q; omega
      · exact c4
end Tl
