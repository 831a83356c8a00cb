/-! tell and text of the class -/
/-- the villages of all bodies are 0 or more -/
def AT0 (f : Nat → Int32) (N : Nat) : Prop := ∀ b, b < N → 0 ≤ f (8 + 5 * b + 1)
theorem num1_v {B : Nat → Int32} {n : Nat} {hi : Int32} {z : Bool} {p : Nat} (hB : Tp B n) (hp : p ≤ n) {y : Int32 × Nat} (h : num1 B hi z p = .inr y) : 0 ≤ y.1 := by
  unfold num1 at h
  split at h
  · rename_i q
    split at h
    · cases h
    · cases h
      obtain ⟨n1, n2, n3⟩ := lx_2 hB hp q
      have := vq_nn n1 n2 n3
      rw [Int32.le_iff_toInt_le, show (0 : Int32).toInt = 0 from by decide]
      exact this.1
  · cases h
theorem AT0_u {f : Nat → Int32} {N : Nat} (h : AT0 f N) {j : Nat} (x : Int32) (hj : j < 8 ∨ 38 ≤ j) (hN : N ≤ 6) : AT0 (upd f j x) N := fun b hb => by
  rw [upd_n _ _ (by omega)]
  exact h b hb
theorem line_at {B : Nat → Int32} {n p V N : Nat} {f : Nat → Int32} {c : Nat} (hB : Tp B n) (hp : p ≤ n) (hV : V ≤ 4) (hN : N ≤ 6) (h : AT0 f N) {y : Lin} (e : line B p V N f c = .inr y) : AT0 y.2.2.2.1 y.2.2.1 := by
  have hb := lx_b hB hp
  have lv : ∀ y : Lin, V < 4 → liV B (lx B p).2.2 V N f c = .inr y → AT0 y.2.2.2.1 y.2.2.1 := by
    intro y hV e
    unfold liV at e
    split at e
    · cases e
    · split at e
      · cases e
      · split at e
        · cases e
        · cases e
          exact AT0_u (AT0_u h _ (by omega) hN) _ (by omega) hN
  have lb : ∀ (k : Int32) (y : Lin), N < 6 → liB B k (lx B p).2.2 V N f c = .inr y → AT0 y.2.2.2.1 y.2.2.1 := by
    intro k y hN6 e
    unfold liB at e
    split at e
    · cases e
    · rename_i a p1 e1
      have v1 := num1_v hB hb.2.2.1 e1
      split at e
      · cases e
      · split at e
        · cases e
        · split at e
          · cases e
          · cases e
            intro b hb2
            show 0 ≤ bdF f N k a _ _ (8 + 5 * b + 1)
            have hb2 : b < N + 1 := hb2
            unfold bdF
            by_cases q : b = N
            · subst q
              rw [upd_n _ _ (by omega), upd_n _ _ (by omega), upd_n _ _ (by omega), upd_s]
              exact v1
            · rw [upd_n _ _ (by omega), upd_n _ _ (by omega), upd_n _ _ (by omega), upd_n _ _ (by omega), upd_n _ _ (by omega)]
              exact h b (by omega)
  have ls : ∀ (cell : Nat) (hi : Int32) (z : Bool) (bit : Nat) (y : Lin), 38 ≤ cell → liS B cell hi z bit (lx B p).2.2 V N f c = .inr y → AT0 y.2.2.2.1 y.2.2.1 := by
    intro cell hi z bit y hc e
    unfold liS at e
    split at e
    · cases e
    · split at e
      · cases e
      · cases e
        exact AT0_u h _ (by omega) hN
  unfold line at e
  split at e
  · split at e
    · cases e
    · split at e
      · cases e
      · split at e
        · cases e
        · rename_i hr
          generalize lnX B (lx B p).2.1 (lx B p).2.2 = k at e hr
          have hr : noRoom k V N = false := by simpa using hr
          unfold liK at e
          split at e
          · exact lv y (nr_V hr) e
          · exact lb _ y (nr_N (by omega) (by omega) hr) e
          · exact lb _ y (nr_N (by omega) (by omega) hr) e
          · exact lb _ y (nr_N (by omega) (by omega) hr) e
          · exact lb _ y (nr_N (by omega) (by omega) hr) e
          · exact ls _ _ _ _ y (by omega) e
          · exact ls _ _ _ _ y (by omega) e
          · exact ls _ _ _ _ y (by omega) e
  · cases e
section Te
variable {B : Nat → Int32} {n : Nat} (wS : List Value → Mm → Option Rs) (d : Nat)
/-- what tell comes to -/
def PrC (m M : Mm) (v : Int32) (r : Flt ⊕ (Nat × Nat × Nat × (Nat → Int32))) : Prop := match r with
  | .inl x => FltC m M x ∧ ¬ x.1 = 0
  | .inr y => v = nI y.1 ∧ ∃ (m' : Mm) (s' e' : Nat), M = tm m' s' e' ∧ FrC m m' ∧ m'.1 23 1 = 0 ∧ CW 10 y.2.1 y.2.2.1 y.2.2.2 m' ∧ m'.1 10 6 = y.2.2.2 43
theorem PrC_tr {m m1 M : Mm} {v : Int32} {r : Flt ⊕ (Nat × Nat × Nat × (Nat → Int32))} (h : FrC m m1) (h2 : PrC m1 M v r) : PrC m M v r := by
  unfold PrC at h2 ⊢
  split at h2
  · exact ⟨FltC_tr h h2.1, h2.2⟩
  · obtain ⟨a1, m', s', e', a2, a3, a4, a5⟩ := h2
    exact ⟨a1, m', s', e', a2, fun o o1 o2 o3 => (a3 o o1 o2 o3).trans (h o o1 o2 o3), a4, a5⟩
theorem tell_l (hX : WX wS) (hB : Tp B n) : ∀ (q p L V N : Nat) (f : Nat → Int32) (c : Nat) (m : Mm) (s0 : Nat) (v3 : Value), L + q = 160 → 2 * L ≤ p → p ≤ n → TC B n m → CTx V N f c m → AT0 f N → m.1 23 1 = 0 → ∃ v M, rn shP tb0 mN mO (semZ shP wS (d + 4)) (some .int) (codeZ 12) 24 [.ref 23, .ref 10, .int (nI L), v3] [] (tm m s0 p) = some (some (.int v), M) ∧ PrC m M v (prs B q p L V N f c) := by
  have h160 := hB.1
  intro q
  induction q with
  | zero => intro p L V N f c m s0 v3 h1 h2 h3; omega
  | succ q ih =>
    intro p L V N f c m s0 v3 h1 h2 hp hm hC hA hf
    have hb := lx_b hB hp
    have q1 : ¬ (160 : Int32) ≤ nI L := nI_ge (b := 160) (by omega) (by omega)
    have tk := t_takeX wS (d + 2) hB hm s0 hp
    unfold prs
    by_cases h0 : (lx B p).1 = 0
    · rw [if_pos h0]
      rw [h0] at tk
      have z0 : nI 0 = 0 := nI_0
      rw [z0] at tk
      have en := (hb.2.2.2.2.1 h0).1
      obtain ⟨M, a1, a2, a3⟩ := t_check wS (d + 2) hm hC.1 (fun b hb => by rw [(hC.1.2.2.2.2.2.2.2.2.2.2 b hb).2.1]; exact hA b hb) (lx B p).2.1 (lx B p).2.2
      refine ⟨nI L, tm M (lx B p).2.1 (lx B p).2.2, ?_, ?_⟩
      · rw [r_X4_tell_24]
        simp only [EV, LV, CB, OI, OL, NP, CZ, popN, CT, OZ, List.map_nil, List.map_cons, List.sum_nil, List.sum_cons, Option.toList, List.nil_append, List.cons_append, Int.reduceToNat, Nat.reduceAdd, Nat.reduceLT, Nat.reduceLeDiff, List.length_cons, List.length_nil, Nat.zero_add, if_true, if_false, reduceIte, and_self, and_true, true_and, eq_self, reduceCtorEq, q1, G23, C24, C23, tk, not_true_eq_false, a1]
      · split
        · rename_i h
          rw [if_pos h] at a3
          subst a3
          exact ⟨rfl, _, _, _, rfl, a2, hf, hC.1, hC.2.2.2.2⟩
        · rename_i h
          rw [if_neg h] at a3
          refine ⟨⟨M, _, _, rfl, a2, a3.1, ?_⟩, (by decide : ¬ (6 : Int32) = 0)⟩
          show M.1 23 2 = nI (lx B p).2.1
          rw [en]
          exact a3.2
    · rw [if_neg h0]
      have n0 : ¬ nI (lx B p).1 = 0 := nI_ne0 (by omega) (by omega)
      obtain ⟨M, a1, a2⟩ := t_lineX wS d hX hB hm hC hp h0
      have st : rn shP tb0 mN mO (semZ shP wS (d + 4)) (some .int) (codeZ 12) 24 [.ref 23, .ref 10, .int (nI L), v3] [] (tm m s0 p) = (if M.1 23 1 = 0 then rn shP tb0 mN mO (semZ shP wS (d + 4)) (some .int) (codeZ 12) 65 [.ref 23, .ref 10, .int (nI L), .int (nI (lx B p).1)] [] M else some (some (.int 0), M)) := by
        rw [r_X4_tell_24]
        simp only [EV, LV, CB, OI, OL, NP, CZ, popN, CT, OZ, List.map_nil, List.map_cons, List.sum_nil, List.sum_cons, Option.toList, List.nil_append, List.cons_append, Int.reduceToNat, Nat.reduceAdd, Nat.reduceLT, Nat.reduceLeDiff, List.length_cons, List.length_nil, Nat.zero_add, if_true, if_false, reduceIte, and_self, and_true, true_and, eq_self, reduceCtorEq, q1, G23, C24, C23, tk, n0, not_false_eq_true, r_X4_tell_50, a1, F404]
      rw [st]
      cases e : line B p V N f c with
      | inl x =>
        rw [e] at a2
        obtain ⟨⟨m', s', e', rfl, b2, b3, b4⟩, b5⟩ := a2
        rw [if_neg (by rw [tm_23, b3]; exact b5)]
        exact ⟨0, _, rfl, ⟨m', s', e', rfl, b2, b3, b4⟩, b5⟩
      | inr y =>
        rw [e] at a2
        obtain ⟨m', s', rfl, b2, b3, b4, b5, b6⟩ := a2
        have hat := line_at hB hp hC.1.1 hC.1.2.1 hA e
        obtain ⟨v, M, c1, c2⟩ := ih y.1 (L + 1) y.2.1 y.2.2.1 y.2.2.2.1 y.2.2.2.2 m' s' (.int (nI (lx B p).1)) (by omega) (by omega) b6 (TC_fr hm b2) b4 hat (by rw [b3]; exact hf)
        rw [if_pos (by rw [tm_23, b3]; exact hf)]
        refine ⟨v, M, ?_, PrC_tr b2 c2⟩
        rw [r_X4_tell_65]
        simp only [EV, LV, CB, OI, OL, NP, CZ, popN, CT, OZ, List.map_nil, List.map_cons, List.sum_nil, List.sum_cons, Option.toList, List.nil_append, List.cons_append, Int.reduceToNat, Nat.reduceAdd, Nat.reduceLT, Nat.reduceLeDiff, List.length_cons, List.length_nil, Nat.zero_add, if_true, if_false, reduceIte, and_self, and_true, true_and, eq_self, reduceCtorEq, nI_1]
        exact c1
/-- how a text begins -/
def Fst (f : Nat → Int32) : Prop := f 38 = 0 ∧ f 39 = 5 ∧ f 40 = 46 ∧ f 41 = 5 ∧ f 42 = 0 ∧ Z0 f ∧ f 43 = 0
theorem t_tell (hX : WX wS) (hB : Tp B n) {m : Mm} (hm : TC B n m) {s0 : Nat} (hs : m.1 24 1 = nI s0) {f : Nat → Int32} (hf : Fst f) : ∃ v M, semZ shP wS (d + 5) 12 [.ref 23, .ref 10] m = some (some (.int v), M) ∧ PrC (setR m 13 (fillR nI (m.1 13) 4)) M v (prs B 160 0 0 0 0 f 0) := by
  have g2 : ∀ (m : Mm) (x : Int32), pfI shP 302 24 (.int x) m = some (wI m 24 2 x) := fun _ _ => rfl
  obtain ⟨m1, e1⟩ : ∃ M, M = wI (wI (wI m 24 2 0) 23 1 0) 23 4 0 := ⟨_, rfl⟩
  have cl := t_clear wS (d + 2) WP10 m1
  obtain ⟨m2, e2⟩ : ∃ M, M = setR (setR m1 10 (newF (m1.1 10))) 13 (fillR nI (m1.1 13) 4) := ⟨_, rfl⟩
  have cl : semZ shP wS (d + 4) 23 [.ref 10] m1 = some (none, m2) := by
    rw [e2]
    exact cl
  have o1 : ∀ o, o ≠ 24 → o ≠ 23 → m1.1 o = m.1 o := fun o h1 h2 => by
    rw [e1, wI_n _ _ _ _ h2, wI_n _ _ _ _ h2, wI_n _ _ _ _ h1]
  have o2 : ∀ o, o ≠ 10 → o ≠ 13 → m2.1 o = m1.1 o := fun o h1 h2 => by
    rw [e2, setR_n _ _ h2, setR_n _ _ h1]
  have t24 : m2.1 24 = (wI m 24 2 0).1 24 := by
    rw [o2 24 (by omega) (by omega), e1, wI_n _ _ _ _ (by omega), wI_n _ _ _ _ (by omega)]
  have k1 : m2.1 24 1 = nI s0 := by rw [t24, wI_j _ _ _ _ _ (by omega)]; exact hs
  have k2 : m2.1 24 2 = nI 0 := by rw [t24, wI_s]; rfl
  have k0 : m2.1 24 0 = nI n := by rw [t24, wI_j _ _ _ _ _ (by omega)]; exact hm.1
  have hm2 : TC B n m2 := ⟨k0, fun j hj => by rw [o2 25 (by omega) (by omega), o1 25 (by omega) (by omega)]; exact hm.2 j hj⟩
  have ti := tm_id m2 k1 k2
  have w10 : m2.1 10 = newF (m1.1 10) := by rw [e2, setR_n _ _ (by omega), setR_s]
  have hC : CTx 0 0 f 0 m2 := by
    obtain ⟨f1, f2, f3, f4, f5, f6, f7⟩ := hf
    refine ⟨⟨by omega, by omega, by rw [w10]; rfl, by rw [w10]; rfl, f1, by rw [w10, f2]; rfl, by rw [w10, f3]; rfl, by rw [w10, f4]; rfl, by rw [w10, f5]; rfl, fun g hg => by omega, fun b hb => by omega⟩, f6, ?_, by omega, by rw [w10, f7]; rfl⟩
    rw [o2 23 (by omega) (by omega), e1, wI_s]
    rfl
  have h23 : m2.1 23 1 = 0 := by rw [o2 23 (by omega) (by omega), e1, wI_j _ _ _ _ _ (by omega), wI_s]
  obtain ⟨v, M, a1, a2⟩ := tell_l wS d hX hB 160 0 0 0 0 f 0 m2 s0 noV (by omega) (by omega) (Nat.zero_le _) hm2 hC (fun b hb => by omega) h23
  rw [ti] at a1
  have fr : ∀ o, (o < 10 ∨ 18 < o) → o ≠ 23 → o ≠ 26 → o ≠ 24 → m2.1 o = m.1 o := fun o h1 h2 h3 h4 => by
    rw [o2 o (by omega) (by omega), o1 o h4 h2]
  have z0 : (0 : Int32) = nI 0 := nI_0.symm
  refine ⟨v, M, ?_, ?_⟩
  · rw [se_X4_tell, r_X4_tell_0]
    simp only [EV, LV, CB, OI, OL, NP, CZ, popN, CT, OZ, List.map_nil, List.map_cons, List.sum_nil, List.sum_cons, Option.toList, List.nil_append, List.cons_append, Int.reduceToNat, Nat.reduceAdd, Nat.reduceLT, Nat.reduceLeDiff, List.length_cons, List.length_nil, Nat.zero_add, if_true, if_false, reduceIte, and_self, and_true, true_and, eq_self, reduceCtorEq, G23, F404, g2, ← e1, C10, cl]
    exact a1
  · unfold PrC at a2 ⊢
    have up : ∀ (m' : Mm), FrC m2 m' → ∀ s' e' : Nat, ∃ m'' : Mm, tm m' s' e' = tm m'' s' e' ∧ FrC (setR m 13 (fillR nI (m.1 13) 4)) m'' ∧ (∀ o, o ≠ 24 → m''.1 o = m'.1 o) := by
      intro m' h s' e'
      refine ⟨setR m' 24 (m.1 24), ?_, fun o h1 h2 h3 => ?_, fun o ho => setR_n _ _ ho⟩
      · unfold tm
        rw [setR_R, setR_s]
        congr 1
        funext j
        have q := h 24 (by omega) (by omega) (by omega)
        unfold rw3
        split
        · rfl
        · split
          · rfl
          · rename_i j1 j2
            rw [q, t24, wI_j _ _ _ _ _ j2]
      · by_cases h4 : o = 24
        · subst h4
          rw [setR_s, setR_n _ _ (by omega)]
        · rw [setR_n _ _ h4, h o h1 h2 h3]
          by_cases h5 : o = 13
          · subst h5
            rw [setR_s, e2, setR_s, o1 13 (by omega) (by omega)]
          · rw [setR_n _ _ h5, fr o (by omega) h2 h3 h4]
    split at a2
    · obtain ⟨⟨m', s', e', rfl, b2, b3, b4⟩, b5⟩ := a2
      obtain ⟨m'', c1, c2, c3⟩ := up m' b2 s' e'
      exact ⟨⟨m'', s', e', c1, c2, by rw [c3 23 (by omega)]; exact b3, by rw [c3 23 (by omega)]; exact b4⟩, b5⟩
    · obtain ⟨b1, m', s', e', rfl, b2, b3, b4, b5⟩ := a2
      obtain ⟨m'', c1, c2, c3⟩ := up m' b2 s' e'
      exact ⟨b1, m'', s', e', c1, c2, by rw [c3 23 (by omega)]; exact b3, CW_k b4 (fun o h1 h2 => c3 o (by omega)), by rw [c3 10 (by omega)]; exact b5⟩
end Te
