/-! what a line tells; the class's text -/
section Wo
variable {sh : List ShE} {w : Nat} (wS : List Value → Mm → Option Rs) (d : Nat)
theorem t_addV (hw : WSh sh w) {V : Nat} (hV : V < 4) (a b : Int32) (m : Mm) (h0 : m.1 w 0 = nI V) : semZ sh wS (d + 1) 28 [.ref w, .int a, .int b] m = some (some (.int 1), wI (wI (wI m (w + 1) V a) (w + 2) V b) w 0 (nI (V + 1))) := by
  have e1 : nI V < (4 : Int32) := nI_lt (b := 4) hV (by omega)
  have e2 : inR (nI V) 4 = true := inR_nI hV (by omega)
  have e3 : (nI V).toNatClampNeg = V := nI_clamp (by omega)
  have q1 : (wI m (w + 1) V a).1 w 0 = nI V := by rw [wI_o _ _ _ _ _ (by omega)]; exact h0
  have q2 : (wI (wI m (w + 1) V a) (w + 2) V b).1 w 0 = nI V := by rw [wI_o _ _ _ _ _ (by omega)]; exact q1
  rw [se_X5_addVillage, r_X5_addVillage_0]
  simp only [EV, LV, CB, OI, OL, NP, CZ, popN, CT, OZ, List.map_nil, List.map_cons, List.sum_nil, List.sum_cons, Option.toList, List.nil_append, List.cons_append, Int.reduceToNat, Nat.reduceAdd, Nat.reduceLT, Nat.reduceLeDiff, List.length_cons, List.length_nil, Nat.zero_add, if_true, if_false, reduceIte, and_self, and_true, true_and, eq_self, reduceCtorEq, gW hw, sW hw, pW hw, h0, e1, r_X5_addVillage_10, e2, e3, q1, q2, nI_1]
theorem t_addB (hw : WSh sh w) {N : Nat} (hN : N < 6) (k v a b : Int32) (m : Mm) (h0 : m.1 w 1 = nI N) : semZ sh wS (d + 1) 29 [.ref w, .int k, .int v, .int a, .int b] m = some (some (.int 1), wI (wI (wI (wI (wI (wI m (w + 4) N k) (w + 5) N v) (w + 6) N a) (w + 7) N b) (w + 8) N 0) w 1 (nI (N + 1))) := by
  have e1 : nI N < (6 : Int32) := nI_lt (b := 6) hN (by omega)
  have e2 : inR (nI N) 6 = true := inR_nI hN (by omega)
  have e3 : (nI N).toNatClampNeg = N := nI_clamp (by omega)
  have q1 : (wI m (w + 4) N k).1 w 1 = nI N := by rw [wI_o _ _ _ _ _ (by omega)]; exact h0
  have q2 : (wI (wI m (w + 4) N k) (w + 5) N v).1 w 1 = nI N := by rw [wI_o _ _ _ _ _ (by omega)]; exact q1
  have q3 : (wI (wI (wI m (w + 4) N k) (w + 5) N v) (w + 6) N a).1 w 1 = nI N := by rw [wI_o _ _ _ _ _ (by omega)]; exact q2
  have q4 : (wI (wI (wI (wI m (w + 4) N k) (w + 5) N v) (w + 6) N a) (w + 7) N b).1 w 1 = nI N := by rw [wI_o _ _ _ _ _ (by omega)]; exact q3
  have q5 : (wI (wI (wI (wI (wI m (w + 4) N k) (w + 5) N v) (w + 6) N a) (w + 7) N b) (w + 8) N 0).1 w 1 = nI N := by rw [wI_o _ _ _ _ _ (by omega)]; exact q4
  rw [se_X5_addBody, r_X5_addBody_0]
  simp only [EV, LV, CB, OI, OL, NP, CZ, popN, CT, OZ, List.map_nil, List.map_cons, List.sum_nil, List.sum_cons, Option.toList, List.nil_append, List.cons_append, Int.reduceToNat, Nat.reduceAdd, Nat.reduceLT, Nat.reduceLeDiff, List.length_cons, List.length_nil, Nat.zero_add, if_true, if_false, reduceIte, and_self, and_true, true_and, eq_self, reduceCtorEq, gW hw, sW hw, pW hw, h0, e1, r_X5_addBody_11, e2, e3, q1, q2, q3, q4, q5, nI_1]
end Wo
/-- the ways of all bodies are 0 -/
def Z0 (f : Nat → Int32) : Prop := ∀ b, b < 6 → f (8 + 5 * b + 4) = 0
theorem CW_v {w V N : Nat} {f : Nat → Int32} {m : Mm} (h : CW w V N f m) (hV : V < 4) (a b : Int32) : CW w (V + 1) N (upd (upd f (2 * V) a) (2 * V + 1) b) (wI (wI (wI m (w + 1) V a) (w + 2) V b) w 0 (nI (V + 1))) := by
  obtain ⟨h1, h2, h3, h4, h5, h6, h7, h8, h9, hg, hb⟩ := h
  have up : ∀ i, 8 ≤ i → upd (upd f (2 * V) a) (2 * V + 1) b i = f i := fun i hi => by rw [upd_n _ _ (by omega), upd_n _ _ (by omega)]
  have ww : ∀ j, j ≠ 0 → (wI (wI (wI m (w + 1) V a) (w + 2) V b) w 0 (nI (V + 1))).1 w j = m.1 w j := fun j hj => by rw [wI_j _ _ _ _ _ hj, wI_o _ _ _ _ _ (by omega), wI_o _ _ _ _ _ (by omega)]
  have wo : ∀ o, o ≠ w → o ≠ w + 1 → o ≠ w + 2 → ∀ j, (wI (wI (wI m (w + 1) V a) (w + 2) V b) w 0 (nI (V + 1))).1 o j = m.1 o j := fun o o1 o2 o3 j => by rw [wI_o _ _ _ _ _ o1, wI_o _ _ _ _ _ o3, wI_o _ _ _ _ _ o2]
  refine ⟨by omega, h2, wI_s _ _ _ _, by rw [ww 1 (by omega)]; exact h4, by rw [up 38 (by omega)]; exact h5, by rw [ww 2 (by omega), up 39 (by omega)]; exact h6, by rw [ww 3 (by omega), up 40 (by omega)]; exact h7, by rw [ww 4 (by omega), up 41 (by omega)]; exact h8, by rw [ww 5 (by omega), up 42 (by omega)]; exact h9, fun g hg2 => ?_, fun q hq => ?_⟩
  · rw [wI_o _ _ _ _ _ (show w + 1 ≠ w by omega), wI_o _ _ _ _ _ (show w + 1 ≠ w + 2 by omega), wI_o _ _ _ _ _ (show w + 2 ≠ w by omega)]
    by_cases e : g = V
    · subst e
      rw [wI_s, wI_s, upd_n _ _ (by omega), upd_s, upd_s]
      exact ⟨rfl, rfl⟩
    · rw [wI_j _ _ _ _ _ e, wI_j _ _ _ _ _ e, wI_o _ _ _ _ _ (by omega), upd_n _ _ (by omega), upd_n _ _ (by omega), upd_n _ _ (by omega), upd_n _ _ (by omega)]
      exact hg g (by omega)
  · rw [wo _ (by omega) (by omega) (by omega), wo _ (by omega) (by omega) (by omega), wo _ (by omega) (by omega) (by omega), wo _ (by omega) (by omega) (by omega), wo _ (by omega) (by omega) (by omega), up _ (by omega), up _ (by omega), up _ (by omega), up _ (by omega), up _ (by omega)]
    exact hb q hq
theorem CW_b {w V N : Nat} {f : Nat → Int32} {m : Mm} (h : CW w V N f m) (hz : f (8 + 5 * N + 4) = 0) (hN : N < 6) (k v a b : Int32) : CW w V (N + 1) (bdF f N k v a b) (wI (wI (wI (wI (wI (wI m (w + 4) N k) (w + 5) N v) (w + 6) N a) (w + 7) N b) (w + 8) N 0) w 1 (nI (N + 1))) := by
  obtain ⟨h1, h2, h3, h4, h5, h6, h7, h8, h9, hg, hb⟩ := h
  have up : ∀ i, i ≠ 38 → i ≠ 8 + 5 * N → i ≠ 8 + 5 * N + 1 → i ≠ 8 + 5 * N + 2 → i ≠ 8 + 5 * N + 3 → bdF f N k v a b i = f i := fun i i1 i2 i3 i4 i5 => by
    unfold bdF
    rw [upd_n _ _ i1, upd_n _ _ i5, upd_n _ _ i4, upd_n _ _ i3, upd_n _ _ i2]
  have ww : ∀ j, j ≠ 1 → (wI (wI (wI (wI (wI (wI m (w + 4) N k) (w + 5) N v) (w + 6) N a) (w + 7) N b) (w + 8) N 0) w 1 (nI (N + 1))).1 w j = m.1 w j := fun j hj => by rw [wI_j _ _ _ _ _ hj, wI_o _ _ _ _ _ (by omega), wI_o _ _ _ _ _ (by omega), wI_o _ _ _ _ _ (by omega), wI_o _ _ _ _ _ (by omega), wI_o _ _ _ _ _ (by omega)]
  have wo : ∀ o, o = w + 1 ∨ o = w + 2 → ∀ j, (wI (wI (wI (wI (wI (wI m (w + 4) N k) (w + 5) N v) (w + 6) N a) (w + 7) N b) (w + 8) N 0) w 1 (nI (N + 1))).1 o j = m.1 o j := fun o ho j => by rw [wI_o _ _ _ _ _ (by omega), wI_o _ _ _ _ _ (by omega), wI_o _ _ _ _ _ (by omega), wI_o _ _ _ _ _ (by omega), wI_o _ _ _ _ _ (by omega), wI_o _ _ _ _ _ (by omega)]
  refine ⟨h1, by omega, by rw [ww 0 (by omega)]; exact h3, wI_s _ _ _ _, by unfold bdF; rw [upd_s], by rw [ww 2 (by omega), up 39 (by omega) (by omega) (by omega) (by omega) (by omega)]; exact h6, by rw [ww 3 (by omega), up 40 (by omega) (by omega) (by omega) (by omega) (by omega)]; exact h7, by rw [ww 4 (by omega), up 41 (by omega) (by omega) (by omega) (by omega) (by omega)]; exact h8, by rw [ww 5 (by omega), up 42 (by omega) (by omega) (by omega) (by omega) (by omega)]; exact h9, fun g hg2 => ?_, fun q hq => ?_⟩
  · rw [wo _ (Or.inl rfl), wo _ (Or.inr rfl), up _ (by omega) (by omega) (by omega) (by omega) (by omega), up _ (by omega) (by omega) (by omega) (by omega) (by omega)]
    exact hg g hg2
  · by_cases e : q = N
    · subst e
      refine ⟨?_, ?_, ?_, ?_, ?_⟩
      · rw [wI_o _ _ _ _ _ (by omega), wI_o _ _ _ _ _ (by omega), wI_o _ _ _ _ _ (by omega), wI_o _ _ _ _ _ (by omega), wI_o _ _ _ _ _ (by omega), wI_s]
        unfold bdF
        rw [upd_n _ _ (by omega), upd_n _ _ (by omega), upd_n _ _ (by omega), upd_n _ _ (by omega), upd_s]
      · rw [wI_o _ _ _ _ _ (by omega), wI_o _ _ _ _ _ (by omega), wI_o _ _ _ _ _ (by omega), wI_o _ _ _ _ _ (by omega), wI_s]
        unfold bdF
        rw [upd_n _ _ (by omega), upd_n _ _ (by omega), upd_n _ _ (by omega), upd_s]
      · rw [wI_o _ _ _ _ _ (by omega), wI_o _ _ _ _ _ (by omega), wI_o _ _ _ _ _ (by omega), wI_s]
        unfold bdF
        rw [upd_n _ _ (by omega), upd_n _ _ (by omega), upd_s]
      · rw [wI_o _ _ _ _ _ (by omega), wI_o _ _ _ _ _ (by omega), wI_s]
        unfold bdF
        rw [upd_n _ _ (by omega), upd_s]
      · rw [wI_o _ _ _ _ _ (by omega), wI_s, up _ (by omega) (by omega) (by omega) (by omega) (by omega)]
        exact hz.symm
    · have wj : ∀ o, w + 4 ≤ o → o ≤ w + 8 → (wI (wI (wI (wI (wI (wI m (w + 4) N k) (w + 5) N v) (w + 6) N a) (w + 7) N b) (w + 8) N 0) w 1 (nI (N + 1))).1 o q = m.1 o q := fun o o1 o2 => by rw [wI_o _ _ _ _ _ (by omega), wI_j _ _ _ _ _ e, wI_j _ _ _ _ _ e, wI_j _ _ _ _ _ e, wI_j _ _ _ _ _ e, wI_j _ _ _ _ _ e]
      rw [wj _ (by omega) (by omega), wj _ (by omega) (by omega), wj _ (by omega) (by omega), wj _ (by omega) (by omega), wj _ (by omega) (by omega), up _ (by omega) (by omega) (by omega) (by omega) (by omega), up _ (by omega) (by omega) (by omega) (by omega) (by omega), up _ (by omega) (by omega) (by omega) (by omega) (by omega), up _ (by omega) (by omega) (by omega) (by omega) (by omega), up _ (by omega) (by omega) (by omega) (by omega) (by omega)]
      exact hb q (by omega)
theorem CW_s {w V N : Nat} {f : Nat → Int32} {m : Mm} (h : CW w V N f m) {i : Nat} (h1 : 2 ≤ i) (h2 : i ≤ 4) (a : Int32) : CW w V N (upd f (37 + i) a) (wI m w i a) := by
  obtain ⟨c1, c2, c3, c4, c5, c6, c7, c8, c9, hg, hb⟩ := h
  have ww : ∀ j, j ≠ i → (wI m w i a).1 w j = m.1 w j := fun j hj => wI_j _ _ _ _ _ hj
  have key : ∀ j, 2 ≤ j → j ≤ 5 → m.1 w j = f (37 + j) → (wI m w i a).1 w j = upd f (37 + i) a (37 + j) := fun j j1 j2 hj => by
    by_cases e : j = i
    · subst e
      rw [wI_s, upd_s]
    · rw [ww j e, upd_n _ _ (by omega)]
      exact hj
  refine ⟨c1, c2, by rw [ww 0 (by omega)]; exact c3, by rw [ww 1 (by omega)]; exact c4, by rw [upd_n _ _ (by omega)]; exact c5, key 2 (by omega) (by omega) c6, key 3 (by omega) (by omega) c7, key 4 (by omega) (by omega) c8, key 5 (by omega) (by omega) c9, fun g hg2 => ?_, fun q hq => ?_⟩
  · rw [wI_o _ _ _ _ _ (by omega), wI_o _ _ _ _ _ (by omega), upd_n _ _ (by omega), upd_n _ _ (by omega)]
    exact hg g hg2
  · rw [wI_o _ _ _ _ _ (by omega), wI_o _ _ _ _ _ (by omega), wI_o _ _ _ _ _ (by omega), wI_o _ _ _ _ _ (by omega), wI_o _ _ _ _ _ (by omega), upd_n _ _ (by omega), upd_n _ _ (by omega), upd_n _ _ (by omega), upd_n _ _ (by omega), upd_n _ _ (by omega)]
    exact hb q hq
theorem CW_k {w V N : Nat} {f : Nat → Int32} {m m' : Mm} (h : CW w V N f m) (hk : ∀ o, w ≤ o → o ≤ w + 8 → m'.1 o = m.1 o) : CW w V N f m' := by
  obtain ⟨c1, c2, c3, c4, c5, c6, c7, c8, c9, hg, hb⟩ := h
  have w0 := hk w (by omega) (by omega)
  refine ⟨c1, c2, by rw [w0]; exact c3, by rw [w0]; exact c4, c5, by rw [w0]; exact c6, by rw [w0]; exact c7, by rw [w0]; exact c8, by rw [w0]; exact c9, fun g hg2 => ?_, fun q hq => ?_⟩
  · rw [hk (w + 1) (by omega) (by omega), hk (w + 2) (by omega) (by omega)]
    exact hg g hg2
  · rw [hk (w + 4) (by omega) (by omega), hk (w + 5) (by omega) (by omega), hk (w + 6) (by omega) (by omega), hk (w + 7) (by omega) (by omega), hk (w + 8) (by omega) (by omega)]
    exact hb q hq
/-- between the lines -/
def CTx (V N : Nat) (f : Nat → Int32) (c : Nat) (m : Mm) : Prop := CW 10 V N f m ∧ Z0 f ∧ m.1 23 4 = tlV c ∧ c < 8 ∧ m.1 10 6 = f 43
theorem CTx_k {V N : Nat} {f : Nat → Int32} {c : Nat} {m m' : Mm} (h : CTx V N f c m) (hk : ∀ o, 10 ≤ o → o ≤ 18 → m'.1 o = m.1 o) (h4 : m'.1 23 4 = m.1 23 4) : CTx V N f c m' := ⟨CW_k h.1 (fun o h1 h2 => hk o h1 (by omega)), h.2.1, by rw [h4]; exact h.2.2.1, h.2.2.2.1, by rw [hk 10 (by omega) (by omega)]; exact h.2.2.2.2⟩
theorem sw_enter : ∀ k, k < 8 → swT 143 0 7 #[48, 143, 143, 143, 143, 68, 93, 118] (nI k) = ([48, 143, 143, 143, 143, 68, 93, 118] : List Nat).getD k 143 := by decide +kernel
section En
variable (wS : List Value → Mm → Option Rs) (d : Nat)
theorem in_3 : inR 0 3 = true ∧ inR 1 3 = true ∧ inR 2 3 = true ∧ (0 : Int32).toNatClampNeg = 0 ∧ (1 : Int32).toNatClampNeg = 1 ∧ (2 : Int32).toNatClampNeg = 2 := by decide +kernel
theorem F404 (m : Mm) : gfI shP 404 23 m = some (.int (m.1 23 4)) ∧ (∀ x : Int32, pfI shP 404 23 (.int x) m = some (wI m 23 4 x)) ∧ gfI shP 403 23 m = some (.ref 26) ∧ gfI shP 401 23 m = some (.int (m.1 23 1)) ∧ gfI shP 402 23 m = some (.int (m.1 23 2)) := ⟨rfl, fun _ => rfl, rfl, rfl, rfl⟩
theorem C10 : clO shP 10 = some 5 := rfl
theorem t_enterV {V : Nat} (hV : V < 4) (m : Mm) (h0 : m.1 10 0 = nI V) : semZ shP wS (d + 2) 17 [.ref 23, .int (nI 0), .ref 10] m = some (none, wI (wI (wI m 11 V (m.1 26 0)) 12 V (m.1 26 1)) 10 0 (nI (V + 1))) := by
  rw [se_X4_enter, r_X4_enter_0]
  simp only [EV, LV, CB, OI, OL, NP, CZ, popN, CT, OZ, List.map_nil, List.map_cons, List.sum_nil, List.sum_cons, Option.toList, List.nil_append, List.cons_append, Int.reduceToNat, Nat.reduceAdd, Nat.reduceLT, Nat.reduceLeDiff, List.length_cons, List.length_nil, Nat.zero_add, if_true, if_false, reduceIte, and_self, and_true, true_and, eq_self, reduceCtorEq, sw_enter 0 (by omega)]
  show rn shP tb0 mN mO (semZ shP wS (d + 1)) none (codeZ 17) 48 [.ref 23, .int (nI 0), .ref 10] [] m = _
  simp only [EV, LV, CB, OI, OL, NP, CZ, popN, CT, OZ, List.map_nil, List.map_cons, List.sum_nil, List.sum_cons, Option.toList, List.nil_append, List.cons_append, Int.reduceToNat, Nat.reduceAdd, Nat.reduceLT, Nat.reduceLeDiff, List.length_cons, List.length_nil, Nat.zero_add, if_true, if_false, reduceIte, and_self, and_true, true_and, eq_self, reduceCtorEq, r_X4_enter_48, F404, A26, in_3, C10, t_addV wS d WP10 hV _ _ m h0, r_X4_enter_169]
theorem t_enterB {k : Nat} (h1 : 1 ≤ k) (h4 : k ≤ 4) {N : Nat} (hN : N < 6) (m : Mm) (h0 : m.1 10 1 = nI N) : semZ shP wS (d + 2) 17 [.ref 23, .int (nI k), .ref 10] m = some (none, wI (wI (wI (wI (wI (wI m 14 N (nI (k - 1))) 15 N (m.1 26 0)) 16 N (m.1 26 1)) 17 N (m.1 26 2)) 18 N 0) 10 1 (nI (N + 1))) := by
  have ek : nI k - 1 = nI (k - 1) := nI_sub (b := 1) h1
  have e143 : ([48, 143, 143, 143, 143, 68, 93, 118] : List Nat).getD k 143 = 143 := by
    match k, h1, h4 with
    | 1, _, _ => rfl
    | 2, _, _ => rfl
    | 3, _, _ => rfl
    | 4, _, _ => rfl
  rw [se_X4_enter, r_X4_enter_0]
  simp only [EV, LV, CB, OI, OL, NP, CZ, popN, CT, OZ, List.map_nil, List.map_cons, List.sum_nil, List.sum_cons, Option.toList, List.nil_append, List.cons_append, Int.reduceToNat, Nat.reduceAdd, Nat.reduceLT, Nat.reduceLeDiff, List.length_cons, List.length_nil, Nat.zero_add, if_true, if_false, reduceIte, and_self, and_true, true_and, eq_self, reduceCtorEq, sw_enter k (by omega), e143]
  simp only [EV, LV, CB, OI, OL, NP, CZ, popN, CT, OZ, List.map_nil, List.map_cons, List.sum_nil, List.sum_cons, Option.toList, List.nil_append, List.cons_append, Int.reduceToNat, Nat.reduceAdd, Nat.reduceLT, Nat.reduceLeDiff, List.length_cons, List.length_nil, Nat.zero_add, if_true, if_false, reduceIte, and_self, and_true, true_and, eq_self, reduceCtorEq, r_X4_enter_143, F404, A26, in_3, C10, ek, t_addB wS d WP10 hN _ _ _ _ m h0]
theorem t_enter5 (m : Mm) : semZ shP wS (d + 2) 17 [.ref 23, .int (nI 5), .ref 10] m = some (none, wI (wI m 10 2 (m.1 26 0)) 23 4 (m.1 23 4 ||| (1 <<< (nI 5 &&& 31)))) := by
  rw [se_X4_enter, r_X4_enter_0]
  simp only [EV, LV, CB, OI, OL, NP, CZ, popN, CT, OZ, List.map_nil, List.map_cons, List.sum_nil, List.sum_cons, Option.toList, List.nil_append, List.cons_append, Int.reduceToNat, Nat.reduceAdd, Nat.reduceLT, Nat.reduceLeDiff, List.length_cons, List.length_nil, Nat.zero_add, if_true, if_false, reduceIte, and_self, and_true, true_and, eq_self, reduceCtorEq, sw_enter 5 (by omega)]
  show rn shP tb0 mN mO (semZ shP wS (d + 1)) none (codeZ 17) 68 [.ref 23, .int (nI 5), .ref 10] [] m = _
  simp only [EV, LV, CB, OI, OL, NP, CZ, popN, CT, OZ, List.map_nil, List.map_cons, List.sum_nil, List.sum_cons, Option.toList, List.nil_append, List.cons_append, Int.reduceToNat, Nat.reduceAdd, Nat.reduceLT, Nat.reduceLeDiff, List.length_cons, List.length_nil, Nat.zero_add, if_true, if_false, reduceIte, and_self, and_true, true_and, eq_self, reduceCtorEq, r_X4_enter_68, F404, A26, in_3, pW WP10, r_X4_enter_169, wI_o _ _ _ _ _ (show (23 : Nat) ≠ 10 by omega)]
theorem t_enter6 (m : Mm) : semZ shP wS (d + 2) 17 [.ref 23, .int (nI 6), .ref 10] m = some (none, wI (wI m 10 3 (m.1 26 0)) 23 4 (m.1 23 4 ||| (1 <<< (nI 6 &&& 31)))) := by
  rw [se_X4_enter, r_X4_enter_0]
  simp only [EV, LV, CB, OI, OL, NP, CZ, popN, CT, OZ, List.map_nil, List.map_cons, List.sum_nil, List.sum_cons, Option.toList, List.nil_append, List.cons_append, Int.reduceToNat, Nat.reduceAdd, Nat.reduceLT, Nat.reduceLeDiff, List.length_cons, List.length_nil, Nat.zero_add, if_true, if_false, reduceIte, and_self, and_true, true_and, eq_self, reduceCtorEq, sw_enter 6 (by omega)]
  show rn shP tb0 mN mO (semZ shP wS (d + 1)) none (codeZ 17) 93 [.ref 23, .int (nI 6), .ref 10] [] m = _
  simp only [EV, LV, CB, OI, OL, NP, CZ, popN, CT, OZ, List.map_nil, List.map_cons, List.sum_nil, List.sum_cons, Option.toList, List.nil_append, List.cons_append, Int.reduceToNat, Nat.reduceAdd, Nat.reduceLT, Nat.reduceLeDiff, List.length_cons, List.length_nil, Nat.zero_add, if_true, if_false, reduceIte, and_self, and_true, true_and, eq_self, reduceCtorEq, r_X4_enter_93, F404, A26, in_3, pW WP10, r_X4_enter_169, wI_o _ _ _ _ _ (show (23 : Nat) ≠ 10 by omega)]
theorem t_enter7 (m : Mm) : semZ shP wS (d + 2) 17 [.ref 23, .int (nI 7), .ref 10] m = some (none, wI (wI m 10 4 (m.1 26 0)) 23 4 (m.1 23 4 ||| (1 <<< (nI 7 &&& 31)))) := by
  rw [se_X4_enter, r_X4_enter_0]
  simp only [EV, LV, CB, OI, OL, NP, CZ, popN, CT, OZ, List.map_nil, List.map_cons, List.sum_nil, List.sum_cons, Option.toList, List.nil_append, List.cons_append, Int.reduceToNat, Nat.reduceAdd, Nat.reduceLT, Nat.reduceLeDiff, List.length_cons, List.length_nil, Nat.zero_add, if_true, if_false, reduceIte, and_self, and_true, true_and, eq_self, reduceCtorEq, sw_enter 7 (by omega)]
  show rn shP tb0 mN mO (semZ shP wS (d + 1)) none (codeZ 17) 118 [.ref 23, .int (nI 7), .ref 10] [] m = _
  simp only [EV, LV, CB, OI, OL, NP, CZ, popN, CT, OZ, List.map_nil, List.map_cons, List.sum_nil, List.sum_cons, Option.toList, List.nil_append, List.cons_append, Int.reduceToNat, Nat.reduceAdd, Nat.reduceLT, Nat.reduceLeDiff, List.length_cons, List.length_nil, Nat.zero_add, if_true, if_false, reduceIte, and_self, and_true, true_and, eq_self, reduceCtorEq, r_X4_enter_118, F404, A26, in_3, pW WP10, r_X4_enter_169, wI_o _ _ _ _ _ (show (23 : Nat) ≠ 10 by omega)]
end En
