/-! text of the class -/
section Tx
variable {B : Nat → Int32} {n : Nat} (wS : List Value → Mm → Option Rs) (d : Nat)
theorem CW_b' {w v V N : Nat} {f : Nat → Int32} {m m' : Mm} (h : CW v V N f m) (h0 : ∀ j, j < 8 → m'.1 w j = m.1 v j) (h1 : ∀ j, j < 4 → m'.1 (w + 1) j = m.1 (v + 1) j) (h2 : ∀ j, j < 4 → m'.1 (w + 2) j = m.1 (v + 2) j) (h4 : ∀ j, j < 6 → m'.1 (w + 4) j = m.1 (v + 4) j) (h5 : ∀ j, j < 6 → m'.1 (w + 5) j = m.1 (v + 5) j) (h6 : ∀ j, j < 6 → m'.1 (w + 6) j = m.1 (v + 6) j) (h7 : ∀ j, j < 6 → m'.1 (w + 7) j = m.1 (v + 7) j) (h8 : ∀ j, j < 6 → m'.1 (w + 8) j = m.1 (v + 8) j) : CW w V N f m' := by
  obtain ⟨c1, c2, c3, c4, c5, c6, c7, c8, c9, hg, hb⟩ := h
  refine ⟨c1, c2, by rw [h0 0 (by omega)]; exact c3, by rw [h0 1 (by omega)]; exact c4, c5, by rw [h0 2 (by omega)]; exact c6, by rw [h0 3 (by omega)]; exact c7, by rw [h0 4 (by omega)]; exact c8, by rw [h0 5 (by omega)]; exact c9, fun g hg2 => ?_, fun q hq => ?_⟩
  · rw [h1 g (by omega), h2 g (by omega)]
    exact hg g hg2
  · rw [h4 q (by omega), h5 q (by omega), h6 q (by omega), h7 q (by omega), h8 q (by omega)]
    exact hb q hq
/-- what text of the class comes to -/
def TxC (m M : Mm) (a : Int32) (r : Flt ⊕ (Nat × Nat × Nat × (Nat → Int32))) : Prop := M.1 24 0 = 0 ∧ (match r with
  | .inl x => a = -10 - nI x.2 ∧ M.1 23 1 = x.1 ∧ ¬ x.1 = 0 ∧ ∀ o, (o < 10 ∨ 18 < o) → o ≠ 23 → o ≠ 24 → o ≠ 26 → M.1 o = m.1 o
  | .inr y => a = nI y.1 ∧ M.1 23 1 = 0 ∧ CW 1 y.2.1 y.2.2.1 y.2.2.2 M ∧ M.1 1 6 = y.2.2.2 43 ∧ (∀ j, j < 4 → M.1 4 j = nI j) ∧ M.1 19 0 = 0 ∧ M.1 32 0 = 0 ∧ M.1 46 0 = 0)
theorem t_text6 (hX : WX wS) (hB : Tp B n) {m : Mm} (hm : TC B n m) {s0 : Nat} (hs : m.1 24 1 = nI s0) {f : Nat → Int32} (hf : Fst f) : ∃ a M, semZ shP wS (d + 6) 45 [.ref 0] m = some (some (.int a), M) ∧ TxC m M a (prs B 160 0 0 0 0 f 0) := by
  have g3 : ∀ (m : Mm) (x : Int32), pfI shP 300 24 (.int x) m = some (wI m 24 0 x) := fun _ _ => rfl
  have g9 : ∀ (m : Mm) (x : Int32), pfI shP 200 19 (.int x) m = some (wI m 19 0 x) := fun _ _ => rfl
  have g32 : ∀ (m : Mm), pfI shP 0 32 (.int 0) m = some (wI m 32 0 0) := fun _ => rfl
  have g46 : ∀ (m : Mm), pfI shP 0 46 (.int 0) m = some (wI m 46 0 0) := fun _ => rfl
  have a27 : arI shP 27 0 = some 32 ∧ arI shP 27 (nI 1) = some 46 := by decide +kernel
  obtain ⟨v, M, a1, a2⟩ := t_tell wS d hX hB hm hs hf
  unfold TxC
  cases e : prs B 160 0 0 0 0 f 0 with
  | inl x =>
    rw [e] at a2
    obtain ⟨⟨m', s', e', rfl, b2, b3, b4⟩, b5⟩ := a2
    refine ⟨-10 - nI x.2, wI (tm m' s' e') 24 0 0, ?_, wI_s _ _ _ _, rfl, ?_, b5, fun o h1 h2 h3 h4 => ?_⟩
    · rw [se_X6_text, r_X6_text_0]
      have k1 : (wI (tm m' s' e') 24 0 0).1 23 1 = x.1 := by rw [wI_o _ _ _ _ _ (by omega), tm_23]; exact b3
      have k2 : (wI (tm m' s' e') 24 0 0).1 23 2 = nI x.2 := by rw [wI_o _ _ _ _ _ (by omega), tm_23]; exact b4
      simp only [EV, LV, CB, OI, OL, NP, CZ, popN, CT, OZ, List.map_nil, List.map_cons, List.sum_nil, List.sum_cons, Option.toList, List.nil_append, List.cons_append, Int.reduceToNat, Nat.reduceAdd, Nat.reduceLT, Nat.reduceLeDiff, List.length_cons, List.length_nil, Nat.zero_add, if_true, if_false, reduceIte, and_self, and_true, true_and, eq_self, reduceCtorEq, gP0, C23, a1, G23, g3, F404, k1, k2, b5]
    · rw [wI_o _ _ _ _ _ (by omega), tm_23]; exact b3
    · rw [wI_n _ _ _ _ h3, tm_at _ _ _ h3, b2 o (by omega) h2 h4, setR_n _ _ (by omega)]
  | inr y =>
    rw [e] at a2
    obtain ⟨rfl, m', s', e', rfl, b2, b3, b4, b5⟩ := a2
    obtain ⟨M1, e1⟩ : ∃ M, M = wI (tm m' s' e') 24 0 0 := ⟨_, rfl⟩
    have o1 : ∀ o, o ≠ 24 → M1.1 o = m'.1 o := fun o h => by rw [e1, wI_n _ _ _ _ h, tm_at _ _ _ h]
    obtain ⟨M2, c1, c2, c3, c4, c5, c6, c7, c8, c9, c10, c11⟩ := t_becomeW wS (d + 4) WP1 WP10 (by omega) M1
    obtain ⟨M3, e3⟩ : ∃ M, M = wI (wI (wI M2 19 0 0) 32 0 0) 46 0 0 := ⟨_, rfl⟩
    have c1 : semZ shP wS (d + 5) 25 [.ref 1, .ref 10] M1 = some (none, M2) := c1
    have k1 : M1.1 23 1 = 0 := by rw [o1 23 (by omega)]; exact b3
    have cw1 : CW 10 y.2.1 y.2.2.1 y.2.2.2 M1 := CW_k b4 (fun o h1 h2 => o1 o (by omega))
    have cw2 : CW 1 y.2.1 y.2.2.1 y.2.2.2 M2 := CW_b' cw1 c2 c3 c4 c6 c7 c8 c9 c10
    have o3 : ∀ o, o ≠ 19 → o ≠ 32 → o ≠ 46 → M3.1 o = M2.1 o := fun o h1 h2 h3 => by rw [e3, wI_n _ _ _ _ h3, wI_n _ _ _ _ h2, wI_n _ _ _ _ h1]
    refine ⟨nI y.1, M3, ?_, ?_, rfl, ?_, CW_k cw2 (fun o h1 h2 => o3 o (by omega) (by omega) (by omega)), ?_, fun j hj => ?_, ?_, ?_, ?_⟩
    · rw [se_X6_text, r_X6_text_0]
      have z1 : ¬ (2 : Int32) ≤ 0 := by decide
      have z2 : ¬ (2 : Int32) ≤ nI 1 := by decide +kernel
      have z3 : (2 : Int32) ≤ nI 2 := by decide +kernel
      have p1 : (0 : Int32) + 1 = nI 1 := by decide +kernel
      have p2 : nI 1 + 1 = nI 2 := by decide +kernel
      simp only [EV, LV, CB, OI, OL, NP, CZ, popN, CT, OZ, List.map_nil, List.map_cons, List.sum_nil, List.sum_cons, Option.toList, List.nil_append, List.cons_append, Int.reduceToNat, Nat.reduceAdd, Nat.reduceLT, Nat.reduceLeDiff, List.length_cons, List.length_nil, Nat.zero_add, if_true, if_false, reduceIte, and_self, and_true, true_and, eq_self, reduceCtorEq, gP0, C23, a1, G23, g3, ← e1, F404, k1, r_X6_text_44, (show clO shP 1 = some 5 from rfl), c1, g9]
      rw [r_X6_text_65]
      simp only [EV, LV, CB, OI, OL, NP, CZ, popN, CT, OZ, List.map_nil, List.map_cons, List.sum_nil, List.sum_cons, Option.toList, List.nil_append, List.cons_append, Int.reduceToNat, Nat.reduceAdd, Nat.reduceLT, Nat.reduceLeDiff, List.length_cons, List.length_nil, Nat.zero_add, if_true, if_false, reduceIte, and_self, and_true, true_and, eq_self, reduceCtorEq, gP0, z1, a27, g32, p1]
      rw [r_X6_text_65]
      simp only [EV, LV, CB, OI, OL, NP, CZ, popN, CT, OZ, List.map_nil, List.map_cons, List.sum_nil, List.sum_cons, Option.toList, List.nil_append, List.cons_append, Int.reduceToNat, Nat.reduceAdd, Nat.reduceLT, Nat.reduceLeDiff, List.length_cons, List.length_nil, Nat.zero_add, if_true, if_false, reduceIte, and_self, and_true, true_and, eq_self, reduceCtorEq, gP0, z2, a27, g46, p2]
      rw [r_X6_text_65]
      simp only [EV, LV, CB, OI, OL, NP, CZ, popN, CT, OZ, List.map_nil, List.map_cons, List.sum_nil, List.sum_cons, Option.toList, List.nil_append, List.cons_append, Int.reduceToNat, Nat.reduceAdd, Nat.reduceLT, Nat.reduceLeDiff, List.length_cons, List.length_nil, Nat.zero_add, if_true, if_false, reduceIte, and_self, and_true, true_and, eq_self, reduceCtorEq, z3, r_X6_text_86, e3]
    · rw [o3 24 (by omega) (by omega) (by omega), c11 24 (by omega), e1, wI_s]
    · rw [o3 23 (by omega) (by omega) (by omega), c11 23 (by omega)]; exact k1
    · rw [o3 1 (by omega) (by omega) (by omega), c2 6 (by omega), o1 10 (by omega)]; exact b5
    · rw [o3 4 (by omega) (by omega) (by omega), c5 j hj, o1 13 (by omega), b2 13 (by omega) (by omega) (by omega), setR_s]
      unfold fillR
      rw [if_pos hj]
    · rw [e3, wI_o _ _ _ _ _ (by omega), wI_o _ _ _ _ _ (by omega), wI_s]
    · rw [e3, wI_o _ _ _ _ _ (by omega), wI_s]
    · rw [e3, wI_s]
end Tx
