/-! keep, back of both -/
theorem CW_c {w v V N : Nat} {f : Nat → Int32} {m m' : Mm} (h : CW v V N f m) (b0 : ∀ j, j < 8 → m'.1 w j = m.1 v j) (b1 : ∀ j, j < 4 → m'.1 (w + 1) j = m.1 (v + 1) j) (b2 : ∀ j, j < 4 → m'.1 (w + 2) j = m.1 (v + 2) j) (b4 : ∀ j, j < 6 → m'.1 (w + 4) j = m.1 (v + 4) j) (b5 : ∀ j, j < 6 → m'.1 (w + 5) j = m.1 (v + 5) j) (b6 : ∀ j, j < 6 → m'.1 (w + 6) j = m.1 (v + 6) j) (b7 : ∀ j, j < 6 → m'.1 (w + 7) j = m.1 (v + 7) j) (b8 : ∀ j, j < 6 → m'.1 (w + 8) j = m.1 (v + 8) j) : CW w V N f m' := by
  obtain ⟨c1, c2, c3, c4, c5, c6, c7, c8, c9, hg, hb⟩ := h
  refine ⟨c1, c2, by rw [b0 0 (by omega)]; exact c3, by rw [b0 1 (by omega)]; exact c4, c5, by rw [b0 2 (by omega)]; exact c6, by rw [b0 3 (by omega)]; exact c7, by rw [b0 4 (by omega)]; exact c8, by rw [b0 5 (by omega)]; exact c9, fun g g4 => ?_, fun b b6' => ?_⟩
  · rw [b1 g (by omega), b2 g (by omega)]
    exact hg g g4
  · rw [b4 b (by omega), b5 b (by omega), b6 b (by omega), b7 b (by omega), b8 b (by omega)]
    exact hb b b6'
theorem LSn_c {w v o p N : Nat} {m m' : Mm} (h : LSn v p N m) (b0 : m'.1 w 0 = m.1 v 0) (b1 : ∀ j, j < 6 → m'.1 (w + 1) j = m.1 (v + 1) j) (b2 : ∀ j, j < 6 → m'.1 (w + 2) j = m.1 (v + 2) j) (b3 : ∀ j, j < 6 → m'.1 (w + 3) j = m.1 (v + 3) j) (hf : ∀ j, j < 63 → m'.1 69 (o + j) = m.1 69 (p + j)) : LSn w o N m' := by
  obtain ⟨K, hK, s0, s4, sR⟩ := h
  refine ⟨K, hK, by rw [b0]; exact s0, by rw [hf 44 (by omega)]; exact s4, fun i hi => ?_⟩
  have f1 := hf (45 + 3 * i) (by omega)
  have f2 := hf (46 + 3 * i) (by omega)
  have f3 := hf (47 + 3 * i) (by omega)
  rw [← Nat.add_assoc, ← Nat.add_assoc] at f1 f2 f3
  rw [b1 i (by omega), b2 i (by omega), b3 i (by omega), f1, f2, f3]
  exact sR i hi
/-- the rows of image k -/
theorem gI {k : Nat} (hk : k < 2) : arI shP 27 (nI k) = some (32 + 14 * k) ∧ (∀ m : Mm, gfI shP 0 (32 + 14 * k) m = some (.int (m.1 (32 + 14 * k) 0)) ∧ gfI shP 1 (32 + 14 * k) m = some (.ref (33 + 14 * k)) ∧ gfI shP 2 (32 + 14 * k) m = some (.ref (42 + 14 * k)) ∧ pfI shP 0 (32 + 14 * k) (.int 1) m = some (wI m (32 + 14 * k) 0 1)) ∧ WSh shP (33 + 14 * k) ∧ SSh shP (42 + 14 * k) := by
  match k, hk with
  | 0, _ => exact ⟨by decide +kernel, fun _ => ⟨rfl, rfl, rfl, rfl⟩, WP33, SP42⟩
  | 1, _ => exact ⟨by decide +kernel, fun _ => ⟨rfl, rfl, rfl, rfl⟩, WP47, SP56⟩
theorem ix_63 : ∀ k, k < 2 → (63 : Int32) * (nI k + 1) = nI (63 * (k + 1)) := by decide +kernel
section Bk
variable {wS : List Value → Mm → Option Rs} (d : Nat) {V N : Nat} {m : Mm}
theorem b_keep (k : Int32) (h : LNow V N m) (hS : LSn 19 0 N m) (h0 : LIm V 0 m) (h1 : LIm V 1 m) : ∃ x m1 m2, semZ shP wS (d + 30) 92 [.ref 0, .int k] m = some (some (.int x), m1) ∧ semZ shP wS (d + 30) 177 [.ref 68, .int k] m1 = some (some (.int x), m2) ∧ LIm V 0 m2 ∧ LIm V 1 m2 := by
  have hL := h
  obtain ⟨h3, hC, h6, hT, hA⟩ := h
  have e10 : ¬ (1 : Int32) = 0 := by decide
  have d1 := dec64 k 0 1 0 1 (by decide) (by decide)
  rw [se_X6_keep, r_X6_keep_0]
  cases hk : (decide (0 ≤ k) && decide (k ≤ 1)) with
  | false =>
    refine ⟨-1, m, m, ?_, ?_, h0, h1⟩
    · simp only [EV, LV, CB, OI, OL, NP, CZ, popN, CT, OZ, List.map_nil, List.map_cons, List.sum_nil, List.sum_cons, Option.toList, List.nil_append, List.cons_append, Int.reduceToNat, Nat.reduceAdd, Nat.reduceLT, Nat.reduceLeDiff, List.length_cons, List.length_nil, Nat.zero_add, if_true, if_false, reduceIte, and_self, and_true, true_and, eq_self, reduceCtorEq, t_within wS (d + 28), hk, bI_f, not_true_eq_false]
    · rw [se_X7_keep, r_X7_keep_0]
      simp only [EV, LV, CB, OI, OL, NP, CZ, popN, CT, OZ, List.map_nil, List.map_cons, List.sum_nil, List.sum_cons, Option.toList, List.nil_append, List.cons_append, Int.reduceToNat, Nat.reduceAdd, Nat.reduceLT, Nat.reduceLeDiff, List.length_cons, List.length_nil, Nat.zero_add, if_true, if_false, reduceIte, and_self, and_true, true_and, eq_self, reduceCtorEq, t_in wS (d + 28), d1, hk, bI_f, not_true_eq_false]
  | true =>
    obtain ⟨K, hK, rfl⟩ := in_nI (N := 1) (by decide) hk
    have hK : K < 2 := by omega
    obtain ⟨i1, i2, i3, i4⟩ := gI hK
    have fl : ∃ x : Bool, m.1 (32 + 14 * K) 0 = bI x ∧ m.1 71 K = bI x := by
      have : LIm V K m := by
        match K, hK with
        | 0, _ => exact h0
        | 1, _ => exact h1
      rcases this with ⟨x, y⟩ | ⟨x, y, -⟩
      · exact ⟨false, x, y⟩
      · exact ⟨true, x, y⟩
    obtain ⟨x, x1, x2⟩ := fl
    obtain ⟨m1, r1, a0, a1, a2, a3, a4, a5, a6, a7, a8, aF⟩ := t_becomeW wS (d + 28) i3 WP1 (Or.inl (by omega)) (wI m (32 + 14 * K) 0 1)
    obtain ⟨m2, r2, s0, s1, s2, s3, sF⟩ := t_becomeS wS (d + 28) i4 SP19 (Or.inl (by omega)) m1
    have r1 : semZ shP wS (d + 29) 25 [.ref (33 + 14 * K), .ref 1] (wI m (32 + 14 * K) 0 1) = some (none, m1) := r1
    have r2 : semZ shP wS (d + 29) 6 [.ref (42 + 14 * K), .ref 19] m1 = some (none, m2) := r2
    have mo : ∀ o, o < 32 + 14 * K ∨ 45 + 14 * K < o → m2.1 o = m.1 o := fun o ho => by rw [sF o (by omega), aF o (by omega), wI_n _ _ _ _ (by omega)]
    obtain ⟨P, eP⟩ : ∃ P, P = wI m2 71 K 1 := ⟨_, rfl⟩
    have tc := t_copies (wS := wS) (d + 28) MP68 P (63 * (K + 1)) 0 (by omega) (by omega) (by omega)
    have tc : semZ shP wS (d + 29) 176 [.ref 68, .int (nI (63 * (K + 1))), .int 0] P = some (none, setR P 69 (cpR (P.1 69) (63 * (K + 1)) 0 63)) := tc
    obtain ⟨Q, eQ⟩ : ∃ Q, Q = setR P 69 (cpR (P.1 69) (63 * (K + 1)) 0 63) := ⟨_, rfl⟩
    rw [← eQ] at tc
    have p9 : P.1 69 = m.1 69 := by rw [eP, wI_n _ _ _ _ (by omega), mo 69 (by omega)]
    have q9 : ∀ j, j < 63 → Q.1 69 (63 * (K + 1) + j) = m.1 69 j := fun j hj => by
      rw [eQ, setR_s]
      unfold cpR
      rw [if_pos (by omega), p9, show 0 + (63 * (K + 1) + j - 63 * (K + 1)) = j by omega]
    have q9' : ∀ j, j < 63 * (K + 1) ∨ 63 * (K + 1) + 63 ≤ j → Q.1 69 j = m.1 69 j := fun j hj => by
      rw [eQ, setR_s]
      unfold cpR
      rw [if_neg (by omega), p9]
    have qo : ∀ o, o ≠ 69 → o ≠ 71 → Q.1 o = m2.1 o := fun o x y => by rw [eQ, setR_n _ _ x, eP, wI_n _ _ _ _ y]
    have q71 : ∀ j, Q.1 71 j = if j = K then 1 else m.1 71 j := fun j => by
      rw [eQ, setR_n _ _ (by omega), eP]
      by_cases e : j = K
      · rw [if_pos e, e, wI_s]
      · rw [if_neg e, wI_j _ _ _ _ _ e, mo 71 (by omega)]
    -- the image kept
    have own : LIm V K Q := by
      refine Or.inr ⟨?_, by rw [q71, if_pos rfl], N, ?_, ?_, fun j hj => ?_, Atf_e hA hC.2.1 (fun j hj => q9 j (by omega)), ?_⟩
      · rw [qo _ (by omega) (by omega), sF _ (by omega), aF _ (by omega), wI_s]
      · have cc : CW (33 + 14 * K) V N (m.1 69) m1 := CW_c (v := 1) (m := wI m (32 + 14 * K) 0 1) (CW_e hC (fun _ _ => rfl) (fun o j _ _ _ => wI_o _ _ _ _ _ (by omega))) a0 a1 a2 a4 a5 a6 a7 a8
        exact CW_e cc (fun j hj => q9 j (by omega)) (fun o j _ _ _ => by rw [qo o (by omega) (by omega), sF o (by omega)])
      · rw [qo _ (by omega) (by omega), sF _ (by omega), a0 6 (by omega), wI_o _ _ _ _ _ (by omega), q9 43 (by omega)]; exact h6
      · rw [qo _ (by omega) (by omega), sF _ (by omega), a3 j hj, wI_o _ _ _ _ _ (by omega)]; exact hT j hj
      · have e19 : ∀ o, 19 ≤ o → o ≤ 22 → m1.1 o = m.1 o := fun o _ _ => by rw [aF o (by omega), wI_n _ _ _ _ (by omega)]
        refine LSn_c hS ?_ (fun j hj => ?_) (fun j hj => ?_) (fun j hj => ?_) (fun j hj => by rw [q9 j hj, Nat.zero_add])
        · rw [qo _ (by omega) (by omega), s0 0 (by omega), e19 19 (by omega) (by omega)]
        · rw [qo _ (by omega) (by omega), s1 j hj, e19 _ (by omega) (by omega)]
        · rw [qo _ (by omega) (by omega), s2 j hj, e19 _ (by omega) (by omega)]
        · rw [qo _ (by omega) (by omega), s3 j hj, e19 _ (by omega) (by omega)]
    have oth : ∀ k, k < 2 → k ≠ K → LIm V k m → LIm V k Q := by
      intro k k2 kne h
      have e0 : ∀ o j, 32 + 14 * k ≤ o → o ≤ 45 + 14 * k → Q.1 o j = m.1 o j := fun o j _ _ => by rw [qo o (by omega) (by omega), mo o (by omega)]
      have e1 : Q.1 71 k = m.1 71 k := by rw [q71, if_neg kne]
      have e9 : ∀ j, j < 63 → Q.1 69 (63 * (k + 1) + j) = m.1 69 (63 * (k + 1) + j) := fun j hj => q9' _ (by omega)
      rcases h with ⟨a1, a2⟩ | ⟨a1, a2, N, a3, a4, a5, a6, a7⟩
      · exact Or.inl ⟨by rw [e0 _ 0 (by omega) (by omega)]; exact a1, by rw [e1]; exact a2⟩
      · refine Or.inr ⟨by rw [e0 _ 0 (by omega) (by omega)]; exact a1, by rw [e1]; exact a2, N, CW_e a3 (fun j hj => e9 j (by omega)) (fun o j h1 h2 hj => e0 o j (by omega) (by omega)), ?_, fun j hj => ?_, Atf_e a6 a3.2.1 (fun j hj => e9 j (by omega)), LSn_e a7 (fun p j h1 h2 hj => e0 p j (by omega) (by omega)) (fun j h1 h2 => e9 j (by omega))⟩
        · rw [e0 _ 6 (by omega) (by omega), e9 43 (by omega)]; exact a4
        · rw [e0 _ j (by omega) (by omega)]; exact a5 j hj
    have two : LIm V 0 Q ∧ LIm V 1 Q := by
      by_cases z : K = 0
      · rw [z] at own oth
        exact ⟨own, oth 1 (by omega) (by omega) h1⟩
      · have z : K = 1 := by omega
        rw [z] at own oth
        exact ⟨oth 0 (by omega) (by omega) h0, own⟩
    have j1 : inR (nI K) 2 = true := inR_nI (by omega) (by omega)
    have j2 : (nI K).toNatClampNeg = K := nI_clamp (by omega)
    have m71 : m2.1 71 K = bI x := by rw [mo 71 (by omega)]; exact x2
    refine ⟨bI x, m2, Q, ?_, ?_, two⟩
    · cases x with
      | false =>
        rw [bI_f] at x1
        simp only [EV, LV, CB, OI, OL, NP, CZ, popN, CT, OZ, List.map_nil, List.map_cons, List.sum_nil, List.sum_cons, Option.toList, List.nil_append, List.cons_append, Int.reduceToNat, Nat.reduceAdd, Nat.reduceLT, Nat.reduceLeDiff, List.length_cons, List.length_nil, Nat.zero_add, if_true, if_false, reduceIte, and_self, and_true, true_and, eq_self, reduceCtorEq, t_within wS (d + 28), hk, bI_t, bI_f, e10, not_false_eq_true, r_X6_keep_11, gP0, gW i3, gS i4, gW WP1, i1, i2, x1, r_X6_keep_29, r1, r2]
      | true =>
        rw [bI_t] at x1
        simp only [EV, LV, CB, OI, OL, NP, CZ, popN, CT, OZ, List.map_nil, List.map_cons, List.sum_nil, List.sum_cons, Option.toList, List.nil_append, List.cons_append, Int.reduceToNat, Nat.reduceAdd, Nat.reduceLT, Nat.reduceLeDiff, List.length_cons, List.length_nil, Nat.zero_add, if_true, if_false, reduceIte, and_self, and_true, true_and, eq_self, reduceCtorEq, t_within wS (d + 28), hk, bI_t, e10, not_false_eq_true, r_X6_keep_11, gP0, gW i3, gS i4, gW WP1, i1, i2, x1, r_X6_keep_30, r1, r2]
    · rw [se_X7_keep, r_X7_keep_0]
      cases x with
      | false =>
        rw [bI_f] at m71
        simp only [EV, LV, CB, OI, OL, NP, CZ, popN, CT, OZ, List.map_nil, List.map_cons, List.sum_nil, List.sum_cons, Option.toList, List.nil_append, List.cons_append, Int.reduceToNat, Nat.reduceAdd, Nat.reduceLT, Nat.reduceLeDiff, List.length_cons, List.length_nil, Nat.zero_add, if_true, if_false, reduceIte, and_self, and_true, true_and, eq_self, reduceCtorEq, gM MP68, aM MP68, sM MP68, t_in wS (d + 28), d1, hk, bI_t, bI_f, e10, not_false_eq_true, r_X7_keep_12, j1, j2, m71, t_flag0 wS (d + 28), or_true, ← eP, ix_63 K hK, tc]
      | true =>
        rw [bI_t] at m71
        simp only [EV, LV, CB, OI, OL, NP, CZ, popN, CT, OZ, List.map_nil, List.map_cons, List.sum_nil, List.sum_cons, Option.toList, List.nil_append, List.cons_append, Int.reduceToNat, Nat.reduceAdd, Nat.reduceLT, Nat.reduceLeDiff, List.length_cons, List.length_nil, Nat.zero_add, if_true, if_false, reduceIte, and_self, and_true, true_and, eq_self, reduceCtorEq, gM MP68, aM MP68, sM MP68, t_in wS (d + 28), d1, hk, bI_t, e10, not_false_eq_true, r_X7_keep_12, j1, j2, m71, t_flag1 wS (d + 28), or_true, ← eP, ix_63 K hK, tc]
end Bk
