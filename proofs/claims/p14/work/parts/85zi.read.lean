/-! read of both -/
/-- is it a find that can be -/
def rdV (V : Nat) (k g : Int32) : Bool := (decide (0 ≤ k) && decide (k ≤ 3)) && (decide (0 ≤ g) && decide (g < nI V))
def rdX (V N : Nat) (k g : Int32) : Int32 := if rdV V k g = true then (if N = 6 then -3 else nI (N + 1) - 1) else -1
def rdN (V N : Nat) (k g : Int32) : Nat := if rdV V k g = true ∧ N ≠ 6 then N + 1 else N
def rdF (V N : Nat) (k g : Int32) (f : Nat → Int32) : Nat → Int32 := if rdV V k g = true ∧ N ≠ 6 then fdF f N k g 0 0 else f
/-- pairs from i on, q of them: refused at which; or the fault, how many, what there is -/
def rdP (V : Nat) (rs cA cB : Nat → Int32) : Nat → Nat → Nat → (Nat → Int32) → Int32 → Nat ⊕ (Int32 × Int32 × Nat × (Nat → Int32))
  | 0, _, N, f, cm => .inr (0, cm, N, f)
  | q + 1, i, N, f, cm => if rs i = 0 then (if rdX V N (cA i) (cB i) < 0 then .inl i else rdP V rs cA cB q (i + 1) (rdN V N (cA i) (cB i)) (rdF V N (cA i) (cB i) f) (cm + 1)) else .inr (rs i, cm, N, f)
def rdA (r : Nat ⊕ (Int32 × Int32 × Nat × (Nat → Int32))) : Int32 := match r with
  | .inl i => -20 - nI i
  | .inr y => y.2.1
theorem rdF_at {V N : Nat} {f : Nat → Int32} (h : Atf V N f) (hV : V ≤ 4) (hN : N ≤ 6) (k g : Int32) : Atf V (rdN V N k g) (rdF V N k g f) ∧ N ≤ rdN V N k g ∧ rdN V N k g ≤ 6 ∧ ∀ j, 39 ≤ j → rdF V N k g f j = f j := by
  unfold rdN rdF
  by_cases c : rdV V k g = true ∧ N ≠ 6
  · rw [if_pos c, if_pos c]
    have c1 := c.1
    unfold rdV at c1
    rw [Bool.and_eq_true] at c1
    obtain ⟨K, hK, rfl⟩ := in_nI (N := 3) (by decide) c1.1
    obtain ⟨G, hG, rfl⟩ := in_lt c1.2 (by omega)
    refine ⟨fdF_at h (by omega) (by omega) hG (x := 0) (y := 0) (by omega) (by omega), by omega, by omega, fun j hj => ?_⟩
    unfold fdF
    rw [upd_n _ _ (by omega), upd_n _ _ (by omega), upd_n _ _ (by omega), upd_n _ _ (by omega), upd_n _ _ (by omega), upd_n _ _ (by omega)]
  · rw [if_neg c, if_neg c]
    exact ⟨h, Nat.le_refl _, hN, fun _ _ => rfl⟩
theorem rdP_at {V : Nat} (hV : V ≤ 4) {rs cA cB : Nat → Int32} : ∀ q i N f cm y, N ≤ 6 → Atf V N f → rdP V rs cA cB q i N f cm = .inr y → Atf V y.2.2.1 y.2.2.2 ∧ N ≤ y.2.2.1 ∧ ∀ j, 39 ≤ j → y.2.2.2 j = f j := by
  intro q
  induction q with
  | zero =>
    intro i N f cm y hN hA e
    cases e
    exact ⟨hA, Nat.le_refl _, fun _ _ => rfl⟩
  | succ q ih =>
    intro i N f cm y hN hA e
    unfold rdP at e
    split at e
    · split at e
      · cases e
      · obtain ⟨a1, a2, a3, a4⟩ := rdF_at hA hV hN (cA i) (cB i)
        obtain ⟨b1, b2, b3⟩ := ih _ _ _ _ y a3 a1 e
        exact ⟨b1, Nat.le_trans a2 b2, fun j hj => (b3 j hj).trans (a4 j hj)⟩
    · cases e
      exact ⟨hA, Nat.le_refl _, fun _ _ => rfl⟩
/-- what the class' read leaves as it was -/
def FrR (N0 : Nat) (mE m : Mm) : Prop := ∀ o j, ¬ (o = 0 ∧ j = 9) → ¬ (o = 1 ∧ j = 1) → ¬ (5 ≤ o ∧ o ≤ 9 ∧ N0 ≤ j) → m.1 o j = mE.1 o j
theorem FrR_w {N0 : Nat} {mE m : Mm} (h : FrR N0 mE m) {p q : Nat} (x : Int32) (hp : (p = 0 ∧ q = 9) ∨ (p = 1 ∧ q = 1) ∨ (5 ≤ p ∧ p ≤ 9 ∧ N0 ≤ q)) : FrR N0 mE (wI m p q x) := by
  intro o j h1 h2 h3
  by_cases c : o = p
  · subst c
    by_cases c2 : j = q
    · subst c2
      exact (by rcases hp with a | a | a; exact absurd a h1; exact absurd a h2; exact absurd a h3)
    · rw [wI_j _ _ _ _ _ c2]
      exact h o j h1 h2 h3
  · rw [wI_n _ _ _ _ c]
    exact h o j h1 h2 h3
def RdC (V N0 : Nat) (mE m : Mm) (r : Nat ⊕ (Int32 × Int32 × Nat × (Nat → Int32))) : Prop := FrR N0 mE m ∧ match r with
  | .inl _ => m.1 1 1 = nI N0 ∧ m.1 0 9 = mE.1 0 9
  | .inr y => CW 1 V y.2.2.1 y.2.2.2 m ∧ m.1 0 9 = y.1
section Rd
variable {wS : List Value → Mm → Option Rs} (d : Nat) {V : Nat}
theorem CW_o {w V N : Nat} {f : Nat → Int32} {m m' : Mm} (h : CW w V N f m) (hm : ∀ o j, w ≤ o → o ≤ w + 8 → m'.1 o j = m.1 o j) : CW w V N f m' := CW_e h (fun _ _ => rfl) (fun o j a b _ => hm o j a b)
/-- addFound of the class -/
theorem t_adF (k g : Int32) {N N0 : Nat} {F : Nat → Int32} {mE m : Mm} (hC : CW 1 V N F m) (h0 : N0 ≤ N) (hf : FrR N0 mE m) (h9 : m.1 0 9 = mE.1 0 9) : ∃ M, semZ shP wS (d + 16) 55 [.ref 0, .int k, .int g, .int 0, .int 0] m = some (some (.int (rdX V N k g)), M) ∧ CW 1 V (rdN V N k g) (rdF V N k g F) M ∧ FrR N0 mE M ∧ M.1 0 9 = mE.1 0 9 := by
  have hV := hC.1
  have hN := hC.2.1
  have c0 := hC.2.2.1
  have c1 := hC.2.2.2.1
  have e10 : ¬ (1 : Int32) = 0 := by decide
  have ha : (decide ((0 : Int32) ≤ 0) && decide ((0 : Int32) ≤ 9)) = true := by decide
  rw [se_X6_addFound, r_X6_addFound_0]
  unfold rdX rdN rdF rdV
  cases hk : (decide (0 ≤ k) && decide (k ≤ 3)) with
  | false =>
    refine ⟨m, ?_, by simpa using hC, hf, h9⟩
    simp only [EV, LV, CB, OI, OL, NP, CZ, popN, CT, OZ, List.map_nil, List.map_cons, List.sum_nil, List.sum_cons, Option.toList, List.nil_append, List.cons_append, Int.reduceToNat, Nat.reduceAdd, Nat.reduceLT, Nat.reduceLeDiff, List.length_cons, List.length_nil, Nat.zero_add, if_true, if_false, reduceIte, and_self, and_true, true_and, eq_self, reduceCtorEq, t_within wS (d + 14), hk, bI_f, r_X6_addFound_20, Bool.false_and, Bool.false_eq_true]
  | true =>
    cases hg : (decide (0 ≤ g) && decide (g < nI V)) with
    | false =>
      refine ⟨m, ?_, by simpa using hC, hf, h9⟩
      simp only [EV, LV, CB, OI, OL, NP, CZ, popN, CT, OZ, List.map_nil, List.map_cons, List.sum_nil, List.sum_cons, Option.toList, List.nil_append, List.cons_append, Int.reduceToNat, Nat.reduceAdd, Nat.reduceLT, Nat.reduceLeDiff, List.length_cons, List.length_nil, Nat.zero_add, if_true, if_false, reduceIte, and_self, and_true, true_and, eq_self, reduceCtorEq, t_within wS (d + 14), hk, bI_t, e10, gP0, gW WP1, t_hasVillage wS (d + 14) WP1, c0, hg, bI_f, not_true_eq_false, Bool.and_false, Bool.false_eq_true]
    | true =>
      by_cases n6 : N = 6
      · subst n6
        have tf := t_addF (wS := wS) (d + 14) WP1 c1 k g 0 0
        refine ⟨m, ?_, by simpa using hC, hf, h9⟩
        simp only [EV, LV, CB, OI, OL, NP, CZ, popN, CT, OZ, List.map_nil, List.map_cons, List.sum_nil, List.sum_cons, Option.toList, List.nil_append, List.cons_append, Int.reduceToNat, Nat.reduceAdd, Nat.reduceLT, Nat.reduceLeDiff, List.length_cons, List.length_nil, Nat.zero_add, if_true, if_false, reduceIte, and_self, and_true, true_and, eq_self, reduceCtorEq, t_within wS (d + 14), hk, bI_t, e10, gP0, gW WP1, t_hasVillage wS (d + 14) WP1, c0, hg, not_false_eq_true, r_X6_addFound_22, ha, r_X6_addFound_45, tf, r_X6_addFound_72, Bool.and_self]
      · have hN6 : N < 6 := by omega
        obtain ⟨M, eM⟩ : ∃ M, M = wI (wI (wI (wI (wI (wI m (1 + 4) N k) (1 + 5) N g) (1 + 6) N 0) (1 + 7) N 0) (1 + 8) N 0) 1 1 (nI (N + 1)) := ⟨_, rfl⟩
        have ta := t_addB wS (d + 14) WP1 hN6 k g 0 0 m c1
        have cb := CW_b (CW_x hC hN6 0) (upd_s _ _ _) hN6 k g 0 0
        rw [bdF_4] at cb
        rw [← eM] at ta cb
        have m11 : M.1 1 1 = nI (N + 1) := by rw [eM, wI_s]
        have m09 : M.1 0 9 = m.1 0 9 := by rw [eM, wI_n _ _ _ _ (by omega), wI_n _ _ _ _ (by omega), wI_n _ _ _ _ (by omega), wI_n _ _ _ _ (by omega), wI_n _ _ _ _ (by omega), wI_n _ _ _ _ (by omega)]
        have fM : FrR N0 mE M := by
          rw [eM]
          exact FrR_w (FrR_w (FrR_w (FrR_w (FrR_w (FrR_w hf _ (by omega)) _ (by omega)) _ (by omega)) _ (by omega)) _ (by omega)) _ (by omega)
        refine ⟨M, ?_, ?_, fM, m09.trans h9⟩
        · simp only [EV, LV, CB, OI, OL, NP, CZ, popN, CT, OZ, List.map_nil, List.map_cons, List.sum_nil, List.sum_cons, Option.toList, List.nil_append, List.cons_append, Int.reduceToNat, Nat.reduceAdd, Nat.reduceLT, Nat.reduceLeDiff, List.length_cons, List.length_nil, Nat.zero_add, if_true, if_false, reduceIte, and_self, and_true, true_and, eq_self, reduceCtorEq, t_within wS (d + 14), hk, bI_t, e10, gP0, gW WP1, t_hasVillage wS (d + 14) WP1, c0, hg, not_false_eq_true, r_X6_addFound_22, ha, r_X6_addFound_45, ta, m11, r_X6_addFound_74, Bool.and_self, n6]
        · have c : ((true && true) = true ∧ N ≠ 6) := ⟨rfl, n6⟩
          rw [if_pos c, if_pos c]
          exact cb
/-- the class' loop ends -/
theorem rc_end (m : Mm) (k l f n bf x cm i : Int32) (w : Nat) (v10 v11 v12 : Value) (h : n ≤ i ∨ ¬ x = 0) : rn shP tb0 mN mO (semZ shP wS (d + 16)) (some .int) (codeZ 96) 57 [.ref 0, .int k, .int l, .int f, .int n, .ref w, .int bf, .int x, .int cm, .int i, v10, v11, v12] [] m = some (some (.int cm), wI m 0 9 x) := by
  have e : pfI shP 609 0 (.int x) m = some (wI m 0 9 x) := rfl
  rw [r_X6_read_57]
  by_cases q : n ≤ i
  · simp only [EV, LV, CB, OI, OL, NP, CZ, popN, CT, OZ, List.map_nil, List.map_cons, List.sum_nil, List.sum_cons, Option.toList, List.nil_append, List.cons_append, Int.reduceToNat, Nat.reduceAdd, Nat.reduceLT, Nat.reduceLeDiff, List.length_cons, List.length_nil, Nat.zero_add, if_true, if_false, reduceIte, and_self, and_true, true_and, eq_self, reduceCtorEq, q, r_X6_read_150, e]
  · have hx : ¬ x = 0 := h.resolve_left q
    simp only [EV, LV, CB, OI, OL, NP, CZ, popN, CT, OZ, List.map_nil, List.map_cons, List.sum_nil, List.sum_cons, Option.toList, List.nil_append, List.cons_append, Int.reduceToNat, Nat.reduceAdd, Nat.reduceLT, Nat.reduceLeDiff, List.length_cons, List.length_nil, Nat.zero_add, if_true, if_false, reduceIte, and_self, and_true, true_and, eq_self, reduceCtorEq, q, hx, not_false_eq_true, r_X6_read_150, e]
/-- the fault of pair i -/
def rsC (mE : Mm) (K : Nat) (l f : Int32) (i : Nat) : Int32 := fPr (mE.1 (60 + 2 * K) 0) (mE.1 (60 + 2 * K) 1) (mE.1 (60 + 2 * K) 3) l (f.toInt64 + ((2 : Int32) * nI i).toInt64)
theorem CW_9 {N : Nat} {F : Nat → Int32} {m : Mm} (h : CW 1 V N F m) (x : Int32) : CW 1 V N F (wI m 0 9 x) := CW_o h (fun o j a b => by rw [wI_n _ _ _ _ (by omega)])
theorem rc_loop {K : Nat} (hK : K < 4) (k l f : Int32) {n N0 : Nat} (hn : n ≤ 20) {mE : Mm} (hs : (mE.1 (60 + 2 * K) 1).toInt ≤ 40) (hN0 : N0 ≤ 6) (cA cB : Nat → Int32) (hcA : ∀ i c : Nat, (f.toInt64 + ((2 : Int32) * nI i).toInt64).toInt = c → cA i = mE.1 (60 + 2 * K + 1) c) (hcB : ∀ i c : Nat, (f.toInt64 + ((2 : Int32) * nI i).toInt64).toInt = c → cB i = mE.1 (60 + 2 * K + 1) (c + 1)) : ∀ (q i : Nat), i + q = n → ∀ (N : Nat) (F : Nat → Int32) (m : Mm) (cm : Int32) (v10 v11 v12 : Value), CW 1 V N F m → N0 ≤ N → FrR N0 mE m → m.1 0 9 = mE.1 0 9 → ((v10 = noV ∧ v11 = noV) ∨ ∃ y : Int64, v10 = .long y ∧ v11 = noV) → (v12 = noV ∨ ∃ y : Int32, v12 = .int y) → ∃ m', rn shP tb0 mN mO (semZ shP wS (d + 17)) (some .int) (codeZ 96) 57 [.ref 0, .int k, .int l, .int f, .int (nI n), .ref (60 + 2 * K), .int (nI N0), .int 0, .int cm, .int (nI i), v10, v11, v12] [] m = some (some (.int (rdA (rdP V (rsC mE K l f) cA cB q i N F cm))), m') ∧ RdC V N0 mE m' (rdP V (rsC mE K l f) cA cB q i N F cm) := by
  intro q
  induction q with
  | zero =>
    intro i hi N F m cm v10 v11 v12 hC h0 hf h9 h10 h12
    have e0 : i = n := by omega
    subst e0
    refine ⟨wI m 0 9 0, rc_end (d + 1) m k l f (nI i) (nI N0) 0 cm (nI i) _ v10 v11 v12 (Or.inl (Int32.le_refl _)), FrR_w hf 0 (Or.inl ⟨rfl, rfl⟩), CW_9 hC 0, wI_s _ _ _ _⟩
  | succ q ih =>
    intro i hi N F m cm v10 v11 v12 hC h0 hf h9 h10 h12
    have e1 : ¬ nI n ≤ nI i := nI_ge (by omega) (by omega)
    have hh := hs_K hK
    have w0 : m.1 (60 + 2 * K) 0 = mE.1 (60 + 2 * K) 0 := hf _ _ (by omega) (by omega) (by omega)
    have w1 : m.1 (60 + 2 * K) 1 = mE.1 (60 + 2 * K) 1 := hf _ _ (by omega) (by omega) (by omega)
    have w3 : m.1 (60 + 2 * K) 3 = mE.1 (60 + 2 * K) 3 := hf _ _ (by omega) (by omega) (by omega)
    have wc : ∀ j, m.1 (60 + 2 * K + 1) j = mE.1 (60 + 2 * K + 1) j := fun j => hf _ _ (by omega) (by omega) (by omega)
    unfold rdP
    obtain ⟨fi, hfi⟩ : ∃ fi, f.toInt64 + ((2 : Int32) * nI i).toInt64 = fi := ⟨_, rfl⟩
    have er : rsC mE K l f i = fPr (mE.1 (60 + 2 * K) 0) (mE.1 (60 + 2 * K) 1) (mE.1 (60 + 2 * K) 3) l fi := by
      unfold rsC
      rw [hfi]
    have hfp := t_fop wS (d + 15) hh l fi m
    rw [w0, w1, w3, ← er] at hfp
    by_cases hp : rsC mE K l f i = 0
    · rw [if_pos hp]
      rw [hp] at hfp
      have pp := fPr_0 (er.symm.trans hp)
      obtain ⟨c, hc⟩ : ∃ c : Nat, fi.toInt = c := ⟨fi.toInt.toNat, by omega⟩
      have eA : m.1 (60 + 2 * K + 1) c = cA i := by rw [wc, hcA i c (by rw [hfi]; exact hc)]
      have eB : m.1 (60 + 2 * K + 1) (c + 1) = cB i := by rw [wc, hcB i c (by rw [hfi]; exact hc)]
      have ec := l_i32 hc (by omega)
      have e2 : inR (nI c) 40 = true := inR_nI (by omega) (by omega)
      have e3 : (nI c).toNatClampNeg = c := nI_clamp (by omega)
      have e4 : inR (nI (c + 1)) 40 = true := inR_nI (by omega) (by omega)
      have e5 : (nI (c + 1)).toNatClampNeg = c + 1 := nI_clamp (by omega)
      obtain ⟨M, a1, a2, a3, a4⟩ := t_adF (wS := wS) (d + 1) (cA i) (cB i) hC h0 hf h9
      have a1 : semZ shP wS (d + 17) 55 [.ref 0, .int (cA i), .int (cB i), .int 0, .int 0] m = some (some (.int (rdX V N (cA i) (cB i))), M) := a1
      have hN' : N ≤ rdN V N (cA i) (cB i) := by
        unfold rdN
        split <;> omega
      by_cases hy : rdX V N (cA i) (cB i) < 0
      · rw [if_pos hy]
        have hy' : ¬ 0 ≤ rdX V N (cA i) (cB i) := Int32.not_le.mpr hy
        have ep : pfI shP 501 1 (.int (nI N0)) M = some (wI M 1 1 (nI N0)) := rfl
        refine ⟨wI M 1 1 (nI N0), ?_, FrR_w a3 _ (Or.inr (Or.inl ⟨rfl, rfl⟩)), wI_s _ _ _ _, by rw [wI_n _ _ _ _ (by omega)]; exact a4⟩
        rw [r_X6_read_57]
        rcases h10 with ⟨rfl, rfl⟩ | ⟨y0, rfl, rfl⟩
        · rcases h12 with rfl | ⟨y1, rfl⟩
          · simp only [EV, LV, CB, OI, OL, NP, CZ, popN, CT, OZ, List.map_nil, List.map_cons, List.sum_nil, List.sum_cons, Option.toList, List.nil_append, List.cons_append, Int.reduceToNat, Nat.reduceAdd, Nat.reduceLT, Nat.reduceLeDiff, List.length_cons, List.length_nil, Nat.zero_add, if_true, if_false, reduceIte, and_self, and_true, true_and, eq_self, reduceCtorEq, e1, hfi, hfp, gP0, gH hh, aH hh, ec, e2, e3, nI_1, e4, e5, eA, eB, a1, hy', not_true_eq_false, ep, rdA]
          · simp only [EV, LV, CB, OI, OL, NP, CZ, popN, CT, OZ, List.map_nil, List.map_cons, List.sum_nil, List.sum_cons, Option.toList, List.nil_append, List.cons_append, Int.reduceToNat, Nat.reduceAdd, Nat.reduceLT, Nat.reduceLeDiff, List.length_cons, List.length_nil, Nat.zero_add, if_true, if_false, reduceIte, and_self, and_true, true_and, eq_self, reduceCtorEq, e1, hfi, hfp, gP0, gH hh, aH hh, ec, e2, e3, nI_1, e4, e5, eA, eB, a1, hy', not_true_eq_false, ep, rdA]
        · rcases h12 with rfl | ⟨y1, rfl⟩
          · simp only [EV, LV, CB, OI, OL, NP, CZ, popN, CT, OZ, List.map_nil, List.map_cons, List.sum_nil, List.sum_cons, Option.toList, List.nil_append, List.cons_append, Int.reduceToNat, Nat.reduceAdd, Nat.reduceLT, Nat.reduceLeDiff, List.length_cons, List.length_nil, Nat.zero_add, if_true, if_false, reduceIte, and_self, and_true, true_and, eq_self, reduceCtorEq, e1, hfi, hfp, gP0, gH hh, aH hh, ec, e2, e3, nI_1, e4, e5, eA, eB, a1, hy', not_true_eq_false, ep, rdA]
          · simp only [EV, LV, CB, OI, OL, NP, CZ, popN, CT, OZ, List.map_nil, List.map_cons, List.sum_nil, List.sum_cons, Option.toList, List.nil_append, List.cons_append, Int.reduceToNat, Nat.reduceAdd, Nat.reduceLT, Nat.reduceLeDiff, List.length_cons, List.length_nil, Nat.zero_add, if_true, if_false, reduceIte, and_self, and_true, true_and, eq_self, reduceCtorEq, e1, hfi, hfp, gP0, gH hh, aH hh, ec, e2, e3, nI_1, e4, e5, eA, eB, a1, hy', not_true_eq_false, ep, rdA]
      · rw [if_neg hy]
        have hy' : 0 ≤ rdX V N (cA i) (cB i) := Int32.not_lt.mp hy
        obtain ⟨m', b1, b2⟩ := ih (i + 1) (by omega) _ _ M (cm + 1) (.long fi) noV (.int (nI c)) a2 (by omega) a3 a4 (Or.inr ⟨fi, rfl, rfl⟩) (Or.inr ⟨_, rfl⟩)
        refine ⟨m', ?_, b2⟩
        rw [r_X6_read_57]
        rcases h10 with ⟨rfl, rfl⟩ | ⟨y0, rfl, rfl⟩
        · rcases h12 with rfl | ⟨y1, rfl⟩
          · simp only [EV, LV, CB, OI, OL, NP, CZ, popN, CT, OZ, List.map_nil, List.map_cons, List.sum_nil, List.sum_cons, Option.toList, List.nil_append, List.cons_append, Int.reduceToNat, Nat.reduceAdd, Nat.reduceLT, Nat.reduceLeDiff, List.length_cons, List.length_nil, Nat.zero_add, if_true, if_false, reduceIte, and_self, and_true, true_and, eq_self, reduceCtorEq, e1, hfi, hfp, gP0, gH hh, aH hh, ec, e2, e3, nI_1, e4, e5, eA, eB, a1, hy', not_true_eq_false, r_X6_read_141]
            exact b1
          · simp only [EV, LV, CB, OI, OL, NP, CZ, popN, CT, OZ, List.map_nil, List.map_cons, List.sum_nil, List.sum_cons, Option.toList, List.nil_append, List.cons_append, Int.reduceToNat, Nat.reduceAdd, Nat.reduceLT, Nat.reduceLeDiff, List.length_cons, List.length_nil, Nat.zero_add, if_true, if_false, reduceIte, and_self, and_true, true_and, eq_self, reduceCtorEq, e1, hfi, hfp, gP0, gH hh, aH hh, ec, e2, e3, nI_1, e4, e5, eA, eB, a1, hy', not_true_eq_false, r_X6_read_141]
            exact b1
        · rcases h12 with rfl | ⟨y1, rfl⟩
          · simp only [EV, LV, CB, OI, OL, NP, CZ, popN, CT, OZ, List.map_nil, List.map_cons, List.sum_nil, List.sum_cons, Option.toList, List.nil_append, List.cons_append, Int.reduceToNat, Nat.reduceAdd, Nat.reduceLT, Nat.reduceLeDiff, List.length_cons, List.length_nil, Nat.zero_add, if_true, if_false, reduceIte, and_self, and_true, true_and, eq_self, reduceCtorEq, e1, hfi, hfp, gP0, gH hh, aH hh, ec, e2, e3, nI_1, e4, e5, eA, eB, a1, hy', not_true_eq_false, r_X6_read_141]
            exact b1
          · simp only [EV, LV, CB, OI, OL, NP, CZ, popN, CT, OZ, List.map_nil, List.map_cons, List.sum_nil, List.sum_cons, Option.toList, List.nil_append, List.cons_append, Int.reduceToNat, Nat.reduceAdd, Nat.reduceLT, Nat.reduceLeDiff, List.length_cons, List.length_nil, Nat.zero_add, if_true, if_false, reduceIte, and_self, and_true, true_and, eq_self, reduceCtorEq, e1, hfi, hfp, gP0, gH hh, aH hh, ec, e2, e3, nI_1, e4, e5, eA, eB, a1, hy', not_true_eq_false, r_X6_read_141]
            exact b1
    · rw [if_neg hp]
      have hg := rc_end (wS := wS) (d + 1) m k l f (nI n) (nI N0) (rsC mE K l f i) cm (nI (i + 1)) (60 + 2 * K) (.long fi) noV v12 (Or.inr hp)
      refine ⟨wI m 0 9 (rsC mE K l f i), ?_, FrR_w hf _ (Or.inl ⟨rfl, rfl⟩), CW_9 hC _, wI_s _ _ _ _⟩
      rw [r_X6_read_57]
      rcases h10 with ⟨rfl, rfl⟩ | ⟨y0, rfl, rfl⟩
      · simp only [EV, LV, CB, OI, OL, NP, CZ, popN, CT, OZ, List.map_nil, List.map_cons, List.sum_nil, List.sum_cons, Option.toList, List.nil_append, List.cons_append, Int.reduceToNat, Nat.reduceAdd, Nat.reduceLT, Nat.reduceLeDiff, List.length_cons, List.length_nil, Nat.zero_add, if_true, if_false, reduceIte, and_self, and_true, true_and, eq_self, reduceCtorEq, e1, hfi, hfp, gP0, gH hh, hp, not_true_eq_false, not_false_eq_true, r_X6_read_144, nI_1]
        exact hg
      · simp only [EV, LV, CB, OI, OL, NP, CZ, popN, CT, OZ, List.map_nil, List.map_cons, List.sum_nil, List.sum_cons, Option.toList, List.nil_append, List.cons_append, Int.reduceToNat, Nat.reduceAdd, Nat.reduceLT, Nat.reduceLeDiff, List.length_cons, List.length_nil, Nat.zero_add, if_true, if_false, reduceIte, and_self, and_true, true_and, eq_self, reduceCtorEq, e1, hfi, hfp, gP0, gH hh, hp, not_true_eq_false, not_false_eq_true, r_X6_read_144, nI_1]
        exact hg
/-- find of the model -/
theorem t_fdM (k g : Int32) {N : Nat} {m : Mm} (hV : V ≤ 4) (hN : N ≤ 6) (h3 : m.1 68 3 = nI V) (c38 : m.1 69 38 = nI N) : semZ shP wS (d + 16) 147 [.ref 68, .int k, .int g, .int 0, .int 0] m = some (some (.int (rdX V N k g)), setR m 69 (rdF V N k g (m.1 69))) := by
  have e10 : ¬ (1 : Int32) = 0 := by decide
  have l1 := ltm (V := V) (by omega) g
  have d1 := dec64 k 0 3 0 3 (by decide) (by decide)
  have d2 : (decide ((0 : Int64) ≤ (0 : Int32).toInt64) && decide ((0 : Int32).toInt64 ≤ 9)) = true := by decide
  have i38 : inR 38 189 = true ∧ (38 : Int32).toNatClampNeg = 38 := by decide +kernel
  rw [se_X7_find, r_X7_find_0]
  unfold rdX rdF rdV
  cases hk : (decide (0 ≤ k) && decide (k ≤ 3)) with
  | false =>
    simp only [EV, LV, CB, OI, OL, NP, CZ, popN, CT, OZ, List.map_nil, List.map_cons, List.sum_nil, List.sum_cons, Option.toList, List.nil_append, List.cons_append, Int.reduceToNat, Nat.reduceAdd, Nat.reduceLT, Nat.reduceLeDiff, List.length_cons, List.length_nil, Nat.zero_add, if_true, if_false, reduceIte, and_self, and_true, true_and, eq_self, reduceCtorEq, t_in wS (d + 14), d1, hk, bI_f, r_X7_find_45, Bool.false_and, Bool.false_eq_true, false_and, setR_id]
  | true =>
    cases hg : (decide (0 ≤ g) && decide (g < nI V)) with
    | false =>
      simp only [EV, LV, CB, OI, OL, NP, CZ, popN, CT, OZ, List.map_nil, List.map_cons, List.sum_nil, List.sum_cons, Option.toList, List.nil_append, List.cons_append, Int.reduceToNat, Nat.reduceAdd, Nat.reduceLT, Nat.reduceLeDiff, List.length_cons, List.length_nil, Nat.zero_add, if_true, if_false, reduceIte, and_self, and_true, true_and, eq_self, reduceCtorEq, gM MP68, t_in wS (d + 14), d1, hk, bI_t, e10, t_isVillage wS (d + 13) MP68, h3, l1, hg, bI_f, r_X7_find_45, Bool.and_false, Bool.false_eq_true, false_and, setR_id]
    | true =>
      by_cases n6 : N = 6
      · subst n6
        have z6 : nI 6 = (6 : Int32) := by decide
        simp only [EV, LV, CB, OI, OL, NP, CZ, popN, CT, OZ, List.map_nil, List.map_cons, List.sum_nil, List.sum_cons, Option.toList, List.nil_append, List.cons_append, Int.reduceToNat, Nat.reduceAdd, Nat.reduceLT, Nat.reduceLeDiff, List.length_cons, List.length_nil, Nat.zero_add, if_true, if_false, reduceIte, and_self, and_true, true_and, eq_self, reduceCtorEq, gM MP68, aM MP68, t_in wS (d + 14), d1, d2, hk, bI_t, e10, t_isVillage wS (d + 13) MP68, h3, l1, hg, not_false_eq_true, r_X7_find_47, i38, c38, z6, not_true_eq_false, Bool.and_self, ne_eq, and_false, setR_id]
      · have hN6 : N < 6 := by omega
        have z6 : ¬ nI N = (6 : Int32) := fun z => by
          have := (nI_eq (a := N) (b := 6) (by omega) (by omega)).mp z
          omega
        obtain ⟨P, eP⟩ : ∃ P, P = wI (wI (wI (wI (wI m 69 (8 + 5 * N) k) 69 (8 + 5 * N + 1) g) 69 (8 + 5 * N + 2) 0) 69 (8 + 5 * N + 3) 0) 69 (8 + 5 * N + 4) 0 := ⟨_, rfl⟩
        have p38 : P.1 69 38 = nI N := by rw [eP, wI_j _ _ _ _ _ (by omega), wI_j _ _ _ _ _ (by omega), wI_j _ _ _ _ _ (by omega), wI_j _ _ _ _ _ (by omega), wI_j _ _ _ _ _ (by omega)]; exact c38
        have p38' : (wI P 69 38 (nI (N + 1))).1 69 38 = nI (N + 1) := wI_s _ _ _ _
        have i0 : (8 : Int32) + 5 * nI N + 0 = nI (8 + 5 * N) := ix_85 N hN6 0 (by omega)
        have i1 : (8 : Int32) + 5 * nI N + 1 = nI (8 + 5 * N + 1) := ix_85 N hN6 1 (by omega)
        have i2 : (8 : Int32) + 5 * nI N + 2 = nI (8 + 5 * N + 2) := ix_85 N hN6 2 (by omega)
        have i3 : (8 : Int32) + 5 * nI N + 3 = nI (8 + 5 * N + 3) := ix_85 N hN6 3 (by omega)
        have i4 : (8 : Int32) + 5 * nI N + 4 = nI (8 + 5 * N + 4) := ix_85 N hN6 4 (by omega)
        have r0 : inR (nI (8 + 5 * N)) 189 = true ∧ (nI (8 + 5 * N)).toNatClampNeg = 8 + 5 * N := ⟨inR_nI (by omega) (by omega), nI_clamp (by omega)⟩
        have r1 : inR (nI (8 + 5 * N + 1)) 189 = true ∧ (nI (8 + 5 * N + 1)).toNatClampNeg = 8 + 5 * N + 1 := ⟨inR_nI (by omega) (by omega), nI_clamp (by omega)⟩
        have r2 : inR (nI (8 + 5 * N + 2)) 189 = true ∧ (nI (8 + 5 * N + 2)).toNatClampNeg = 8 + 5 * N + 2 := ⟨inR_nI (by omega) (by omega), nI_clamp (by omega)⟩
        have r3 : inR (nI (8 + 5 * N + 3)) 189 = true ∧ (nI (8 + 5 * N + 3)).toNatClampNeg = 8 + 5 * N + 3 := ⟨inR_nI (by omega) (by omega), nI_clamp (by omega)⟩
        have r4 : inR (nI (8 + 5 * N + 4)) 189 = true ∧ (nI (8 + 5 * N + 4)).toNatClampNeg = 8 + 5 * N + 4 := ⟨inR_nI (by omega) (by omega), nI_clamp (by omega)⟩
        have ef : setR m 69 (fdF (m.1 69) N k g 0 0) = wI P 69 38 (nI (N + 1)) := by
          rw [eP]
          simp only [wI_R, setR_s, setR_R]
          rfl
        have c : ((true && true) = true ∧ N ≠ 6) := ⟨rfl, n6⟩
        rw [if_pos c, if_pos c.1, if_neg n6, ef]
        simp only [EV, LV, CB, OI, OL, NP, CZ, popN, CT, OZ, List.map_nil, List.map_cons, List.sum_nil, List.sum_cons, Option.toList, List.nil_append, List.cons_append, Int.reduceToNat, Nat.reduceAdd, Nat.reduceLT, Nat.reduceLeDiff, List.length_cons, List.length_nil, Nat.zero_add, if_true, if_false, reduceIte, and_self, and_true, true_and, eq_self, reduceCtorEq, gM MP68, aM MP68, sM MP68, t_in wS (d + 14), d1, d2, hk, bI_t, e10, t_isVillage wS (d + 13) MP68, h3, l1, hg, not_false_eq_true, r_X7_find_47, i38, c38, z6, r_X7_find_62, i0, i1, i2, i3, i4, r0, r1, r2, r3, r4, ← eP, p38, nI_1, p38']
def RdM (mE m : Mm) (r : Nat ⊕ (Int32 × Int32 × Nat × (Nat → Int32))) : Prop := match r with
  | .inl _ => (∀ j, j < 63 → m.1 69 j = mE.1 80 j) ∧ ∀ o, o ≠ 69 → m.1 o = mE.1 o
  | .inr y => m.1 69 = y.2.2.2 ∧ m.1 68 = upd (mE.1 68) 27 y.1 ∧ ∀ o, o ≠ 69 → o ≠ 68 → m.1 o = mE.1 o
/-- the model's loop ends -/
theorem rm_e2 (m : Mm) (k l f n x w i : Int32) (v8 v9 : Value) (h : n ≤ i ∨ ¬ x = 0) : rn shP tb0 mN mO (semZ shP wS (d + 17)) (some .int) (codeZ 182) 62 [.ref 68, .int k, .int l, .int f, .int n, .int x, .int w, .int i, v8, v9, noV] [] m = some (some (.int w), wI m 68 27 x) := by
  have e : pfI shP 727 68 (.int x) m = some (wI m 68 27 x) := rfl
  rw [r_X7_read_62]
  by_cases q : n ≤ i
  · simp only [EV, LV, CB, OI, OL, NP, CZ, popN, CT, OZ, List.map_nil, List.map_cons, List.sum_nil, List.sum_cons, Option.toList, List.nil_append, List.cons_append, Int.reduceToNat, Nat.reduceAdd, Nat.reduceLT, Nat.reduceLeDiff, List.length_cons, List.length_nil, Nat.zero_add, if_true, if_false, reduceIte, and_self, and_true, true_and, eq_self, reduceCtorEq, q, r_X7_read_252, e]
  · have hx : ¬ x = 0 := h.resolve_left q
    simp only [EV, LV, CB, OI, OL, NP, CZ, popN, CT, OZ, List.map_nil, List.map_cons, List.sum_nil, List.sum_cons, Option.toList, List.nil_append, List.cons_append, Int.reduceToNat, Nat.reduceAdd, Nat.reduceLT, Nat.reduceLeDiff, List.length_cons, List.length_nil, Nat.zero_add, if_true, if_false, reduceIte, and_self, and_true, true_and, eq_self, reduceCtorEq, q, hx, not_false_eq_true, r_X7_read_252, e]
/-- the fault of pair i in the model -/
def rsM (mE : Mm) (K : Nat) (l f : Int32) (i : Nat) : Int32 := if rsn (mE.1 77 K) l (mE.1 78 K) (f.toInt64 + ((2 : Int32) * nI i).toInt64 + (nI 0).toInt64) = 0 then rsn (mE.1 77 K) l (mE.1 78 K) (f.toInt64 + ((2 : Int32) * nI i).toInt64 + (nI 1).toInt64) else rsn (mE.1 77 K) l (mE.1 78 K) (f.toInt64 + ((2 : Int32) * nI i).toInt64 + (nI 0).toInt64)
theorem rq_loop {K : Nat} (hK : K < 4) (l f : Int32) {n : Nat} (hn : n ≤ 20) (hV : V ≤ 4) {mE : Mm} (hs : (mE.1 78 K).toInt ≤ 40) (h3 : mE.1 68 3 = nI V) (cA cB : Nat → Int32) (hcA : ∀ i c : Nat, i ≤ 20 → f.toInt + 2 * (i : Int) = c → c + 1 < 40 → ¬ mE.1 77 K = -4 → cA i = mE.1 79 (40 * K + c)) (hcB : ∀ i c : Nat, i ≤ 20 → f.toInt + 2 * (i : Int) = c → c + 1 < 40 → ¬ mE.1 77 K = -4 → cB i = mE.1 79 (40 * K + c + 1)) : ∀ (q i : Nat), i + q = n → ∀ (N : Nat) (F : Nat → Int32) (m : Mm) (w : Int32) (v8 v9 : Value), m.1 69 = F → F 38 = nI N → N ≤ 6 → (∀ o, o ≠ 69 → m.1 o = mE.1 o) → (v8 = noV ∨ ∃ y : Int32, v8 = .int y) → ((v9 = noV ∨ ∃ y : Int32, v9 = .int y) ∨ ∃ y : Int64, v9 = .long y) → ∃ m', rn shP tb0 mN mO (semZ shP wS (d + 17)) (some .int) (codeZ 182) 62 [.ref 68, .int (nI K), .int l, .int f, .int (nI n), .int 0, .int w, .int (nI i), v8, v9, noV] [] m = some (some (.int (rdA (rdP V (rsM mE K l f) cA cB q i N F w))), m') ∧ RdM mE m' (rdP V (rsM mE K l f) cA cB q i N F w) := by
  intro q
  induction q with
  | zero =>
    intro i hi N F m w v8 v9 h9 h38 hN ho h8 h9v
    have e0 : i = n := by omega
    subst e0
    refine ⟨wI m 68 27 0, rm_e2 d m (nI K) l f (nI i) 0 w (nI i) v8 v9 (Or.inl (Int32.le_refl _)), ?_, ?_, fun o a b => ?_⟩
    · rw [wI_n _ _ _ _ (by omega)]; exact h9
    · rw [wI_r, ho 68 (by omega)]
    · rw [wI_n _ _ _ _ b]; exact ho o a
  | succ q ih =>
    intro i hi N F m w v8 v9 h9 h38 hN ho h8 h9v
    have e1 : ¬ nI n ≤ nI i := nI_ge (by omega) (by omega)
    have st1 : rn shP tb0 mN mO (semZ shP wS (d + 17)) (some .int) (codeZ 182) 62 [.ref 68, .int (nI K), .int l, .int f, .int (nI n), .int 0, .int w, .int (nI i), v8, v9, noV] [] m = rn shP tb0 mN mO (semZ shP wS (d + 17)) (some .int) (codeZ 182) 77 [.ref 68, .int (nI K), .int l, .int f, .int (nI n), .int 0, .int w, .int (nI i), .int (nI 0), v9, noV] [] m := by
      rw [r_X7_read_62]
      rcases h8 with rfl | ⟨y, rfl⟩
      · simp only [EV, LV, CB, OI, OL, NP, CZ, popN, CT, OZ, List.map_nil, List.map_cons, List.sum_nil, List.sum_cons, Option.toList, List.nil_append, List.cons_append, Int.reduceToNat, Nat.reduceAdd, Nat.reduceLT, Nat.reduceLeDiff, List.length_cons, List.length_nil, Nat.zero_add, if_true, if_false, reduceIte, and_self, and_true, true_and, eq_self, reduceCtorEq, e1, not_true_eq_false]
        rfl
      · simp only [EV, LV, CB, OI, OL, NP, CZ, popN, CT, OZ, List.map_nil, List.map_cons, List.sum_nil, List.sum_cons, Option.toList, List.nil_append, List.cons_append, Int.reduceToNat, Nat.reduceAdd, Nat.reduceLT, Nat.reduceLeDiff, List.length_cons, List.length_nil, Nat.zero_add, if_true, if_false, reduceIte, and_self, and_true, true_and, eq_self, reduceCtorEq, e1, not_true_eq_false]
        rfl
    have at164 : ∀ (x : Int32) (p : Int64) (j : Nat), (¬ x = 0 ∨ j = 2) → rn shP tb0 mN mO (semZ shP wS (d + 17)) (some .int) (codeZ 182) 77 [.ref 68, .int (nI K), .int l, .int f, .int (nI n), .int x, .int w, .int (nI i), .int (nI j), .long p, noV] [] m = rn shP tb0 mN mO (semZ shP wS (d + 17)) (some .int) (codeZ 182) 164 [.ref 68, .int (nI K), .int l, .int f, .int (nI n), .int x, .int w, .int (nI i), .int (nI j), .long p, noV] [] m := by
      intro x p j hxj
      rw [r_X7_read_77]
      by_cases h2 : (2 : Int32) ≤ nI j
      · simp only [EV, LV, CB, OI, OL, NP, CZ, popN, CT, OZ, List.map_nil, List.map_cons, List.sum_nil, List.sum_cons, Option.toList, List.nil_append, List.cons_append, Int.reduceToNat, Nat.reduceAdd, Nat.reduceLT, Nat.reduceLeDiff, List.length_cons, List.length_nil, Nat.zero_add, if_true, if_false, reduceIte, and_self, and_true, true_and, eq_self, reduceCtorEq, h2]
      · have hx0 : ¬ x = 0 := by
          rcases hxj with h | h
          · exact h
          · rw [h] at h2
            exact absurd (by decide +kernel) h2
        simp only [EV, LV, CB, OI, OL, NP, CZ, popN, CT, OZ, List.map_nil, List.map_cons, List.sum_nil, List.sum_cons, Option.toList, List.nil_append, List.cons_append, Int.reduceToNat, Nat.reduceAdd, Nat.reduceLT, Nat.reduceLeDiff, List.length_cons, List.length_nil, Nat.zero_add, if_true, if_false, reduceIte, and_self, and_true, true_and, eq_self, reduceCtorEq, h2, hx0, not_false_eq_true]
    have bad164 : ∀ (x : Int32) (p : Int64) (j : Nat), ¬ x = 0 → rn shP tb0 mN mO (semZ shP wS (d + 17)) (some .int) (codeZ 182) 164 [.ref 68, .int (nI K), .int l, .int f, .int (nI n), .int x, .int w, .int (nI i), .int (nI j), .long p, noV] [] m = some (some (.int w), wI m 68 27 x) := by
      intro x p j hx0
      have h := rm_e2 (wS := wS) d m (nI K) l f (nI n) x w (nI (i + 1)) (.int (nI j)) (.long p) (Or.inr hx0)
      rw [r_X7_read_164]
      simp only [EV, LV, CB, OI, OL, NP, CZ, popN, CT, OZ, List.map_nil, List.map_cons, List.sum_nil, List.sum_cons, Option.toList, List.nil_append, List.cons_append, Int.reduceToNat, Nat.reduceAdd, Nat.reduceLT, Nat.reduceLeDiff, List.length_cons, List.length_nil, Nat.zero_add, if_true, if_false, reduceIte, and_self, and_true, true_and, eq_self, reduceCtorEq, hx0, not_false_eq_true, r_X7_read_246, nI_1]
      exact h
    have fin : ∀ x, RdM mE (wI m 68 27 x) (.inr (x, w, N, F)) := fun x => ⟨by rw [wI_n _ _ _ _ (by omega)]; exact h9, by rw [wI_r, ho 68 (by omega)], fun o a b => by rw [wI_n _ _ _ _ b]; exact ho o a⟩
    have m77 : m.1 77 = mE.1 77 := ho 77 (by omega)
    have m78 : m.1 78 = mE.1 78 := ho 78 (by omega)
    have m79 : m.1 79 = mE.1 79 := ho 79 (by omega)
    rw [st1, rm_in _ hK l f (nI n) w i 0 noV m v9 h9v (by omega), m77, m78]
    unfold rdP
    by_cases h0 : rsn (mE.1 77 K) l (mE.1 78 K) (f.toInt64 + ((2 : Int32) * nI i).toInt64 + (nI 0).toInt64) = 0
    · have er : rsM mE K l f i = rsn (mE.1 77 K) l (mE.1 78 K) (f.toInt64 + ((2 : Int32) * nI i).toInt64 + (nI 1).toInt64) := by
        unfold rsM
        rw [if_pos h0]
      rw [h0, rm_in _ hK l f (nI n) w i 1 noV m (.long (f.toInt64 + ((2 : Int32) * nI i).toInt64 + (nI 0).toInt64)) (Or.inr ⟨_, rfl⟩) (by omega), m77, m78, ← er, at164 _ _ 2 (Or.inr rfl)]
      by_cases h1 : rsM mE K l f i = 0
      · rw [if_pos h1]
        have n4 : ¬ mE.1 77 K = -4 := fun z => by
          unfold rsn at h0
          rw [if_pos z] at h0
          exact absurd h0 (by decide)
        have a0 := rsn_0 h0
        have a1 := rsn_0 (er.symm.trans h1)
        rw [p_i (by omega) (by omega)] at a0
        rw [p_i (by omega) (by omega)] at a1
        obtain ⟨c, hc⟩ : ∃ c : Nat, f.toInt + 2 * (i : Int) = c := ⟨(f.toInt + 2 * (i : Int)).toNat, by omega⟩
        have ei := ix_rd (by omega : i ≤ 100) hK hc (by omega)
        have e2 : inR (nI (40 * K + c)) 160 = true := inR_nI (by omega) (by omega)
        have e3 : (nI (40 * K + c)).toNatClampNeg = 40 * K + c := nI_clamp (by omega)
        have e4 : inR (nI (40 * K + c + 1)) 160 = true := inR_nI (by omega) (by omega)
        have e5 : (nI (40 * K + c + 1)).toNatClampNeg = 40 * K + c + 1 := nI_clamp (by omega)
        have eA : m.1 79 (40 * K + c) = cA i := by rw [m79, hcA i c (by omega) hc (by omega) n4]
        have eB : m.1 79 (40 * K + c + 1) = cB i := by rw [m79, hcB i c (by omega) hc (by omega) n4]
        have a1 := t_fdM (wS := wS) (d + 1) (cA i) (cB i) (m := m) hV hN (by rw [ho 68 (by omega)]; exact h3) (by rw [h9]; exact h38)
        rw [h9] at a1
        obtain ⟨M, eM⟩ : ∃ M, M = setR m 69 (rdF V N (cA i) (cB i) F) := ⟨_, rfl⟩
        rw [← eM] at a1
        have a1 : semZ shP wS (d + 17) 147 [.ref 68, .int (cA i), .int (cB i), .int 0, .int 0] m = some (some (.int (rdX V N (cA i) (cB i))), M) := a1
        have M9 : M.1 69 = rdF V N (cA i) (cB i) F := by rw [eM, setR_s]
        have Mo : ∀ o, o ≠ 69 → M.1 o = mE.1 o := fun o a => by rw [eM, setR_n _ _ a]; exact ho o a
        have g1 := gM MP68
        have b1 := aM MP68
        simp only [Nat.reduceAdd] at g1 b1
        rw [h1]
        by_cases hy : rdX V N (cA i) (cB i) < 0
        · rw [if_pos hy]
          have hy' : ¬ 0 ≤ rdX V N (cA i) (cB i) := Int32.not_le.mpr hy
          have bk := rm_bk (semZ shP wS (d + 17)) M (M.1 69) (nI K) l f (nI n) 0 w (nI i) (nI (40 * K + c)) noV 63 0 rfl
          rw [fillR_0, setR_id] at bk
          refine ⟨setR M 69 (fillR (M.1 80) (M.1 69) 63), ?_, fun j hj => ?_, fun o a => by rw [setR_n _ _ a]; exact Mo o a⟩
          · rw [r_X7_read_164]
            simp only [EV, LV, CB, OI, OL, NP, CZ, popN, CT, OZ, List.map_nil, List.map_cons, List.sum_nil, List.sum_cons, Option.toList, List.nil_append, List.cons_append, Int.reduceToNat, Nat.reduceAdd, Nat.reduceLT, Nat.reduceLeDiff, List.length_cons, List.length_nil, Nat.zero_add, if_true, if_false, reduceIte, and_self, and_true, true_and, eq_self, reduceCtorEq, ei, g1, b1, e2, e3, nI_1, e4, e5, eA, eB, a1, hy', not_true_eq_false]
            exact bk
          · rw [setR_s, Mo 80 (by omega)]
            unfold fillR
            rw [if_pos hj]
        · rw [if_neg hy]
          have hy' : 0 ≤ rdX V N (cA i) (cB i) := Int32.not_lt.mp hy
          have hN' : rdN V N (cA i) (cB i) ≤ 6 ∧ rdF V N (cA i) (cB i) F 38 = nI (rdN V N (cA i) (cB i)) := by
            unfold rdN rdF
            split
            · exact ⟨by omega, by unfold fdF; rw [upd_s]⟩
            · exact ⟨hN, h38⟩
          obtain ⟨m', c1, c2⟩ := ih (i + 1) (by omega) (rdN V N (cA i) (cB i)) (rdF V N (cA i) (cB i) F) M (w + 1) (.int (nI (40 * K + c))) (.long (f.toInt64 + ((2 : Int32) * nI i).toInt64 + (nI 1).toInt64)) M9 hN'.2 hN'.1 Mo (Or.inr ⟨_, rfl⟩) (Or.inr ⟨_, rfl⟩)
          refine ⟨m', ?_, c2⟩
          rw [r_X7_read_164]
          simp only [EV, LV, CB, OI, OL, NP, CZ, popN, CT, OZ, List.map_nil, List.map_cons, List.sum_nil, List.sum_cons, Option.toList, List.nil_append, List.cons_append, Int.reduceToNat, Nat.reduceAdd, Nat.reduceLT, Nat.reduceLeDiff, List.length_cons, List.length_nil, Nat.zero_add, if_true, if_false, reduceIte, and_self, and_true, true_and, eq_self, reduceCtorEq, ei, g1, b1, e2, e3, nI_1, e4, e5, eA, eB, a1, hy', not_true_eq_false, r_X7_read_243]
          exact c1
      · rw [if_neg h1]
        exact ⟨_, bad164 _ _ 2 h1, fin _⟩
    · have er : rsM mE K l f i = rsn (mE.1 77 K) l (mE.1 78 K) (f.toInt64 + ((2 : Int32) * nI i).toInt64 + (nI 0).toInt64) := by
        unfold rsM
        rw [if_neg h0]
      rw [← er] at h0 ⊢
      rw [at164 _ _ 1 (Or.inl h0), if_neg h0]
      exact ⟨_, bad164 _ _ 1 h0, fin _⟩
theorem rs_eq {m : Mm} (hS : SR m) {K : Nat} (hK : K < 4) (l f : Int32) (i : Nat) : rsC m K l f i = rsM m K l f i := by
  have z0 : (nI 0).toInt64 = 0 := by decide
  have z1 : (nI 1).toInt64 = 1 := by decide
  have e10 : ¬ (1 : Int32) = 0 := by decide
  unfold rsC rsM fPr fAt rsn
  rw [z0, z1, Int64.add_zero]
  generalize f.toInt64 + ((2 : Int32) * nI i).toInt64 = p
  rcases hS K hK with ⟨a, b⟩ | ⟨a, b, c, e, -⟩
  · rw [a, b]
    simp
  · rw [a, c, e]
    by_cases h : m.1 77 K = l
    · rw [h] at b ⊢
      simp [b]
    · simp [b, h]
theorem CW_kR {N : Nat} {F : Nat → Int32} {m m1 : Mm} (h : CW 1 V N F m) (hf : FrR N m m1) (h1 : m1.1 1 1 = nI N) : CW 1 V N F m1 := by
  obtain ⟨c1, c2, c3, c4, c5, c6, c7, c8, c9, hg, hb⟩ := h
  refine ⟨c1, c2, ?_, h1, c5, ?_, ?_, ?_, ?_, fun g g4 => ?_, fun b b6 => ?_⟩
  · rw [hf 1 0 (by omega) (by omega) (by omega)]; exact c3
  · rw [hf 1 2 (by omega) (by omega) (by omega)]; exact c6
  · rw [hf 1 3 (by omega) (by omega) (by omega)]; exact c7
  · rw [hf 1 4 (by omega) (by omega) (by omega)]; exact c8
  · rw [hf 1 5 (by omega) (by omega) (by omega)]; exact c9
  · rw [hf (1 + 1) g (by omega) (by omega) (by omega), hf (1 + 2) g (by omega) (by omega) (by omega)]; exact hg g g4
  · rw [hf (1 + 4) b (by omega) (by omega) (by omega), hf (1 + 5) b (by omega) (by omega) (by omega), hf (1 + 6) b (by omega) (by omega) (by omega), hf (1 + 7) b (by omega) (by omega) (by omega), hf (1 + 8) b (by omega) (by omega) (by omega)]; exact hb b b6
theorem iv_78K {K : Nat} (hK : K < 4) : ivO TV 78 K = (0, 40) := by rw [iv_1 (by decide)]; decide
/-- read of both -/
theorem b_read {N : Nat} {m : Mm} (k l f n : Int32) (hI : InvT TV m) (hS : SR m) (h : LNow V N m) (hT : LTo m) : ∃ x m1 m2, semZ shP wS (d + 30) 96 [.ref 0, .int k, .int l, .int f, .int n] m = some (some (.int x), m1) ∧ semZ shP wS (d + 30) 182 [.ref 68, .int k, .int l, .int f, .int n] m1 = some (some (.int x), m2) ∧ (∃ N', N ≤ N' ∧ LNow V N' m2) ∧ LTo m2 ∧ ∀ j, 44 ≤ j → j ≤ 62 → m2.1 69 j = m.1 69 j := by
  have h0 := h
  obtain ⟨h3, hC, h6, hTu, hA⟩ := h
  have hV := hC.1
  have hN := hC.2.1
  have c1 := hC.2.2.2.1
  have c38 := hC.2.2.2.2.1
  have e10 : ¬ (1 : Int32) = 0 := by decide
  have d1 := dec64 k 0 3 0 3 (by decide) (by decide)
  have d2 := dec64 l 0 2 0 2 (by decide) (by decide)
  have d3 := dec64 n 0 20 0 20 (by decide) (by decide)
  rw [se_X6_read, r_X6_read_0]
  cases q1 : (decide (0 ≤ k) && decide (k ≤ 3)) with
  | false =>
    refine ⟨-1, m, m, ?_, ?_, ⟨N, Nat.le_refl _, h0⟩, hT, fun _ _ _ => rfl⟩
    · simp only [EV, LV, CB, OI, OL, NP, CZ, popN, CT, OZ, List.map_nil, List.map_cons, List.sum_nil, List.sum_cons, Option.toList, List.nil_append, List.cons_append, Int.reduceToNat, Nat.reduceAdd, Nat.reduceLT, Nat.reduceLeDiff, List.length_cons, List.length_nil, Nat.zero_add, if_true, if_false, reduceIte, and_self, and_true, true_and, eq_self, reduceCtorEq, t_within wS (d + 28), q1, bI_f, r_X6_read_29]
    · rw [se_X7_read, r_X7_read_0]
      simp only [EV, LV, CB, OI, OL, NP, CZ, popN, CT, OZ, List.map_nil, List.map_cons, List.sum_nil, List.sum_cons, Option.toList, List.nil_append, List.cons_append, Int.reduceToNat, Nat.reduceAdd, Nat.reduceLT, Nat.reduceLeDiff, List.length_cons, List.length_nil, Nat.zero_add, if_true, if_false, reduceIte, and_self, and_true, true_and, eq_self, reduceCtorEq, t_isSheet wS (d + 27), d1, q1, Bool.false_and, bI_f, r_X7_read_21]
  | true =>
    cases q2 : (decide (0 ≤ l) && decide (l ≤ 2)) with
    | false =>
      refine ⟨-1, m, m, ?_, ?_, ⟨N, Nat.le_refl _, h0⟩, hT, fun _ _ _ => rfl⟩
      · simp only [EV, LV, CB, OI, OL, NP, CZ, popN, CT, OZ, List.map_nil, List.map_cons, List.sum_nil, List.sum_cons, Option.toList, List.nil_append, List.cons_append, Int.reduceToNat, Nat.reduceAdd, Nat.reduceLT, Nat.reduceLeDiff, List.length_cons, List.length_nil, Nat.zero_add, if_true, if_false, reduceIte, and_self, and_true, true_and, eq_self, reduceCtorEq, t_within wS (d + 28), q1, q2, bI_f, bI_t, e10, r_X6_read_29]
      · rw [se_X7_read, r_X7_read_0]
        simp only [EV, LV, CB, OI, OL, NP, CZ, popN, CT, OZ, List.map_nil, List.map_cons, List.sum_nil, List.sum_cons, Option.toList, List.nil_append, List.cons_append, Int.reduceToNat, Nat.reduceAdd, Nat.reduceLT, Nat.reduceLeDiff, List.length_cons, List.length_nil, Nat.zero_add, if_true, if_false, reduceIte, and_self, and_true, true_and, eq_self, reduceCtorEq, t_isSheet wS (d + 27), d1, d2, q1, q2, Bool.and_false, bI_f, r_X7_read_21]
    | true =>
      cases q3 : (decide (0 ≤ n) && decide (n ≤ 20)) with
      | false =>
        refine ⟨-1, m, m, ?_, ?_, ⟨N, Nat.le_refl _, h0⟩, hT, fun _ _ _ => rfl⟩
        · simp only [EV, LV, CB, OI, OL, NP, CZ, popN, CT, OZ, List.map_nil, List.map_cons, List.sum_nil, List.sum_cons, Option.toList, List.nil_append, List.cons_append, Int.reduceToNat, Nat.reduceAdd, Nat.reduceLT, Nat.reduceLeDiff, List.length_cons, List.length_nil, Nat.zero_add, if_true, if_false, reduceIte, and_self, and_true, true_and, eq_self, reduceCtorEq, t_within wS (d + 28), q1, q2, q3, bI_f, bI_t, e10, not_true_eq_false]
        · rw [se_X7_read, r_X7_read_0]
          simp only [EV, LV, CB, OI, OL, NP, CZ, popN, CT, OZ, List.map_nil, List.map_cons, List.sum_nil, List.sum_cons, Option.toList, List.nil_append, List.cons_append, Int.reduceToNat, Nat.reduceAdd, Nat.reduceLT, Nat.reduceLeDiff, List.length_cons, List.length_nil, Nat.zero_add, if_true, if_false, reduceIte, and_self, and_true, true_and, eq_self, reduceCtorEq, t_isSheet wS (d + 27), t_in wS (d + 28), d1, d2, d3, q1, q2, q3, Bool.and_self, bI_f, bI_t, e10, not_true_eq_false]
      | true =>
        obtain ⟨K, hK3, rfl⟩ := in_nI (N := 3) (by decide) q1
        obtain ⟨n', hn, rfl⟩ := in_nI (N := 20) (by decide) q3
        have hK : K < 4 := by omega
        have hs : (m.1 (60 + 2 * K) 1).toInt ≤ 40 := by
          have b := hI (60 + 2 * K) 1
          rw [(iv_sz (w := 60 + 2 * K) (by
            match K, hK with
            | 0, _ => decide
            | 1, _ => decide
            | 2, _ => decide
            | 3, _ => decide)).2] at b
          exact b.2
        have hs2 : (m.1 78 K).toInt ≤ 40 := by
          have b := hI 78 K
          rw [iv_78K hK] at b
          exact b.2
        have ea := aR28 K hK
        obtain ⟨cA, eA⟩ : ∃ cA : Nat → Int32, cA = fun i => m.1 (60 + 2 * K + 1) (f.toInt64 + ((2 : Int32) * nI i).toInt64).toInt.toNat := ⟨_, rfl⟩
        obtain ⟨cB, eB⟩ : ∃ cB : Nat → Int32, cB = fun i => m.1 (60 + 2 * K + 1) ((f.toInt64 + ((2 : Int32) * nI i).toInt64).toInt.toNat + 1) := ⟨_, rfl⟩
        obtain ⟨m1, r1, fr, s1⟩ := rc_loop (wS := wS) (d + 12) (V := V) hK (nI K) l f hn (mE := m) hs hN cA cB (fun i c z => by rw [eA]; show m.1 _ _ = _; rw [z, Int.toNat_natCast]) (fun i c z => by rw [eB]; show m.1 _ _ = _; rw [z, Int.toNat_natCast]) n' 0 (by omega) N (m.1 69) m 0 noV noV noV hC (Nat.le_refl _) (fun _ _ _ _ _ => rfl) rfl (Or.inl ⟨rfl, rfl⟩) (Or.inl rfl)
        have mo : ∀ o, 10 ≤ o → m1.1 o = m.1 o := fun o ho => by
          funext j
          exact fr o j (by omega) (by omega) (by omega)
        have m14 : m1.1 4 = m.1 4 := by
          funext j
          exact fr 4 j (by omega) (by omega) (by omega)
        have m16 : m1.1 1 6 = m.1 1 6 := fr 1 6 (by omega) (by omega) (by omega)
        obtain ⟨P, eP⟩ : ∃ P, P = setR m1 80 (fillR (m1.1 69) (m1.1 80) 63) := ⟨_, rfl⟩
        have po : ∀ o, o ≠ 80 → P.1 o = m1.1 o := fun o ho => by rw [eP, setR_n _ _ ho]
        have p80 : ∀ j, j < 63 → P.1 80 j = m.1 69 j := fun j hj => by
          rw [eP, setR_s, mo 69 (by omega)]
          unfold fillR
          rw [if_pos hj]
        have p9 : P.1 69 = m.1 69 := by rw [po 69 (by omega), mo 69 (by omega)]
        have p68 : P.1 68 = m.1 68 := by rw [po 68 (by omega), mo 68 (by omega)]
        have p77 : P.1 77 = m.1 77 := by rw [po 77 (by omega), mo 77 (by omega)]
        have p78 : P.1 78 = m.1 78 := by rw [po 78 (by omega), mo 78 (by omega)]
        have p79 : P.1 79 = m.1 79 := by rw [po 79 (by omega), mo 79 (by omega)]
        have ers : rsM P K l f = rsC m K l f := by
          funext i
          rw [rs_eq hS hK]
          unfold rsM
          rw [p77, p78]
        have cel : ¬ m.1 77 K = -4 → ∀ j, j < 40 → m.1 (60 + 2 * K + 1) j = m.1 79 (40 * K + j) := fun z => by
          rcases hS K hK with ⟨-, b⟩ | ⟨-, -, -, -, b⟩
          · exact absurd b z
          · exact b
        have pi : ∀ i : Nat, i ≤ 20 → (f.toInt64 + ((2 : Int32) * nI i).toInt64).toInt = f.toInt + 2 * (i : Int) := fun i hi => by
          have := p_i (f := f) (i := i) (j := 0) (by omega) (by omega)
          rw [show (nI 0).toInt64 = 0 from by decide, Int64.add_zero] at this
          omega
        obtain ⟨m2, r2, s2⟩ := rq_loop (wS := wS) (d + 12) hK l f hn hV (mE := P) (by rw [p78]; exact hs2) (by rw [p68]; exact h3) cA cB (fun i c i20 z c40 z4 => by
          rw [p77] at z4
          rw [eA, p79]
          show m.1 _ _ = _
          rw [pi i i20, z, Int.toNat_natCast]
          exact cel z4 c (by omega)) (fun i c i20 z c40 z4 => by
          rw [p77] at z4
          rw [eB, p79]
          show m.1 _ _ = _
          rw [pi i i20, z, Int.toNat_natCast]
          exact cel z4 (c + 1) (by omega)) n' 0 (by omega) N (m.1 69) P 0 noV noV p9 c38 hN (fun _ _ => rfl) (Or.inl rfl) (Or.inl (Or.inl rfl))
        rw [ers] at r2 s2
        generalize er : rdP V (rsC m K l f) cA cB n' 0 N (m.1 69) 0 = r at r1 s1 r2 s2
        refine ⟨rdA r, m1, m2, ?_, ?_, ?_⟩
        · simp only [EV, LV, CB, OI, OL, NP, CZ, popN, CT, OZ, List.map_nil, List.map_cons, List.sum_nil, List.sum_cons, Option.toList, List.nil_append, List.cons_append, Int.reduceToNat, Nat.reduceAdd, Nat.reduceLT, Nat.reduceLeDiff, List.length_cons, List.length_nil, Nat.zero_add, if_true, if_false, reduceIte, and_self, and_true, true_and, eq_self, reduceCtorEq, t_within wS (d + 28), q1, q2, q3, bI_t, not_false_eq_true, e10, r_X6_read_31, gP0, ea, gW WP1, c1]
          exact r1
        · have cp := rm_cp (semZ shP wS (d + 29)) m1 (m1.1 80) (nI K) l f (nI n') [noV, noV, noV, noV, noV] 63 0 rfl
          rw [fillR_0, setR_id, ← eP] at cp
          rw [se_X7_read, r_X7_read_0]
          simp only [EV, LV, CB, OI, OL, NP, CZ, popN, CT, OZ, List.map_nil, List.map_cons, List.sum_nil, List.sum_cons, Option.toList, List.nil_append, List.cons_append, Int.reduceToNat, Nat.reduceAdd, Nat.reduceLT, Nat.reduceLeDiff, List.length_cons, List.length_nil, Nat.zero_add, if_true, if_false, reduceIte, and_self, and_true, true_and, eq_self, reduceCtorEq, t_isSheet wS (d + 27), t_in wS (d + 28), d1, d2, d3, q1, q2, q3, Bool.and_self, bI_t, not_false_eq_true, e10, r_X7_read_23]
          refine Eq.trans cp ?_
          rw [r_X7_read_53]
          simp only [EV, LV, CB, OI, OL, NP, CZ, popN, CT, OZ, List.map_nil, List.map_cons, List.sum_nil, List.sum_cons, Option.toList, List.nil_append, List.cons_append, Int.reduceToNat, Nat.reduceAdd, Nat.reduceLT, Nat.reduceLeDiff, List.length_cons, List.length_nil, Nat.zero_add, if_true, if_false, reduceIte, and_self, and_true, true_and, eq_self, reduceCtorEq]
          exact r2
        · cases r with
          | inl i =>
            obtain ⟨a1, a2⟩ := s1
            obtain ⟨b1, b2⟩ := s2
            refine ⟨⟨N, Nat.le_refl _, LNow_g h0 (F := m.1 69) (fun j hj => by rw [b1 j (by omega), p80 j (by omega)]) (CW_kR hC fr a1) hA (by rw [m16]; exact h6) m14 (by rw [b2 68 (by omega), p68]) (fun o o1 o9 => by rw [b2 o (by omega), po o (by omega)])⟩, ?_, fun j j1 j2 => by rw [b1 j (by omega), p80 j (by omega)]⟩
            unfold LTo
            rw [b2 0 (by omega), po 0 (by omega), a2, b2 68 (by omega), p68]
            exact hT
          | inr y =>
            obtain ⟨a1, a2⟩ := s1
            obtain ⟨b1, b2, b3⟩ := s2
            obtain ⟨g1, g2, g3⟩ := rdP_at hV n' 0 N (m.1 69) 0 y hN hA er
            refine ⟨⟨y.2.2.1, g2, LNow_g h0 (F := y.2.2.2) (fun j hj => by rw [b1]) a1 g1 (by rw [m16, g3 43 (by omega)]; exact h6) m14 (by rw [b2, upd_n _ _ (by omega), p68]) (fun o o1 o9 => by rw [b3 o (by omega) (by omega), po o (by omega)])⟩, ?_, fun j j1 j2 => by rw [b1, g3 j (by omega)]⟩
            unfold LTo
            rw [b3 0 (by omega) (by omega), po 0 (by omega), a2, b2, upd_s]
theorem b_torn {m : Mm} (h : LTo m) : ∃ v m1 m2, semZ shP wS (d + 30) 97 [.ref 0] m = some (some (.int v), m1) ∧ semZ shP wS (d + 30) 183 [.ref 68] m1 = some (some (.int v), m2) ∧ m2 = m := by
  refine ⟨m.1 0 9, m, m, ?_, ?_, rfl⟩
  · rw [se_X6_torn, r_X6_torn_0]
    simp only [EV, LV, CB, OI, OL, NP, CZ, popN, CT, OZ, List.map_nil, List.map_cons, List.sum_nil, List.sum_cons, Option.toList, List.nil_append, List.cons_append, Int.reduceToNat, Nat.reduceAdd, Nat.reduceLT, Nat.reduceLeDiff, List.length_cons, List.length_nil, Nat.zero_add, if_true, if_false, reduceIte, and_self, and_true, true_and, eq_self, reduceCtorEq, gP0]
  · rw [h, se_X7_torn, r_X7_torn_0]
    simp only [EV, LV, CB, OI, OL, NP, CZ, popN, CT, OZ, List.map_nil, List.map_cons, List.sum_nil, List.sum_cons, Option.toList, List.nil_append, List.cons_append, Int.reduceToNat, Nat.reduceAdd, Nat.reduceLT, Nat.reduceLeDiff, List.length_cons, List.length_nil, Nat.zero_add, if_true, if_false, reduceIte, and_self, and_true, true_and, eq_self, reduceCtorEq, gM MP68]
end Rd
