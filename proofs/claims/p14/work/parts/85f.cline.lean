/-! THE CLASS' LINES, exactly -/
/-- isWord as it is -/
def WX (wS : List Value → Mm → Option Rs) : Prop := ∀ (B : Nat → Int32) (n : Nat) (m : Mm) (s e j : Nat), Tp B n → TC B n m → s ≤ e → e ≤ n → j < 8 → wS [.ref 24, .ref (2000 + j)] (tm m s e) = some (some (.int (bI (nmX B s e j))), tm m s e)
theorem wLp_all (f g : Nat → Int32) : ∀ n k, wLp f g n k = bI ((List.range n).all (fun i => decide (f (k + i) = g (k + i))))
  | 0, k => rfl
  | n + 1, k => by
    unfold wLp
    rw [List.range_succ_eq_map, List.all_cons, List.all_map]
    by_cases h : f k = g k
    · rw [if_pos h, wLp_all f g n (k + 1)]
      have e : decide (f (k + 0) = g (k + 0)) = true := by simpa using h
      rw [e, Bool.true_and]
      congr 2
      funext i
      show _ = decide (f (k + (i + 1)) = g (k + (i + 1)))
      rw [show k + 1 + i = k + (i + 1) by omega]
    · rw [if_neg h]
      have e : decide (f (k + 0) = g (k + 0)) = false := by simpa using h
      rw [e, Bool.false_and]
      rfl
theorem WX_wW : WX wW := by
  intro B n m s e j hB hm hse he hj
  have h160 := hB.1
  have e1 : (tm m s e).1 24 1 = nI s := by
    unfold tm
    rw [setR_s]
    rfl
  have e2 : (tm m s e).1 24 2 = nI e := by
    unfold tm
    rw [setR_s]
    rfl
  have e3 : (tm m s e).1 25 = m.1 25 := setR_n _ _ (by omega)
  have hl := len_lt j hj
  unfold wW
  simp only
  have hc : True ∧ 2000 ≤ 2000 + j ∧ 2000 + j < 2008 ∧ 0 ≤ (nI s).toInt ∧ (nI s).toInt ≤ 160 ∧ 0 ≤ (nI e).toInt ∧ (nI e).toInt ≤ 160 := by
    rw [nI_toInt (show s < 2 ^ 31 by omega), nI_toInt (show e < 2 ^ 31 by omega)]
    refine ⟨trivial, ?_⟩
    omega
  rw [e1, e2, e3, if_pos hc, show 2000 + j - 2000 = j by omega, nI_sub hse, nI_clamp (by omega)]
  congr 4
  have q : (nI (lenS.getD j 0) = nI (e - s)) = (e = s + lenS.getD j 0) := by
    apply propext
    rw [nI_eq (by omega) (by omega)]
    omega
  unfold nmX
  by_cases h : e = s + lenS.getD j 0
  · rw [if_pos (by rw [q]; exact h), wLp_all, decide_eq_true h, Bool.true_and]
    have key : ∀ i ∈ List.range (lenS.getD j 0), decide (m.1 25 (s + (0 + i)) = chS j (0 + i)) = decide (B (s + i) = chS j i) := by
      intro i hi
      rw [Nat.zero_add, hm.2 (s + i) (by have := List.mem_range.mp hi; omega)]
    have : (List.range (lenS.getD j 0)).all (fun i => decide (m.1 25 (s + (0 + i)) = chS j (0 + i))) = (List.range (lenS.getD j 0)).all (fun i => decide (B (s + i) = chS j i)) := by
      rw [Bool.eq_iff_iff, List.all_eq_true, List.all_eq_true]
      exact ⟨fun z i hi => by rw [← key i hi]; exact z i hi, fun z i hi => by rw [key i hi]; exact z i hi⟩
    rw [this]
  · rw [if_neg (by rw [q]; exact h), decide_eq_false h, Bool.false_and]
    rfl
/-! writes beside the tape -/
theorem tm_o (m : Mm) (s p : Nat) {o : Nat} (j : Nat) (x : Int32) (h : o ≠ 24) : wI (tm m s p) o j x = tm (wI m o j x) s p := by
  have e : (wI m o j x).1 24 = m.1 24 := by
    funext i
    rw [wI_at, if_neg (fun z => h z.1.symm)]
  unfold tm
  rw [e]
  refine Prod.ext ?_ rfl
  funext q i
  rw [wI_at, setR_at, setR_at]
  by_cases h4 : q = 24
  · subst h4
    rw [if_neg (fun z => h z.1.symm), if_pos rfl, if_pos rfl]
  · rw [if_neg h4, if_neg h4, wI_at]
theorem tm_at (m : Mm) (s p : Nat) {o : Nat} (h : o ≠ 24) : (tm m s p).1 o = m.1 o := setR_n _ _ h
theorem tm_24 (m : Mm) (s p : Nat) : (tm m s p).1 24 1 = nI s ∧ (tm m s p).1 24 2 = nI p ∧ (tm m s p).1 24 0 = m.1 24 0 := by
  unfold tm
  rw [setR_s]
  exact ⟨rfl, rfl, rfl⟩
/-- what a line may change -/
def FrC (m m' : Mm) : Prop := ∀ o, (o < 10 ∨ 18 < o ∨ o = 13) → o ≠ 23 → o ≠ 26 → m'.1 o = m.1 o
theorem FrC_rf {m : Mm} : FrC m m := fun _ _ _ _ => rfl
theorem FrC_w {m m' : Mm} (h : FrC m m') {o j : Nat} {x : Int32} (ho : (10 ≤ o ∧ o ≤ 18 ∧ o ≠ 13) ∨ o = 23 ∨ o = 26) : FrC m (wI m' o j x) := fun q h1 h2 h3 => by
  rw [wI_n _ _ _ _ (by omega)]
  exact h q h1 h2 h3
theorem TC_fr {B : Nat → Int32} {n : Nat} {m m' : Mm} (h : TC B n m) (hf : FrC m m') : TC B n m' := by
  refine ⟨?_, fun j hj => ?_⟩
  · rw [hf 24 (by omega) (by omega) (by omega)]; exact h.1
  · rw [hf 25 (by omega) (by omega) (by omega)]; exact h.2 j hj
/-- the class's world w as the cells f tell it -/
def CW (w V N : Nat) (f : Nat → Int32) (m : Mm) : Prop := V ≤ 4 ∧ N ≤ 6 ∧ m.1 w 0 = nI V ∧ m.1 w 1 = nI N ∧ f 38 = nI N ∧ m.1 w 2 = f 39 ∧ m.1 w 3 = f 40 ∧ m.1 w 4 = f 41 ∧ m.1 w 5 = f 42 ∧ (∀ g, g < V → m.1 (w + 1) g = f (2 * g) ∧ m.1 (w + 2) g = f (2 * g + 1)) ∧ (∀ b, b < N → m.1 (w + 4) b = f (8 + 5 * b) ∧ m.1 (w + 5) b = f (8 + 5 * b + 1) ∧ m.1 (w + 6) b = f (8 + 5 * b + 2) ∧ m.1 (w + 7) b = f (8 + 5 * b + 3) ∧ m.1 (w + 8) b = f (8 + 5 * b + 4))
section Cl
variable {B : Nat → Int32} {n : Nat} (wS : List Value → Mm → Option Rs) (d : Nat) {m : Mm}
theorem t_expectX (a b : Int32) (h : ¬ a = b) (m : Mm) : semZ shP wS (d + 2) 19 [.ref 23, .int a, .int b] m = some (some (.int 0), wI (wI m 23 1 (if a = 4 then 1 else 2)) 23 2 (m.1 24 1)) := by
  rw [se_X4_expect, r_X4_expect_0]
  by_cases h4 : a = 4
  · simp only [EV, LV, CB, OI, OL, NP, CZ, popN, CT, OZ, List.map_nil, List.map_cons, List.sum_nil, List.sum_cons, Option.toList, List.nil_append, List.cons_append, Int.reduceToNat, Nat.reduceAdd, Nat.reduceLT, Nat.reduceLeDiff, List.length_cons, List.length_nil, Nat.zero_add, if_true, if_false, reduceIte, and_self, and_true, true_and, eq_self, reduceCtorEq, h, h4, not_false_eq_true, not_true_eq_false, r_X4_expect_7, r_X4_expect_18, C23, G23, G24', t_refuse wS d]
    rw [h4] at h
    simp only [EV, LV, CB, OI, OL, NP, CZ, popN, CT, OZ, List.map_nil, List.map_cons, List.sum_nil, List.sum_cons, Option.toList, List.nil_append, List.cons_append, Int.reduceToNat, Nat.reduceAdd, Nat.reduceLT, Nat.reduceLeDiff, List.length_cons, List.length_nil, Nat.zero_add, if_true, if_false, reduceIte, and_self, and_true, true_and, eq_self, reduceCtorEq, h, not_false_eq_true, not_true_eq_false, r_X4_expect_7, r_X4_expect_18, C23, G23, G24', t_refuse wS d]
  · simp only [EV, LV, CB, OI, OL, NP, CZ, popN, CT, OZ, List.map_nil, List.map_cons, List.sum_nil, List.sum_cons, Option.toList, List.nil_append, List.cons_append, Int.reduceToNat, Nat.reduceAdd, Nat.reduceLT, Nat.reduceLeDiff, List.length_cons, List.length_nil, Nat.zero_add, if_true, if_false, reduceIte, and_self, and_true, true_and, eq_self, reduceCtorEq, h, h4, not_false_eq_true, r_X4_expect_7, r_X4_expect_17, C23, G23, G24', t_refuse wS d]
/-- a token that is not wanted -/
theorem t_exN {p : Nat} (hB : Tp B n) (hp : p ≤ n) {b : Nat} (hb : b ≤ 4) (h : ¬ (lx B p).1 = b) (m : Mm) : semZ shP wS (d + 2) 19 [.ref 23, .int (nI (lx B p).1), .int (nI b)] (tm m (lx B p).2.1 (lx B p).2.2) = some (some (.int 0), tm (wI (wI m 23 1 (bad (lx B p).1)) 23 2 (nI (lx B p).2.1)) (lx B p).2.1 (lx B p).2.2) := by
  have hl := (lx_b hB hp).2.2.2.1
  have e1 : ¬ nI (lx B p).1 = nI b := fun z => h ((nI_eq (by omega) (by omega)).mp z)
  have e2 : (if nI (lx B p).1 = 4 then 1 else 2 : Int32) = bad (lx B p).1 := by
    unfold bad
    have q : (nI (lx B p).1 = 4) = ((lx B p).1 = 4) := propext (nI_eq (b := 4) (by omega) (by omega))
    simp only [q]
  rw [t_expectX wS d _ _ e1, e2, (tm_24 m _ _).1, tm_o _ _ _ _ _ (by omega), tm_o _ _ _ _ _ (by omega)]
theorem t_exY (a : Nat) (m : Mm) : semZ shP wS (d + 1) 19 [.ref 23, .int (nI a), .int (nI a)] m = some (some (.int 1), m) := t_expect_y wS d (nI a) m
def mst (k i : Nat) : Int32 := if k = 0 then (if i = 0 then 99 else 9) else if k = 5 then 20 else if k = 6 then 60 else if k = 7 then 9 else if i = 0 then 3 else 9
theorem sw_mostX : ∀ k, k < 8 → swT 69 0 7 #[48, 69, 69, 69, 69, 60, 63, 66] (nI k) = ([48, 69, 69, 69, 69, 60, 63, 66] : List Nat).getD k 69 := by decide +kernel
theorem t_mostX {k i : Nat} (hk : k < 8) (hi : i < 3) (m : Mm) : semZ shP wS (d + 1) 16 [.int (nI k), .int (nI i)] m = some (some (.int (mst k i)), m) := by
  have q : (nI i = 0) = (i = 0) := propext (nI_eq (b := 0) (by omega) (by omega))
  rw [se_X4_most, r_X4_most_0]
  simp only [EV, LV, CB, OI, OL, NP, CZ, popN, CT, OZ, List.map_nil, List.map_cons, List.sum_nil, List.sum_cons, Option.toList, List.nil_append, List.cons_append, Int.reduceToNat, Nat.reduceAdd, Nat.reduceLT, Nat.reduceLeDiff, List.length_cons, List.length_nil, Nat.zero_add, if_true, if_false, reduceIte, and_self, and_true, true_and, eq_self, reduceCtorEq, sw_mostX k hk]
  match k, hk with
  | 0, _ =>
    show rn shP tb0 mN mO (semZ shP wS d) (some .int) (codeZ 16) 48 [.int (nI 0), .int (nI i)] [] m = _
    by_cases h : i = 0
    · subst h
      simp only [EV, LV, CB, OI, OL, NP, CZ, popN, CT, OZ, List.map_nil, List.map_cons, List.sum_nil, List.sum_cons, Option.toList, List.nil_append, List.cons_append, Int.reduceToNat, Nat.reduceAdd, Nat.reduceLT, Nat.reduceLeDiff, List.length_cons, List.length_nil, Nat.zero_add, if_true, if_false, reduceIte, and_self, and_true, true_and, eq_self, reduceCtorEq, r_X4_most_48, r_X4_most_59, nI_0, not_true_eq_false]
      rfl
    · simp only [EV, LV, CB, OI, OL, NP, CZ, popN, CT, OZ, List.map_nil, List.map_cons, List.sum_nil, List.sum_cons, Option.toList, List.nil_append, List.cons_append, Int.reduceToNat, Nat.reduceAdd, Nat.reduceLT, Nat.reduceLeDiff, List.length_cons, List.length_nil, Nat.zero_add, if_true, if_false, reduceIte, and_self, and_true, true_and, eq_self, reduceCtorEq, r_X4_most_48, r_X4_most_57, q, h, not_false_eq_true, mst]
  | 1, _ =>
    show rn shP tb0 mN mO (semZ shP wS d) (some .int) (codeZ 16) 69 [.int (nI 1), .int (nI i)] [] m = _
    by_cases h : i = 0
    · subst h
      simp only [EV, LV, CB, OI, OL, NP, CZ, popN, CT, OZ, List.map_nil, List.map_cons, List.sum_nil, List.sum_cons, Option.toList, List.nil_append, List.cons_append, Int.reduceToNat, Nat.reduceAdd, Nat.reduceLT, Nat.reduceLeDiff, List.length_cons, List.length_nil, Nat.zero_add, if_true, if_false, reduceIte, and_self, and_true, true_and, eq_self, reduceCtorEq, r_X4_most_69, r_X4_most_79, nI_0, not_true_eq_false]
      rfl
    · simp only [EV, LV, CB, OI, OL, NP, CZ, popN, CT, OZ, List.map_nil, List.map_cons, List.sum_nil, List.sum_cons, Option.toList, List.nil_append, List.cons_append, Int.reduceToNat, Nat.reduceAdd, Nat.reduceLT, Nat.reduceLeDiff, List.length_cons, List.length_nil, Nat.zero_add, if_true, if_false, reduceIte, and_self, and_true, true_and, eq_self, reduceCtorEq, r_X4_most_69, r_X4_most_77, q, h, not_false_eq_true, mst]; rfl
  | 2, _ =>
    show rn shP tb0 mN mO (semZ shP wS d) (some .int) (codeZ 16) 69 [.int (nI 2), .int (nI i)] [] m = _
    by_cases h : i = 0
    · subst h
      simp only [EV, LV, CB, OI, OL, NP, CZ, popN, CT, OZ, List.map_nil, List.map_cons, List.sum_nil, List.sum_cons, Option.toList, List.nil_append, List.cons_append, Int.reduceToNat, Nat.reduceAdd, Nat.reduceLT, Nat.reduceLeDiff, List.length_cons, List.length_nil, Nat.zero_add, if_true, if_false, reduceIte, and_self, and_true, true_and, eq_self, reduceCtorEq, r_X4_most_69, r_X4_most_79, nI_0, not_true_eq_false]
      rfl
    · simp only [EV, LV, CB, OI, OL, NP, CZ, popN, CT, OZ, List.map_nil, List.map_cons, List.sum_nil, List.sum_cons, Option.toList, List.nil_append, List.cons_append, Int.reduceToNat, Nat.reduceAdd, Nat.reduceLT, Nat.reduceLeDiff, List.length_cons, List.length_nil, Nat.zero_add, if_true, if_false, reduceIte, and_self, and_true, true_and, eq_self, reduceCtorEq, r_X4_most_69, r_X4_most_77, q, h, not_false_eq_true, mst]; rfl
  | 3, _ =>
    show rn shP tb0 mN mO (semZ shP wS d) (some .int) (codeZ 16) 69 [.int (nI 3), .int (nI i)] [] m = _
    by_cases h : i = 0
    · subst h
      simp only [EV, LV, CB, OI, OL, NP, CZ, popN, CT, OZ, List.map_nil, List.map_cons, List.sum_nil, List.sum_cons, Option.toList, List.nil_append, List.cons_append, Int.reduceToNat, Nat.reduceAdd, Nat.reduceLT, Nat.reduceLeDiff, List.length_cons, List.length_nil, Nat.zero_add, if_true, if_false, reduceIte, and_self, and_true, true_and, eq_self, reduceCtorEq, r_X4_most_69, r_X4_most_79, nI_0, not_true_eq_false]
      rfl
    · simp only [EV, LV, CB, OI, OL, NP, CZ, popN, CT, OZ, List.map_nil, List.map_cons, List.sum_nil, List.sum_cons, Option.toList, List.nil_append, List.cons_append, Int.reduceToNat, Nat.reduceAdd, Nat.reduceLT, Nat.reduceLeDiff, List.length_cons, List.length_nil, Nat.zero_add, if_true, if_false, reduceIte, and_self, and_true, true_and, eq_self, reduceCtorEq, r_X4_most_69, r_X4_most_77, q, h, not_false_eq_true, mst]; rfl
  | 4, _ =>
    show rn shP tb0 mN mO (semZ shP wS d) (some .int) (codeZ 16) 69 [.int (nI 4), .int (nI i)] [] m = _
    by_cases h : i = 0
    · subst h
      simp only [EV, LV, CB, OI, OL, NP, CZ, popN, CT, OZ, List.map_nil, List.map_cons, List.sum_nil, List.sum_cons, Option.toList, List.nil_append, List.cons_append, Int.reduceToNat, Nat.reduceAdd, Nat.reduceLT, Nat.reduceLeDiff, List.length_cons, List.length_nil, Nat.zero_add, if_true, if_false, reduceIte, and_self, and_true, true_and, eq_self, reduceCtorEq, r_X4_most_69, r_X4_most_79, nI_0, not_true_eq_false]
      rfl
    · simp only [EV, LV, CB, OI, OL, NP, CZ, popN, CT, OZ, List.map_nil, List.map_cons, List.sum_nil, List.sum_cons, Option.toList, List.nil_append, List.cons_append, Int.reduceToNat, Nat.reduceAdd, Nat.reduceLT, Nat.reduceLeDiff, List.length_cons, List.length_nil, Nat.zero_add, if_true, if_false, reduceIte, and_self, and_true, true_and, eq_self, reduceCtorEq, r_X4_most_69, r_X4_most_77, q, h, not_false_eq_true, mst]; rfl
  | 5, _ =>
    show rn shP tb0 mN mO (semZ shP wS d) (some .int) (codeZ 16) 60 [.int (nI 5), .int (nI i)] [] m = _
    simp only [EV, LV, CB, OI, OL, NP, CZ, popN, CT, OZ, List.map_nil, List.map_cons, List.sum_nil, List.sum_cons, Option.toList, List.nil_append, List.cons_append, Int.reduceToNat, Nat.reduceAdd, Nat.reduceLT, Nat.reduceLeDiff, List.length_cons, List.length_nil, Nat.zero_add, if_true, if_false, reduceIte, and_self, and_true, true_and, eq_self, reduceCtorEq, r_X4_most_60]; rfl
  | 6, _ =>
    show rn shP tb0 mN mO (semZ shP wS d) (some .int) (codeZ 16) 63 [.int (nI 6), .int (nI i)] [] m = _
    simp only [EV, LV, CB, OI, OL, NP, CZ, popN, CT, OZ, List.map_nil, List.map_cons, List.sum_nil, List.sum_cons, Option.toList, List.nil_append, List.cons_append, Int.reduceToNat, Nat.reduceAdd, Nat.reduceLT, Nat.reduceLeDiff, List.length_cons, List.length_nil, Nat.zero_add, if_true, if_false, reduceIte, and_self, and_true, true_and, eq_self, reduceCtorEq, r_X4_most_63]; rfl
  | 7, _ =>
    show rn shP tb0 mN mO (semZ shP wS d) (some .int) (codeZ 16) 66 [.int (nI 7), .int (nI i)] [] m = _
    simp only [EV, LV, CB, OI, OL, NP, CZ, popN, CT, OZ, List.map_nil, List.map_cons, List.sum_nil, List.sum_cons, Option.toList, List.nil_append, List.cons_append, Int.reduceToNat, Nat.reduceAdd, Nat.reduceLT, Nat.reduceLeDiff, List.length_cons, List.length_nil, Nat.zero_add, if_true, if_false, reduceIte, and_self, and_true, true_and, eq_self, reduceCtorEq, r_X4_most_66]; rfl
theorem S26 (i x : Int32) (m : Mm) : asI shP 0 26 i x m = if inR i 3 = true then some (wI m 26 i.toNatClampNeg x) else none := as_of (n := 3) (rs := []) rfl i x m
theorem A26 (i : Int32) (m : Mm) : alI shP tb0 0 26 i m = if inR i 3 = true then some (m.1 26 i.toNatClampNeg) else none := al_of (n := 3) (rs := []) rfl tb0 i m
theorem vq_nn {s e : Nat} (h1 : s < e) (h2 : e ≤ s + 2) (hd : ∀ j, s ≤ j → j < e → 48 ≤ B j ∧ B j ≤ 57) : 0 ≤ (vq B s e).toInt ∧ (vq B s e).toInt ≤ 99 := by
  have c : ∀ x : Int32, 48 ≤ x ∧ x ≤ 57 → (10 * 0 + x - 48).toInt = x.toInt - 48 ∧ 0 ≤ x.toInt - 48 ∧ x.toInt - 48 ≤ 9 := by
    intro x hx
    have a := Int32.le_iff_toInt_le.mp hx.1
    have b := Int32.le_iff_toInt_le.mp hx.2
    rw [show (48 : Int32).toInt = 48 from by decide] at a
    rw [show (57 : Int32).toInt = 57 from by decide] at b
    refine ⟨?_, by omega, by omega⟩
    rw [show (10 : Int32) * 0 + x = x from by rw [show (10 : Int32) * 0 = 0 from by decide, Int32.zero_add], Int32.toInt_sub, show (48 : Int32).toInt = 48 from by decide]
    exact bm32 (by omega) (by omega)
  have a := c (B s) (hd s (Nat.le_refl _) h1)
  unfold vq
  rw [if_neg (by omega)]
  split
  · omega
  · have b := hd (s + 1) (by omega) (by omega)
    have b1 := Int32.le_iff_toInt_le.mp b.1
    have b2 := Int32.le_iff_toInt_le.mp b.2
    rw [show (48 : Int32).toInt = 48 from by decide] at b1
    rw [show (57 : Int32).toInt = 57 from by decide] at b2
    have e : (10 * (10 * 0 + B s - 48) + B (s + 1) - 48).toInt = 10 * ((B s).toInt - 48) + (B (s + 1)).toInt - 48 := by
      rw [Int32.toInt_sub, Int32.toInt_add, Int32.toInt_mul, a.1, show (10 : Int32).toInt = 10 from by decide, show (48 : Int32).toInt = 48 from by decide]
      rw [bm32 (z := 10 * ((B s).toInt - 48)) (by omega) (by omega), bm32 (z := 10 * ((B s).toInt - 48) + (B (s + 1)).toInt) (by omega) (by omega)]
      exact bm32 (by omega) (by omega)
    rw [e]
    omega
/-- one number of a line of kind k -/
theorem tni (hB : Tp B n) (hm : TC B n m) {k many i : Nat} (hk : k < 8) (hi : i < many) (hmn : many ≤ 3) (s0 : Nat) {p : Nat} (hp : p ≤ n) (v4 : Value) : rn shP tb0 mN mO (semZ shP wS (d + 2)) (some .boolean) (codeZ 15) 21 [.ref 23, .int (nI k), .int (nI many), .int (nI i), v4] [] (tm m s0 p) = (match num1 B (mst k i) (k == 7) p with
    | .inl x => some (some (.int 0), tm (wI (wI m 23 1 x.1) 23 2 (nI x.2)) (lx B p).2.1 (lx B p).2.2)
    | .inr y => rn shP tb0 mN mO (semZ shP wS (d + 2)) (some .boolean) (codeZ 15) 21 [.ref 23, .int (nI k), .int (nI many), .int (nI (i + 1)), .int y.1] [] (tm (wI m 26 i y.1) (lx B p).2.1 y.2)) := by
  have h160 := hB.1
  have e10 : ¬ (1 : Int32) = 0 := by decide
  have q1 : ¬ nI many ≤ nI i := nI_ge hi (by omega)
  have hb := lx_b hB hp
  have tk := t_takeX wS d hB hm s0 hp
  have e24 : ∀ m : Mm, gfI shP 301 24 (tm m (lx B p).2.1 (lx B p).2.2) = some (.int (nI (lx B p).2.1)) := fun m => (G24 m _ _).2.2.1
  rw [r_X4_takeNumbers_21]
  unfold num1
  by_cases h2 : (lx B p).1 = 2
  · obtain ⟨n1, n2, n3⟩ := lx_2 hB hp h2
    have nb := t_numberX wS (d + 1) hB hm n1 n2 hb.2.2.1
    have ms := t_mostX wS (d + 1) hk (i := i) (by omega)
    have vb := vq_nn n1 n2 n3
    have ey := t_exY wS (d + 1) 2
    have e2 : inR (nI i) 3 = true := inR_nI (by omega) (by omega)
    have e3 : (nI i).toNatClampNeg = i := nI_clamp (by omega)
    have ey : ∀ m : Mm, semZ shP wS (d + 2) 19 [.ref 23, .int (nI 2), .int 2] m = some (some (.int 1), m) := ey
    rw [h2] at tk
    rw [if_pos h2]
    have k7 : nI k = 7 ↔ k = 7 := nI_eq (b := 7) (by omega) (by omega)
    by_cases c1 : mst k i < vq B (lx B p).2.1 (lx B p).2.2
    · rw [if_pos (Or.inl c1)]
      simp only [EV, LV, CB, OI, OL, NP, CZ, popN, CT, OZ, List.map_nil, List.map_cons, List.sum_nil, List.sum_cons, Option.toList, List.nil_append, List.cons_append, Int.reduceToNat, Nat.reduceAdd, Nat.reduceLT, Nat.reduceLeDiff, List.length_cons, List.length_nil, Nat.zero_add, if_true, if_false, reduceIte, and_self, and_true, true_and, eq_self, reduceCtorEq, q1, C23, C24, G23, tk, ey, e10, not_false_eq_true, r_X4_takeNumbers_43, nb, ms, c1, r_X4_takeNumbers_73, e24, t_refuse wS (d + 1), tm_o _ _ _ _ _ (show (23 : Nat) ≠ 24 by omega)]
    · by_cases c7 : k = 7
      · have k7 := eq_true (k7.mpr c7)
        by_cases c0 : vq B (lx B p).2.1 (lx B p).2.2 = 0
        · rw [if_pos (Or.inr ⟨by rw [c7]; rfl, c0⟩)]
          rw [c0] at nb c1
          simp only [EV, LV, CB, OI, OL, NP, CZ, popN, CT, OZ, List.map_nil, List.map_cons, List.sum_nil, List.sum_cons, Option.toList, List.nil_append, List.cons_append, Int.reduceToNat, Nat.reduceAdd, Nat.reduceLT, Nat.reduceLeDiff, List.length_cons, List.length_nil, Nat.zero_add, if_true, if_false, reduceIte, and_self, and_true, true_and, eq_self, reduceCtorEq, q1, C23, C24, G23, tk, ey, e10, not_false_eq_true, not_true_eq_false, r_X4_takeNumbers_43, nb, ms, c1, k7, e24, t_refuse wS (d + 1), tm_o _ _ _ _ _ (show (23 : Nat) ≠ 24 by omega)]
        · rw [if_neg (fun z => z.elim c1 (fun y => c0 y.2))]
          simp only [EV, LV, CB, OI, OL, NP, CZ, popN, CT, OZ, List.map_nil, List.map_cons, List.sum_nil, List.sum_cons, Option.toList, List.nil_append, List.cons_append, Int.reduceToNat, Nat.reduceAdd, Nat.reduceLT, Nat.reduceLeDiff, List.length_cons, List.length_nil, Nat.zero_add, if_true, if_false, reduceIte, and_self, and_true, true_and, eq_self, reduceCtorEq, q1, C23, C24, G23, tk, ey, e10, not_false_eq_true, not_true_eq_false, r_X4_takeNumbers_43, nb, ms, c1, k7, c0, r_X4_takeNumbers_87, S26, e2, e3, nI_1, tm_o _ _ _ _ _ (show (26 : Nat) ≠ 24 by omega)]
      · have k7 : ¬ nI k = 7 := fun z => c7 (k7.mp z)
        rw [if_neg (fun z => z.elim c1 (fun y => c7 (by simpa using y.1)))]
        simp only [EV, LV, CB, OI, OL, NP, CZ, popN, CT, OZ, List.map_nil, List.map_cons, List.sum_nil, List.sum_cons, Option.toList, List.nil_append, List.cons_append, Int.reduceToNat, Nat.reduceAdd, Nat.reduceLT, Nat.reduceLeDiff, List.length_cons, List.length_nil, Nat.zero_add, if_true, if_false, reduceIte, and_self, and_true, true_and, eq_self, reduceCtorEq, q1, C23, C24, G23, tk, ey, e10, not_false_eq_true, r_X4_takeNumbers_43, nb, ms, c1, k7, r_X4_takeNumbers_87, S26, e2, e3, nI_1, tm_o _ _ _ _ _ (show (26 : Nat) ≠ 24 by omega)]
  · have ex : semZ shP wS (d + 2) 19 [.ref 23, .int (nI (lx B p).1), .int 2] (tm m (lx B p).2.1 (lx B p).2.2) = _ := t_exN wS d hB hp (b := 2) (by omega) h2 m
    rw [if_neg h2]
    simp only [EV, LV, CB, OI, OL, NP, CZ, popN, CT, OZ, List.map_nil, List.map_cons, List.sum_nil, List.sum_cons, Option.toList, List.nil_append, List.cons_append, Int.reduceToNat, Nat.reduceAdd, Nat.reduceLT, Nat.reduceLeDiff, List.length_cons, List.length_nil, Nat.zero_add, if_true, if_false, reduceIte, and_self, and_true, true_and, eq_self, reduceCtorEq, q1, C23, C24, G23, tk, ex, not_true_eq_false]
end Cl
