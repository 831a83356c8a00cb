section
/-! THE SHEETS, exactly -/
theorem nI_mul (a b : Nat) : nI a * nI b = nI (a * b) := (Int32.ofNat_mul a b).symm
theorem in_nI {k : Int32} {N : Nat} (hN : N < 2 ^ 31) (h : (decide (0 ≤ k) && decide (k ≤ nI N)) = true) : ∃ K, K ≤ N ∧ k = nI K := by
  have hb := wi_i h
  rw [show (0 : Int32).toInt = 0 from by decide, nI_toInt hN] at hb
  exact ⟨k.toInt.toNat, by omega, i_nI hb.1⟩
/-- 0 to s - 1 -/
theorem in_sub1 (v s : Int32) (hs : 0 ≤ s.toInt) : (decide ((0 : Int64) ≤ v.toInt64) && decide (v.toInt64 ≤ (s - 1).toInt64)) = (decide (0 ≤ v) && decide (v < s)) := by
  rw [dec64 v 0 (s - 1) 0 (s - 1).toInt64 (by decide) rfl]
  congr 2
  apply propext
  rw [Int32.le_iff_toInt_le, Int32.lt_iff_toInt_lt, sub1_i hs]
  omega
section Sh1
variable {sh : List ShE} {w : Nat} (wS : List Value → Mm → Option Rs) (d : Nat)
theorem t_renew_l (hw : HSh sh w) (l n : Int32) (m : Mm) (g : Nat → Int32) : ∀ (k i : Nat), i + k = 40 → rn sh tb0 mN mO (semZ sh wS d) none (codeZ 0) 17 [.ref w, .int l, .int n, .int (nI i)] [] (setR m (w + 1) (fillR (fun _ => 0) g i)) = some (none, setR m (w + 1) (fillR (fun _ => 0) g 40)) := by
  intro k
  induction k with
  | zero =>
    intro i hi
    have e0 : i = 40 := by omega
    subst e0
    have e1 : (40 : Int32) ≤ nI 40 := by decide +kernel
    rw [r_X1_renew_17]
    simp only [EV, LV, CB, OI, OL, NP, CZ, popN, CT, OZ, List.map_nil, List.map_cons, List.sum_nil, List.sum_cons, Option.toList, List.nil_append, List.cons_append, Int.reduceToNat, Nat.reduceAdd, Nat.reduceLT, Nat.reduceLeDiff, List.length_cons, List.length_nil, Nat.zero_add, if_true, if_false, reduceIte, and_self, and_true, true_and, eq_self, reduceCtorEq, e1, r_X1_renew_36]
  | succ k ih =>
    intro i hi
    have e1 : ¬ (40 : Int32) ≤ nI i := nI_ge (a := i) (b := 40) (by omega) (by omega)
    have e2 : inR (nI i) 40 = true := inR_nI (by omega) (by omega)
    have e3 : (nI i).toNatClampNeg = i := nI_clamp (by omega)
    have e4 := fillR_s (fun _ => 0) g i
    rw [r_X1_renew_17]
    simp only [EV, LV, CB, OI, OL, NP, CZ, popN, CT, OZ, List.map_nil, List.map_cons, List.sum_nil, List.sum_cons, Option.toList, List.nil_append, List.cons_append, Int.reduceToNat, Nat.reduceAdd, Nat.reduceLT, Nat.reduceLeDiff, List.length_cons, List.length_nil, Nat.zero_add, if_true, if_false, reduceIte, and_self, and_true, true_and, eq_self, reduceCtorEq, gH hw, sH hw, e1, e2, e3, wI_R, setR_s, setR_R, e4, nI_1]
    exact ih (i + 1) (by omega)
theorem setR_n_id (m : Mm) {o o' : Nat} (f : Nat → Int32) (h : o' ≠ o) : setR (setR m o f) o' (m.1 o') = setR m o f := by
  have := setR_id (setR m o f) o'
  rwa [setR_n _ _ h] at this
theorem t_renew (hw : HSh sh w) (l n : Int32) (m : Mm) : semZ sh wS (d + 1) 0 [.ref w, .int l, .int n] m = some (none, setR (setR m w (upd (upd (upd (m.1 w) 0 1) 3 l) 1 n)) (w + 1) (fillR (fun _ => 0) (m.1 (w + 1)) 40)) := by
  rw [se_X1_renew, r_X1_renew_0]
  simp only [EV, LV, CB, OI, OL, NP, CZ, popN, CT, OZ, List.map_nil, List.map_cons, List.sum_nil, List.sum_cons, Option.toList, List.nil_append, List.cons_append, Int.reduceToNat, Nat.reduceAdd, Nat.reduceLT, Nat.reduceLeDiff, List.length_cons, List.length_nil, Nat.zero_add, if_true, if_false, reduceIte, and_self, and_true, true_and, eq_self, reduceCtorEq, pH hw, wI_R, setR_s, setR_R, or_true]
  have h := t_renew_l wS d hw l n (setR m w (upd (upd (upd (m.1 w) 0 1) 3 l) 1 n)) (m.1 (w + 1)) 40 0 rfl
  rw [fillR_0, setR_n_id _ _ (by omega)] at h
  exact h
/-- the lowest bits of a lane -/
def lnV (l v : Int32) : Int32 := if l = 0 then v.toInt8.toInt32 else if l = 1 then v.toInt16.toInt32 else v
theorem t_put (hw : HSh sh w) {i : Nat} (hi : i < 40) (v : Int32) (m : Mm) : semZ sh wS (d + 1) 3 [.ref w, .int (nI i), .int v] m = some (none, setR m (w + 1) (upd (m.1 (w + 1)) i (lnV (m.1 w 3) v))) := by
  have e2 : inR (nI i) 40 = true := inR_nI (by omega) (by omega)
  have e3 : (nI i).toNatClampNeg = i := nI_clamp (by omega)
  rw [se_X1_put, r_X1_put_0]
  unfold lnV
  by_cases h0 : m.1 w 3 = 0
  · simp only [EV, LV, CB, OI, OL, NP, CZ, popN, CT, OZ, List.map_nil, List.map_cons, List.sum_nil, List.sum_cons, Option.toList, List.nil_append, List.cons_append, Int.reduceToNat, Nat.reduceAdd, Nat.reduceLT, Nat.reduceLeDiff, List.length_cons, List.length_nil, Nat.zero_add, if_true, if_false, reduceIte, and_self, and_true, true_and, eq_self, reduceCtorEq, gH hw, sH hw, h0, e2, e3, wI_R, not_true_eq_false, r_X1_put_44]
  · simp only [EV, LV, CB, OI, OL, NP, CZ, popN, CT, OZ, List.map_nil, List.map_cons, List.sum_nil, List.sum_cons, Option.toList, List.nil_append, List.cons_append, Int.reduceToNat, Nat.reduceAdd, Nat.reduceLT, Nat.reduceLeDiff, List.length_cons, List.length_nil, Nat.zero_add, if_true, if_false, reduceIte, and_self, and_true, true_and, eq_self, reduceCtorEq, gH hw, sH hw, h0, not_false_eq_true, r_X1_put_18]
    by_cases h1 : m.1 w 3 = 1
    · simp only [EV, LV, CB, OI, OL, NP, CZ, popN, CT, OZ, List.map_nil, List.map_cons, List.sum_nil, List.sum_cons, Option.toList, List.nil_append, List.cons_append, Int.reduceToNat, Nat.reduceAdd, Nat.reduceLT, Nat.reduceLeDiff, List.length_cons, List.length_nil, Nat.zero_add, if_true, if_false, reduceIte, and_self, and_true, true_and, eq_self, reduceCtorEq, gH hw, sH hw, h1, e2, e3, wI_R, not_true_eq_false, r_X1_put_44]
    · simp only [EV, LV, CB, OI, OL, NP, CZ, popN, CT, OZ, List.map_nil, List.map_cons, List.sum_nil, List.sum_cons, Option.toList, List.nil_append, List.cons_append, Int.reduceToNat, Nat.reduceAdd, Nat.reduceLT, Nat.reduceLeDiff, List.length_cons, List.length_nil, Nat.zero_add, if_true, if_false, reduceIte, and_self, and_true, true_and, eq_self, reduceCtorEq, gH hw, sH hw, h1, e2, e3, wI_R, not_false_eq_true, r_X1_put_37]
end Sh1
theorem hs_K {K : Nat} (h : K < 4) : HSh shP (60 + 2 * K) := hs_of (by
  match K, h with
  | 0, _ => decide
  | 1, _ => decide
  | 2, _ => decide
  | 3, _ => decide)
theorem clO_K {K : Nat} (h : K < 4) : clO shP (60 + 2 * K) = some 1 := (gH (hs_K h)).1
def shV (k l n : Int32) : Int32 := if (decide (0 ≤ k) && decide (k ≤ 3)) = true ∧ (decide (0 ≤ l) && decide (l ≤ 2)) = true ∧ n ≤ 40 then (if 0 ≤ n then 1 else -14) else -1
def shM (K : Nat) (l n : Int32) (m : Mm) : Mm := setR (setR m (60 + 2 * K) (upd (upd (upd (m.1 (60 + 2 * K)) 0 1) 3 l) 1 n)) (60 + 2 * K + 1) (fillR (fun _ => 0) (m.1 (60 + 2 * K + 1)) 40)
def zf (g : Nat → Int32) (K i : Nat) : Nat → Int32 := fun j => if 40 * K ≤ j ∧ j < 40 * K + i then 0 else g j
theorem zf_0 (g : Nat → Int32) (K : Nat) : zf g K 0 = g := by
  funext j
  unfold zf
  rw [if_neg (by omega)]
theorem zf_s (g : Nat → Int32) (K i : Nat) : upd (zf g K i) (40 * K + i) 0 = zf g K (i + 1) := by
  funext j
  show (if j = 40 * K + i then 0 else if 40 * K ≤ j ∧ j < 40 * K + i then 0 else g j) = if 40 * K ≤ j ∧ j < 40 * K + (i + 1) then 0 else g j
  by_cases h : j = 40 * K + i
  · rw [if_pos h, if_pos (by omega)]
  · rw [if_neg h]
    by_cases h2 : 40 * K ≤ j ∧ j < 40 * K + i
    · rw [if_pos h2, if_pos (by omega)]
    · rw [if_neg h2, if_neg (by omega)]
def shN (K : Nat) (l n : Int32) (m : Mm) : Mm := setR (setR (setR m 77 (upd (m.1 77) K l)) 78 (upd (m.1 78) K n)) 79 (zf (m.1 79) K 40)
section Sh2
variable (wS : List Value → Mm → Option Rs) (d : Nat)
theorem b_false {p : Prop} [Decidable p] (h : ¬ decide p = true) : decide p = false := by simpa using h
theorem t_sheet6 (k l n : Int32) (m : Mm) : semZ shP wS (d + 2) 94 [.ref 0, .int k, .int l, .int n] m = some (some (.int (shV k l n)), if shV k l n = 1 then shM k.toNatClampNeg l n m else m) := by
  have e10 : ¬ (1 : Int32) = 0 := by decide
  have n1 : ¬ (-1 : Int32) = 1 := by decide
  have n14 : ¬ (-14 : Int32) = 1 := by decide
  rw [se_X6_sheet, r_X6_sheet_0]
  unfold shV
  cases h1 : (decide (0 ≤ k) && decide (k ≤ 3)) with
  | false =>
    simp only [EV, LV, CB, OI, OL, NP, CZ, popN, CT, OZ, List.map_nil, List.map_cons, List.sum_nil, List.sum_cons, Option.toList, List.nil_append, List.cons_append, Int.reduceToNat, Nat.reduceAdd, Nat.reduceLT, Nat.reduceLeDiff, List.length_cons, List.length_nil, Nat.zero_add, if_true, if_false, reduceIte, and_self, and_true, true_and, eq_self, reduceCtorEq, t_within wS d, h1, bI_f, r_X6_sheet_24, Bool.false_eq_true, false_and, n1]
  | true =>
    cases h2 : (decide (0 ≤ l) && decide (l ≤ 2)) with
    | false =>
      simp only [EV, LV, CB, OI, OL, NP, CZ, popN, CT, OZ, List.map_nil, List.map_cons, List.sum_nil, List.sum_cons, Option.toList, List.nil_append, List.cons_append, Int.reduceToNat, Nat.reduceAdd, Nat.reduceLT, Nat.reduceLeDiff, List.length_cons, List.length_nil, Nat.zero_add, if_true, if_false, reduceIte, and_self, and_true, true_and, eq_self, reduceCtorEq, t_within wS d, h1, h2, bI_t, bI_f, e10, r_X6_sheet_24, Bool.false_eq_true, false_and, and_false, n1]
    | true =>
      by_cases h3 : n ≤ 40
      · by_cases h4 : 0 ≤ n
        · obtain ⟨K, hK, rfl⟩ := in_nI (N := 3) (by decide) h1
          have e3 : (nI K).toNatClampNeg = K := nI_clamp (by omega)
          simp only [EV, LV, CB, OI, OL, NP, CZ, popN, CT, OZ, List.map_nil, List.map_cons, List.sum_nil, List.sum_cons, Option.toList, List.nil_append, List.cons_append, Int.reduceToNat, Nat.reduceAdd, Nat.reduceLT, Nat.reduceLeDiff, List.length_cons, List.length_nil, Nat.zero_add, if_true, if_false, reduceIte, and_self, and_true, true_and, eq_self, reduceCtorEq, t_within wS d, h1, h2, h3, h4, bI_t, e10, r_X6_sheet_26, r_X6_sheet_33, gP0, aR28 K (by omega), clO_K (show K < 4 by omega), t_renew wS d (hs_K (show K < 4 by omega)), e3, shM]
        · simp only [EV, LV, CB, OI, OL, NP, CZ, popN, CT, OZ, List.map_nil, List.map_cons, List.sum_nil, List.sum_cons, Option.toList, List.nil_append, List.cons_append, Int.reduceToNat, Nat.reduceAdd, Nat.reduceLT, Nat.reduceLeDiff, List.length_cons, List.length_nil, Nat.zero_add, if_true, if_false, reduceIte, and_self, and_true, true_and, eq_self, reduceCtorEq, t_within wS d, h1, h2, h3, h4, bI_t, e10, r_X6_sheet_26, n14]
      · simp only [EV, LV, CB, OI, OL, NP, CZ, popN, CT, OZ, List.map_nil, List.map_cons, List.sum_nil, List.sum_cons, Option.toList, List.nil_append, List.cons_append, Int.reduceToNat, Nat.reduceAdd, Nat.reduceLT, Nat.reduceLeDiff, List.length_cons, List.length_nil, Nat.zero_add, if_true, if_false, reduceIte, and_self, and_true, true_and, eq_self, reduceCtorEq, t_within wS d, h1, h2, h3, bI_t, e10, and_false, n1]
theorem t_sheet7_l (m : Mm) (g : Nat → Int32) {K : Nat} (hK : K < 4) (l n : Int32) : ∀ (k i : Nat), i + k = 40 → rn shP tb0 mN mO (semZ shP wS d) (some .int) (codeZ 180) 40 [.ref 68, .int (nI K), .int l, .int n, .int (nI i)] [] (setR m 79 (zf g K i)) = some (some (.int 1), setR m 79 (zf g K 40)) := by
  intro k
  induction k with
  | zero =>
    intro i hi
    have e0 : i = 40 := by omega
    subst e0
    have e1 : (40 : Int32) ≤ nI 40 := by decide +kernel
    rw [r_X7_sheet_40]
    simp only [EV, LV, CB, OI, OL, NP, CZ, popN, CT, OZ, List.map_nil, List.map_cons, List.sum_nil, List.sum_cons, Option.toList, List.nil_append, List.cons_append, Int.reduceToNat, Nat.reduceAdd, Nat.reduceLT, Nat.reduceLeDiff, List.length_cons, List.length_nil, Nat.zero_add, if_true, if_false, reduceIte, and_self, and_true, true_and, eq_self, reduceCtorEq, e1, r_X7_sheet_66]
  | succ k ih =>
    intro i hi
    have e1 : ¬ (40 : Int32) ≤ nI i := nI_ge (a := i) (b := 40) (by omega) (by omega)
    have e0 : (40 : Int32) * nI K + nI i = nI (40 * K + i) := by
      rw [← nI_add, ← nI_mul]
      rfl
    have e2 : inR (nI (40 * K + i)) 160 = true := inR_nI (by omega) (by omega)
    have e3 : (nI (40 * K + i)).toNatClampNeg = 40 * K + i := nI_clamp (by omega)
    have e4 := zf_s g K i
    rw [r_X7_sheet_40]
    simp only [EV, LV, CB, OI, OL, NP, CZ, popN, CT, OZ, List.map_nil, List.map_cons, List.sum_nil, List.sum_cons, Option.toList, List.nil_append, List.cons_append, Int.reduceToNat, Nat.reduceAdd, Nat.reduceLT, Nat.reduceLeDiff, List.length_cons, List.length_nil, Nat.zero_add, if_true, if_false, reduceIte, and_self, and_true, true_and, eq_self, reduceCtorEq, gM MP68, sM MP68, e1, e0, e2, e3, wI_R, setR_s, setR_R, e4, nI_1]
    exact ih (i + 1) (by omega)
theorem t_sheet7 (k l n : Int32) (m : Mm) : semZ shP wS (d + 3) 180 [.ref 68, .int k, .int l, .int n] m = some (some (.int (shV k l n)), if shV k l n = 1 then shN k.toNatClampNeg l n m else m) := by
  have e10 : ¬ (1 : Int32) = 0 := by decide
  have n1 : ¬ (-1 : Int32) = 1 := by decide
  have n14 : ¬ (-14 : Int32) = 1 := by decide
  have d1 := dec64 k 0 3 0 3 (by decide) (by decide)
  have d2 := dec64 l 0 2 0 2 (by decide) (by decide)
  rw [se_X7_sheet, r_X7_sheet_0]
  unfold shV
  cases h1 : (decide (0 ≤ k) && decide (k ≤ 3)) with
  | false =>
    simp only [EV, LV, CB, OI, OL, NP, CZ, popN, CT, OZ, List.map_nil, List.map_cons, List.sum_nil, List.sum_cons, Option.toList, List.nil_append, List.cons_append, Int.reduceToNat, Nat.reduceAdd, Nat.reduceLT, Nat.reduceLeDiff, List.length_cons, List.length_nil, Nat.zero_add, if_true, if_false, reduceIte, and_self, and_true, true_and, eq_self, reduceCtorEq, t_isSheet wS d, d1, d2, h1, bI_f, r_X7_sheet_14, Bool.false_eq_true, Bool.false_and, false_and, n1]
  | true =>
    cases h2 : (decide (0 ≤ l) && decide (l ≤ 2)) with
    | false =>
      simp only [EV, LV, CB, OI, OL, NP, CZ, popN, CT, OZ, List.map_nil, List.map_cons, List.sum_nil, List.sum_cons, Option.toList, List.nil_append, List.cons_append, Int.reduceToNat, Nat.reduceAdd, Nat.reduceLT, Nat.reduceLeDiff, List.length_cons, List.length_nil, Nat.zero_add, if_true, if_false, reduceIte, and_self, and_true, true_and, eq_self, reduceCtorEq, t_isSheet wS d, d1, d2, h1, h2, bI_f, r_X7_sheet_14, Bool.false_eq_true, Bool.and_false, false_and, and_false, n1]
    | true =>
      by_cases h3 : n ≤ 40
      · by_cases h4 : 0 ≤ n
        · obtain ⟨K, hK, rfl⟩ := in_nI (N := 3) (by decide) h1
          have e3 : (nI K).toNatClampNeg = K := nI_clamp (by omega)
          have e2 : inR (nI K) 4 = true := inR_nI (by omega) (by omega)
          simp only [EV, LV, CB, OI, OL, NP, CZ, popN, CT, OZ, List.map_nil, List.map_cons, List.sum_nil, List.sum_cons, Option.toList, List.nil_append, List.cons_append, Int.reduceToNat, Nat.reduceAdd, Nat.reduceLT, Nat.reduceLeDiff, List.length_cons, List.length_nil, Nat.zero_add, if_true, if_false, reduceIte, and_self, and_true, true_and, eq_self, reduceCtorEq, t_isSheet wS d, d1, d2, h1, h2, h3, h4, bI_t, e10, Bool.and_self, r_X7_sheet_16, r_X7_sheet_23, gM MP68, sM MP68, e2, e3, wI_R, shN]
          have h := t_sheet7_l wS (d + 2) (setR (setR m 77 (upd (m.1 77) K l)) 78 (upd (m.1 78) K n)) (m.1 79) (show K < 4 by omega) l n 40 0 rfl
          rw [zf_0, show m.1 79 = (setR (setR m 77 (upd (m.1 77) K l)) 78 (upd (m.1 78) K n)).1 79 from rfl, setR_id] at h
          exact h
        · simp only [EV, LV, CB, OI, OL, NP, CZ, popN, CT, OZ, List.map_nil, List.map_cons, List.sum_nil, List.sum_cons, Option.toList, List.nil_append, List.cons_append, Int.reduceToNat, Nat.reduceAdd, Nat.reduceLT, Nat.reduceLeDiff, List.length_cons, List.length_nil, Nat.zero_add, if_true, if_false, reduceIte, and_self, and_true, true_and, eq_self, reduceCtorEq, t_isSheet wS d, d1, d2, h1, h2, h3, h4, bI_t, e10, Bool.and_self, r_X7_sheet_16, n14]
      · simp only [EV, LV, CB, OI, OL, NP, CZ, popN, CT, OZ, List.map_nil, List.map_cons, List.sum_nil, List.sum_cons, Option.toList, List.nil_append, List.cons_append, Int.reduceToNat, Nat.reduceAdd, Nat.reduceLT, Nat.reduceLeDiff, List.length_cons, List.length_nil, Nat.zero_add, if_true, if_false, reduceIte, and_self, and_true, true_and, eq_self, reduceCtorEq, t_isSheet wS d, d1, d2, h1, h2, h3, bI_t, e10, Bool.and_self, and_false, n1]
/-- what lay answers -/
def lyV (nul : Bool) (sz i : Int32) : Int32 := if nul = true then -11 else if (decide (0 ≤ i) && decide (i < sz)) = true then 1 else -12
theorem t_lay_bad (k i v : Int32) (h : (decide (0 ≤ k) && decide (k ≤ 3)) = false) (m : Mm) : semZ shP wS (d + 2) 95 [.ref 0, .int k, .int i, .int v] m = some (some (.int (-1)), m) ∧ semZ shP wS (d + 3) 181 [.ref 68, .int k, .int i, .int v] m = some (some (.int (-1)), m) := by
  have d1 := dec64 k 0 3 0 3 (by decide) (by decide)
  constructor
  · rw [se_X6_lay, r_X6_lay_0]
    simp only [EV, LV, CB, OI, OL, NP, CZ, popN, CT, OZ, List.map_nil, List.map_cons, List.sum_nil, List.sum_cons, Option.toList, List.nil_append, List.cons_append, Int.reduceToNat, Nat.reduceAdd, Nat.reduceLT, Nat.reduceLeDiff, List.length_cons, List.length_nil, Nat.zero_add, if_true, if_false, reduceIte, and_self, and_true, true_and, eq_self, reduceCtorEq, t_within wS d, h, bI_f, not_true_eq_false]
  · rw [se_X7_lay, r_X7_lay_0]
    simp only [EV, LV, CB, OI, OL, NP, CZ, popN, CT, OZ, List.map_nil, List.map_cons, List.sum_nil, List.sum_cons, Option.toList, List.nil_append, List.cons_append, Int.reduceToNat, Nat.reduceAdd, Nat.reduceLT, Nat.reduceLeDiff, List.length_cons, List.length_nil, Nat.zero_add, if_true, if_false, reduceIte, and_self, and_true, true_and, eq_self, reduceCtorEq, t_isSheet wS d, d1, h, bI_f, Bool.false_and, not_true_eq_false]
theorem t_lay6 {K : Nat} (hK : K < 4) (i v : Int32) (m : Mm) (hs : (m.1 (60 + 2 * K) 1).toInt ≤ 40) : semZ shP wS (d + 2) 95 [.ref 0, .int (nI K), .int i, .int v] m = some (some (.int (lyV (decide (m.1 (60 + 2 * K) 0 = 0)) (m.1 (60 + 2 * K) 1) i)), if lyV (decide (m.1 (60 + 2 * K) 0 = 0)) (m.1 (60 + 2 * K) 1) i = 1 then setR m (60 + 2 * K + 1) (upd (m.1 (60 + 2 * K + 1)) i.toNatClampNeg (lnV (m.1 (60 + 2 * K) 3) v)) else m) := by
  have e10 : ¬ (1 : Int32) = 0 := by decide
  have e20 : ¬ (2 : Int32) = 0 := by decide
  have n11 : ¬ (-11 : Int32) = 1 := by decide
  have n12 : ¬ (-12 : Int32) = 1 := by decide
  have h1 : (decide (0 ≤ nI K) && decide (nI K ≤ 3)) = true := by
    have a : (0 : Int32) ≤ nI K := nI_pos' (by omega)
    have b : nI K ≤ (3 : Int32) := nI_le (a := K) (b := 3) (by omega) (by omega)
    simp only [a, b, decide_true, Bool.and_self]
  have L0 : ((i.toInt64 < 0) = (i < 0)) := by
    apply propext
    rw [Int64.lt_iff_toInt_lt, Int32.lt_iff_toInt_lt, Int32.toInt_toInt64]
    exact Iff.rfl
  have L1 : ((i.toInt64 < (m.1 (60 + 2 * K) 1).toInt64) = (i < m.1 (60 + 2 * K) 1)) := by
    apply propext
    rw [Int64.lt_iff_toInt_lt, Int32.lt_iff_toInt_lt, Int32.toInt_toInt64, Int32.toInt_toInt64]
  rw [se_X6_lay, r_X6_lay_0]
  unfold lyV
  by_cases h0 : m.1 (60 + 2 * K) 0 = 0
  · simp only [EV, LV, CB, OI, OL, NP, CZ, popN, CT, OZ, List.map_nil, List.map_cons, List.sum_nil, List.sum_cons, Option.toList, List.nil_append, List.cons_append, Int.reduceToNat, Nat.reduceAdd, Nat.reduceLT, Nat.reduceLeDiff, List.length_cons, List.length_nil, Nat.zero_add, if_true, if_false, reduceIte, and_self, and_true, true_and, eq_self, reduceCtorEq, t_within wS d, h1, bI_t, e10, not_false_eq_true, r_X6_lay_11, gP0, aR28 K hK, clO_K hK, t_faultAt wS d (hs_K hK), h0, decide_true, n11]
    rfl
  · by_cases h2 : i < 0
    · have h3 : ¬ (0 : Int32) ≤ i := Int32.not_le.mpr h2
      simp only [EV, LV, CB, OI, OL, NP, CZ, popN, CT, OZ, List.map_nil, List.map_cons, List.sum_nil, List.sum_cons, Option.toList, List.nil_append, List.cons_append, Int.reduceToNat, Nat.reduceAdd, Nat.reduceLT, Nat.reduceLeDiff, List.length_cons, List.length_nil, Nat.zero_add, if_true, if_false, reduceIte, and_self, and_true, true_and, eq_self, reduceCtorEq, t_within wS d, h1, bI_t, e10, e20, not_false_eq_true, r_X6_lay_11, gP0, aR28 K hK, clO_K hK, t_faultAt wS d (hs_K hK), h0, L0, h2, h3, decide_false, Bool.false_and, Bool.false_eq_true, n12]
      rfl
    · have h3 : (0 : Int32) ≤ i := Int32.not_lt.mp h2
      by_cases h4 : i < m.1 (60 + 2 * K) 1
      · obtain ⟨I, hI, rfl⟩ := nI_of h2
        have h5 := Int32.lt_iff_toInt_lt.mp h4
        rw [nI_toInt hI] at h5
        have hI40 : I < 40 := by omega
        have e3 : (nI I).toNatClampNeg = I := nI_clamp (by omega)
        simp only [EV, LV, CB, OI, OL, NP, CZ, popN, CT, OZ, List.map_nil, List.map_cons, List.sum_nil, List.sum_cons, Option.toList, List.nil_append, List.cons_append, Int.reduceToNat, Nat.reduceAdd, Nat.reduceLT, Nat.reduceLeDiff, List.length_cons, List.length_nil, Nat.zero_add, if_true, if_false, reduceIte, and_self, and_true, true_and, eq_self, reduceCtorEq, t_within wS d, h1, bI_t, e10, not_false_eq_true, r_X6_lay_11, r_X6_lay_35, gP0, aR28 K hK, clO_K hK, t_faultAt wS d (hs_K hK), t_put wS d (hs_K hK) hI40, h0, L0, L1, h2, h3, h4, decide_false, decide_true, Bool.and_self, Bool.false_eq_true, e3]
      · simp only [EV, LV, CB, OI, OL, NP, CZ, popN, CT, OZ, List.map_nil, List.map_cons, List.sum_nil, List.sum_cons, Option.toList, List.nil_append, List.cons_append, Int.reduceToNat, Nat.reduceAdd, Nat.reduceLT, Nat.reduceLeDiff, List.length_cons, List.length_nil, Nat.zero_add, if_true, if_false, reduceIte, and_self, and_true, true_and, eq_self, reduceCtorEq, t_within wS d, h1, bI_t, e10, e20, not_false_eq_true, r_X6_lay_11, gP0, aR28 K hK, clO_K hK, t_faultAt wS d (hs_K hK), h0, L0, L1, h2, h3, h4, decide_false, decide_true, Bool.and_false, Bool.false_eq_true, n12]
        rfl
theorem t_lay7 {K : Nat} (hK : K < 4) (i v : Int32) (m : Mm) (hs0 : 0 ≤ (m.1 78 K).toInt) (hs : (m.1 78 K).toInt ≤ 40) : semZ shP wS (d + 3) 181 [.ref 68, .int (nI K), .int i, .int v] m = some (some (.int (lyV (decide (m.1 77 K = -4)) (m.1 78 K) i)), if lyV (decide (m.1 77 K = -4)) (m.1 78 K) i = 1 then setR m 79 (upd (m.1 79) (40 * K + i.toNatClampNeg) (lnV (m.1 77 K) v)) else m) := by
  have e10 : ¬ (1 : Int32) = 0 := by decide
  have n11 : ¬ (-11 : Int32) = 1 := by decide
  have n12 : ¬ (-12 : Int32) = 1 := by decide
  have d1 := dec64 (nI K) 0 3 0 3 (by decide) (by decide)
  have h1 : (decide (0 ≤ nI K) && decide (nI K ≤ 3)) = true := by
    have a : (0 : Int32) ≤ nI K := nI_pos' (by omega)
    have b : nI K ≤ (3 : Int32) := nI_le (a := K) (b := 3) (by omega) (by omega)
    simp only [a, b, decide_true, Bool.and_self]
  have d2 : (decide ((0 : Int64) ≤ (0 : Int32).toInt64) && decide ((0 : Int32).toInt64 ≤ 2)) = true := by decide
  have d3 := in_sub1 i (m.1 78 K) hs0
  have e2 : inR (nI K) 4 = true := inR_nI (by omega) (by omega)
  have e3 : (nI K).toNatClampNeg = K := nI_clamp (by omega)
  rw [se_X7_lay, r_X7_lay_0]
  unfold lyV
  by_cases h0 : m.1 77 K = -4
  · simp only [EV, LV, CB, OI, OL, NP, CZ, popN, CT, OZ, List.map_nil, List.map_cons, List.sum_nil, List.sum_cons, Option.toList, List.nil_append, List.cons_append, Int.reduceToNat, Nat.reduceAdd, Nat.reduceLT, Nat.reduceLeDiff, List.length_cons, List.length_nil, Nat.zero_add, if_true, if_false, reduceIte, and_self, and_true, true_and, eq_self, reduceCtorEq, t_isSheet wS d, d1, d2, h1, bI_t, Bool.and_self, e10, not_false_eq_true, not_true_eq_false, r_X7_lay_10, gM MP68, aM MP68, e2, e3, h0, decide_true, n11]
  · cases h2 : (decide (0 ≤ i) && decide (i < m.1 78 K)) with
    | false =>
      simp only [EV, LV, CB, OI, OL, NP, CZ, popN, CT, OZ, List.map_nil, List.map_cons, List.sum_nil, List.sum_cons, Option.toList, List.nil_append, List.cons_append, Int.reduceToNat, Nat.reduceAdd, Nat.reduceLT, Nat.reduceLeDiff, List.length_cons, List.length_nil, Nat.zero_add, if_true, if_false, reduceIte, and_self, and_true, true_and, eq_self, reduceCtorEq, t_isSheet wS d, d1, d2, h1, bI_t, bI_f, Bool.and_self, e10, not_false_eq_true, not_true_eq_false, r_X7_lay_10, r_X7_lay_24, gM MP68, aM MP68, e2, e3, h0, t_in wS (d + 1), d3, h2, decide_false, Bool.false_eq_true, n12]
    | true =>
      simp only [Bool.and_eq_true, decide_eq_true_eq] at h2
      obtain ⟨I, hI, rfl⟩ := nI_of (Int32.not_lt.mpr h2.1)
      have h5 := Int32.lt_iff_toInt_lt.mp h2.2
      rw [nI_toInt hI] at h5
      have e5 : (40 : Int32) * nI K + nI I = nI (40 * K + I) := by
        rw [← nI_add, ← nI_mul]
        rfl
      have e6 : inR (nI (40 * K + I)) 160 = true := inR_nI (by omega) (by omega)
      have e7 : (nI (40 * K + I)).toNatClampNeg = 40 * K + I := nI_clamp (by omega)
      have e8 : (nI I).toNatClampNeg = I := nI_clamp hI
      have d4 : (decide (0 ≤ nI I) && decide (nI I < m.1 78 K)) = true := by simp only [h2.1, h2.2, decide_true, Bool.and_self]
      have z0 : ¬ (0 : Int32) = -4 := by decide
      have z1 : ¬ (1 : Int32) = -4 := by decide
      unfold lnV
      by_cases c0 : m.1 77 K = 0
      · simp only [EV, LV, CB, OI, OL, NP, CZ, popN, CT, OZ, List.map_nil, List.map_cons, List.sum_nil, List.sum_cons, Option.toList, List.nil_append, List.cons_append, Int.reduceToNat, Nat.reduceAdd, Nat.reduceLT, Nat.reduceLeDiff, List.length_cons, List.length_nil, Nat.zero_add, if_true, if_false, reduceIte, and_self, and_true, true_and, eq_self, reduceCtorEq, t_isSheet wS d, d1, d2, h1, bI_t, Bool.and_self, e10, not_false_eq_true, not_true_eq_false, r_X7_lay_10, r_X7_lay_24, r_X7_lay_45, r_X7_lay_85, gM MP68, aM MP68, sM MP68, e2, e3, h0, c0, z0, t_in wS (d + 1), d3, d4, decide_false, Bool.false_eq_true, e5, e6, e7, e8, wI_R]
      · by_cases c1 : m.1 77 K = 1
        · simp only [EV, LV, CB, OI, OL, NP, CZ, popN, CT, OZ, List.map_nil, List.map_cons, List.sum_nil, List.sum_cons, Option.toList, List.nil_append, List.cons_append, Int.reduceToNat, Nat.reduceAdd, Nat.reduceLT, Nat.reduceLeDiff, List.length_cons, List.length_nil, Nat.zero_add, if_true, if_false, reduceIte, and_self, and_true, true_and, eq_self, reduceCtorEq, t_isSheet wS d, d1, d2, h1, bI_t, Bool.and_self, e10, not_false_eq_true, not_true_eq_false, r_X7_lay_10, r_X7_lay_24, r_X7_lay_45, r_X7_lay_69, r_X7_lay_85, gM MP68, aM MP68, sM MP68, e2, e3, h0, c0, c1, z1, e10, t_in wS (d + 1), d3, d4, decide_false, Bool.false_eq_true, e5, e6, e7, e8, wI_R]
        · simp only [EV, LV, CB, OI, OL, NP, CZ, popN, CT, OZ, List.map_nil, List.map_cons, List.sum_nil, List.sum_cons, Option.toList, List.nil_append, List.cons_append, Int.reduceToNat, Nat.reduceAdd, Nat.reduceLT, Nat.reduceLeDiff, List.length_cons, List.length_nil, Nat.zero_add, if_true, if_false, reduceIte, and_self, and_true, true_and, eq_self, reduceCtorEq, t_isSheet wS d, d1, d2, h1, bI_t, Bool.and_self, e10, not_false_eq_true, not_true_eq_false, r_X7_lay_10, r_X7_lay_24, r_X7_lay_45, r_X7_lay_69, r_X7_lay_84, gM MP68, aM MP68, sM MP68, e2, e3, h0, c0, c1, t_in wS (d + 1), d3, d4, decide_false, Bool.false_eq_true, e5, e6, e7, e8, wI_R]
end Sh2
end
section
/-! THE RELATION of class and model: the sheets -/
def SR (m : Mm) : Prop := ∀ k, k < 4 → (m.1 (60 + 2 * k) 0 = 0 ∧ m.1 77 k = -4) ∨ (m.1 (60 + 2 * k) 0 = 1 ∧ ¬ m.1 77 k = -4 ∧ m.1 (60 + 2 * k) 3 = m.1 77 k ∧ m.1 (60 + 2 * k) 1 = m.1 78 k ∧ ∀ i, i < 40 → m.1 (60 + 2 * k + 1) i = m.1 79 (40 * k + i))
theorem g4 {o j : Nat} (h1 : 60 ≤ o) (h2 : o ≤ 67) : grp 4 o j = true := by
  simp only [grp, Bool.and_eq_true, Nat.ble_eq]
  exact ⟨h1, h2⟩
theorem g5 (j : Nat) : grp 5 77 j = true ∧ grp 5 78 j = true ∧ grp 5 79 j = true := ⟨rfl, rfl, rfl⟩
theorem SR_Kp {q : List Nat} {m m' : Mm} (h : SR m) (hk : Kp q m m') (h4 : 4 ∈ q) (h5 : 5 ∈ q) : SR m' := by
  intro k k4
  have a : ∀ j, j < 200 → m'.1 (60 + 2 * k) j = m.1 (60 + 2 * k) j := fun j hj => Kp_at hk h4 hj (g4 (by omega) (by omega))
  have b : ∀ j, j < 200 → m'.1 (60 + 2 * k + 1) j = m.1 (60 + 2 * k + 1) j := fun j hj => Kp_at hk h4 hj (g4 (by omega) (by omega))
  have c := Kp_at hk h5 (show k < 200 by omega) (g5 k).1
  have e := Kp_at hk h5 (show k < 200 by omega) (g5 k).2.1
  rw [a 0 (by omega), a 3 (by omega), a 1 (by omega), c, e]
  rcases h k k4 with h | ⟨h1, h2, h3, h4', h5'⟩
  · exact Or.inl h
  · refine Or.inr ⟨h1, h2, h3, h4', fun i hi => ?_⟩
    rw [b i (by omega), Kp_at hk h5 (show 40 * k + i < 200 by omega) (g5 _).2.2]
    exact h5' i hi
theorem shV_1 {k l n : Int32} (h : shV k l n = 1) : ∃ K, K < 4 ∧ k = nI K ∧ ¬ l = -4 := by
  unfold shV at h
  split at h
  · rename_i q
    obtain ⟨K, hK, rfl⟩ := in_nI (N := 3) (by decide) q.1
    refine ⟨K, by omega, rfl, fun z => ?_⟩
    subst z
    exact absurd q.2.1 (by decide)
  · exact absurd h (by decide)
theorem SR_sheet {K : Nat} (hK : K < 4) {l n : Int32} (hl : ¬ l = -4) {m : Mm} (h : SR m) : SR (shN K l n (shM K l n m)) := by
  have e60 : ∀ o, 60 ≤ o → o ≤ 67 → (shN K l n (shM K l n m)).1 o = (shM K l n m).1 o := fun o h1 h2 => by
    unfold shN
    rw [setR_n _ _ (by omega), setR_n _ _ (by omega), setR_n _ _ (by omega)]
  have e77 : (shN K l n (shM K l n m)).1 77 = upd (m.1 77) K l := by
    unfold shN
    rw [setR_n _ _ (by omega), setR_n _ _ (by omega), setR_s]
    unfold shM
    rw [setR_n _ _ (by omega), setR_n _ _ (by omega)]
  have e78 : (shN K l n (shM K l n m)).1 78 = upd (m.1 78) K n := by
    unfold shN
    rw [setR_n _ _ (by omega), setR_s]
    unfold shM
    rw [setR_n _ _ (by omega), setR_n _ _ (by omega)]
  have e79 : (shN K l n (shM K l n m)).1 79 = zf (m.1 79) K 40 := by
    unfold shN
    rw [setR_s]
    unfold shM
    rw [setR_n _ _ (by omega), setR_n _ _ (by omega)]
  intro k k4
  rw [e60 (60 + 2 * k) (by omega) (by omega), e60 (60 + 2 * k + 1) (by omega) (by omega), e77, e78, e79]
  by_cases hk : k = K
  · subst hk
    refine Or.inr ?_
    have a : (shM k l n m).1 (60 + 2 * k) = upd (upd (upd (m.1 (60 + 2 * k)) 0 1) 3 l) 1 n := by
      unfold shM
      rw [setR_n _ _ (by omega), setR_s]
    have b : (shM k l n m).1 (60 + 2 * k + 1) = fillR (fun _ => 0) (m.1 (60 + 2 * k + 1)) 40 := by
      unfold shM
      rw [setR_s]
    rw [a, b]
    refine ⟨rfl, by simpa [upd] using hl, by simp [upd], by simp [upd], fun i hi => ?_⟩
    unfold fillR zf
    rw [if_pos hi, if_pos (by omega)]
  · have a : (shM K l n m).1 (60 + 2 * k) = m.1 (60 + 2 * k) := by
      unfold shM
      rw [setR_n _ _ (by omega), setR_n _ _ (by omega)]
    have b : (shM K l n m).1 (60 + 2 * k + 1) = m.1 (60 + 2 * k + 1) := by
      unfold shM
      rw [setR_n _ _ (by omega), setR_n _ _ (by omega)]
    have c : ∀ (f : Nat → Int32) (x : Int32), upd f K x k = f k := fun f x => by
      unfold upd
      rw [if_neg hk]
    rw [a, b, c, c]
    rcases h k k4 with h | ⟨h1, h2, h3, h4, h5⟩
    · exact Or.inl h
    · refine Or.inr ⟨h1, h2, h3, h4, fun i hi => ?_⟩
      unfold zf
      rw [if_neg (by omega)]
      exact h5 i hi
theorem SR_lay {K I : Nat} (hK : K < 4) (hI : I < 40) {x : Int32} {m : Mm} (h : SR m) : SR (setR (setR m (60 + 2 * K + 1) (upd (m.1 (60 + 2 * K + 1)) I x)) 79 (upd (m.1 79) (40 * K + I) x)) := by
  intro k k4
  rw [setR_n _ _ (show 60 + 2 * k ≠ 79 by omega), setR_n _ _ (show 60 + 2 * k ≠ 60 + 2 * K + 1 by omega), setR_n _ _ (show (77 : Nat) ≠ 79 by omega), setR_n _ _ (show 77 ≠ 60 + 2 * K + 1 by omega), setR_n _ _ (show (78 : Nat) ≠ 79 by omega), setR_n _ _ (show 78 ≠ 60 + 2 * K + 1 by omega), setR_n _ _ (show 60 + 2 * k + 1 ≠ 79 by omega), setR_s]
  rcases h k k4 with h | ⟨h1, h2, h3, h4, h5⟩
  · exact Or.inl h
  · refine Or.inr ⟨h1, h2, h3, h4, fun i hi => ?_⟩
    by_cases hk : k = K
    · subst hk
      rw [setR_s]
      unfold upd
      by_cases e : i = I
      · rw [if_pos e, if_pos (by omega)]
      · rw [if_neg e, if_neg (by omega)]
        exact h5 i hi
    · rw [setR_n _ _ (by omega)]
      unfold upd
      rw [if_neg (by omega)]
      exact h5 i hi
theorem lyV_1 {b : Bool} {sz i : Int32} (h : lyV b sz i = 1) (hs : sz.toInt ≤ 40) : i.toNatClampNeg < 40 := by
  unfold lyV at h
  split at h
  · exact absurd h (by decide)
  · split at h
    · rename_i q
      simp only [Bool.and_eq_true, decide_eq_true_eq, Int32.le_iff_toInt_le, Int32.lt_iff_toInt_lt] at q
      have e : (0 : Int32).toInt = 0 := by decide
      have : i.toNatClampNeg = i.toInt.toNat := rfl
      omega
    · exact absurd h (by decide)
section Rl
variable {wS : List Value → Mm → Option Rs} (d : Nat)
theorem iv_6x : ∀ K, K < 4 → ivO TV (60 + 2 * K) 1 = (0, 40) := by decide +kernel
theorem iv_78 : ∀ K, K < 4 → ivO TV 78 K = (0, 40) := by decide +kernel
/-- sheet of both -/
theorem b_sheet (k l n : Int32) {m : Mm} (h : SR m) : ∃ v m1 m2, semZ shP wS (d + 30) 94 [.ref 0, .int k, .int l, .int n] m = some (some (.int v), m1) ∧ semZ shP wS (d + 30) 180 [.ref 68, .int k, .int l, .int n] m1 = some (some (.int v), m2) ∧ SR m2 := by
  refine ⟨_, _, _, t_sheet6 wS (d + 28) k l n m, t_sheet7 wS (d + 27) k l n _, ?_⟩
  split
  · rename_i e
    obtain ⟨K, hK, rfl, hl⟩ := shV_1 e
    rw [nI_clamp (by omega)]
    exact SR_sheet hK hl h
  · exact h
/-- lay of both -/
theorem b_lay (k i v : Int32) {m : Mm} (hI : InvT TV m) (h : SR m) : ∃ x m1 m2, semZ shP wS (d + 30) 95 [.ref 0, .int k, .int i, .int v] m = some (some (.int x), m1) ∧ semZ shP wS (d + 30) 181 [.ref 68, .int k, .int i, .int v] m1 = some (some (.int x), m2) ∧ SR m2 := by
  cases hk : (decide (0 ≤ k) && decide (k ≤ 3)) with
  | false => exact ⟨_, _, _, (t_lay_bad wS (d + 28) k i v hk m).1, (t_lay_bad wS (d + 27) k i v hk m).2, h⟩
  | true =>
    obtain ⟨K, hK, rfl⟩ := in_nI (N := 3) (by decide) hk
    have hK : K < 4 := by omega
    have b1 := hI (60 + 2 * K) 1
    rw [iv_6x K hK] at b1
    have b2 := hI 78 K
    rw [iv_78 K hK] at b2
    have a6 := t_lay6 wS (d + 28) hK i v m b1.2
    rcases h K hK with ⟨h1, h2⟩ | ⟨h1, h2, h3, h4, h5⟩
    · have e6 : lyV (decide (m.1 (60 + 2 * K) 0 = 0)) (m.1 (60 + 2 * K) 1) i = -11 := by
        rw [h1]
        rfl
      rw [e6] at a6
      have a7 := t_lay7 wS (d + 27) hK i v m b2.1 b2.2
      have e7 : lyV (decide (m.1 77 K = -4)) (m.1 78 K) i = -11 := by
        rw [h2]
        rfl
      rw [e7] at a7
      exact ⟨_, _, _, a6, a7, h⟩
    · have ea : decide (m.1 (60 + 2 * K) 0 = 0) = decide (m.1 77 K = -4) := by
        rw [h1, decide_eq_false h2]
        rfl
      rw [ea, h4, h3] at a6
      by_cases e : lyV (decide (m.1 77 K = -4)) (m.1 78 K) i = 1
      · rw [if_pos e] at a6
        have hi := lyV_1 e b2.2
        have n77 : (setR m (60 + 2 * K + 1) (upd (m.1 (60 + 2 * K + 1)) i.toNatClampNeg (lnV (m.1 77 K) v))).1 77 = m.1 77 := setR_n _ _ (by omega)
        have n78 : (setR m (60 + 2 * K + 1) (upd (m.1 (60 + 2 * K + 1)) i.toNatClampNeg (lnV (m.1 77 K) v))).1 78 = m.1 78 := setR_n _ _ (by omega)
        have n79 : (setR m (60 + 2 * K + 1) (upd (m.1 (60 + 2 * K + 1)) i.toNatClampNeg (lnV (m.1 77 K) v))).1 79 = m.1 79 := setR_n _ _ (by omega)
        have a7 := t_lay7 wS (d + 27) hK i v (setR m (60 + 2 * K + 1) (upd (m.1 (60 + 2 * K + 1)) i.toNatClampNeg (lnV (m.1 77 K) v))) (by rw [n78]; exact b2.1) (by rw [n78]; exact b2.2)
        rw [n77, n78, n79, if_pos e] at a7
        exact ⟨_, _, _, a6, a7, SR_lay hK hi h⟩
      · rw [if_neg e] at a6
        have a7 := t_lay7 wS (d + 27) hK i v m b2.1 b2.2
        rw [if_neg e] at a7
        exact ⟨_, _, _, a6, a7, h⟩
end Rl
end
section
/-! THE LEXER: the tokens of a tape B (the byte at a place, -1 behind its end) -/
def skp (B : Nat → Int32) : Nat → Nat → Nat
  | 0, p => p
  | k + 1, p => if B p = 32 then skp B k (p + 1) else p
def rng (B : Nat → Int32) (lo hi : Int32) : Nat → Nat → Nat
  | 0, p => p
  | k + 1, p => if lo ≤ B p ∧ B p ≤ hi then rng B lo hi k (p + 1) else p
theorem skp_le (B : Nat → Int32) : ∀ k p, p ≤ skp B k p ∧ skp B k p ≤ p + k := by
  intro k
  induction k with
  | zero => intro p; exact ⟨Nat.le_refl _, Nat.le_refl _⟩
  | succ k ih =>
    intro p
    unfold skp
    split
    · have := ih (p + 1)
      omega
    · omega
theorem rng_le (B : Nat → Int32) (lo hi : Int32) : ∀ k p, p ≤ rng B lo hi k p ∧ rng B lo hi k p ≤ p + k := by
  intro k
  induction k with
  | zero => intro p; exact ⟨Nat.le_refl _, Nat.le_refl _⟩
  | succ k ih =>
    intro p
    unfold rng
    split
    · have := ih (p + 1)
      omega
    · omega
theorem rng_no {B : Nat → Int32} {lo hi : Int32} {k p : Nat} (h : ¬ (lo ≤ B p ∧ B p ≤ hi)) : rng B lo hi k p = p := by
  cases k with
  | zero => rfl
  | succ k => unfold rng; rw [if_neg h]
theorem rng_gt {B : Nat → Int32} {lo hi : Int32} {k p : Nat} (h : lo ≤ B p ∧ B p ≤ hi) (hk : 0 < k) : p < rng B lo hi k p := by
  cases k with
  | zero => omega
  | succ k =>
    unfold rng
    rw [if_pos h]
    have := (rng_le B lo hi k (p + 1)).1
    omega
theorem rng_in {B : Nat → Int32} {lo hi : Int32} : ∀ k p j, p ≤ j → j < rng B lo hi k p → lo ≤ B j ∧ B j ≤ hi := by
  intro k
  induction k with
  | zero => intro p j h1 h2; unfold rng at h2; omega
  | succ k ih =>
    intro p j h1 h2
    unfold rng at h2
    split at h2
    · rename_i h
      by_cases hj : j = p
      · rw [hj]; exact h
      · exact ih (p + 1) j (by omega) h2
    · omega
/-- the token that begins at s: its kind (0 the end, 1 a name, 2 a number, 3 a stop, 4 none), its begin, its end -/
def lxA (B : Nat → Int32) (s : Nat) : Nat × Nat × Nat :=
  if B s < 0 then (0, s, s)
  else if 97 ≤ B s ∧ B s ≤ 122 then (1, s, rng B 97 122 (160 - s) s)
  else if 48 ≤ B s ∧ B s ≤ 57 then (if rng B 48 57 (160 - s) s ≤ s + 2 then 2 else 4, s, rng B 48 57 (160 - s) s)
  else (if B s = 59 then 3 else 4, s, s + 1)
def lx (B : Nat → Int32) (p : Nat) : Nat × Nat × Nat := lxA B (skp B (160 - p) p)
/-- the number of figures s to e -/
def vq (B : Nat → Int32) (s e : Nat) : Int32 := if e ≤ s then 0 else if e = s + 1 then 10 * 0 + B s - 48 else 10 * (10 * 0 + B s - 48) + B (s + 1) - 48
/-- a tape -/
def Tp (B : Nat → Int32) (n : Nat) : Prop := n ≤ 160 ∧ (∀ j, n ≤ j → B j = -1) ∧ (∀ j, j < n → 0 ≤ B j ∧ B j ≤ 127)
theorem Tp_ge {B : Nat → Int32} {n s : Nat} (h : Tp B n) : (B s < 0) = (n ≤ s) := by
  apply propext
  constructor
  · intro z
    apply Nat.le_of_not_lt
    intro q
    exact absurd (h.2.2 s q).1 (Int32.not_le.mpr z)
  · intro z
    rw [h.2.1 s z]
    decide
theorem Tp_no {B : Nat → Int32} {n s : Nat} (h : Tp B n) (hs : n ≤ s) {lo hi : Int32} (hl : ¬ lo ≤ -1) : ¬ (lo ≤ B s ∧ B s ≤ hi) := by
  rw [h.2.1 s hs]
  exact fun z => hl z.1
theorem rng_n {B : Nat → Int32} {n : Nat} (h : Tp B n) {lo hi : Int32} (hl : ¬ lo ≤ -1) : ∀ k p, p ≤ n → rng B lo hi k p ≤ n := by
  intro k
  induction k with
  | zero => intro p hp; exact hp
  | succ k ih =>
    intro p hp
    unfold rng
    split
    · rename_i q
      refine ih (p + 1) (Nat.lt_of_not_le fun z => ?_)
      exact Tp_no h z hl q
    · exact hp
theorem skp_n {B : Nat → Int32} {n : Nat} (h : Tp B n) : ∀ k p, p ≤ n → skp B k p ≤ n := by
  intro k
  induction k with
  | zero => intro p hp; exact hp
  | succ k ih =>
    intro p hp
    unfold skp
    split
    · rename_i q
      refine ih (p + 1) (Nat.lt_of_not_le fun z => ?_)
      rw [h.2.1 p z] at q
      exact absurd q (by decide)
    · exact hp
/-- the bounds of a token -/
theorem lx_b {B : Nat → Int32} {n : Nat} (h : Tp B n) {p : Nat} (hp : p ≤ n) : p ≤ (lx B p).2.1 ∧ (lx B p).2.1 ≤ (lx B p).2.2 ∧ (lx B p).2.2 ≤ n ∧ (lx B p).1 ≤ 4 ∧ ((lx B p).1 = 0 → (lx B p).2.1 = n ∧ (lx B p).2.2 = n) ∧ ((lx B p).1 ≠ 0 → (lx B p).2.1 < (lx B p).2.2) := by
  have a := skp_le B (160 - p) p
  have b := skp_n h (160 - p) p hp
  unfold lx
  generalize skp B (160 - p) p = s at a b
  have h160 := h.1
  unfold lxA
  split
  · rename_i q
    rw [Tp_ge h] at q
    dsimp only
    exact ⟨a.1, Nat.le_refl _, b, by omega, fun _ => ⟨by omega, by omega⟩, fun z => absurd rfl z⟩
  · rename_i q
    rw [Tp_ge h] at q
    split
    · rename_i r
      have c := rng_gt (k := 160 - s) r (by omega)
      have e := rng_n h (lo := 97) (hi := 122) (by decide) (160 - s) s b
      dsimp only
      exact ⟨a.1, by omega, e, by omega, fun z => absurd z (by omega), fun _ => c⟩
    · split
      · rename_i r
        have c := rng_gt (k := 160 - s) r (by omega)
        have e := rng_n h (lo := 48) (hi := 57) (by decide) (160 - s) s b
        dsimp only
        refine ⟨a.1, by omega, e, ?_, fun z => ?_, fun _ => c⟩
        · show (if _ then 2 else 4) ≤ 4
          split <;> omega
        · have z : (if rng B 48 57 (160 - s) s ≤ s + 2 then 2 else 4) = 0 := z
          split at z <;> omega
      · dsimp only
        refine ⟨a.1, by omega, by omega, ?_, fun z => ?_, fun _ => by omega⟩
        · show (if _ then 3 else 4) ≤ 4
          split <;> omega
        · have z : (if B s = 59 then 3 else 4) = 0 := z
          split at z <;> omega
/-- a number has one or two figures -/
theorem lx_2 {B : Nat → Int32} {n : Nat} (h : Tp B n) {p : Nat} (hp : p ≤ n) (h2 : (lx B p).1 = 2) : (lx B p).2.1 < (lx B p).2.2 ∧ (lx B p).2.2 ≤ (lx B p).2.1 + 2 ∧ ∀ j, (lx B p).2.1 ≤ j → j < (lx B p).2.2 → 48 ≤ B j ∧ B j ≤ 57 := by
  refine ⟨(lx_b h hp).2.2.2.2.2 (by omega), ?_⟩
  revert h2
  unfold lx
  generalize skp B (160 - p) p = s
  unfold lxA
  split
  · intro z; cases z
  · split
    · intro z; cases z
    · split
      · intro z
        have z : (if rng B 48 57 (160 - s) s ≤ s + 2 then 2 else 4) = 2 := z
        split at z
        · rename_i q
          exact ⟨q, fun j h1 h3 => rng_in (160 - s) s j h1 h3⟩
        · omega
      · intro z
        have z : (if B s = 59 then 3 else 4) = 2 := z
        split at z <;> omega
/-! the class -/
def TC (B : Nat → Int32) (n : Nat) (m : Mm) : Prop := m.1 24 0 = nI n ∧ ∀ j, j < n → m.1 25 j = B j
section Lc
variable {B : Nat → Int32} {n : Nat} (hB : Tp B n) (C : CallS) {m : Mm} (hm : TC B n m)
theorem tkx (hB : Tp B n) (hm : TC B n m) (s : Nat) : ∀ (k p : Nat), p + k = 160 → rn shP tb0 mN mO C (some .int) (codeZ 8) 0 [.ref 24] [] (tm m s p) = rn shP tb0 mN mO C (some .int) (codeZ 8) 38 [.ref 24] [] (tm m s (skp B k p)) := by
  have h160 := hB.1
  intro k
  induction k with
  | zero =>
    intro p hp
    have e1 : nI n ≤ nI p := nI_le (by omega) (by omega)
    rw [r_X3_take_0]
    simp only [EV, LV, CB, OI, OL, NP, CZ, popN, CT, OZ, List.map_nil, List.map_cons, List.sum_nil, List.sum_cons, Option.toList, List.nil_append, List.cons_append, Int.reduceToNat, Nat.reduceAdd, Nat.reduceLT, Nat.reduceLeDiff, List.length_cons, List.length_nil, Nat.zero_add, if_true, if_false, reduceIte, and_self, and_true, true_and, eq_self, reduceCtorEq, C24, G24, hm.1, e1, skp]
  | succ k ih =>
    intro p hp
    by_cases hn : n ≤ p
    · have e1 : nI n ≤ nI p := nI_le hn (by omega)
      have e2 : ¬ (-1 : Int32) = 32 := by decide
      rw [r_X3_take_0]
      simp only [EV, LV, CB, OI, OL, NP, CZ, popN, CT, OZ, List.map_nil, List.map_cons, List.sum_nil, List.sum_cons, Option.toList, List.nil_append, List.cons_append, Int.reduceToNat, Nat.reduceAdd, Nat.reduceLT, Nat.reduceLeDiff, List.length_cons, List.length_nil, Nat.zero_add, if_true, if_false, reduceIte, and_self, and_true, true_and, eq_self, reduceCtorEq, C24, G24, hm.1, e1, skp, hB.2.1 p hn, e2]
    · have e1 : ¬ nI n ≤ nI p := nI_ge (by omega) (by omega)
      have e2 : inR (nI p) 160 = true := inR_nI (by omega) (by omega)
      have e3 : (nI p).toNatClampNeg = p := nI_clamp (by omega)
      by_cases h2 : B p = 32
      · rw [r_X3_take_0]
        simp only [EV, LV, CB, OI, OL, NP, CZ, popN, CT, OZ, List.map_nil, List.map_cons, List.sum_nil, List.sum_cons, Option.toList, List.nil_append, List.cons_append, Int.reduceToNat, Nat.reduceAdd, Nat.reduceLT, Nat.reduceLeDiff, List.length_cons, List.length_nil, Nat.zero_add, if_true, if_false, reduceIte, and_self, and_true, true_and, eq_self, reduceCtorEq, C24, G24, A25, hm.1, hm.2 p (by omega), e1, e2, e3, h2, nI_1, tm_w2, not_true_eq_false, skp]
        exact ih (p + 1) (by omega)
      · rw [r_X3_take_0]
        simp only [EV, LV, CB, OI, OL, NP, CZ, popN, CT, OZ, List.map_nil, List.map_cons, List.sum_nil, List.sum_cons, Option.toList, List.nil_append, List.cons_append, Int.reduceToNat, Nat.reduceAdd, Nat.reduceLT, Nat.reduceLeDiff, List.length_cons, List.length_nil, Nat.zero_add, if_true, if_false, reduceIte, and_self, and_true, true_and, eq_self, reduceCtorEq, C24, G24, A25, hm.1, hm.2 p (by omega), e1, e2, e3, h2, not_false_eq_true, skp]
theorem prx (hB : Tp B n) (hm : TC B n m) (s : Nat) {lo hi : Int32} (hl : ¬ lo ≤ -1) : ∀ (k p : Nat), p + k = 160 → rn shP tb0 mN mO C (some .boolean) (codeZ 9) 0 [.ref 24, .int lo, .int hi] [] (tm m s p) = rn shP tb0 mN mO C (some .boolean) (codeZ 9) 50 [.ref 24, .int lo, .int hi] [] (tm m s (rng B lo hi k p)) := by
  have h160 := hB.1
  intro k
  induction k with
  | zero =>
    intro p hp
    have e1 : nI n ≤ nI p := nI_le (by omega) (by omega)
    rw [r_X3_passRun_0]
    simp only [EV, LV, CB, OI, OL, NP, CZ, popN, CT, OZ, List.map_nil, List.map_cons, List.sum_nil, List.sum_cons, Option.toList, List.nil_append, List.cons_append, Int.reduceToNat, Nat.reduceAdd, Nat.reduceLT, Nat.reduceLeDiff, List.length_cons, List.length_nil, Nat.zero_add, if_true, if_false, reduceIte, and_self, and_true, true_and, eq_self, reduceCtorEq, C24, G24, hm.1, e1, rng]
  | succ k ih =>
    intro p hp
    by_cases hn : n ≤ p
    · have e1 : nI n ≤ nI p := nI_le hn (by omega)
      rw [rng_no (Tp_no hB hn hl), r_X3_passRun_0]
      simp only [EV, LV, CB, OI, OL, NP, CZ, popN, CT, OZ, List.map_nil, List.map_cons, List.sum_nil, List.sum_cons, Option.toList, List.nil_append, List.cons_append, Int.reduceToNat, Nat.reduceAdd, Nat.reduceLT, Nat.reduceLeDiff, List.length_cons, List.length_nil, Nat.zero_add, if_true, if_false, reduceIte, and_self, and_true, true_and, eq_self, reduceCtorEq, C24, G24, hm.1, e1]
    · have e1 : ¬ nI n ≤ nI p := nI_ge (by omega) (by omega)
      have e2 : inR (nI p) 160 = true := inR_nI (by omega) (by omega)
      have e3 : (nI p).toNatClampNeg = p := nI_clamp (by omega)
      rw [r_X3_passRun_0]
      by_cases h2 : B p < lo
      · rw [rng_no (fun z => absurd z.1 (Int32.not_le.mpr h2))]
        simp only [EV, LV, CB, OI, OL, NP, CZ, popN, CT, OZ, List.map_nil, List.map_cons, List.sum_nil, List.sum_cons, Option.toList, List.nil_append, List.cons_append, Int.reduceToNat, Nat.reduceAdd, Nat.reduceLT, Nat.reduceLeDiff, List.length_cons, List.length_nil, Nat.zero_add, if_true, if_false, reduceIte, and_self, and_true, true_and, eq_self, reduceCtorEq, C24, G24, A25, hm.1, hm.2 p (by omega), e1, e2, e3, h2]
      · by_cases h3 : hi < B p
        · rw [rng_no (fun z => absurd z.2 (Int32.not_le.mpr h3))]
          simp only [EV, LV, CB, OI, OL, NP, CZ, popN, CT, OZ, List.map_nil, List.map_cons, List.sum_nil, List.sum_cons, Option.toList, List.nil_append, List.cons_append, Int.reduceToNat, Nat.reduceAdd, Nat.reduceLT, Nat.reduceLeDiff, List.length_cons, List.length_nil, Nat.zero_add, if_true, if_false, reduceIte, and_self, and_true, true_and, eq_self, reduceCtorEq, C24, G24, A25, hm.1, hm.2 p (by omega), e1, e2, e3, h2, h3]
        · have h4 : lo ≤ B p ∧ B p ≤ hi := ⟨Int32.not_lt.mp h2, Int32.not_lt.mp h3⟩
          unfold rng
          rw [if_pos h4]
          simp only [EV, LV, CB, OI, OL, NP, CZ, popN, CT, OZ, List.map_nil, List.map_cons, List.sum_nil, List.sum_cons, Option.toList, List.nil_append, List.cons_append, Int.reduceToNat, Nat.reduceAdd, Nat.reduceLT, Nat.reduceLeDiff, List.length_cons, List.length_nil, Nat.zero_add, if_true, if_false, reduceIte, and_self, and_true, true_and, eq_self, reduceCtorEq, C24, G24, A25, hm.1, hm.2 p (by omega), e1, e2, e3, h2, h3, nI_1, tm_w2]
          exact ih (p + 1) (by omega)
end Lc
section Ld
variable {B : Nat → Int32} {n : Nat} (wS : List Value → Mm → Option Rs) (d : Nat) {m : Mm}
theorem t_passX (hB : Tp B n) (hm : TC B n m) {s : Nat} (hs : s ≤ 160) {lo hi : Int32} (hl : ¬ lo ≤ -1) : semZ shP wS (d + 1) 9 [.ref 24, .int lo, .int hi] (tm m s s) = some (some (.int (bI (decide (s < rng B lo hi (160 - s) s)))), tm m s (rng B lo hi (160 - s) s)) := by
  have b := rng_le B lo hi (160 - s) s
  rw [se_X3_passRun, prx (semZ shP wS d) hB hm s hl (160 - s) s (by omega), r_X3_passRun_50]
  have e := nI_lt' (a := rng B lo hi (160 - s) s) (b := s) (by omega) (by omega)
  by_cases h : s < rng B lo hi (160 - s) s
  · have h1 : ¬ rng B lo hi (160 - s) s ≤ s := by omega
    simp only [EV, LV, CB, OI, OL, NP, CZ, popN, CT, OZ, List.map_nil, List.map_cons, List.sum_nil, List.sum_cons, Option.toList, List.nil_append, List.cons_append, Int.reduceToNat, Nat.reduceAdd, Nat.reduceLT, Nat.reduceLeDiff, List.length_cons, List.length_nil, Nat.zero_add, if_true, if_false, reduceIte, and_self, and_true, true_and, eq_self, reduceCtorEq, C24, G24, e, h1, r_X3_passRun_66, h, decide_true, bI_t]
  · have h1 : rng B lo hi (160 - s) s ≤ s := by omega
    simp only [EV, LV, CB, OI, OL, NP, CZ, popN, CT, OZ, List.map_nil, List.map_cons, List.sum_nil, List.sum_cons, Option.toList, List.nil_append, List.cons_append, Int.reduceToNat, Nat.reduceAdd, Nat.reduceLT, Nat.reduceLeDiff, List.length_cons, List.length_nil, Nat.zero_add, if_true, if_false, reduceIte, and_self, and_true, true_and, eq_self, reduceCtorEq, C24, G24, e, h1, r_X3_passRun_65, h, decide_false, bI_f]
theorem nI_sub {a b : Nat} (h : b ≤ a) : nI a - nI b = nI (a - b) := by
  have : nI a = nI (a - b) + nI b := by rw [nI_add, show a - b + b = a by omega]
  rw [this, Int32.add_sub_cancel]
theorem t_takeX (hB : Tp B n) (hm : TC B n m) (s0 : Nat) {p : Nat} (hp : p ≤ n) : semZ shP wS (d + 2) 8 [.ref 24] (tm m s0 p) = some (some (.int (nI (lx B p).1)), tm m (lx B p).2.1 (lx B p).2.2) := by
  have h160 := hB.1
  have e10 : ¬ (1 : Int32) = 0 := by decide
  have b := skp_n hB (160 - p) p hp
  rw [se_X3_take, tkx (semZ shP wS (d + 1)) hB hm s0 (160 - p) p (by omega), r_X3_take_38]
  unfold lx
  generalize skp B (160 - p) p = s at b
  unfold lxA
  by_cases h1 : n ≤ s
  · have e1 : ¬ nI s < nI n := nI_nlt h1 (by omega)
    have hb : B s < 0 := by rw [Tp_ge hB]; exact h1
    simp only [EV, LV, CB, OI, OL, NP, CZ, popN, CT, OZ, List.map_nil, List.map_cons, List.sum_nil, List.sum_cons, Option.toList, List.nil_append, List.cons_append, Int.reduceToNat, Nat.reduceAdd, Nat.reduceLT, Nat.reduceLeDiff, List.length_cons, List.length_nil, Nat.zero_add, if_true, if_false, reduceIte, and_self, and_true, true_and, eq_self, reduceCtorEq, C24, G24, tm_w1, hm.1, e1, hb, nI_0]
  · have e1 : nI s < nI n := nI_lt (by omega) (by omega)
    have hb : ¬ B s < 0 := by rw [Tp_ge hB]; exact h1
    rw [if_neg hb]
    by_cases h2 : 97 ≤ B s ∧ B s ≤ 122
    · have g := rng_gt (k := 160 - s) h2 (by omega)
      have c := t_passX wS d hB hm (s := s) (by omega) (lo := 97) (hi := 122) (by decide)
      simp only [g, decide_true, bI_t] at c
      rw [if_pos h2]
      simp only [EV, LV, CB, OI, OL, NP, CZ, popN, CT, OZ, List.map_nil, List.map_cons, List.sum_nil, List.sum_cons, Option.toList, List.nil_append, List.cons_append, Int.reduceToNat, Nat.reduceAdd, Nat.reduceLT, Nat.reduceLeDiff, List.length_cons, List.length_nil, Nat.zero_add, if_true, if_false, reduceIte, and_self, and_true, true_and, eq_self, reduceCtorEq, C24, G24, tm_w1, hm.1, e1, r_X3_take_59, c, e10]
      rfl
    · have g := rng_no (k := 160 - s) h2
      have c := t_passX wS d hB hm (s := s) (by omega) (lo := 97) (hi := 122) (by decide)
      rw [g] at c
      simp only [Nat.lt_irrefl, decide_false, bI_f] at c
      rw [if_neg h2]
      by_cases h3 : 48 ≤ B s ∧ B s ≤ 57
      · have g2 := rng_gt (k := 160 - s) h3 (by omega)
        have u := rng_le B 48 57 (160 - s) s
        have c2 := t_passX wS d hB hm (s := s) (by omega) (lo := 48) (hi := 57) (by decide)
        simp only [g2, decide_true, bI_t] at c2
        rw [if_pos h3]
        have es := nI_sub (a := rng B 48 57 (160 - s) s) (b := s) (by omega)
        by_cases h4 : rng B 48 57 (160 - s) s ≤ s + 2
        · have e4 : nI (rng B 48 57 (160 - s) s - s) ≤ (2 : Int32) := nI_le (b := 2) (by omega) (by omega)
          simp only [EV, LV, CB, OI, OL, NP, CZ, popN, CT, OZ, List.map_nil, List.map_cons, List.sum_nil, List.sum_cons, Option.toList, List.nil_append, List.cons_append, Int.reduceToNat, Nat.reduceAdd, Nat.reduceLT, Nat.reduceLeDiff, List.length_cons, List.length_nil, Nat.zero_add, if_true, if_false, reduceIte, and_self, and_true, true_and, eq_self, reduceCtorEq, C24, G24, tm_w1, hm.1, e1, r_X3_take_59, c, r_X3_take_72, c2, e10, es, e4, r_X3_take_100, h4]
          rfl
        · have e4 : ¬ nI (rng B 48 57 (160 - s) s - s) ≤ (2 : Int32) := nI_ge (a := 2) (by omega) (by omega)
          simp only [EV, LV, CB, OI, OL, NP, CZ, popN, CT, OZ, List.map_nil, List.map_cons, List.sum_nil, List.sum_cons, Option.toList, List.nil_append, List.cons_append, Int.reduceToNat, Nat.reduceAdd, Nat.reduceLT, Nat.reduceLeDiff, List.length_cons, List.length_nil, Nat.zero_add, if_true, if_false, reduceIte, and_self, and_true, true_and, eq_self, reduceCtorEq, C24, G24, tm_w1, hm.1, e1, r_X3_take_59, c, r_X3_take_72, c2, e10, es, e4, r_X3_take_101, h4]
          rfl
      · have g2 := rng_no (k := 160 - s) h3
        have c2 := t_passX wS d hB hm (s := s) (by omega) (lo := 48) (hi := 57) (by decide)
        rw [g2] at c2
        simp only [Nat.lt_irrefl, decide_false, bI_f] at c2
        have e2 : inR (nI s) 160 = true := inR_nI (by omega) (by omega)
        have e3 : (nI s).toNatClampNeg = s := nI_clamp (by omega)
        rw [if_neg h3]
        by_cases h4 : B s = 59
        · simp only [EV, LV, CB, OI, OL, NP, CZ, popN, CT, OZ, List.map_nil, List.map_cons, List.sum_nil, List.sum_cons, Option.toList, List.nil_append, List.cons_append, Int.reduceToNat, Nat.reduceAdd, Nat.reduceLT, Nat.reduceLeDiff, List.length_cons, List.length_nil, Nat.zero_add, if_true, if_false, reduceIte, and_self, and_true, true_and, eq_self, reduceCtorEq, C24, G24, A25, tm_w1, tm_w2, hm.1, hm.2 s (by omega), e1, e2, e3, r_X3_take_59, c, r_X3_take_72, c2, r_X3_take_102, nI_1, h4, not_true_eq_false, r_X3_take_131]
          rfl
        · simp only [EV, LV, CB, OI, OL, NP, CZ, popN, CT, OZ, List.map_nil, List.map_cons, List.sum_nil, List.sum_cons, Option.toList, List.nil_append, List.cons_append, Int.reduceToNat, Nat.reduceAdd, Nat.reduceLT, Nat.reduceLeDiff, List.length_cons, List.length_nil, Nat.zero_add, if_true, if_false, reduceIte, and_self, and_true, true_and, eq_self, reduceCtorEq, C24, G24, A25, tm_w1, tm_w2, hm.1, hm.2 s (by omega), e1, e2, e3, r_X3_take_59, c, r_X3_take_72, c2, r_X3_take_102, nI_1, h4, not_false_eq_true, r_X3_take_130]
          rfl
theorem t_numberX (hB : Tp B n) (hm : TC B n m) {s e : Nat} (h1 : s < e) (h2 : e ≤ s + 2) (he : e ≤ n) : semZ shP wS (d + 1) 10 [.ref 24] (tm m s e) = some (some (.int (vq B s e)), tm m s e) := by
  have h160 := hB.1
  have q1 : ¬ nI e ≤ nI s := nI_ge h1 (by omega)
  have e2 : inR (nI s) 160 = true := inR_nI (by omega) (by omega)
  have e3 : (nI s).toNatClampNeg = s := nI_clamp (by omega)
  rw [se_X3_number, r_X3_number_0]
  simp only [EV, LV, CB, OI, OL, NP, CZ, popN, CT, OZ, List.map_nil, List.map_cons, List.sum_nil, List.sum_cons, Option.toList, List.nil_append, List.cons_append, Int.reduceToNat, Nat.reduceAdd, Nat.reduceLT, Nat.reduceLeDiff, List.length_cons, List.length_nil, Nat.zero_add, if_true, if_false, reduceIte, and_self, and_true, true_and, eq_self, reduceCtorEq, C24, G24]
  rw [r_X3_number_7]
  simp only [EV, LV, CB, OI, OL, NP, CZ, popN, CT, OZ, List.map_nil, List.map_cons, List.sum_nil, List.sum_cons, Option.toList, List.nil_append, List.cons_append, Int.reduceToNat, Nat.reduceAdd, Nat.reduceLT, Nat.reduceLeDiff, List.length_cons, List.length_nil, Nat.zero_add, if_true, if_false, reduceIte, and_self, and_true, true_and, eq_self, reduceCtorEq, C24, G24, A25, q1, e2, e3, hm.2 s (by omega), nI_1]
  unfold vq
  rw [if_neg (by omega)]
  by_cases h3 : e = s + 1
  · subst h3
    have q2 : nI (s + 1) ≤ nI (s + 1) := Int32.le_refl _
    rw [r_X3_number_7]
    simp only [EV, LV, CB, OI, OL, NP, CZ, popN, CT, OZ, List.map_nil, List.map_cons, List.sum_nil, List.sum_cons, Option.toList, List.nil_append, List.cons_append, Int.reduceToNat, Nat.reduceAdd, Nat.reduceLT, Nat.reduceLeDiff, List.length_cons, List.length_nil, Nat.zero_add, if_true, if_false, reduceIte, and_self, and_true, true_and, eq_self, reduceCtorEq, C24, G24, q2, r_X3_number_36, Int32.mul_comm]
  · have h4 : e = s + 2 := by omega
    subst h4
    have q2 : ¬ nI (s + 2) ≤ nI (s + 1) := nI_ge (by omega) (by omega)
    have q3 : nI (s + 2) ≤ nI (s + 1 + 1) := Int32.le_refl _
    have e4 : inR (nI (s + 1)) 160 = true := inR_nI (by omega) (by omega)
    have e5 : (nI (s + 1)).toNatClampNeg = s + 1 := nI_clamp (by omega)
    rw [r_X3_number_7]
    simp only [EV, LV, CB, OI, OL, NP, CZ, popN, CT, OZ, List.map_nil, List.map_cons, List.sum_nil, List.sum_cons, Option.toList, List.nil_append, List.cons_append, Int.reduceToNat, Nat.reduceAdd, Nat.reduceLT, Nat.reduceLeDiff, List.length_cons, List.length_nil, Nat.zero_add, if_true, if_false, reduceIte, and_self, and_true, true_and, eq_self, reduceCtorEq, C24, G24, A25, q2, e4, e5, hm.2 (s + 1) (by omega), nI_1]
    rw [r_X3_number_7]
    simp only [EV, LV, CB, OI, OL, NP, CZ, popN, CT, OZ, List.map_nil, List.map_cons, List.sum_nil, List.sum_cons, Option.toList, List.nil_append, List.cons_append, Int.reduceToNat, Nat.reduceAdd, Nat.reduceLT, Nat.reduceLeDiff, List.length_cons, List.length_nil, Nat.zero_add, if_true, if_false, reduceIte, and_self, and_true, true_and, eq_self, reduceCtorEq, C24, G24, q3, r_X3_number_36, h3, Int32.mul_comm]
end Ld
end
section
/-! the model's tokens, exactly -/
def TM (B : Nat → Int32) (n : Nat) (m : Mm) : Prop := m.1 68 9 = nI n ∧ ∀ j, j < n → m.1 73 j = B j
def soX (B : Nat → Int32) (s : Nat) : Int32 := if B s < 0 then 0 else if 97 ≤ B s ∧ B s ≤ 122 then 1 else if 48 ≤ B s ∧ B s ≤ 57 then 2 else 3
def vaX (B : Nat → Int32) (s e : Nat) (va : Int32) : Int32 := if 48 ≤ B s ∧ B s ≤ 57 then vq B s e else va
theorem dA (x : Int32) : (decide ((97 : Int64) ≤ x.toInt64) && decide (x.toInt64 ≤ 122)) = decide (97 ≤ x ∧ x ≤ 122) := by
  rw [dec64 x 97 122 97 122 (by decide) (by decide), Bool.decide_and]
theorem dD (x : Int32) : (decide ((48 : Int64) ≤ x.toInt64) && decide (x.toInt64 ≤ 57)) = decide (48 ≤ x ∧ x ≤ 57) := by
  rw [dec64 x 48 57 48 57 (by decide) (by decide), Bool.decide_and]
theorem lx_so {B : Nat → Int32} {p : Nat} (h : (lx B p).1 ≠ 4) : soX B (lx B p).2.1 = nI (lx B p).1 := by
  revert h
  unfold lx
  generalize skp B (160 - p) p = s
  unfold lxA
  split
  · rename_i q
    intro _
    unfold soX
    rw [if_pos q]
    rfl
  · rename_i q
    split
    · rename_i r
      intro _
      show soX B s = _
      unfold soX
      rw [if_neg q, if_pos r]
      rfl
    · rename_i r
      split
      · rename_i t
        intro z
        show soX B s = nI (if _ then 2 else 4)
        have z : (if rng B 48 57 (160 - s) s ≤ s + 2 then 2 else 4) ≠ 4 := z
        unfold soX
        rw [if_neg q, if_neg r, if_pos t]
        split
        · rfl
        · rename_i y
          rw [if_neg y] at z
          exact absurd rfl z
      · rename_i t
        intro z
        show soX B s = nI (if _ then 3 else 4)
        have z : (if B s = 59 then 3 else 4) ≠ 4 := z
        unfold soX
        rw [if_neg q, if_neg r, if_neg t]
        split
        · rfl
        · rename_i y
          rw [if_neg y] at z
          exact absurd rfl z
theorem vq_s (B : Nat → Int32) (s : Nat) : vq B s s = 0 := by
  unfold vq
  rw [if_pos (Nat.le_refl _)]
theorem vq_step (B : Nat → Int32) {s q : Nat} (h : s ≤ q) (h2 : q < s + 2) : 10 * vq B s q + B q - 48 = vq B s (q + 1) := by
  unfold vq
  by_cases e : q = s
  · subst e
    rw [if_pos (Nat.le_refl _), if_neg (by omega), if_pos rfl]
  · have e2 : q = s + 1 := by omega
    subst e2
    rw [if_neg (by omega), if_pos rfl, if_neg (by omega), if_neg (by omega)]
theorem vq_far (B : Nat → Int32) {s q : Nat} (h2 : s + 2 ≤ q) : vq B s q = vq B s (q + 1) := by
  unfold vq
  rw [if_neg (by omega), if_neg (by omega), if_neg (by omega), if_neg (by omega)]
section Lm
variable {B : Nat → Int32} {n : Nat} (wS : List Value → Mm → Option Rs) (d : Nat) {m : Mm}
theorem bA_B (hB : Tp B n) (hm : TM B n m) {p : Nat} (hp : p < 2 ^ 31) : bA m p = B p := by
  have h160 := hB.1
  unfold bA
  rw [hm.1]
  by_cases h : p < n
  · rw [if_pos (nI_lt h (by omega)), hm.2 p h]
  · rw [if_neg (nI_nlt (by omega) hp), hB.2.1 p (by omega)]
theorem hTm (hB : Tp B n) (hm : TM B n m) : (m.1 68 9).toInt ≤ 160 := by
  have h160 := hB.1
  rw [hm.1, nI_toInt (by omega)]
  omega
theorem byX (hB : Tp B n) (hm : TM B n m) (fr : Nat) (so va fa wr : Int32) {p : Nat} (hp : p < 2 ^ 31) (ps : Nat) : semZ shP wS (d + 1) 108 [.ref 68, .int (nI p)] (pm m ps fr so va fa wr) = some (some (.int (B p)), pm m ps fr so va fa wr) := by
  rw [t_byteAt wS d m fr so va fa wr (hTm hB hm) hp ps, bA_B hB hm hp]
theorem tk8x (hB : Tp B n) (hm : TM B n m) (fr : Nat) (so va fa wr : Int32) : ∀ (k p : Nat), p + k = 160 → rn shP tb0 mN mO (semZ shP wS (d + 1)) none (codeZ 113) 8 [.ref 68, noV] [] (pm m p fr so va fa wr) = rn shP tb0 mN mO (semZ shP wS (d + 1)) none (codeZ 113) 34 [.ref 68, noV] [] (pm m (skp B k p) fr so va fa wr) := by
  have h160 := hB.1
  intro k
  induction k with
  | zero =>
    intro p hp
    have e := hB.2.1 p (by omega)
    have e2 : ¬ (-1 : Int32) = 32 := by decide
    rw [r_X7_takes_8]
    simp only [EV, LV, CB, OI, OL, NP, CZ, popN, CT, OZ, List.map_nil, List.map_cons, List.sum_nil, List.sum_cons, Option.toList, List.nil_append, List.cons_append, Int.reduceToNat, Nat.reduceAdd, Nat.reduceLT, Nat.reduceLeDiff, List.length_cons, List.length_nil, Nat.zero_add, if_true, if_false, reduceIte, and_self, and_true, true_and, eq_self, reduceCtorEq, C68, G68, byX wS d hB hm fr so va fa wr (by omega : p < 2 ^ 31), e, e2, not_false_eq_true, skp]
  | succ k ih =>
    intro p hp
    rw [r_X7_takes_8]
    by_cases h : B p = 32
    · simp only [EV, LV, CB, OI, OL, NP, CZ, popN, CT, OZ, List.map_nil, List.map_cons, List.sum_nil, List.sum_cons, Option.toList, List.nil_append, List.cons_append, Int.reduceToNat, Nat.reduceAdd, Nat.reduceLT, Nat.reduceLeDiff, List.length_cons, List.length_nil, Nat.zero_add, if_true, if_false, reduceIte, and_self, and_true, true_and, eq_self, reduceCtorEq, C68, G68, P68, byX wS d hB hm fr so va fa wr (by omega : p < 2 ^ 31), h, nI_1, pm_w10, not_true_eq_false, skp]
      exact ih (p + 1) (by omega)
    · simp only [EV, LV, CB, OI, OL, NP, CZ, popN, CT, OZ, List.map_nil, List.map_cons, List.sum_nil, List.sum_cons, Option.toList, List.nil_append, List.cons_append, Int.reduceToNat, Nat.reduceAdd, Nat.reduceLT, Nat.reduceLeDiff, List.length_cons, List.length_nil, Nat.zero_add, if_true, if_false, reduceIte, and_self, and_true, true_and, eq_self, reduceCtorEq, C68, G68, byX wS d hB hm fr so va fa wr (by omega : p < 2 ^ 31), h, not_false_eq_true, skp]
theorem tk82x (hB : Tp B n) (hm : TM B n m) (fr : Nat) (so va fa wr c : Int32) : ∀ (k p : Nat), p + k = 160 → rn shP tb0 mN mO (semZ shP wS (d + 1)) none (codeZ 113) 82 [.ref 68, .int c] [] (pm m p fr so va fa wr) = some (none, pm m (rng B 97 122 k p) fr so va fa wr) := by
  have h160 := hB.1
  have e10 : ¬ (1 : Int32) = 0 := by decide
  intro k
  induction k with
  | zero =>
    intro p hp
    have e : ¬ (97 ≤ B p ∧ B p ≤ 122) := Tp_no hB (by omega) (by decide)
    rw [r_X7_takes_82]
    simp only [EV, LV, CB, OI, OL, NP, CZ, popN, CT, OZ, List.map_nil, List.map_cons, List.sum_nil, List.sum_cons, Option.toList, List.nil_append, List.cons_append, Int.reduceToNat, Nat.reduceAdd, Nat.reduceLT, Nat.reduceLeDiff, List.length_cons, List.length_nil, Nat.zero_add, if_true, if_false, reduceIte, and_self, and_true, true_and, eq_self, reduceCtorEq, C68, G68, byX wS d hB hm fr so va fa wr (by omega : p < 2 ^ 31), t_in wS d, dA, e, decide_false, bI_f, r_X7_takes_274, rng]
  | succ k ih =>
    intro p hp
    rw [r_X7_takes_82]
    by_cases h : 97 ≤ B p ∧ B p ≤ 122
    · unfold rng
      rw [if_pos h]
      simp only [EV, LV, CB, OI, OL, NP, CZ, popN, CT, OZ, List.map_nil, List.map_cons, List.sum_nil, List.sum_cons, Option.toList, List.nil_append, List.cons_append, Int.reduceToNat, Nat.reduceAdd, Nat.reduceLT, Nat.reduceLeDiff, List.length_cons, List.length_nil, Nat.zero_add, if_true, if_false, reduceIte, and_self, and_true, true_and, eq_self, reduceCtorEq, C68, G68, P68, byX wS d hB hm fr so va fa wr (by omega : p < 2 ^ 31), t_in wS d, dA, decide_eq_true h, bI_t, e10, nI_1, pm_w10]
      exact ih (p + 1) (by omega)
    · rw [rng_no h]
      simp only [EV, LV, CB, OI, OL, NP, CZ, popN, CT, OZ, List.map_nil, List.map_cons, List.sum_nil, List.sum_cons, Option.toList, List.nil_append, List.cons_append, Int.reduceToNat, Nat.reduceAdd, Nat.reduceLT, Nat.reduceLeDiff, List.length_cons, List.length_nil, Nat.zero_add, if_true, if_false, reduceIte, and_self, and_true, true_and, eq_self, reduceCtorEq, C68, G68, byX wS d hB hm fr so va fa wr (by omega : p < 2 ^ 31), t_in wS d, dA, decide_eq_false h, bI_f, r_X7_takes_274]
theorem tk140x (hB : Tp B n) (hm : TM B n m) (s : Nat) (so fa wr c : Int32) : ∀ (k p : Nat), p + k = 160 → s ≤ p → rn shP tb0 mN mO (semZ shP wS (d + 1)) none (codeZ 113) 140 [.ref 68, .int c] [] (pm m p s so (vq B s p) fa wr) = rn shP tb0 mN mO (semZ shP wS (d + 1)) none (codeZ 113) 217 [.ref 68, .int c] [] (pm m (rng B 48 57 k p) s so (vq B s (rng B 48 57 k p)) fa wr) := by
  have h160 := hB.1
  have e10 : ¬ (1 : Int32) = 0 := by decide
  intro k
  induction k with
  | zero =>
    intro p hp hs
    have e : ¬ (48 ≤ B p ∧ B p ≤ 57) := Tp_no hB (by omega) (by decide)
    rw [r_X7_takes_140]
    simp only [EV, LV, CB, OI, OL, NP, CZ, popN, CT, OZ, List.map_nil, List.map_cons, List.sum_nil, List.sum_cons, Option.toList, List.nil_append, List.cons_append, Int.reduceToNat, Nat.reduceAdd, Nat.reduceLT, Nat.reduceLeDiff, List.length_cons, List.length_nil, Nat.zero_add, if_true, if_false, reduceIte, and_self, and_true, true_and, eq_self, reduceCtorEq, C68, G68, byX wS d hB hm s so (vq B s p) fa wr (by omega : p < 2 ^ 31), t_in wS d, dD, decide_eq_false e, bI_f, rng]
  | succ k ih =>
    intro p hp hs
    rw [r_X7_takes_140]
    by_cases h : 48 ≤ B p ∧ B p ≤ 57
    · unfold rng
      rw [if_pos h]
      have es := nI_sub (a := p) (b := s) hs
      by_cases h2 : s + 2 ≤ p
      · have e2 : (2 : Int32) ≤ nI (p - s) := nI_le (a := 2) (by omega) (by omega)
        simp only [EV, LV, CB, OI, OL, NP, CZ, popN, CT, OZ, List.map_nil, List.map_cons, List.sum_nil, List.sum_cons, Option.toList, List.nil_append, List.cons_append, Int.reduceToNat, Nat.reduceAdd, Nat.reduceLT, Nat.reduceLeDiff, List.length_cons, List.length_nil, Nat.zero_add, if_true, if_false, reduceIte, and_self, and_true, true_and, eq_self, reduceCtorEq, C68, G68, byX wS d hB hm s so (vq B s p) fa wr (by omega : p < 2 ^ 31), t_in wS d, dD, decide_eq_true h, bI_t, e10, es, e2, r_X7_takes_197, P68, pm_w13, nI_1, pm_w10]
        rw [vq_far B h2]
        exact ih (p + 1) (by omega) (by omega)
      · have e2 : ¬ (2 : Int32) ≤ nI (p - s) := nI_ge (b := 2) (by omega) (by omega)
        simp only [EV, LV, CB, OI, OL, NP, CZ, popN, CT, OZ, List.map_nil, List.map_cons, List.sum_nil, List.sum_cons, Option.toList, List.nil_append, List.cons_append, Int.reduceToNat, Nat.reduceAdd, Nat.reduceLT, Nat.reduceLeDiff, List.length_cons, List.length_nil, Nat.zero_add, if_true, if_false, reduceIte, and_self, and_true, true_and, eq_self, reduceCtorEq, C68, G68, byX wS d hB hm s so (vq B s p) fa wr (by omega : p < 2 ^ 31), t_in wS d, dD, decide_eq_true h, bI_t, e10, es, e2, r_X7_takes_201, P68, pm_w13, nI_1, pm_w10]
        rw [vq_step B hs (by omega)]
        exact ih (p + 1) (by omega) (by omega)
    · rw [rng_no h]
      simp only [EV, LV, CB, OI, OL, NP, CZ, popN, CT, OZ, List.map_nil, List.map_cons, List.sum_nil, List.sum_cons, Option.toList, List.nil_append, List.cons_append, Int.reduceToNat, Nat.reduceAdd, Nat.reduceLT, Nat.reduceLeDiff, List.length_cons, List.length_nil, Nat.zero_add, if_true, if_false, reduceIte, and_self, and_true, true_and, eq_self, reduceCtorEq, C68, G68, byX wS d hB hm s so (vq B s p) fa wr (by omega : p < 2 ^ 31), t_in wS d, dD, decide_eq_false h, bI_f]
theorem t_takesX (hB : Tp B n) (hm : TM B n m) {p : Nat} (hp : p ≤ n) (fr : Nat) (so va wr : Int32) : semZ shP wS (d + 2) 113 [.ref 68] (pm m p fr so va 0 wr) = some (none, pm m (lx B p).2.2 (lx B p).2.1 (soX B (lx B p).2.1) (vaX B (lx B p).2.1 (lx B p).2.2 va) (if (lx B p).1 = 4 then 1 else 0) (if (lx B p).1 = 4 then nI (lx B p).2.1 else wr)) := by
  have h160 := hB.1
  have e00 : (0 : Int32) ≤ 0 := by decide
  have e10 : ¬ (1 : Int32) = 0 := by decide
  have b := skp_n hB (160 - p) p hp
  rw [se_X7_takes, r_X7_takes_0]
  simp only [EV, LV, CB, OI, OL, NP, CZ, popN, CT, OZ, List.map_nil, List.map_cons, List.sum_nil, List.sum_cons, Option.toList, List.nil_append, List.cons_append, Int.reduceToNat, Nat.reduceAdd, Nat.reduceLT, Nat.reduceLeDiff, List.length_cons, List.length_nil, Nat.zero_add, if_true, if_false, reduceIte, and_self, and_true, true_and, eq_self, reduceCtorEq, G68, e00]
  rw [tk8x wS d hB hm fr so va 0 wr (160 - p) p (by omega), r_X7_takes_34]
  unfold lx
  generalize skp B (160 - p) p = s at b
  unfold lxA soX vaX
  by_cases h1 : B s < 0
  · have e1 : ¬ 0 ≤ B s := Int32.not_le.mpr h1
    have e2 : ¬ (48 ≤ B s ∧ B s ≤ 57) := fun z => absurd (Int32.le_trans (by decide) z.1) e1
    have e04 : ¬ (0 : Nat) = 4 := by decide
    simp only [EV, LV, CB, OI, OL, NP, CZ, popN, CT, OZ, List.map_nil, List.map_cons, List.sum_nil, List.sum_cons, Option.toList, List.nil_append, List.cons_append, Int.reduceToNat, Nat.reduceAdd, Nat.reduceLT, Nat.reduceLeDiff, List.length_cons, List.length_nil, Nat.zero_add, if_true, if_false, reduceIte, and_self, and_true, true_and, eq_self, reduceCtorEq, C68, G68, P68, pm_w11, pm_w12, byX wS d hB hm s so va 0 wr (by omega : s < 2 ^ 31), e1, h1, e2, e04, r_X7_takes_274]
  · have e1 : 0 ≤ B s := Int32.not_lt.mp h1
    by_cases h2 : 97 ≤ B s ∧ B s ≤ 122
    · have e2 : ¬ (48 ≤ B s ∧ B s ≤ 57) := fun z => absurd (Int32.le_trans h2.1 z.2) (by decide)
      have e14 : ¬ (1 : Nat) = 4 := by decide
      simp only [EV, LV, CB, OI, OL, NP, CZ, popN, CT, OZ, List.map_nil, List.map_cons, List.sum_nil, List.sum_cons, Option.toList, List.nil_append, List.cons_append, Int.reduceToNat, Nat.reduceAdd, Nat.reduceLT, Nat.reduceLeDiff, List.length_cons, List.length_nil, Nat.zero_add, if_true, if_false, reduceIte, and_self, and_true, true_and, eq_self, reduceCtorEq, C68, G68, P68, pm_w11, pm_w12, byX wS d hB hm s so va 0 wr (by omega : s < 2 ^ 31), e1, h1, e2, h2, e14, r_X7_takes_63, t_in wS d, dA, decide_true, bI_t, e10, tk82x wS d hB hm s 1 va 0 wr (B s) (160 - s) s (by omega)]
    · by_cases h3 : 48 ≤ B s ∧ B s ≤ 57
      · have u := rng_le B 48 57 (160 - s) s
        have es := nI_sub (a := rng B 48 57 (160 - s) s) (b := s) (by omega)
        have k := tk140x wS d hB hm s 2 0 wr (B s) (160 - s) s (by omega) (Nat.le_refl _)
        rw [vq_s] at k
        simp only [EV, LV, CB, OI, OL, NP, CZ, popN, CT, OZ, List.map_nil, List.map_cons, List.sum_nil, List.sum_cons, Option.toList, List.nil_append, List.cons_append, Int.reduceToNat, Nat.reduceAdd, Nat.reduceLT, Nat.reduceLeDiff, List.length_cons, List.length_nil, Nat.zero_add, if_true, if_false, reduceIte, and_self, and_true, true_and, eq_self, reduceCtorEq, C68, G68, P68, pm_w11, pm_w12, pm_w13, byX wS d hB hm s so va 0 wr (by omega : s < 2 ^ 31), e1, h1, h2, h3, r_X7_takes_63, r_X7_takes_116, t_in wS d, dA, dD, decide_true, decide_false, bI_t, bI_f, e10, k, r_X7_takes_217, es]
        by_cases h4 : rng B 48 57 (160 - s) s ≤ s + 2
        · have e4 : ¬ (2 : Int32) < nI (rng B 48 57 (160 - s) s - s) := nI_nlt (a := 2) (by omega) (by omega)
          have e24 : ¬ (2 : Nat) = 4 := by decide
          simp only [EV, LV, CB, OI, OL, NP, CZ, popN, CT, OZ, List.map_nil, List.map_cons, List.sum_nil, List.sum_cons, Option.toList, List.nil_append, List.cons_append, Int.reduceToNat, Nat.reduceAdd, Nat.reduceLT, Nat.reduceLeDiff, List.length_cons, List.length_nil, Nat.zero_add, if_true, if_false, reduceIte, and_self, and_true, true_and, eq_self, reduceCtorEq, e4, h4, e24, r_X7_takes_236, C68, t_needs wS d, e10, false_and, r_X7_takes_274]
        · have e4 : (2 : Int32) < nI (rng B 48 57 (160 - s) s - s) := nI_lt (a := 2) (by omega) (by omega)
          simp only [EV, LV, CB, OI, OL, NP, CZ, popN, CT, OZ, List.map_nil, List.map_cons, List.sum_nil, List.sum_cons, Option.toList, List.nil_append, List.cons_append, Int.reduceToNat, Nat.reduceAdd, Nat.reduceLT, Nat.reduceLeDiff, List.length_cons, List.length_nil, Nat.zero_add, if_true, if_false, reduceIte, and_self, and_true, true_and, eq_self, reduceCtorEq, e4, h4, r_X7_takes_235, C68, t_needs wS d, r_X7_takes_274]
      · by_cases h4 : B s = 59
        · have e34 : ¬ (3 : Nat) = 4 := by decide
          have h4 := eq_true h4
          simp only [EV, LV, CB, OI, OL, NP, CZ, popN, CT, OZ, List.map_nil, List.map_cons, List.sum_nil, List.sum_cons, Option.toList, List.nil_append, List.cons_append, Int.reduceToNat, Nat.reduceAdd, Nat.reduceLT, Nat.reduceLeDiff, List.length_cons, List.length_nil, Nat.zero_add, if_true, if_false, reduceIte, and_self, and_true, true_and, eq_self, reduceCtorEq, C68, G68, P68, pm_w10, pm_w11, pm_w12, pm_w13, byX wS d hB hm s so va 0 wr (by omega : s < 2 ^ 31), e1, h1, h2, h3, r_X7_takes_63, r_X7_takes_116, r_X7_takes_243, t_in wS d, dA, dD, decide_false, bI_f, h4, not_true_eq_false, r_X7_takes_260, t_needs wS d, e10, false_and, nI_1, e34]
        · simp only [EV, LV, CB, OI, OL, NP, CZ, popN, CT, OZ, List.map_nil, List.map_cons, List.sum_nil, List.sum_cons, Option.toList, List.nil_append, List.cons_append, Int.reduceToNat, Nat.reduceAdd, Nat.reduceLT, Nat.reduceLeDiff, List.length_cons, List.length_nil, Nat.zero_add, if_true, if_false, reduceIte, and_self, and_true, true_and, eq_self, reduceCtorEq, C68, G68, P68, pm_w10, pm_w11, pm_w12, pm_w13, byX wS d hB hm s so va 0 wr (by omega : s < 2 ^ 31), e1, h1, h2, h3, r_X7_takes_63, r_X7_takes_116, r_X7_takes_243, t_in wS d, dA, dD, decide_false, bI_f, h4, not_false_eq_true, r_X7_takes_259, t_needs wS d, nI_1]
end Lm
end
section
/-! A LINE: what it tells, or its fault and the place -/
/-- is the name s to e the word j -/
def nmX (B : Nat → Int32) (s e j : Nat) : Bool := decide (e = s + lenS.getD j 0) && (List.range (lenS.getD j 0)).all (fun i => decide (B (s + i) = chS j i))
/-- which line the name begins (8: none) -/
def lnX (B : Nat → Int32) (s e : Nat) : Nat := if nmX B s e 0 = true then 0 else if nmX B s e 1 = true then 1 else if nmX B s e 2 = true then 2 else if nmX B s e 3 = true then 3 else if nmX B s e 4 = true then 4 else if nmX B s e 5 = true then 5 else if nmX B s e 6 = true then 6 else if nmX B s e 7 = true then 7 else 8
theorem lnX_le (B : Nat → Int32) (s e : Nat) : lnX B s e ≤ 8 := by
  unfold lnX
  (repeat' split) <;> omega
theorem nm_apart : ∀ i, i < 8 → ∀ j, j < 8 → i ≠ j → lenS.getD i 0 ≠ lenS.getD j 0 ∨ ∃ k, k < 4 ∧ k < lenS.getD i 0 ∧ k < lenS.getD j 0 ∧ chS i k ≠ chS j k := by decide +kernel
theorem nm_one {B : Nat → Int32} {s e i j : Nat} (hi : i < 8) (hj : j < 8) (h1 : nmX B s e i = true) (h2 : nmX B s e j = true) : i = j := by
  by_cases h : i = j
  · exact h
  · unfold nmX at h1 h2
    simp only [Bool.and_eq_true, decide_eq_true_eq] at h1 h2
    rcases nm_apart i hi j hj h with q | ⟨k, -, k1, k2, k3⟩
    · omega
    · have a := List.all_eq_true.mp h1.2 k (List.mem_range.mpr k1)
      have b := List.all_eq_true.mp h2.2 k (List.mem_range.mpr k2)
      simp only [decide_eq_true_eq] at a b
      exact absurd (a.symm.trans b) k3
theorem lnX_is {B : Nat → Int32} {s e j : Nat} (hj : j < 8) (h : nmX B s e j = true) : lnX B s e = j := by
  unfold lnX
  by_cases c0 : nmX B s e 0 = true
  · rw [if_pos c0]; exact nm_one (by omega) hj c0 h
  rw [if_neg c0]
  by_cases c1 : nmX B s e 1 = true
  · rw [if_pos c1]; exact nm_one (by omega) hj c1 h
  rw [if_neg c1]
  by_cases c2 : nmX B s e 2 = true
  · rw [if_pos c2]; exact nm_one (by omega) hj c2 h
  rw [if_neg c2]
  by_cases c3 : nmX B s e 3 = true
  · rw [if_pos c3]; exact nm_one (by omega) hj c3 h
  rw [if_neg c3]
  by_cases c4 : nmX B s e 4 = true
  · rw [if_pos c4]; exact nm_one (by omega) hj c4 h
  rw [if_neg c4]
  by_cases c5 : nmX B s e 5 = true
  · rw [if_pos c5]; exact nm_one (by omega) hj c5 h
  rw [if_neg c5]
  by_cases c6 : nmX B s e 6 = true
  · rw [if_pos c6]; exact nm_one (by omega) hj c6 h
  rw [if_neg c6]
  by_cases c7 : nmX B s e 7 = true
  · rw [if_pos c7]; exact nm_one (by omega) hj c7 h
  · match j, hj with
    | 0, _ => exact absurd h c0
    | 1, _ => exact absurd h c1
    | 2, _ => exact absurd h c2
    | 3, _ => exact absurd h c3
    | 4, _ => exact absurd h c4
    | 5, _ => exact absurd h c5
    | 6, _ => exact absurd h c6
    | 7, _ => exact absurd h c7
theorem lnX_no {B : Nat → Int32} {s e j : Nat} (hj : j < 8) (h : lnX B s e ≠ j) : nmX B s e j = false := by
  cases q : nmX B s e j with
  | false => rfl
  | true => exact absurd (lnX_is hj q) h
theorem lnX_yes {B : Nat → Int32} {s e j : Nat} (hj : j < 8) (h : lnX B s e = j) : nmX B s e j = true := by
  unfold lnX at h
  (repeat' split at h) <;> first | (subst h; assumption) | omega
/-- the fault of a token that can't stand there -/
def bad (t : Nat) : Int32 := if t = 4 then 1 else 2
abbrev Flt : Type := Int32 × Nat
/-- a number: its bounds, may it be 0 -/
def num1 (B : Nat → Int32) (hi : Int32) (z : Bool) (p : Nat) : Flt ⊕ (Int32 × Nat) :=
  if (lx B p).1 = 2 then (if hi < vq B (lx B p).2.1 (lx B p).2.2 ∨ (z = true ∧ vq B (lx B p).2.1 (lx B p).2.2 = 0) then .inl (3, (lx B p).2.1) else .inr (vq B (lx B p).2.1 (lx B p).2.2, (lx B p).2.2))
  else .inl (bad (lx B p).1, (lx B p).2.1)
def stp (B : Nat → Int32) (p : Nat) : Flt ⊕ Nat := if (lx B p).1 = 3 then .inr (lx B p).2.2 else .inl (bad (lx B p).1, (lx B p).2.1)
/-- the next place, villages, bodies, cells, what was told (bits 0 to 2: price, fine, round) -/
abbrev Lin : Type := Nat × Nat × Nat × (Nat → Int32) × Nat
def liV (B : Nat → Int32) (p V N : Nat) (f : Nat → Int32) (c : Nat) : Flt ⊕ Lin := match num1 B 99 false p with
  | .inl x => .inl x
  | .inr (a, p1) => match num1 B 9 false p1 with
    | .inl x => .inl x
    | .inr (b, p2) => match stp B p2 with
      | .inl x => .inl x
      | .inr p3 => .inr (p3, V + 1, N, upd (upd f (2 * V) a) (2 * V + 1) b, c)
def bdF (f : Nat → Int32) (N : Nat) (k a b e : Int32) : Nat → Int32 := upd (upd (upd (upd (upd f (8 + 5 * N) k) (8 + 5 * N + 1) a) (8 + 5 * N + 2) b) (8 + 5 * N + 3) e) 38 (nI (N + 1))
def liB (B : Nat → Int32) (k : Int32) (p V N : Nat) (f : Nat → Int32) (c : Nat) : Flt ⊕ Lin := match num1 B 3 false p with
  | .inl x => .inl x
  | .inr (a, p1) => match num1 B 9 false p1 with
    | .inl x => .inl x
    | .inr (b, p2) => match num1 B 9 false p2 with
      | .inl x => .inl x
      | .inr (e, p3) => match stp B p3 with
        | .inl x => .inl x
        | .inr p4 => .inr (p4, V, N + 1, bdF f N k a b e, c)
def liS (B : Nat → Int32) (cell : Nat) (hi : Int32) (z : Bool) (bit : Nat) (p V N : Nat) (f : Nat → Int32) (c : Nat) : Flt ⊕ Lin := match num1 B hi z p with
  | .inl x => .inl x
  | .inr (a, p1) => match stp B p1 with
    | .inl x => .inl x
    | .inr p2 => .inr (p2, V, N, upd f cell a, c + bit)
/-- was it told -/
def toldX (c k : Nat) : Bool := (k == 5 && c % 2 == 1) || (k == 6 && c / 2 % 2 == 1) || (k == 7 && c / 4 % 2 == 1)
def noRoom (k V N : Nat) : Bool := (k == 0 && Nat.ble 4 V) || (Nat.ble 1 k && Nat.ble k 4 && Nat.ble 6 N)
/-- the line of kind k, its numbers from p on -/
def liK (B : Nat → Int32) (k p V N : Nat) (f : Nat → Int32) (c : Nat) : Flt ⊕ Lin := match k with
  | 0 => liV B p V N f c
  | 1 => liB B 0 p V N f c
  | 2 => liB B 1 p V N f c
  | 3 => liB B 2 p V N f c
  | 4 => liB B 3 p V N f c
  | 5 => liS B 39 20 false 1 p V N f c
  | 6 => liS B 40 60 false 2 p V N f c
  | _ => liS B 41 9 true 4 p V N f c
/-- a line, from p on -/
def line (B : Nat → Int32) (p V N : Nat) (f : Nat → Int32) (c : Nat) : Flt ⊕ Lin :=
  if (lx B p).1 = 1 then
    (if lnX B (lx B p).2.1 (lx B p).2.2 = 8 then .inl (2, (lx B p).2.1)
    else if toldX c (lnX B (lx B p).2.1 (lx B p).2.2) = true then .inl (4, (lx B p).2.1)
    else if noRoom (lnX B (lx B p).2.1 (lx B p).2.2) V N = true then .inl (5, (lx B p).2.1)
    else liK B (lnX B (lx B p).2.1 (lx B p).2.2) (lx B p).2.2 V N f c)
  else .inl (bad (lx B p).1, (lx B p).2.1)
/-- the bits of what was told -/
def tlV (c : Nat) : Int32 := nI (32 * c)
theorem tl_is : ∀ c, c < 8 → ∀ k, k < 8 → ((tlV c >>> (nI k &&& 31)) &&& 1 = 1 ↔ toldX c k = true) ∧ ((tlV c >>> (nI k &&& 31)) &&& 1 = 0 ↔ toldX c k = false) := by decide +kernel
theorem tl_or : ∀ c, c < 8 → ∀ k, k < 8 → 5 ≤ k → toldX c k = false → tlV c ||| (1 <<< (nI k &&& 31)) = tlV (c + 2 ^ (k - 5)) ∧ c + 2 ^ (k - 5) < 8 := by decide +kernel
/-- lines from p on, at most q of them: a fault and its place; or how many, and what they tell -/
def prs (B : Nat → Int32) : Nat → Nat → Nat → Nat → Nat → (Nat → Int32) → Nat → Flt ⊕ (Nat × Nat × Nat × (Nat → Int32))
  | 0, _, _, _, _, _, _ => .inl (0, 0)
  | q + 1, p, L, V, N, f, c => if (lx B p).1 = 0 then (if (List.range N).all (fun b => decide (f (8 + 5 * b + 1) < nI V)) = true then .inr (L, V, N, f) else .inl (6, (lx B p).2.1))
    else match line B p V N f c with
      | .inl x => .inl x
      | .inr (p', V', N', f', c') => prs B q p' (L + 1) V' N' f' c'
end
section
/-! THE CLASS' LINES, exactly -/
/-- isWord as it is -/
def WX (wS : List Value → Mm → Option Rs) : Prop := ∀ (B : Nat → Int32) (n : Nat) (m : Mm) (s e j : Nat), Tp B n → TC B n m → s ≤ e → e ≤ n → j < 8 → wS [.ref 24, .ref (2000 + j)] (tm m s e) = some (some (.int (bI (nmX B s e j))), tm m s e)
theorem wLp_all (f g : Nat → Int32) : ∀ n k, wLp f g n k = bI ((List.range n).all (fun i => decide (f (k + i) = g (k + i))))
  | 0, k => rfl
  | n + 1, k => by
    unfold wLp
    rw [List.range_succ_eq_map, List.all_cons, List.all_map]
    by_cases h : f k = g k
    · rw [if_pos h, wLp_all f g n (k + 1)]
      have e : decide (f (k + 0) = g (k + 0)) = true := by simpa using h
      rw [e, Bool.true_and]
      congr 2
      funext i
      show _ = decide (f (k + (i + 1)) = g (k + (i + 1)))
      rw [show k + 1 + i = k + (i + 1) by omega]
    · rw [if_neg h]
      have e : decide (f (k + 0) = g (k + 0)) = false := by simpa using h
      rw [e, Bool.false_and]
      rfl
theorem WX_wW : WX wW := by
  intro B n m s e j hB hm hse he hj
  have h160 := hB.1
  have e1 : (tm m s e).1 24 1 = nI s := by
    unfold tm
    rw [setR_s]
    rfl
  have e2 : (tm m s e).1 24 2 = nI e := by
    unfold tm
    rw [setR_s]
    rfl
  have e3 : (tm m s e).1 25 = m.1 25 := setR_n _ _ (by omega)
  have hl := len_lt j hj
  unfold wW
  simp only
  have hc : True ∧ 2000 ≤ 2000 + j ∧ 2000 + j < 2008 ∧ 0 ≤ (nI s).toInt ∧ (nI s).toInt ≤ 160 ∧ 0 ≤ (nI e).toInt ∧ (nI e).toInt ≤ 160 := by
    rw [nI_toInt (show s < 2 ^ 31 by omega), nI_toInt (show e < 2 ^ 31 by omega)]
    refine ⟨trivial, ?_⟩
    omega
  rw [e1, e2, e3, if_pos hc, show 2000 + j - 2000 = j by omega, nI_sub hse, nI_clamp (by omega)]
  congr 4
  have q : (nI (lenS.getD j 0) = nI (e - s)) = (e = s + lenS.getD j 0) := by
    apply propext
    rw [nI_eq (by omega) (by omega)]
    omega
  unfold nmX
  by_cases h : e = s + lenS.getD j 0
  · rw [if_pos (by rw [q]; exact h), wLp_all, decide_eq_true h, Bool.true_and]
    have key : ∀ i ∈ List.range (lenS.getD j 0), decide (m.1 25 (s + (0 + i)) = chS j (0 + i)) = decide (B (s + i) = chS j i) := by
      intro i hi
      rw [Nat.zero_add, hm.2 (s + i) (by have := List.mem_range.mp hi; omega)]
    have : (List.range (lenS.getD j 0)).all (fun i => decide (m.1 25 (s + (0 + i)) = chS j (0 + i))) = (List.range (lenS.getD j 0)).all (fun i => decide (B (s + i) = chS j i)) := by
      rw [Bool.eq_iff_iff, List.all_eq_true, List.all_eq_true]
      exact ⟨fun z i hi => by rw [← key i hi]; exact z i hi, fun z i hi => by rw [key i hi]; exact z i hi⟩
    rw [this]
  · rw [if_neg (by rw [q]; exact h), decide_eq_false h, Bool.false_and]
    rfl
/-! writes beside the tape -/
theorem tm_o (m : Mm) (s p : Nat) {o : Nat} (j : Nat) (x : Int32) (h : o ≠ 24) : wI (tm m s p) o j x = tm (wI m o j x) s p := by
  have e : (wI m o j x).1 24 = m.1 24 := by
    funext i
    rw [wI_at, if_neg (fun z => h z.1.symm)]
  unfold tm
  rw [e]
  refine Prod.ext ?_ rfl
  funext q i
  rw [wI_at, setR_at, setR_at]
  by_cases h4 : q = 24
  · subst h4
    rw [if_neg (fun z => h z.1.symm), if_pos rfl, if_pos rfl]
  · rw [if_neg h4, if_neg h4, wI_at]
theorem tm_at (m : Mm) (s p : Nat) {o : Nat} (h : o ≠ 24) : (tm m s p).1 o = m.1 o := setR_n _ _ h
theorem tm_24 (m : Mm) (s p : Nat) : (tm m s p).1 24 1 = nI s ∧ (tm m s p).1 24 2 = nI p ∧ (tm m s p).1 24 0 = m.1 24 0 := by
  unfold tm
  rw [setR_s]
  exact ⟨rfl, rfl, rfl⟩
/-- what a line may change -/
def FrC (m m' : Mm) : Prop := ∀ o, (o < 10 ∨ 18 < o ∨ o = 13) → o ≠ 23 → o ≠ 26 → m'.1 o = m.1 o
theorem FrC_rf {m : Mm} : FrC m m := fun _ _ _ _ => rfl
theorem FrC_w {m m' : Mm} (h : FrC m m') {o j : Nat} {x : Int32} (ho : (10 ≤ o ∧ o ≤ 18 ∧ o ≠ 13) ∨ o = 23 ∨ o = 26) : FrC m (wI m' o j x) := fun q h1 h2 h3 => by
  rw [wI_n _ _ _ _ (by omega)]
  exact h q h1 h2 h3
theorem TC_fr {B : Nat → Int32} {n : Nat} {m m' : Mm} (h : TC B n m) (hf : FrC m m') : TC B n m' := by
  refine ⟨?_, fun j hj => ?_⟩
  · rw [hf 24 (by omega) (by omega) (by omega)]; exact h.1
  · rw [hf 25 (by omega) (by omega) (by omega)]; exact h.2 j hj
/-- the class's world w as the cells f tell it -/
def CW (w V N : Nat) (f : Nat → Int32) (m : Mm) : Prop := V ≤ 4 ∧ N ≤ 6 ∧ m.1 w 0 = nI V ∧ m.1 w 1 = nI N ∧ f 38 = nI N ∧ m.1 w 2 = f 39 ∧ m.1 w 3 = f 40 ∧ m.1 w 4 = f 41 ∧ m.1 w 5 = f 42 ∧ (∀ g, g < V → m.1 (w + 1) g = f (2 * g) ∧ m.1 (w + 2) g = f (2 * g + 1)) ∧ (∀ b, b < N → m.1 (w + 4) b = f (8 + 5 * b) ∧ m.1 (w + 5) b = f (8 + 5 * b + 1) ∧ m.1 (w + 6) b = f (8 + 5 * b + 2) ∧ m.1 (w + 7) b = f (8 + 5 * b + 3) ∧ m.1 (w + 8) b = f (8 + 5 * b + 4))
section Cl
variable {B : Nat → Int32} {n : Nat} (wS : List Value → Mm → Option Rs) (d : Nat) {m : Mm}
theorem t_expectX (a b : Int32) (h : ¬ a = b) (m : Mm) : semZ shP wS (d + 2) 19 [.ref 23, .int a, .int b] m = some (some (.int 0), wI (wI m 23 1 (if a = 4 then 1 else 2)) 23 2 (m.1 24 1)) := by
  rw [se_X4_expect, r_X4_expect_0]
  by_cases h4 : a = 4
  · simp only [EV, LV, CB, OI, OL, NP, CZ, popN, CT, OZ, List.map_nil, List.map_cons, List.sum_nil, List.sum_cons, Option.toList, List.nil_append, List.cons_append, Int.reduceToNat, Nat.reduceAdd, Nat.reduceLT, Nat.reduceLeDiff, List.length_cons, List.length_nil, Nat.zero_add, if_true, if_false, reduceIte, and_self, and_true, true_and, eq_self, reduceCtorEq, h, h4, not_false_eq_true, not_true_eq_false, r_X4_expect_7, r_X4_expect_18, C23, G23, G24', t_refuse wS d]
    rw [h4] at h
    simp only [EV, LV, CB, OI, OL, NP, CZ, popN, CT, OZ, List.map_nil, List.map_cons, List.sum_nil, List.sum_cons, Option.toList, List.nil_append, List.cons_append, Int.reduceToNat, Nat.reduceAdd, Nat.reduceLT, Nat.reduceLeDiff, List.length_cons, List.length_nil, Nat.zero_add, if_true, if_false, reduceIte, and_self, and_true, true_and, eq_self, reduceCtorEq, h, not_false_eq_true, not_true_eq_false, r_X4_expect_7, r_X4_expect_18, C23, G23, G24', t_refuse wS d]
  · simp only [EV, LV, CB, OI, OL, NP, CZ, popN, CT, OZ, List.map_nil, List.map_cons, List.sum_nil, List.sum_cons, Option.toList, List.nil_append, List.cons_append, Int.reduceToNat, Nat.reduceAdd, Nat.reduceLT, Nat.reduceLeDiff, List.length_cons, List.length_nil, Nat.zero_add, if_true, if_false, reduceIte, and_self, and_true, true_and, eq_self, reduceCtorEq, h, h4, not_false_eq_true, r_X4_expect_7, r_X4_expect_17, C23, G23, G24', t_refuse wS d]
/-- a token that is not wanted -/
theorem t_exN {p : Nat} (hB : Tp B n) (hp : p ≤ n) {b : Nat} (hb : b ≤ 4) (h : ¬ (lx B p).1 = b) (m : Mm) : semZ shP wS (d + 2) 19 [.ref 23, .int (nI (lx B p).1), .int (nI b)] (tm m (lx B p).2.1 (lx B p).2.2) = some (some (.int 0), tm (wI (wI m 23 1 (bad (lx B p).1)) 23 2 (nI (lx B p).2.1)) (lx B p).2.1 (lx B p).2.2) := by
  have hl := (lx_b hB hp).2.2.2.1
  have e1 : ¬ nI (lx B p).1 = nI b := fun z => h ((nI_eq (by omega) (by omega)).mp z)
  have e2 : (if nI (lx B p).1 = 4 then 1 else 2 : Int32) = bad (lx B p).1 := by
    unfold bad
    have q : (nI (lx B p).1 = 4) = ((lx B p).1 = 4) := propext (nI_eq (b := 4) (by omega) (by omega))
    simp only [q]
  rw [t_expectX wS d _ _ e1, e2, (tm_24 m _ _).1, tm_o _ _ _ _ _ (by omega), tm_o _ _ _ _ _ (by omega)]
theorem t_exY (a : Nat) (m : Mm) : semZ shP wS (d + 1) 19 [.ref 23, .int (nI a), .int (nI a)] m = some (some (.int 1), m) := t_expect_y wS d (nI a) m
def mst (k i : Nat) : Int32 := if k = 0 then (if i = 0 then 99 else 9) else if k = 5 then 20 else if k = 6 then 60 else if k = 7 then 9 else if i = 0 then 3 else 9
theorem sw_mostX : ∀ k, k < 8 → swT 69 0 7 #[48, 69, 69, 69, 69, 60, 63, 66] (nI k) = ([48, 69, 69, 69, 69, 60, 63, 66] : List Nat).getD k 69 := by decide +kernel
theorem t_mostX {k i : Nat} (hk : k < 8) (hi : i < 3) (m : Mm) : semZ shP wS (d + 1) 16 [.int (nI k), .int (nI i)] m = some (some (.int (mst k i)), m) := by
  have q : (nI i = 0) = (i = 0) := propext (nI_eq (b := 0) (by omega) (by omega))
  rw [se_X4_most, r_X4_most_0]
  simp only [EV, LV, CB, OI, OL, NP, CZ, popN, CT, OZ, List.map_nil, List.map_cons, List.sum_nil, List.sum_cons, Option.toList, List.nil_append, List.cons_append, Int.reduceToNat, Nat.reduceAdd, Nat.reduceLT, Nat.reduceLeDiff, List.length_cons, List.length_nil, Nat.zero_add, if_true, if_false, reduceIte, and_self, and_true, true_and, eq_self, reduceCtorEq, sw_mostX k hk]
  match k, hk with
  | 0, _ =>
    show rn shP tb0 mN mO (semZ shP wS d) (some .int) (codeZ 16) 48 [.int (nI 0), .int (nI i)] [] m = _
    by_cases h : i = 0
    · subst h
      simp only [EV, LV, CB, OI, OL, NP, CZ, popN, CT, OZ, List.map_nil, List.map_cons, List.sum_nil, List.sum_cons, Option.toList, List.nil_append, List.cons_append, Int.reduceToNat, Nat.reduceAdd, Nat.reduceLT, Nat.reduceLeDiff, List.length_cons, List.length_nil, Nat.zero_add, if_true, if_false, reduceIte, and_self, and_true, true_and, eq_self, reduceCtorEq, r_X4_most_48, r_X4_most_59, nI_0, not_true_eq_false]
      rfl
    · simp only [EV, LV, CB, OI, OL, NP, CZ, popN, CT, OZ, List.map_nil, List.map_cons, List.sum_nil, List.sum_cons, Option.toList, List.nil_append, List.cons_append, Int.reduceToNat, Nat.reduceAdd, Nat.reduceLT, Nat.reduceLeDiff, List.length_cons, List.length_nil, Nat.zero_add, if_true, if_false, reduceIte, and_self, and_true, true_and, eq_self, reduceCtorEq, r_X4_most_48, r_X4_most_57, q, h, not_false_eq_true, mst]
  | 1, _ =>
    show rn shP tb0 mN mO (semZ shP wS d) (some .int) (codeZ 16) 69 [.int (nI 1), .int (nI i)] [] m = _
    by_cases h : i = 0
    · subst h
      simp only [EV, LV, CB, OI, OL, NP, CZ, popN, CT, OZ, List.map_nil, List.map_cons, List.sum_nil, List.sum_cons, Option.toList, List.nil_append, List.cons_append, Int.reduceToNat, Nat.reduceAdd, Nat.reduceLT, Nat.reduceLeDiff, List.length_cons, List.length_nil, Nat.zero_add, if_true, if_false, reduceIte, and_self, and_true, true_and, eq_self, reduceCtorEq, r_X4_most_69, r_X4_most_79, nI_0, not_true_eq_false]
      rfl
    · simp only [EV, LV, CB, OI, OL, NP, CZ, popN, CT, OZ, List.map_nil, List.map_cons, List.sum_nil, List.sum_cons, Option.toList, List.nil_append, List.cons_append, Int.reduceToNat, Nat.reduceAdd, Nat.reduceLT, Nat.reduceLeDiff, List.length_cons, List.length_nil, Nat.zero_add, if_true, if_false, reduceIte, and_self, and_true, true_and, eq_self, reduceCtorEq, r_X4_most_69, r_X4_most_77, q, h, not_false_eq_true, mst]; rfl
  | 2, _ =>
    show rn shP tb0 mN mO (semZ shP wS d) (some .int) (codeZ 16) 69 [.int (nI 2), .int (nI i)] [] m = _
    by_cases h : i = 0
    · subst h
      simp only [EV, LV, CB, OI, OL, NP, CZ, popN, CT, OZ, List.map_nil, List.map_cons, List.sum_nil, List.sum_cons, Option.toList, List.nil_append, List.cons_append, Int.reduceToNat, Nat.reduceAdd, Nat.reduceLT, Nat.reduceLeDiff, List.length_cons, List.length_nil, Nat.zero_add, if_true, if_false, reduceIte, and_self, and_true, true_and, eq_self, reduceCtorEq, r_X4_most_69, r_X4_most_79, nI_0, not_true_eq_false]
      rfl
    · simp only [EV, LV, CB, OI, OL, NP, CZ, popN, CT, OZ, List.map_nil, List.map_cons, List.sum_nil, List.sum_cons, Option.toList, List.nil_append, List.cons_append, Int.reduceToNat, Nat.reduceAdd, Nat.reduceLT, Nat.reduceLeDiff, List.length_cons, List.length_nil, Nat.zero_add, if_true, if_false, reduceIte, and_self, and_true, true_and, eq_self, reduceCtorEq, r_X4_most_69, r_X4_most_77, q, h, not_false_eq_true, mst]; rfl
  | 3, _ =>
    show rn shP tb0 mN mO (semZ shP wS d) (some .int) (codeZ 16) 69 [.int (nI 3), .int (nI i)] [] m = _
    by_cases h : i = 0
    · subst h
      simp only [EV, LV, CB, OI, OL, NP, CZ, popN, CT, OZ, List.map_nil, List.map_cons, List.sum_nil, List.sum_cons, Option.toList, List.nil_append, List.cons_append, Int.reduceToNat, Nat.reduceAdd, Nat.reduceLT, Nat.reduceLeDiff, List.length_cons, List.length_nil, Nat.zero_add, if_true, if_false, reduceIte, and_self, and_true, true_and, eq_self, reduceCtorEq, r_X4_most_69, r_X4_most_79, nI_0, not_true_eq_false]
      rfl
    · simp only [EV, LV, CB, OI, OL, NP, CZ, popN, CT, OZ, List.map_nil, List.map_cons, List.sum_nil, List.sum_cons, Option.toList, List.nil_append, List.cons_append, Int.reduceToNat, Nat.reduceAdd, Nat.reduceLT, Nat.reduceLeDiff, List.length_cons, List.length_nil, Nat.zero_add, if_true, if_false, reduceIte, and_self, and_true, true_and, eq_self, reduceCtorEq, r_X4_most_69, r_X4_most_77, q, h, not_false_eq_true, mst]; rfl
  | 4, _ =>
    show rn shP tb0 mN mO (semZ shP wS d) (some .int) (codeZ 16) 69 [.int (nI 4), .int (nI i)] [] m = _
    by_cases h : i = 0
    · subst h
      simp only [EV, LV, CB, OI, OL, NP, CZ, popN, CT, OZ, List.map_nil, List.map_cons, List.sum_nil, List.sum_cons, Option.toList, List.nil_append, List.cons_append, Int.reduceToNat, Nat.reduceAdd, Nat.reduceLT, Nat.reduceLeDiff, List.length_cons, List.length_nil, Nat.zero_add, if_true, if_false, reduceIte, and_self, and_true, true_and, eq_self, reduceCtorEq, r_X4_most_69, r_X4_most_79, nI_0, not_true_eq_false]
      rfl
    · simp only [EV, LV, CB, OI, OL, NP, CZ, popN, CT, OZ, List.map_nil, List.map_cons, List.sum_nil, List.sum_cons, Option.toList, List.nil_append, List.cons_append, Int.reduceToNat, Nat.reduceAdd, Nat.reduceLT, Nat.reduceLeDiff, List.length_cons, List.length_nil, Nat.zero_add, if_true, if_false, reduceIte, and_self, and_true, true_and, eq_self, reduceCtorEq, r_X4_most_69, r_X4_most_77, q, h, not_false_eq_true, mst]; rfl
  | 5, _ =>
    show rn shP tb0 mN mO (semZ shP wS d) (some .int) (codeZ 16) 60 [.int (nI 5), .int (nI i)] [] m = _
    simp only [EV, LV, CB, OI, OL, NP, CZ, popN, CT, OZ, List.map_nil, List.map_cons, List.sum_nil, List.sum_cons, Option.toList, List.nil_append, List.cons_append, Int.reduceToNat, Nat.reduceAdd, Nat.reduceLT, Nat.reduceLeDiff, List.length_cons, List.length_nil, Nat.zero_add, if_true, if_false, reduceIte, and_self, and_true, true_and, eq_self, reduceCtorEq, r_X4_most_60]; rfl
  | 6, _ =>
    show rn shP tb0 mN mO (semZ shP wS d) (some .int) (codeZ 16) 63 [.int (nI 6), .int (nI i)] [] m = _
    simp only [EV, LV, CB, OI, OL, NP, CZ, popN, CT, OZ, List.map_nil, List.map_cons, List.sum_nil, List.sum_cons, Option.toList, List.nil_append, List.cons_append, Int.reduceToNat, Nat.reduceAdd, Nat.reduceLT, Nat.reduceLeDiff, List.length_cons, List.length_nil, Nat.zero_add, if_true, if_false, reduceIte, and_self, and_true, true_and, eq_self, reduceCtorEq, r_X4_most_63]; rfl
  | 7, _ =>
    show rn shP tb0 mN mO (semZ shP wS d) (some .int) (codeZ 16) 66 [.int (nI 7), .int (nI i)] [] m = _
    simp only [EV, LV, CB, OI, OL, NP, CZ, popN, CT, OZ, List.map_nil, List.map_cons, List.sum_nil, List.sum_cons, Option.toList, List.nil_append, List.cons_append, Int.reduceToNat, Nat.reduceAdd, Nat.reduceLT, Nat.reduceLeDiff, List.length_cons, List.length_nil, Nat.zero_add, if_true, if_false, reduceIte, and_self, and_true, true_and, eq_self, reduceCtorEq, r_X4_most_66]; rfl
theorem S26 (i x : Int32) (m : Mm) : asI shP 0 26 i x m = if inR i 3 = true then some (wI m 26 i.toNatClampNeg x) else none := as_of (n := 3) (rs := []) rfl i x m
theorem A26 (i : Int32) (m : Mm) : alI shP tb0 0 26 i m = if inR i 3 = true then some (m.1 26 i.toNatClampNeg) else none := al_of (n := 3) (rs := []) rfl tb0 i m
theorem vq_nn {s e : Nat} (h1 : s < e) (h2 : e ≤ s + 2) (hd : ∀ j, s ≤ j → j < e → 48 ≤ B j ∧ B j ≤ 57) : 0 ≤ (vq B s e).toInt ∧ (vq B s e).toInt ≤ 99 := by
  have c : ∀ x : Int32, 48 ≤ x ∧ x ≤ 57 → (10 * 0 + x - 48).toInt = x.toInt - 48 ∧ 0 ≤ x.toInt - 48 ∧ x.toInt - 48 ≤ 9 := by
    intro x hx
    have a := Int32.le_iff_toInt_le.mp hx.1
    have b := Int32.le_iff_toInt_le.mp hx.2
    rw [show (48 : Int32).toInt = 48 from by decide] at a
    rw [show (57 : Int32).toInt = 57 from by decide] at b
    refine ⟨?_, by omega, by omega⟩
    rw [show (10 : Int32) * 0 + x = x from by rw [show (10 : Int32) * 0 = 0 from by decide, Int32.zero_add], Int32.toInt_sub, show (48 : Int32).toInt = 48 from by decide]
    exact bm32 (by omega) (by omega)
  have a := c (B s) (hd s (Nat.le_refl _) h1)
  unfold vq
  rw [if_neg (by omega)]
  split
  · omega
  · have b := hd (s + 1) (by omega) (by omega)
    have b1 := Int32.le_iff_toInt_le.mp b.1
    have b2 := Int32.le_iff_toInt_le.mp b.2
    rw [show (48 : Int32).toInt = 48 from by decide] at b1
    rw [show (57 : Int32).toInt = 57 from by decide] at b2
    have e : (10 * (10 * 0 + B s - 48) + B (s + 1) - 48).toInt = 10 * ((B s).toInt - 48) + (B (s + 1)).toInt - 48 := by
      rw [Int32.toInt_sub, Int32.toInt_add, Int32.toInt_mul, a.1, show (10 : Int32).toInt = 10 from by decide, show (48 : Int32).toInt = 48 from by decide]
      rw [bm32 (z := 10 * ((B s).toInt - 48)) (by omega) (by omega), bm32 (z := 10 * ((B s).toInt - 48) + (B (s + 1)).toInt) (by omega) (by omega)]
      exact bm32 (by omega) (by omega)
    rw [e]
    omega
/-- one number of a line of kind k -/
theorem tni (hB : Tp B n) (hm : TC B n m) {k many i : Nat} (hk : k < 8) (hi : i < many) (hmn : many ≤ 3) (s0 : Nat) {p : Nat} (hp : p ≤ n) (v4 : Value) : rn shP tb0 mN mO (semZ shP wS (d + 2)) (some .boolean) (codeZ 15) 21 [.ref 23, .int (nI k), .int (nI many), .int (nI i), v4] [] (tm m s0 p) = (match num1 B (mst k i) (k == 7) p with
    | .inl x => some (some (.int 0), tm (wI (wI m 23 1 x.1) 23 2 (nI x.2)) (lx B p).2.1 (lx B p).2.2)
    | .inr y => rn shP tb0 mN mO (semZ shP wS (d + 2)) (some .boolean) (codeZ 15) 21 [.ref 23, .int (nI k), .int (nI many), .int (nI (i + 1)), .int y.1] [] (tm (wI m 26 i y.1) (lx B p).2.1 y.2)) := by
  have h160 := hB.1
  have e10 : ¬ (1 : Int32) = 0 := by decide
  have q1 : ¬ nI many ≤ nI i := nI_ge hi (by omega)
  have hb := lx_b hB hp
  have tk := t_takeX wS d hB hm s0 hp
  have e24 : ∀ m : Mm, gfI shP 301 24 (tm m (lx B p).2.1 (lx B p).2.2) = some (.int (nI (lx B p).2.1)) := fun m => (G24 m _ _).2.2.1
  rw [r_X4_takeNumbers_21]
  unfold num1
  by_cases h2 : (lx B p).1 = 2
  · obtain ⟨n1, n2, n3⟩ := lx_2 hB hp h2
    have nb := t_numberX wS (d + 1) hB hm n1 n2 hb.2.2.1
    have ms := t_mostX wS (d + 1) hk (i := i) (by omega)
    have vb := vq_nn n1 n2 n3
    have ey := t_exY wS (d + 1) 2
    have e2 : inR (nI i) 3 = true := inR_nI (by omega) (by omega)
    have e3 : (nI i).toNatClampNeg = i := nI_clamp (by omega)
    have ey : ∀ m : Mm, semZ shP wS (d + 2) 19 [.ref 23, .int (nI 2), .int 2] m = some (some (.int 1), m) := ey
    rw [h2] at tk
    rw [if_pos h2]
    have k7 : nI k = 7 ↔ k = 7 := nI_eq (b := 7) (by omega) (by omega)
    by_cases c1 : mst k i < vq B (lx B p).2.1 (lx B p).2.2
    · rw [if_pos (Or.inl c1)]
      simp only [EV, LV, CB, OI, OL, NP, CZ, popN, CT, OZ, List.map_nil, List.map_cons, List.sum_nil, List.sum_cons, Option.toList, List.nil_append, List.cons_append, Int.reduceToNat, Nat.reduceAdd, Nat.reduceLT, Nat.reduceLeDiff, List.length_cons, List.length_nil, Nat.zero_add, if_true, if_false, reduceIte, and_self, and_true, true_and, eq_self, reduceCtorEq, q1, C23, C24, G23, tk, ey, e10, not_false_eq_true, r_X4_takeNumbers_43, nb, ms, c1, r_X4_takeNumbers_73, e24, t_refuse wS (d + 1), tm_o _ _ _ _ _ (show (23 : Nat) ≠ 24 by omega)]
    · by_cases c7 : k = 7
      · have k7 := eq_true (k7.mpr c7)
        by_cases c0 : vq B (lx B p).2.1 (lx B p).2.2 = 0
        · rw [if_pos (Or.inr ⟨by rw [c7]; rfl, c0⟩)]
          rw [c0] at nb c1
          simp only [EV, LV, CB, OI, OL, NP, CZ, popN, CT, OZ, List.map_nil, List.map_cons, List.sum_nil, List.sum_cons, Option.toList, List.nil_append, List.cons_append, Int.reduceToNat, Nat.reduceAdd, Nat.reduceLT, Nat.reduceLeDiff, List.length_cons, List.length_nil, Nat.zero_add, if_true, if_false, reduceIte, and_self, and_true, true_and, eq_self, reduceCtorEq, q1, C23, C24, G23, tk, ey, e10, not_false_eq_true, not_true_eq_false, r_X4_takeNumbers_43, nb, ms, c1, k7, e24, t_refuse wS (d + 1), tm_o _ _ _ _ _ (show (23 : Nat) ≠ 24 by omega)]
        · rw [if_neg (fun z => z.elim c1 (fun y => c0 y.2))]
          simp only [EV, LV, CB, OI, OL, NP, CZ, popN, CT, OZ, List.map_nil, List.map_cons, List.sum_nil, List.sum_cons, Option.toList, List.nil_append, List.cons_append, Int.reduceToNat, Nat.reduceAdd, Nat.reduceLT, Nat.reduceLeDiff, List.length_cons, List.length_nil, Nat.zero_add, if_true, if_false, reduceIte, and_self, and_true, true_and, eq_self, reduceCtorEq, q1, C23, C24, G23, tk, ey, e10, not_false_eq_true, not_true_eq_false, r_X4_takeNumbers_43, nb, ms, c1, k7, c0, r_X4_takeNumbers_87, S26, e2, e3, nI_1, tm_o _ _ _ _ _ (show (26 : Nat) ≠ 24 by omega)]
      · have k7 : ¬ nI k = 7 := fun z => c7 (k7.mp z)
        rw [if_neg (fun z => z.elim c1 (fun y => c7 (by simpa using y.1)))]
        simp only [EV, LV, CB, OI, OL, NP, CZ, popN, CT, OZ, List.map_nil, List.map_cons, List.sum_nil, List.sum_cons, Option.toList, List.nil_append, List.cons_append, Int.reduceToNat, Nat.reduceAdd, Nat.reduceLT, Nat.reduceLeDiff, List.length_cons, List.length_nil, Nat.zero_add, if_true, if_false, reduceIte, and_self, and_true, true_and, eq_self, reduceCtorEq, q1, C23, C24, G23, tk, ey, e10, not_false_eq_true, r_X4_takeNumbers_43, nb, ms, c1, k7, r_X4_takeNumbers_87, S26, e2, e3, nI_1, tm_o _ _ _ _ _ (show (26 : Nat) ≠ 24 by omega)]
  · have ex : semZ shP wS (d + 2) 19 [.ref 23, .int (nI (lx B p).1), .int 2] (tm m (lx B p).2.1 (lx B p).2.2) = _ := t_exN wS d hB hp (b := 2) (by omega) h2 m
    rw [if_neg h2]
    simp only [EV, LV, CB, OI, OL, NP, CZ, popN, CT, OZ, List.map_nil, List.map_cons, List.sum_nil, List.sum_cons, Option.toList, List.nil_append, List.cons_append, Int.reduceToNat, Nat.reduceAdd, Nat.reduceLT, Nat.reduceLeDiff, List.length_cons, List.length_nil, Nat.zero_add, if_true, if_false, reduceIte, and_self, and_true, true_and, eq_self, reduceCtorEq, q1, C23, C24, G23, tk, ex, not_true_eq_false]
end Cl
end
section
/-! THE CLASS' LINES, whole -/
/-- a fault of the class's text -/
def FltC (m M : Mm) (x : Flt) : Prop := ∃ (m' : Mm) (s' e' : Nat), M = tm m' s' e' ∧ FrC m m' ∧ m'.1 23 1 = x.1 ∧ m'.1 23 2 = nI x.2
theorem FltC_of {m m' : Mm} (h : FrC m m') (x : Flt) (s' e' : Nat) : FltC m (tm (wI (wI m' 23 1 x.1) 23 2 (nI x.2)) s' e') x := by
  refine ⟨_, _, _, rfl, FrC_w (FrC_w h (by omega)) (by omega), ?_, ?_⟩
  · rw [wI_at, if_neg (by omega), wI_at, if_pos ⟨rfl, rfl⟩]
  · rw [wI_at, if_pos ⟨rfl, rfl⟩]
section Cm
variable {B : Nat → Int32} {n : Nat} (wS : List Value → Mm → Option Rs) (d : Nat) {m : Mm}
theorem t_tn1 (hB : Tp B n) (hm : TC B n m) {k : Nat} (h5 : 5 ≤ k) (hk : k < 8) (s0 : Nat) {p : Nat} (hp : p ≤ n) : ∃ (v : Int32) (M : Mm), semZ shP wS (d + 3) 15 [.ref 23, .int (nI k)] (tm m s0 p) = some (some (.int v), M) ∧ (match num1 B (mst k 0) (k == 7) p with
    | .inl x => v = 0 ∧ FltC m M x
    | .inr y => v = 1 ∧ ∃ s', M = tm (wI m 26 0 y.1) s' y.2) := by
  have h0 : ¬ nI k = 0 := nI_ne0 (by omega) (by omega)
  have h4 : (4 : Int32) < nI k := nI_lt (a := 4) (by omega) (by omega)
  have i0 := tni wS d hB hm hk (many := 1) (i := 0) (by omega) (by omega) s0 hp noV
  have i0 : rn shP tb0 mN mO (semZ shP wS (d + 2)) (some .boolean) (codeZ 15) 21 [.ref 23, .int (nI k), .int 1, .int 0, noV] [] (tm m s0 p) = _ := i0
  rw [se_X4_takeNumbers, r_X4_takeNumbers_0]
  simp only [EV, LV, CB, OI, OL, NP, CZ, popN, CT, OZ, List.map_nil, List.map_cons, List.sum_nil, List.sum_cons, Option.toList, List.nil_append, List.cons_append, Int.reduceToNat, Nat.reduceAdd, Nat.reduceLT, Nat.reduceLeDiff, List.length_cons, List.length_nil, Nat.zero_add, if_true, if_false, reduceIte, and_self, and_true, true_and, eq_self, reduceCtorEq, h0, h4, not_false_eq_true, r_X4_takeNumbers_8, r_X4_takeNumbers_17]
  rw [i0]
  cases e : num1 B (mst k 0) (k == 7) p with
  | inl x => exact ⟨_, _, rfl, rfl, FltC_of FrC_rf x _ _⟩
  | inr y =>
    have q : nI 1 ≤ nI (0 + 1) := Int32.le_refl _
    refine ⟨1, tm (wI m 26 0 y.1) (lx B p).2.1 y.2, ?_, rfl, _, rfl⟩
    simp only
    rw [r_X4_takeNumbers_21]
    simp only [EV, LV, CB, OI, OL, NP, CZ, popN, CT, OZ, List.map_nil, List.map_cons, List.sum_nil, List.sum_cons, Option.toList, List.nil_append, List.cons_append, Int.reduceToNat, Nat.reduceAdd, Nat.reduceLT, Nat.reduceLeDiff, List.length_cons, List.length_nil, Nat.zero_add, if_true, if_false, reduceIte, and_self, and_true, true_and, eq_self, reduceCtorEq, q, r_X4_takeNumbers_101]
theorem num1_p {hi : Int32} {z : Bool} {p : Nat} (hB : Tp B n) (hp : p ≤ n) {y : Int32 × Nat} (h : num1 B hi z p = .inr y) : p < y.2 ∧ y.2 ≤ n := by
  have hb := lx_b hB hp
  unfold num1 at h
  split at h
  · rename_i q
    split at h
    · cases h
    · cases h
      have := hb.2.2.2.2.2 (by omega)
      exact ⟨by show p < (lx B p).2.2; omega, hb.2.2.1⟩
  · cases h
theorem TC_26 (hm : TC B n m) (i : Nat) (x : Int32) : TC B n (wI m 26 i x) := TC_fr hm (FrC_w FrC_rf (by omega))
theorem t_tn2 (hB : Tp B n) (hm : TC B n m) (s0 : Nat) {p : Nat} (hp : p ≤ n) : ∃ (v : Int32) (M : Mm), semZ shP wS (d + 3) 15 [.ref 23, .int (nI 0)] (tm m s0 p) = some (some (.int v), M) ∧ (match num1 B 99 false p with
    | .inl x => v = 0 ∧ FltC m M x
    | .inr y => (match num1 B 9 false y.2 with
      | .inl x => v = 0 ∧ FltC m M x
      | .inr y2 => v = 1 ∧ ∃ s', M = tm (wI (wI m 26 0 y.1) 26 1 y2.1) s' y2.2)) := by
  have h0 : nI 0 = 0 := nI_0
  have i0 := tni wS d hB hm (k := 0) (by omega) (many := 2) (i := 0) (by omega) (by omega) s0 hp noV
  have i0 : rn shP tb0 mN mO (semZ shP wS (d + 2)) (some .boolean) (codeZ 15) 21 [.ref 23, .int (nI 0), .int 2, .int 0, noV] [] (tm m s0 p) = (match num1 B 99 false p with
    | .inl x => some (some (.int 0), tm (wI (wI m 23 1 x.1) 23 2 (nI x.2)) (lx B p).2.1 (lx B p).2.2)
    | .inr y => rn shP tb0 mN mO (semZ shP wS (d + 2)) (some .boolean) (codeZ 15) 21 [.ref 23, .int (nI 0), .int 2, .int (nI 1), .int y.1] [] (tm (wI m 26 0 y.1) (lx B p).2.1 y.2)) := i0
  rw [se_X4_takeNumbers, r_X4_takeNumbers_0]
  simp only [EV, LV, CB, OI, OL, NP, CZ, popN, CT, OZ, List.map_nil, List.map_cons, List.sum_nil, List.sum_cons, Option.toList, List.nil_append, List.cons_append, Int.reduceToNat, Nat.reduceAdd, Nat.reduceLT, Nat.reduceLeDiff, List.length_cons, List.length_nil, Nat.zero_add, if_true, if_false, reduceIte, and_self, and_true, true_and, eq_self, reduceCtorEq, h0, not_true_eq_false, r_X4_takeNumbers_18]
  rw [h0] at i0
  rw [i0]
  cases e : num1 B 99 false p with
  | inl x => exact ⟨_, _, rfl, rfl, FltC_of FrC_rf x _ _⟩
  | inr y =>
    have hy := num1_p hB hp e
    have i1 := tni wS d hB (TC_26 hm 0 y.1) (k := 0) (by omega) (many := 2) (i := 1) (by omega) (by omega) (lx B p).2.1 hy.2 (.int y.1)
    have i1 : rn shP tb0 mN mO (semZ shP wS (d + 2)) (some .boolean) (codeZ 15) 21 [.ref 23, .int 0, .int 2, .int (nI 1), .int y.1] [] (tm (wI m 26 0 y.1) (lx B p).2.1 y.2) = (match num1 B 9 false y.2 with
      | .inl x => some (some (.int 0), tm (wI (wI (wI m 26 0 y.1) 23 1 x.1) 23 2 (nI x.2)) (lx B y.2).2.1 (lx B y.2).2.2)
      | .inr y2 => rn shP tb0 mN mO (semZ shP wS (d + 2)) (some .boolean) (codeZ 15) 21 [.ref 23, .int 0, .int 2, .int (nI 2), .int y2.1] [] (tm (wI (wI m 26 0 y.1) 26 1 y2.1) (lx B y.2).2.1 y2.2)) := i1
    simp only
    rw [i1]
    cases e2 : num1 B 9 false y.2 with
    | inl x => exact ⟨_, _, rfl, rfl, FltC_of (FrC_w FrC_rf (by omega)) x _ _⟩
    | inr y2 =>
      have q : (2 : Int32) ≤ nI 2 := Int32.le_refl _
      refine ⟨1, tm (wI (wI m 26 0 y.1) 26 1 y2.1) (lx B y.2).2.1 y2.2, ?_, rfl, _, rfl⟩
      simp only
      rw [r_X4_takeNumbers_21]
      simp only [EV, LV, CB, OI, OL, NP, CZ, popN, CT, OZ, List.map_nil, List.map_cons, List.sum_nil, List.sum_cons, Option.toList, List.nil_append, List.cons_append, Int.reduceToNat, Nat.reduceAdd, Nat.reduceLT, Nat.reduceLeDiff, List.length_cons, List.length_nil, Nat.zero_add, if_true, if_false, reduceIte, and_self, and_true, true_and, eq_self, reduceCtorEq, q, r_X4_takeNumbers_101]
theorem mst_b {k : Nat} (h1 : 1 ≤ k) (h4 : k ≤ 4) : mst k 0 = 3 ∧ mst k 1 = 9 ∧ mst k 2 = 9 ∧ (k == 7) = false := by
  match k, h1, h4 with
  | 1, _, _ => exact ⟨rfl, rfl, rfl, rfl⟩
  | 2, _, _ => exact ⟨rfl, rfl, rfl, rfl⟩
  | 3, _, _ => exact ⟨rfl, rfl, rfl, rfl⟩
  | 4, _, _ => exact ⟨rfl, rfl, rfl, rfl⟩
theorem t_tn3 (hB : Tp B n) (hm : TC B n m) {k : Nat} (h1 : 1 ≤ k) (h4 : k ≤ 4) (s0 : Nat) {p : Nat} (hp : p ≤ n) : ∃ (v : Int32) (M : Mm), semZ shP wS (d + 3) 15 [.ref 23, .int (nI k)] (tm m s0 p) = some (some (.int v), M) ∧ (match num1 B 3 false p with
    | .inl x => v = 0 ∧ FltC m M x
    | .inr y => (match num1 B 9 false y.2 with
      | .inl x => v = 0 ∧ FltC m M x
      | .inr y2 => (match num1 B 9 false y2.2 with
        | .inl x => v = 0 ∧ FltC m M x
        | .inr y3 => v = 1 ∧ ∃ s', M = tm (wI (wI (wI m 26 0 y.1) 26 1 y2.1) 26 2 y3.1) s' y3.2))) := by
  have h0 : ¬ nI k = 0 := nI_ne0 (by omega) (by omega)
  have h4' : ¬ (4 : Int32) < nI k := nI_nlt (a := 4) (by omega) (by omega)
  obtain ⟨m0, m1, m2, m7⟩ := mst_b h1 h4
  have i0 := tni wS d hB hm (k := k) (by omega) (many := 3) (i := 0) (by omega) (by omega) s0 hp noV
  rw [m0, m7] at i0
  have i0 : rn shP tb0 mN mO (semZ shP wS (d + 2)) (some .boolean) (codeZ 15) 21 [.ref 23, .int (nI k), .int 3, .int 0, noV] [] (tm m s0 p) = (match num1 B 3 false p with
    | .inl x => some (some (.int 0), tm (wI (wI m 23 1 x.1) 23 2 (nI x.2)) (lx B p).2.1 (lx B p).2.2)
    | .inr y => rn shP tb0 mN mO (semZ shP wS (d + 2)) (some .boolean) (codeZ 15) 21 [.ref 23, .int (nI k), .int (nI 3), .int (nI 1), .int y.1] [] (tm (wI m 26 0 y.1) (lx B p).2.1 y.2)) := i0
  rw [se_X4_takeNumbers, r_X4_takeNumbers_0]
  simp only [EV, LV, CB, OI, OL, NP, CZ, popN, CT, OZ, List.map_nil, List.map_cons, List.sum_nil, List.sum_cons, Option.toList, List.nil_append, List.cons_append, Int.reduceToNat, Nat.reduceAdd, Nat.reduceLT, Nat.reduceLeDiff, List.length_cons, List.length_nil, Nat.zero_add, if_true, if_false, reduceIte, and_self, and_true, true_and, eq_self, reduceCtorEq, h0, h4', not_false_eq_true, r_X4_takeNumbers_8, r_X4_takeNumbers_18]
  rw [i0]
  cases e : num1 B 3 false p with
  | inl x => exact ⟨_, _, rfl, rfl, FltC_of FrC_rf x _ _⟩
  | inr y =>
    have hy := num1_p hB hp e
    have i1 := tni wS d hB (TC_26 hm 0 y.1) (k := k) (by omega) (many := 3) (i := 1) (by omega) (by omega) (lx B p).2.1 hy.2 (.int y.1)
    rw [m1, m7] at i1
    simp only
    rw [i1]
    cases e2 : num1 B 9 false y.2 with
    | inl x => exact ⟨_, _, rfl, rfl, FltC_of (FrC_w FrC_rf (by omega)) x _ _⟩
    | inr y2 =>
      have hy2 := num1_p hB hy.2 e2
      have i2 := tni wS d hB (TC_26 (TC_26 hm 0 y.1) 1 y2.1) (k := k) (by omega) (many := 3) (i := 2) (by omega) (by omega) (lx B y.2).2.1 hy2.2 (.int y2.1)
      rw [m2, m7] at i2
      simp only
      rw [i2]
      cases e3 : num1 B 9 false y2.2 with
      | inl x => exact ⟨_, _, rfl, rfl, FltC_of (FrC_w (FrC_w FrC_rf (by omega)) (by omega)) x _ _⟩
      | inr y3 =>
        have q : nI 3 ≤ nI (2 + 1) := Int32.le_refl _
        refine ⟨1, tm (wI (wI (wI m 26 0 y.1) 26 1 y2.1) 26 2 y3.1) (lx B y2.2).2.1 y3.2, ?_, rfl, _, rfl⟩
        simp only
        rw [r_X4_takeNumbers_21]
        simp only [EV, LV, CB, OI, OL, NP, CZ, popN, CT, OZ, List.map_nil, List.map_cons, List.sum_nil, List.sum_cons, Option.toList, List.nil_append, List.cons_append, Int.reduceToNat, Nat.reduceAdd, Nat.reduceLT, Nat.reduceLeDiff, List.length_cons, List.length_nil, Nat.zero_add, if_true, if_false, reduceIte, and_self, and_true, true_and, eq_self, reduceCtorEq, q, r_X4_takeNumbers_101]
/-! which line -/
theorem se_isWord (As : List Value) (m : Mm) : semZ shP wS (d + 1) 11 As m = wS As m := by
  show (if 11 = zX3_isWord then wS As m else _) = _
  rw [if_pos rfl]
theorem sw_word : ∀ k, k < 8 → swT 65 0 6 #[44, 47, 50, 53, 56, 59, 62] (nI k) = ([44, 47, 50, 53, 56, 59, 62, 65] : List Nat).getD k 65 := by decide +kernel
theorem t_word {k : Nat} (hk : k < 8) (m : Mm) : semZ shP wS (d + 1) 22 [.int (nI k)] m = some (some (.ref (2000 + k)), m) := by
  rw [se_X4_word, r_X4_word_0]
  simp only [EV, LV, CB, OI, OL, NP, CZ, popN, CT, OZ, List.map_nil, List.map_cons, List.sum_nil, List.sum_cons, Option.toList, List.nil_append, List.cons_append, Int.reduceToNat, Nat.reduceAdd, Nat.reduceLT, Nat.reduceLeDiff, List.length_cons, List.length_nil, Nat.zero_add, if_true, if_false, reduceIte, and_self, and_true, true_and, eq_self, reduceCtorEq, sw_word k hk]
  match k, hk with
  | 0, _ =>
    show rn shP tb0 mN mO (semZ shP wS d) _ (codeZ 22) 44 [.int (nI 0)] [] m = _
    simp only [EV, LV, CB, OI, OL, NP, CZ, popN, CT, OZ, List.map_nil, List.map_cons, List.sum_nil, List.sum_cons, Option.toList, List.nil_append, List.cons_append, Int.reduceToNat, Nat.reduceAdd, Nat.reduceLT, Nat.reduceLeDiff, List.length_cons, List.length_nil, Nat.zero_add, if_true, if_false, reduceIte, and_self, and_true, true_and, eq_self, reduceCtorEq, r_X4_word_44]
  | 1, _ =>
    show rn shP tb0 mN mO (semZ shP wS d) _ (codeZ 22) 47 [.int (nI 1)] [] m = _
    simp only [EV, LV, CB, OI, OL, NP, CZ, popN, CT, OZ, List.map_nil, List.map_cons, List.sum_nil, List.sum_cons, Option.toList, List.nil_append, List.cons_append, Int.reduceToNat, Nat.reduceAdd, Nat.reduceLT, Nat.reduceLeDiff, List.length_cons, List.length_nil, Nat.zero_add, if_true, if_false, reduceIte, and_self, and_true, true_and, eq_self, reduceCtorEq, r_X4_word_47]
  | 2, _ =>
    show rn shP tb0 mN mO (semZ shP wS d) _ (codeZ 22) 50 [.int (nI 2)] [] m = _
    simp only [EV, LV, CB, OI, OL, NP, CZ, popN, CT, OZ, List.map_nil, List.map_cons, List.sum_nil, List.sum_cons, Option.toList, List.nil_append, List.cons_append, Int.reduceToNat, Nat.reduceAdd, Nat.reduceLT, Nat.reduceLeDiff, List.length_cons, List.length_nil, Nat.zero_add, if_true, if_false, reduceIte, and_self, and_true, true_and, eq_self, reduceCtorEq, r_X4_word_50]
  | 3, _ =>
    show rn shP tb0 mN mO (semZ shP wS d) _ (codeZ 22) 53 [.int (nI 3)] [] m = _
    simp only [EV, LV, CB, OI, OL, NP, CZ, popN, CT, OZ, List.map_nil, List.map_cons, List.sum_nil, List.sum_cons, Option.toList, List.nil_append, List.cons_append, Int.reduceToNat, Nat.reduceAdd, Nat.reduceLT, Nat.reduceLeDiff, List.length_cons, List.length_nil, Nat.zero_add, if_true, if_false, reduceIte, and_self, and_true, true_and, eq_self, reduceCtorEq, r_X4_word_53]
  | 4, _ =>
    show rn shP tb0 mN mO (semZ shP wS d) _ (codeZ 22) 56 [.int (nI 4)] [] m = _
    simp only [EV, LV, CB, OI, OL, NP, CZ, popN, CT, OZ, List.map_nil, List.map_cons, List.sum_nil, List.sum_cons, Option.toList, List.nil_append, List.cons_append, Int.reduceToNat, Nat.reduceAdd, Nat.reduceLT, Nat.reduceLeDiff, List.length_cons, List.length_nil, Nat.zero_add, if_true, if_false, reduceIte, and_self, and_true, true_and, eq_self, reduceCtorEq, r_X4_word_56]
  | 5, _ =>
    show rn shP tb0 mN mO (semZ shP wS d) _ (codeZ 22) 59 [.int (nI 5)] [] m = _
    simp only [EV, LV, CB, OI, OL, NP, CZ, popN, CT, OZ, List.map_nil, List.map_cons, List.sum_nil, List.sum_cons, Option.toList, List.nil_append, List.cons_append, Int.reduceToNat, Nat.reduceAdd, Nat.reduceLT, Nat.reduceLeDiff, List.length_cons, List.length_nil, Nat.zero_add, if_true, if_false, reduceIte, and_self, and_true, true_and, eq_self, reduceCtorEq, r_X4_word_59]
  | 6, _ =>
    show rn shP tb0 mN mO (semZ shP wS d) _ (codeZ 22) 62 [.int (nI 6)] [] m = _
    simp only [EV, LV, CB, OI, OL, NP, CZ, popN, CT, OZ, List.map_nil, List.map_cons, List.sum_nil, List.sum_cons, Option.toList, List.nil_append, List.cons_append, Int.reduceToNat, Nat.reduceAdd, Nat.reduceLT, Nat.reduceLeDiff, List.length_cons, List.length_nil, Nat.zero_add, if_true, if_false, reduceIte, and_self, and_true, true_and, eq_self, reduceCtorEq, r_X4_word_62]
  | 7, _ =>
    show rn shP tb0 mN mO (semZ shP wS d) _ (codeZ 22) 65 [.int (nI 7)] [] m = _
    simp only [EV, LV, CB, OI, OL, NP, CZ, popN, CT, OZ, List.map_nil, List.map_cons, List.sum_nil, List.sum_cons, Option.toList, List.nil_append, List.cons_append, Int.reduceToNat, Nat.reduceAdd, Nat.reduceLT, Nat.reduceLeDiff, List.length_cons, List.length_nil, Nat.zero_add, if_true, if_false, reduceIte, and_self, and_true, true_and, eq_self, reduceCtorEq, r_X4_word_65]
def lnI (k : Nat) : Int32 := if k = 8 then -4 else nI k
theorem lineOf_l (hX : WX wS) (hB : Tp B n) (hm : TC B n m) {s e : Nat} (hse : s ≤ e) (he : e ≤ n) : ∀ (k i : Nat), i + k = 8 → (∀ j, j < i → nmX B s e j = false) → rn shP tb0 mN mO (semZ shP wS (d + 1)) (some .int) (codeZ 21) 2 [.ref 23, .int (nI i)] [] (tm m s e) = some (some (.int (lnI (lnX B s e))), tm m s e) := by
  have e10 : ¬ (1 : Int32) = 0 := by decide
  intro k
  induction k with
  | zero =>
    intro i hi hn
    have e0 : i = 8 := by omega
    subst e0
    have e1 : (8 : Int32) ≤ nI 8 := by decide +kernel
    have e8 : lnX B s e = 8 := by
      unfold lnX
      simp only [hn 0 (by omega), hn 1 (by omega), hn 2 (by omega), hn 3 (by omega), hn 4 (by omega), hn 5 (by omega), hn 6 (by omega), hn 7 (by omega), Bool.false_eq_true, if_false]
    rw [e8, r_X4_lineOf_2]
    simp only [EV, LV, CB, OI, OL, NP, CZ, popN, CT, OZ, List.map_nil, List.map_cons, List.sum_nil, List.sum_cons, Option.toList, List.nil_append, List.cons_append, Int.reduceToNat, Nat.reduceAdd, Nat.reduceLT, Nat.reduceLeDiff, List.length_cons, List.length_nil, Nat.zero_add, if_true, if_false, reduceIte, and_self, and_true, true_and, eq_self, reduceCtorEq, e1, r_X4_lineOf_30]
    rfl
  | succ k ih =>
    intro i hi hn
    have e1 : ¬ (8 : Int32) ≤ nI i := nI_ge (b := 8) (by omega) (by omega)
    have w := hX B n m s e i hB hm hse he (by omega)
    rw [r_X4_lineOf_2]
    cases h : nmX B s e i with
    | true =>
      rw [h] at w
      have el := lnX_is (by omega) h
      have ei : lnI (lnX B s e) = nI i := by
        rw [el]
        unfold lnI
        rw [if_neg (by omega)]
      rw [ei]
      simp only [EV, LV, CB, OI, OL, NP, CZ, popN, CT, OZ, List.map_nil, List.map_cons, List.sum_nil, List.sum_cons, Option.toList, List.nil_append, List.cons_append, Int.reduceToNat, Nat.reduceAdd, Nat.reduceLT, Nat.reduceLeDiff, List.length_cons, List.length_nil, Nat.zero_add, if_true, if_false, reduceIte, and_self, and_true, true_and, eq_self, reduceCtorEq, e1, G23, t_word wS d (show i < 8 by omega), C24, se_isWord wS d, w, bI_t, e10]
    | false =>
      rw [h] at w
      simp only [EV, LV, CB, OI, OL, NP, CZ, popN, CT, OZ, List.map_nil, List.map_cons, List.sum_nil, List.sum_cons, Option.toList, List.nil_append, List.cons_append, Int.reduceToNat, Nat.reduceAdd, Nat.reduceLT, Nat.reduceLeDiff, List.length_cons, List.length_nil, Nat.zero_add, if_true, if_false, reduceIte, and_self, and_true, true_and, eq_self, reduceCtorEq, e1, G23, t_word wS d (show i < 8 by omega), C24, se_isWord wS d, w, bI_f, r_X4_lineOf_24, nI_1]
      refine ih (i + 1) (by omega) (fun j hj => ?_)
      by_cases q : j = i
      · rw [q]; exact h
      · exact hn j (by omega)
theorem t_lineOf (hX : WX wS) (hB : Tp B n) (hm : TC B n m) {s e : Nat} (hse : s ≤ e) (he : e ≤ n) : semZ shP wS (d + 2) 21 [.ref 23] (tm m s e) = some (some (.int (lnI (lnX B s e))), tm m s e) := by
  rw [se_X4_lineOf, r_X4_lineOf_0]
  simp only [EV, LV, CB, OI, OL, NP, CZ, popN, CT, OZ, List.map_nil, List.map_cons, List.sum_nil, List.sum_cons, Option.toList, List.nil_append, List.cons_append, Int.reduceToNat, Nat.reduceAdd, Nat.reduceLT, Nat.reduceLeDiff, List.length_cons, List.length_nil, Nat.zero_add, if_true, if_false, reduceIte, and_self, and_true, true_and, eq_self, reduceCtorEq]
  exact lineOf_l wS d hX hB hm hse he 8 0 rfl (fun j hj => by omega)
theorem t_roomX {k V N : Nat} (hk : k < 8) (hV : V ≤ 4) (hN : N ≤ 6) (m : Mm) (h0 : m.1 10 0 = nI V) (h1 : m.1 10 1 = nI N) : semZ shP wS (d + 1) 14 [.ref 23, .int (nI k), .ref 10] m = some (some (.int (bI (noRoom k V N))), m) := by
  have g := (gW WP10).2 m
  rw [se_X4_hasNoRoom, r_X4_hasNoRoom_0]
  unfold noRoom
  by_cases c0 : k = 0
  · subst c0
    have z0 : nI 0 = 0 := nI_0
    by_cases v : V < 4
    · have a : nI V < (4 : Int32) := nI_lt (b := 4) v (by omega)
      have b : Nat.ble 4 V = false := by
        cases h : Nat.ble 4 V with
        | false => rfl
        | true => rw [Nat.ble_eq] at h; omega
      simp only [EV, LV, CB, OI, OL, NP, CZ, popN, CT, OZ, List.map_nil, List.map_cons, List.sum_nil, List.sum_cons, Option.toList, List.nil_append, List.cons_append, Int.reduceToNat, Nat.reduceAdd, Nat.reduceLT, Nat.reduceLeDiff, List.length_cons, List.length_nil, Nat.zero_add, if_true, if_false, reduceIte, and_self, and_true, true_and, eq_self, reduceCtorEq, z0, not_true_eq_false, g, h0, a, r_X4_hasNoRoom_16, b]
      rfl
    · have v4 : V = 4 := by omega
      subst v4
      have a : ¬ nI 4 < (4 : Int32) := by decide +kernel
      simp only [EV, LV, CB, OI, OL, NP, CZ, popN, CT, OZ, List.map_nil, List.map_cons, List.sum_nil, List.sum_cons, Option.toList, List.nil_append, List.cons_append, Int.reduceToNat, Nat.reduceAdd, Nat.reduceLT, Nat.reduceLeDiff, List.length_cons, List.length_nil, Nat.zero_add, if_true, if_false, reduceIte, and_self, and_true, true_and, eq_self, reduceCtorEq, z0, not_true_eq_false, g, h0, a, r_X4_hasNoRoom_17]
      rfl
  · have z0 : ¬ nI k = 0 := nI_ne0 (by omega) (by omega)
    have k0 : (k == 0) = false := by simpa using c0
    by_cases c4 : k ≤ 4
    · have z4 : ¬ (4 : Int32) < nI k := nI_nlt (a := 4) (by omega) (by omega)
      have k1 : Nat.ble 1 k = true := by rw [Nat.ble_eq]; omega
      have k4 : Nat.ble k 4 = true := by rw [Nat.ble_eq]; omega
      by_cases v : N < 6
      · have a : nI N < (6 : Int32) := nI_lt (b := 6) v (by omega)
        have b : Nat.ble 6 N = false := by
          cases h : Nat.ble 6 N with
          | false => rfl
          | true => rw [Nat.ble_eq] at h; omega
        simp only [EV, LV, CB, OI, OL, NP, CZ, popN, CT, OZ, List.map_nil, List.map_cons, List.sum_nil, List.sum_cons, Option.toList, List.nil_append, List.cons_append, Int.reduceToNat, Nat.reduceAdd, Nat.reduceLT, Nat.reduceLeDiff, List.length_cons, List.length_nil, Nat.zero_add, if_true, if_false, reduceIte, and_self, and_true, true_and, eq_self, reduceCtorEq, z0, z4, not_false_eq_true, g, h1, a, r_X4_hasNoRoom_18, r_X4_hasNoRoom_36, b, k0, k1, k4]
        rfl
      · have v6 : N = 6 := by omega
        subst v6
        have a : ¬ nI 6 < (6 : Int32) := by decide +kernel
        simp only [EV, LV, CB, OI, OL, NP, CZ, popN, CT, OZ, List.map_nil, List.map_cons, List.sum_nil, List.sum_cons, Option.toList, List.nil_append, List.cons_append, Int.reduceToNat, Nat.reduceAdd, Nat.reduceLT, Nat.reduceLeDiff, List.length_cons, List.length_nil, Nat.zero_add, if_true, if_false, reduceIte, and_self, and_true, true_and, eq_self, reduceCtorEq, z0, z4, not_false_eq_true, g, h1, a, r_X4_hasNoRoom_18, r_X4_hasNoRoom_37, k0, k1, k4]
        rfl
    · have z4 : (4 : Int32) < nI k := nI_lt (a := 4) (by omega) (by omega)
      have k4 : Nat.ble k 4 = false := by
        cases h : Nat.ble k 4 with
        | false => rfl
        | true => rw [Nat.ble_eq] at h; omega
      simp only [EV, LV, CB, OI, OL, NP, CZ, popN, CT, OZ, List.map_nil, List.map_cons, List.sum_nil, List.sum_cons, Option.toList, List.nil_append, List.cons_append, Int.reduceToNat, Nat.reduceAdd, Nat.reduceLT, Nat.reduceLeDiff, List.length_cons, List.length_nil, Nat.zero_add, if_true, if_false, reduceIte, and_self, and_true, true_and, eq_self, reduceCtorEq, z0, z4, not_false_eq_true, r_X4_hasNoRoom_18, r_X4_hasNoRoom_36, k0, k4, Bool.and_false, Bool.false_and, Bool.or_self, bI_f]
end Cm
end
section
/-! what a line tells; the class's text -/
section Wo
variable {sh : List ShE} {w : Nat} (wS : List Value → Mm → Option Rs) (d : Nat)
theorem t_addV (hw : WSh sh w) {V : Nat} (hV : V < 4) (a b : Int32) (m : Mm) (h0 : m.1 w 0 = nI V) : semZ sh wS (d + 1) 28 [.ref w, .int a, .int b] m = some (some (.int 1), wI (wI (wI m (w + 1) V a) (w + 2) V b) w 0 (nI (V + 1))) := by
  have e1 : nI V < (4 : Int32) := nI_lt (b := 4) hV (by omega)
  have e2 : inR (nI V) 4 = true := inR_nI hV (by omega)
  have e3 : (nI V).toNatClampNeg = V := nI_clamp (by omega)
  have q1 : (wI m (w + 1) V a).1 w 0 = nI V := by rw [wI_o _ _ _ _ _ (by omega)]; exact h0
  have q2 : (wI (wI m (w + 1) V a) (w + 2) V b).1 w 0 = nI V := by rw [wI_o _ _ _ _ _ (by omega)]; exact q1
  rw [se_X5_addVillage, r_X5_addVillage_0]
  simp only [EV, LV, CB, OI, OL, NP, CZ, popN, CT, OZ, List.map_nil, List.map_cons, List.sum_nil, List.sum_cons, Option.toList, List.nil_append, List.cons_append, Int.reduceToNat, Nat.reduceAdd, Nat.reduceLT, Nat.reduceLeDiff, List.length_cons, List.length_nil, Nat.zero_add, if_true, if_false, reduceIte, and_self, and_true, true_and, eq_self, reduceCtorEq, gW hw, sW hw, pW hw, h0, e1, r_X5_addVillage_10, e2, e3, q1, q2, nI_1]
theorem t_addB (hw : WSh sh w) {N : Nat} (hN : N < 6) (k v a b : Int32) (m : Mm) (h0 : m.1 w 1 = nI N) : semZ sh wS (d + 1) 29 [.ref w, .int k, .int v, .int a, .int b] m = some (some (.int 1), wI (wI (wI (wI (wI (wI m (w + 4) N k) (w + 5) N v) (w + 6) N a) (w + 7) N b) (w + 8) N 0) w 1 (nI (N + 1))) := by
  have e1 : nI N < (6 : Int32) := nI_lt (b := 6) hN (by omega)
  have e2 : inR (nI N) 6 = true := inR_nI hN (by omega)
  have e3 : (nI N).toNatClampNeg = N := nI_clamp (by omega)
  have q1 : (wI m (w + 4) N k).1 w 1 = nI N := by rw [wI_o _ _ _ _ _ (by omega)]; exact h0
  have q2 : (wI (wI m (w + 4) N k) (w + 5) N v).1 w 1 = nI N := by rw [wI_o _ _ _ _ _ (by omega)]; exact q1
  have q3 : (wI (wI (wI m (w + 4) N k) (w + 5) N v) (w + 6) N a).1 w 1 = nI N := by rw [wI_o _ _ _ _ _ (by omega)]; exact q2
  have q4 : (wI (wI (wI (wI m (w + 4) N k) (w + 5) N v) (w + 6) N a) (w + 7) N b).1 w 1 = nI N := by rw [wI_o _ _ _ _ _ (by omega)]; exact q3
  have q5 : (wI (wI (wI (wI (wI m (w + 4) N k) (w + 5) N v) (w + 6) N a) (w + 7) N b) (w + 8) N 0).1 w 1 = nI N := by rw [wI_o _ _ _ _ _ (by omega)]; exact q4
  rw [se_X5_addBody, r_X5_addBody_0]
  simp only [EV, LV, CB, OI, OL, NP, CZ, popN, CT, OZ, List.map_nil, List.map_cons, List.sum_nil, List.sum_cons, Option.toList, List.nil_append, List.cons_append, Int.reduceToNat, Nat.reduceAdd, Nat.reduceLT, Nat.reduceLeDiff, List.length_cons, List.length_nil, Nat.zero_add, if_true, if_false, reduceIte, and_self, and_true, true_and, eq_self, reduceCtorEq, gW hw, sW hw, pW hw, h0, e1, r_X5_addBody_11, e2, e3, q1, q2, q3, q4, q5, nI_1]
end Wo
/-- the ways of all bodies are 0 -/
def Z0 (f : Nat → Int32) : Prop := ∀ b, b < 6 → f (8 + 5 * b + 4) = 0
theorem CW_v {w V N : Nat} {f : Nat → Int32} {m : Mm} (h : CW w V N f m) (hV : V < 4) (a b : Int32) : CW w (V + 1) N (upd (upd f (2 * V) a) (2 * V + 1) b) (wI (wI (wI m (w + 1) V a) (w + 2) V b) w 0 (nI (V + 1))) := by
  obtain ⟨h1, h2, h3, h4, h5, h6, h7, h8, h9, hg, hb⟩ := h
  have up : ∀ i, 8 ≤ i → upd (upd f (2 * V) a) (2 * V + 1) b i = f i := fun i hi => by rw [upd_n _ _ (by omega), upd_n _ _ (by omega)]
  have ww : ∀ j, j ≠ 0 → (wI (wI (wI m (w + 1) V a) (w + 2) V b) w 0 (nI (V + 1))).1 w j = m.1 w j := fun j hj => by rw [wI_j _ _ _ _ _ hj, wI_o _ _ _ _ _ (by omega), wI_o _ _ _ _ _ (by omega)]
  have wo : ∀ o, o ≠ w → o ≠ w + 1 → o ≠ w + 2 → ∀ j, (wI (wI (wI m (w + 1) V a) (w + 2) V b) w 0 (nI (V + 1))).1 o j = m.1 o j := fun o o1 o2 o3 j => by rw [wI_o _ _ _ _ _ o1, wI_o _ _ _ _ _ o3, wI_o _ _ _ _ _ o2]
  refine ⟨by omega, h2, wI_s _ _ _ _, by rw [ww 1 (by omega)]; exact h4, by rw [up 38 (by omega)]; exact h5, by rw [ww 2 (by omega), up 39 (by omega)]; exact h6, by rw [ww 3 (by omega), up 40 (by omega)]; exact h7, by rw [ww 4 (by omega), up 41 (by omega)]; exact h8, by rw [ww 5 (by omega), up 42 (by omega)]; exact h9, fun g hg2 => ?_, fun q hq => ?_⟩
  · rw [wI_o _ _ _ _ _ (show w + 1 ≠ w by omega), wI_o _ _ _ _ _ (show w + 1 ≠ w + 2 by omega), wI_o _ _ _ _ _ (show w + 2 ≠ w by omega)]
    by_cases e : g = V
    · subst e
      rw [wI_s, wI_s, upd_n _ _ (by omega), upd_s, upd_s]
      exact ⟨rfl, rfl⟩
    · rw [wI_j _ _ _ _ _ e, wI_j _ _ _ _ _ e, wI_o _ _ _ _ _ (by omega), upd_n _ _ (by omega), upd_n _ _ (by omega), upd_n _ _ (by omega), upd_n _ _ (by omega)]
      exact hg g (by omega)
  · rw [wo _ (by omega) (by omega) (by omega), wo _ (by omega) (by omega) (by omega), wo _ (by omega) (by omega) (by omega), wo _ (by omega) (by omega) (by omega), wo _ (by omega) (by omega) (by omega), up _ (by omega), up _ (by omega), up _ (by omega), up _ (by omega), up _ (by omega)]
    exact hb q hq
theorem CW_b {w V N : Nat} {f : Nat → Int32} {m : Mm} (h : CW w V N f m) (hz : f (8 + 5 * N + 4) = 0) (hN : N < 6) (k v a b : Int32) : CW w V (N + 1) (bdF f N k v a b) (wI (wI (wI (wI (wI (wI m (w + 4) N k) (w + 5) N v) (w + 6) N a) (w + 7) N b) (w + 8) N 0) w 1 (nI (N + 1))) := by
  obtain ⟨h1, h2, h3, h4, h5, h6, h7, h8, h9, hg, hb⟩ := h
  have up : ∀ i, i ≠ 38 → i ≠ 8 + 5 * N → i ≠ 8 + 5 * N + 1 → i ≠ 8 + 5 * N + 2 → i ≠ 8 + 5 * N + 3 → bdF f N k v a b i = f i := fun i i1 i2 i3 i4 i5 => by
    unfold bdF
    rw [upd_n _ _ i1, upd_n _ _ i5, upd_n _ _ i4, upd_n _ _ i3, upd_n _ _ i2]
  have ww : ∀ j, j ≠ 1 → (wI (wI (wI (wI (wI (wI m (w + 4) N k) (w + 5) N v) (w + 6) N a) (w + 7) N b) (w + 8) N 0) w 1 (nI (N + 1))).1 w j = m.1 w j := fun j hj => by rw [wI_j _ _ _ _ _ hj, wI_o _ _ _ _ _ (by omega), wI_o _ _ _ _ _ (by omega), wI_o _ _ _ _ _ (by omega), wI_o _ _ _ _ _ (by omega), wI_o _ _ _ _ _ (by omega)]
  have wo : ∀ o, o = w + 1 ∨ o = w + 2 → ∀ j, (wI (wI (wI (wI (wI (wI m (w + 4) N k) (w + 5) N v) (w + 6) N a) (w + 7) N b) (w + 8) N 0) w 1 (nI (N + 1))).1 o j = m.1 o j := fun o ho j => by rw [wI_o _ _ _ _ _ (by omega), wI_o _ _ _ _ _ (by omega), wI_o _ _ _ _ _ (by omega), wI_o _ _ _ _ _ (by omega), wI_o _ _ _ _ _ (by omega), wI_o _ _ _ _ _ (by omega)]
  refine ⟨h1, by omega, by rw [ww 0 (by omega)]; exact h3, wI_s _ _ _ _, by unfold bdF; rw [upd_s], by rw [ww 2 (by omega), up 39 (by omega) (by omega) (by omega) (by omega) (by omega)]; exact h6, by rw [ww 3 (by omega), up 40 (by omega) (by omega) (by omega) (by omega) (by omega)]; exact h7, by rw [ww 4 (by omega), up 41 (by omega) (by omega) (by omega) (by omega) (by omega)]; exact h8, by rw [ww 5 (by omega), up 42 (by omega) (by omega) (by omega) (by omega) (by omega)]; exact h9, fun g hg2 => ?_, fun q hq => ?_⟩
  · rw [wo _ (Or.inl rfl), wo _ (Or.inr rfl), up _ (by omega) (by omega) (by omega) (by omega) (by omega), up _ (by omega) (by omega) (by omega) (by omega) (by omega)]
    exact hg g hg2
  · by_cases e : q = N
    · subst e
      refine ⟨?_, ?_, ?_, ?_, ?_⟩
      · rw [wI_o _ _ _ _ _ (by omega), wI_o _ _ _ _ _ (by omega), wI_o _ _ _ _ _ (by omega), wI_o _ _ _ _ _ (by omega), wI_o _ _ _ _ _ (by omega), wI_s]
        unfold bdF
        rw [upd_n _ _ (by omega), upd_n _ _ (by omega), upd_n _ _ (by omega), upd_n _ _ (by omega), upd_s]
      · rw [wI_o _ _ _ _ _ (by omega), wI_o _ _ _ _ _ (by omega), wI_o _ _ _ _ _ (by omega), wI_o _ _ _ _ _ (by omega), wI_s]
        unfold bdF
        rw [upd_n _ _ (by omega), upd_n _ _ (by omega), upd_n _ _ (by omega), upd_s]
      · rw [wI_o _ _ _ _ _ (by omega), wI_o _ _ _ _ _ (by omega), wI_o _ _ _ _ _ (by omega), wI_s]
        unfold bdF
        rw [upd_n _ _ (by omega), upd_n _ _ (by omega), upd_s]
      · rw [wI_o _ _ _ _ _ (by omega), wI_o _ _ _ _ _ (by omega), wI_s]
        unfold bdF
        rw [upd_n _ _ (by omega), upd_s]
      · rw [wI_o _ _ _ _ _ (by omega), wI_s, up _ (by omega) (by omega) (by omega) (by omega) (by omega)]
        exact hz.symm
    · have wj : ∀ o, w + 4 ≤ o → o ≤ w + 8 → (wI (wI (wI (wI (wI (wI m (w + 4) N k) (w + 5) N v) (w + 6) N a) (w + 7) N b) (w + 8) N 0) w 1 (nI (N + 1))).1 o q = m.1 o q := fun o o1 o2 => by rw [wI_o _ _ _ _ _ (by omega), wI_j _ _ _ _ _ e, wI_j _ _ _ _ _ e, wI_j _ _ _ _ _ e, wI_j _ _ _ _ _ e, wI_j _ _ _ _ _ e]
      rw [wj _ (by omega) (by omega), wj _ (by omega) (by omega), wj _ (by omega) (by omega), wj _ (by omega) (by omega), wj _ (by omega) (by omega), up _ (by omega) (by omega) (by omega) (by omega) (by omega), up _ (by omega) (by omega) (by omega) (by omega) (by omega), up _ (by omega) (by omega) (by omega) (by omega) (by omega), up _ (by omega) (by omega) (by omega) (by omega) (by omega), up _ (by omega) (by omega) (by omega) (by omega) (by omega)]
      exact hb q (by omega)
theorem CW_s {w V N : Nat} {f : Nat → Int32} {m : Mm} (h : CW w V N f m) {i : Nat} (h1 : 2 ≤ i) (h2 : i ≤ 4) (a : Int32) : CW w V N (upd f (37 + i) a) (wI m w i a) := by
  obtain ⟨c1, c2, c3, c4, c5, c6, c7, c8, c9, hg, hb⟩ := h
  have ww : ∀ j, j ≠ i → (wI m w i a).1 w j = m.1 w j := fun j hj => wI_j _ _ _ _ _ hj
  have key : ∀ j, 2 ≤ j → j ≤ 5 → m.1 w j = f (37 + j) → (wI m w i a).1 w j = upd f (37 + i) a (37 + j) := fun j j1 j2 hj => by
    by_cases e : j = i
    · subst e
      rw [wI_s, upd_s]
    · rw [ww j e, upd_n _ _ (by omega)]
      exact hj
  refine ⟨c1, c2, by rw [ww 0 (by omega)]; exact c3, by rw [ww 1 (by omega)]; exact c4, by rw [upd_n _ _ (by omega)]; exact c5, key 2 (by omega) (by omega) c6, key 3 (by omega) (by omega) c7, key 4 (by omega) (by omega) c8, key 5 (by omega) (by omega) c9, fun g hg2 => ?_, fun q hq => ?_⟩
  · rw [wI_o _ _ _ _ _ (by omega), wI_o _ _ _ _ _ (by omega), upd_n _ _ (by omega), upd_n _ _ (by omega)]
    exact hg g hg2
  · rw [wI_o _ _ _ _ _ (by omega), wI_o _ _ _ _ _ (by omega), wI_o _ _ _ _ _ (by omega), wI_o _ _ _ _ _ (by omega), wI_o _ _ _ _ _ (by omega), upd_n _ _ (by omega), upd_n _ _ (by omega), upd_n _ _ (by omega), upd_n _ _ (by omega), upd_n _ _ (by omega)]
    exact hb q hq
theorem CW_k {w V N : Nat} {f : Nat → Int32} {m m' : Mm} (h : CW w V N f m) (hk : ∀ o, w ≤ o → o ≤ w + 8 → m'.1 o = m.1 o) : CW w V N f m' := by
  obtain ⟨c1, c2, c3, c4, c5, c6, c7, c8, c9, hg, hb⟩ := h
  have w0 := hk w (by omega) (by omega)
  refine ⟨c1, c2, by rw [w0]; exact c3, by rw [w0]; exact c4, c5, by rw [w0]; exact c6, by rw [w0]; exact c7, by rw [w0]; exact c8, by rw [w0]; exact c9, fun g hg2 => ?_, fun q hq => ?_⟩
  · rw [hk (w + 1) (by omega) (by omega), hk (w + 2) (by omega) (by omega)]
    exact hg g hg2
  · rw [hk (w + 4) (by omega) (by omega), hk (w + 5) (by omega) (by omega), hk (w + 6) (by omega) (by omega), hk (w + 7) (by omega) (by omega), hk (w + 8) (by omega) (by omega)]
    exact hb q hq
/-- between the lines -/
def CTx (V N : Nat) (f : Nat → Int32) (c : Nat) (m : Mm) : Prop := CW 10 V N f m ∧ Z0 f ∧ m.1 23 4 = tlV c ∧ c < 8 ∧ m.1 10 6 = f 43
theorem CTx_k {V N : Nat} {f : Nat → Int32} {c : Nat} {m m' : Mm} (h : CTx V N f c m) (hk : ∀ o, 10 ≤ o → o ≤ 18 → m'.1 o = m.1 o) (h4 : m'.1 23 4 = m.1 23 4) : CTx V N f c m' := ⟨CW_k h.1 (fun o h1 h2 => hk o h1 (by omega)), h.2.1, by rw [h4]; exact h.2.2.1, h.2.2.2.1, by rw [hk 10 (by omega) (by omega)]; exact h.2.2.2.2⟩
theorem sw_enter : ∀ k, k < 8 → swT 143 0 7 #[48, 143, 143, 143, 143, 68, 93, 118] (nI k) = ([48, 143, 143, 143, 143, 68, 93, 118] : List Nat).getD k 143 := by decide +kernel
section En
variable (wS : List Value → Mm → Option Rs) (d : Nat)
theorem in_3 : inR 0 3 = true ∧ inR 1 3 = true ∧ inR 2 3 = true ∧ (0 : Int32).toNatClampNeg = 0 ∧ (1 : Int32).toNatClampNeg = 1 ∧ (2 : Int32).toNatClampNeg = 2 := by decide +kernel
theorem F404 (m : Mm) : gfI shP 404 23 m = some (.int (m.1 23 4)) ∧ (∀ x : Int32, pfI shP 404 23 (.int x) m = some (wI m 23 4 x)) ∧ gfI shP 403 23 m = some (.ref 26) ∧ gfI shP 401 23 m = some (.int (m.1 23 1)) ∧ gfI shP 402 23 m = some (.int (m.1 23 2)) := ⟨rfl, fun _ => rfl, rfl, rfl, rfl⟩
theorem C10 : clO shP 10 = some 5 := rfl
theorem t_enterV {V : Nat} (hV : V < 4) (m : Mm) (h0 : m.1 10 0 = nI V) : semZ shP wS (d + 2) 17 [.ref 23, .int (nI 0), .ref 10] m = some (none, wI (wI (wI m 11 V (m.1 26 0)) 12 V (m.1 26 1)) 10 0 (nI (V + 1))) := by
  rw [se_X4_enter, r_X4_enter_0]
  simp only [EV, LV, CB, OI, OL, NP, CZ, popN, CT, OZ, List.map_nil, List.map_cons, List.sum_nil, List.sum_cons, Option.toList, List.nil_append, List.cons_append, Int.reduceToNat, Nat.reduceAdd, Nat.reduceLT, Nat.reduceLeDiff, List.length_cons, List.length_nil, Nat.zero_add, if_true, if_false, reduceIte, and_self, and_true, true_and, eq_self, reduceCtorEq, sw_enter 0 (by omega)]
  show rn shP tb0 mN mO (semZ shP wS (d + 1)) none (codeZ 17) 48 [.ref 23, .int (nI 0), .ref 10] [] m = _
  simp only [EV, LV, CB, OI, OL, NP, CZ, popN, CT, OZ, List.map_nil, List.map_cons, List.sum_nil, List.sum_cons, Option.toList, List.nil_append, List.cons_append, Int.reduceToNat, Nat.reduceAdd, Nat.reduceLT, Nat.reduceLeDiff, List.length_cons, List.length_nil, Nat.zero_add, if_true, if_false, reduceIte, and_self, and_true, true_and, eq_self, reduceCtorEq, r_X4_enter_48, F404, A26, in_3, C10, t_addV wS d WP10 hV _ _ m h0, r_X4_enter_169]
theorem t_enterB {k : Nat} (h1 : 1 ≤ k) (h4 : k ≤ 4) {N : Nat} (hN : N < 6) (m : Mm) (h0 : m.1 10 1 = nI N) : semZ shP wS (d + 2) 17 [.ref 23, .int (nI k), .ref 10] m = some (none, wI (wI (wI (wI (wI (wI m 14 N (nI (k - 1))) 15 N (m.1 26 0)) 16 N (m.1 26 1)) 17 N (m.1 26 2)) 18 N 0) 10 1 (nI (N + 1))) := by
  have ek : nI k - 1 = nI (k - 1) := nI_sub (b := 1) h1
  have e143 : ([48, 143, 143, 143, 143, 68, 93, 118] : List Nat).getD k 143 = 143 := by
    match k, h1, h4 with
    | 1, _, _ => rfl
    | 2, _, _ => rfl
    | 3, _, _ => rfl
    | 4, _, _ => rfl
  rw [se_X4_enter, r_X4_enter_0]
  simp only [EV, LV, CB, OI, OL, NP, CZ, popN, CT, OZ, List.map_nil, List.map_cons, List.sum_nil, List.sum_cons, Option.toList, List.nil_append, List.cons_append, Int.reduceToNat, Nat.reduceAdd, Nat.reduceLT, Nat.reduceLeDiff, List.length_cons, List.length_nil, Nat.zero_add, if_true, if_false, reduceIte, and_self, and_true, true_and, eq_self, reduceCtorEq, sw_enter k (by omega), e143]
  simp only [EV, LV, CB, OI, OL, NP, CZ, popN, CT, OZ, List.map_nil, List.map_cons, List.sum_nil, List.sum_cons, Option.toList, List.nil_append, List.cons_append, Int.reduceToNat, Nat.reduceAdd, Nat.reduceLT, Nat.reduceLeDiff, List.length_cons, List.length_nil, Nat.zero_add, if_true, if_false, reduceIte, and_self, and_true, true_and, eq_self, reduceCtorEq, r_X4_enter_143, F404, A26, in_3, C10, ek, t_addB wS d WP10 hN _ _ _ _ m h0]
theorem t_enter5 (m : Mm) : semZ shP wS (d + 2) 17 [.ref 23, .int (nI 5), .ref 10] m = some (none, wI (wI m 10 2 (m.1 26 0)) 23 4 (m.1 23 4 ||| (1 <<< (nI 5 &&& 31)))) := by
  rw [se_X4_enter, r_X4_enter_0]
  simp only [EV, LV, CB, OI, OL, NP, CZ, popN, CT, OZ, List.map_nil, List.map_cons, List.sum_nil, List.sum_cons, Option.toList, List.nil_append, List.cons_append, Int.reduceToNat, Nat.reduceAdd, Nat.reduceLT, Nat.reduceLeDiff, List.length_cons, List.length_nil, Nat.zero_add, if_true, if_false, reduceIte, and_self, and_true, true_and, eq_self, reduceCtorEq, sw_enter 5 (by omega)]
  show rn shP tb0 mN mO (semZ shP wS (d + 1)) none (codeZ 17) 68 [.ref 23, .int (nI 5), .ref 10] [] m = _
  simp only [EV, LV, CB, OI, OL, NP, CZ, popN, CT, OZ, List.map_nil, List.map_cons, List.sum_nil, List.sum_cons, Option.toList, List.nil_append, List.cons_append, Int.reduceToNat, Nat.reduceAdd, Nat.reduceLT, Nat.reduceLeDiff, List.length_cons, List.length_nil, Nat.zero_add, if_true, if_false, reduceIte, and_self, and_true, true_and, eq_self, reduceCtorEq, r_X4_enter_68, F404, A26, in_3, pW WP10, r_X4_enter_169, wI_o _ _ _ _ _ (show (23 : Nat) ≠ 10 by omega)]
theorem t_enter6 (m : Mm) : semZ shP wS (d + 2) 17 [.ref 23, .int (nI 6), .ref 10] m = some (none, wI (wI m 10 3 (m.1 26 0)) 23 4 (m.1 23 4 ||| (1 <<< (nI 6 &&& 31)))) := by
  rw [se_X4_enter, r_X4_enter_0]
  simp only [EV, LV, CB, OI, OL, NP, CZ, popN, CT, OZ, List.map_nil, List.map_cons, List.sum_nil, List.sum_cons, Option.toList, List.nil_append, List.cons_append, Int.reduceToNat, Nat.reduceAdd, Nat.reduceLT, Nat.reduceLeDiff, List.length_cons, List.length_nil, Nat.zero_add, if_true, if_false, reduceIte, and_self, and_true, true_and, eq_self, reduceCtorEq, sw_enter 6 (by omega)]
  show rn shP tb0 mN mO (semZ shP wS (d + 1)) none (codeZ 17) 93 [.ref 23, .int (nI 6), .ref 10] [] m = _
  simp only [EV, LV, CB, OI, OL, NP, CZ, popN, CT, OZ, List.map_nil, List.map_cons, List.sum_nil, List.sum_cons, Option.toList, List.nil_append, List.cons_append, Int.reduceToNat, Nat.reduceAdd, Nat.reduceLT, Nat.reduceLeDiff, List.length_cons, List.length_nil, Nat.zero_add, if_true, if_false, reduceIte, and_self, and_true, true_and, eq_self, reduceCtorEq, r_X4_enter_93, F404, A26, in_3, pW WP10, r_X4_enter_169, wI_o _ _ _ _ _ (show (23 : Nat) ≠ 10 by omega)]
theorem t_enter7 (m : Mm) : semZ shP wS (d + 2) 17 [.ref 23, .int (nI 7), .ref 10] m = some (none, wI (wI m 10 4 (m.1 26 0)) 23 4 (m.1 23 4 ||| (1 <<< (nI 7 &&& 31)))) := by
  rw [se_X4_enter, r_X4_enter_0]
  simp only [EV, LV, CB, OI, OL, NP, CZ, popN, CT, OZ, List.map_nil, List.map_cons, List.sum_nil, List.sum_cons, Option.toList, List.nil_append, List.cons_append, Int.reduceToNat, Nat.reduceAdd, Nat.reduceLT, Nat.reduceLeDiff, List.length_cons, List.length_nil, Nat.zero_add, if_true, if_false, reduceIte, and_self, and_true, true_and, eq_self, reduceCtorEq, sw_enter 7 (by omega)]
  show rn shP tb0 mN mO (semZ shP wS (d + 1)) none (codeZ 17) 118 [.ref 23, .int (nI 7), .ref 10] [] m = _
  simp only [EV, LV, CB, OI, OL, NP, CZ, popN, CT, OZ, List.map_nil, List.map_cons, List.sum_nil, List.sum_cons, Option.toList, List.nil_append, List.cons_append, Int.reduceToNat, Nat.reduceAdd, Nat.reduceLT, Nat.reduceLeDiff, List.length_cons, List.length_nil, Nat.zero_add, if_true, if_false, reduceIte, and_self, and_true, true_and, eq_self, reduceCtorEq, r_X4_enter_118, F404, A26, in_3, pW WP10, r_X4_enter_169, wI_o _ _ _ _ _ (show (23 : Nat) ≠ 10 by omega)]
end En
end
