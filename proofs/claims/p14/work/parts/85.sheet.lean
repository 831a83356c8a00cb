/-! THE SHEETS, exactly -/
theorem nI_mul (a b : Nat) : nI a * nI b = nI (a * b) := (Int32.ofNat_mul a b).symm
theorem in_nI {k : Int32} {N : Nat} (hN : N < 2 ^ 31) (h : (decide (0 ≤ k) && decide (k ≤ nI N)) = true) : ∃ K, K ≤ N ∧ k = nI K := by
  have hb := wi_i h
  rw [show (0 : Int32).toInt = 0 from by decide, nI_toInt hN] at hb
  exact ⟨k.toInt.toNat, by omega, i_nI hb.1⟩
/-- 0 to s - 1 -/
theorem in_sub1 (v s : Int32) (hs : 0 ≤ s.toInt) : (decide ((0 : Int64) ≤ v.toInt64) && decide (v.toInt64 ≤ (s - 1).toInt64)) = (decide (0 ≤ v) && decide (v < s)) := by
  rw [dec64 v 0 (s - 1) 0 (s - 1).toInt64 (by decide) rfl]
  congr 2
  apply propext
  rw [Int32.le_iff_toInt_le, Int32.lt_iff_toInt_lt, sub1_i hs]
  omega
section Sh1
variable {sh : List ShE} {w : Nat} (wS : List Value → Mm → Option Rs) (d : Nat)
theorem t_renew_l (hw : HSh sh w) (l n : Int32) (m : Mm) (g : Nat → Int32) : ∀ (k i : Nat), i + k = 40 → rn sh tb0 mN mO (semZ sh wS d) none (codeZ 0) 17 [.ref w, .int l, .int n, .int (nI i)] [] (setR m (w + 1) (fillR (fun _ => 0) g i)) = some (none, setR m (w + 1) (fillR (fun _ => 0) g 40)) := by
  intro k
  induction k with
  | zero =>
    intro i hi
    have e0 : i = 40 := by omega
    subst e0
    have e1 : (40 : Int32) ≤ nI 40 := by decide +kernel
    rw [r_X1_renew_17]
    simp only [EV, LV, CB, OI, OL, NP, CZ, popN, CT, OZ, List.map_nil, List.map_cons, List.sum_nil, List.sum_cons, Option.toList, List.nil_append, List.cons_append, Int.reduceToNat, Nat.reduceAdd, Nat.reduceLT, Nat.reduceLeDiff, List.length_cons, List.length_nil, Nat.zero_add, if_true, if_false, reduceIte, and_self, and_true, true_and, eq_self, reduceCtorEq, e1, r_X1_renew_36]
  | succ k ih =>
    intro i hi
    have e1 : ¬ (40 : Int32) ≤ nI i := nI_ge (a := i) (b := 40) (by omega) (by omega)
    have e2 : inR (nI i) 40 = true := inR_nI (by omega) (by omega)
    have e3 : (nI i).toNatClampNeg = i := nI_clamp (by omega)
    have e4 := fillR_s (fun _ => 0) g i
    rw [r_X1_renew_17]
    simp only [EV, LV, CB, OI, OL, NP, CZ, popN, CT, OZ, List.map_nil, List.map_cons, List.sum_nil, List.sum_cons, Option.toList, List.nil_append, List.cons_append, Int.reduceToNat, Nat.reduceAdd, Nat.reduceLT, Nat.reduceLeDiff, List.length_cons, List.length_nil, Nat.zero_add, if_true, if_false, reduceIte, and_self, and_true, true_and, eq_self, reduceCtorEq, gH hw, sH hw, e1, e2, e3, wI_R, setR_s, setR_R, e4, nI_1]
    exact ih (i + 1) (by omega)
theorem setR_n_id (m : Mm) {o o' : Nat} (f : Nat → Int32) (h : o' ≠ o) : setR (setR m o f) o' (m.1 o') = setR m o f := by
  have := setR_id (setR m o f) o'
  rwa [setR_n _ _ h] at this
theorem t_renew (hw : HSh sh w) (l n : Int32) (m : Mm) : semZ sh wS (d + 1) 0 [.ref w, .int l, .int n] m = some (none, setR (setR m w (upd (upd (upd (m.1 w) 0 1) 3 l) 1 n)) (w + 1) (fillR (fun _ => 0) (m.1 (w + 1)) 40)) := by
  rw [se_X1_renew, r_X1_renew_0]
  simp only [EV, LV, CB, OI, OL, NP, CZ, popN, CT, OZ, List.map_nil, List.map_cons, List.sum_nil, List.sum_cons, Option.toList, List.nil_append, List.cons_append, Int.reduceToNat, Nat.reduceAdd, Nat.reduceLT, Nat.reduceLeDiff, List.length_cons, List.length_nil, Nat.zero_add, if_true, if_false, reduceIte, and_self, and_true, true_and, eq_self, reduceCtorEq, pH hw, wI_R, setR_s, setR_R, or_true]
  have h := t_renew_l wS d hw l n (setR m w (upd (upd (upd (m.1 w) 0 1) 3 l) 1 n)) (m.1 (w + 1)) 40 0 rfl
  rw [fillR_0, setR_n_id _ _ (by omega)] at h
  exact h
/-- the lowest bits of a lane -/
def lnV (l v : Int32) : Int32 := if l = 0 then v.toInt8.toInt32 else if l = 1 then v.toInt16.toInt32 else v
theorem t_put (hw : HSh sh w) {i : Nat} (hi : i < 40) (v : Int32) (m : Mm) : semZ sh wS (d + 1) 3 [.ref w, .int (nI i), .int v] m = some (none, setR m (w + 1) (upd (m.1 (w + 1)) i (lnV (m.1 w 3) v))) := by
  have e2 : inR (nI i) 40 = true := inR_nI (by omega) (by omega)
  have e3 : (nI i).toNatClampNeg = i := nI_clamp (by omega)
  rw [se_X1_put, r_X1_put_0]
  unfold lnV
  by_cases h0 : m.1 w 3 = 0
  · simp only [EV, LV, CB, OI, OL, NP, CZ, popN, CT, OZ, List.map_nil, List.map_cons, List.sum_nil, List.sum_cons, Option.toList, List.nil_append, List.cons_append, Int.reduceToNat, Nat.reduceAdd, Nat.reduceLT, Nat.reduceLeDiff, List.length_cons, List.length_nil, Nat.zero_add, if_true, if_false, reduceIte, and_self, and_true, true_and, eq_self, reduceCtorEq, gH hw, sH hw, h0, e2, e3, wI_R, not_true_eq_false, r_X1_put_44]
  · simp only [EV, LV, CB, OI, OL, NP, CZ, popN, CT, OZ, List.map_nil, List.map_cons, List.sum_nil, List.sum_cons, Option.toList, List.nil_append, List.cons_append, Int.reduceToNat, Nat.reduceAdd, Nat.reduceLT, Nat.reduceLeDiff, List.length_cons, List.length_nil, Nat.zero_add, if_true, if_false, reduceIte, and_self, and_true, true_and, eq_self, reduceCtorEq, gH hw, sH hw, h0, not_false_eq_true, r_X1_put_18]
    by_cases h1 : m.1 w 3 = 1
    · simp only [EV, LV, CB, OI, OL, NP, CZ, popN, CT, OZ, List.map_nil, List.map_cons, List.sum_nil, List.sum_cons, Option.toList, List.nil_append, List.cons_append, Int.reduceToNat, Nat.reduceAdd, Nat.reduceLT, Nat.reduceLeDiff, List.length_cons, List.length_nil, Nat.zero_add, if_true, if_false, reduceIte, and_self, and_true, true_and, eq_self, reduceCtorEq, gH hw, sH hw, h1, e2, e3, wI_R, not_true_eq_false, r_X1_put_44]
    · simp only [EV, LV, CB, OI, OL, NP, CZ, popN, CT, OZ, List.map_nil, List.map_cons, List.sum_nil, List.sum_cons, Option.toList, List.nil_append, List.cons_append, Int.reduceToNat, Nat.reduceAdd, Nat.reduceLT, Nat.reduceLeDiff, List.length_cons, List.length_nil, Nat.zero_add, if_true, if_false, reduceIte, and_self, and_true, true_and, eq_self, reduceCtorEq, gH hw, sH hw, h1, e2, e3, wI_R, not_false_eq_true, r_X1_put_37]
end Sh1
theorem hs_K {K : Nat} (h : K < 4) : HSh shP (60 + 2 * K) := hs_of (by
  match K, h with
  | 0, _ => decide
  | 1, _ => decide
  | 2, _ => decide
  | 3, _ => decide)
theorem clO_K {K : Nat} (h : K < 4) : clO shP (60 + 2 * K) = some 1 := (gH (hs_K h)).1
def shV (k l n : Int32) : Int32 := if (decide (0 ≤ k) && decide (k ≤ 3)) = true ∧ (decide (0 ≤ l) && decide (l ≤ 2)) = true ∧ n ≤ 40 then (if 0 ≤ n then 1 else -14) else -1
def shM (K : Nat) (l n : Int32) (m : Mm) : Mm := setR (setR m (60 + 2 * K) (upd (upd (upd (m.1 (60 + 2 * K)) 0 1) 3 l) 1 n)) (60 + 2 * K + 1) (fillR (fun _ => 0) (m.1 (60 + 2 * K + 1)) 40)
def zf (g : Nat → Int32) (K i : Nat) : Nat → Int32 := fun j => if 40 * K ≤ j ∧ j < 40 * K + i then 0 else g j
theorem zf_0 (g : Nat → Int32) (K : Nat) : zf g K 0 = g := by
  funext j
  unfold zf
  rw [if_neg (by omega)]
theorem zf_s (g : Nat → Int32) (K i : Nat) : upd (zf g K i) (40 * K + i) 0 = zf g K (i + 1) := by
  funext j
  show (if j = 40 * K + i then 0 else if 40 * K ≤ j ∧ j < 40 * K + i then 0 else g j) = if 40 * K ≤ j ∧ j < 40 * K + (i + 1) then 0 else g j
  by_cases h : j = 40 * K + i
  · rw [if_pos h, if_pos (by omega)]
  · rw [if_neg h]
    by_cases h2 : 40 * K ≤ j ∧ j < 40 * K + i
    · rw [if_pos h2, if_pos (by omega)]
    · rw [if_neg h2, if_neg (by omega)]
def shN (K : Nat) (l n : Int32) (m : Mm) : Mm := setR (setR (setR m 77 (upd (m.1 77) K l)) 78 (upd (m.1 78) K n)) 79 (zf (m.1 79) K 40)
section Sh2
variable (wS : List Value → Mm → Option Rs) (d : Nat)
theorem b_false {p : Prop} [Decidable p] (h : ¬ decide p = true) : decide p = false := by simpa using h
theorem t_sheet6 (k l n : Int32) (m : Mm) : semZ shP wS (d + 2) 94 [.ref 0, .int k, .int l, .int n] m = some (some (.int (shV k l n)), if shV k l n = 1 then shM k.toNatClampNeg l n m else m) := by
  have e10 : ¬ (1 : Int32) = 0 := by decide
  have n1 : ¬ (-1 : Int32) = 1 := by decide
  have n14 : ¬ (-14 : Int32) = 1 := by decide
  rw [se_X6_sheet, r_X6_sheet_0]
  unfold shV
  cases h1 : (decide (0 ≤ k) && decide (k ≤ 3)) with
  | false =>
    simp only [EV, LV, CB, OI, OL, NP, CZ, popN, CT, OZ, List.map_nil, List.map_cons, List.sum_nil, List.sum_cons, Option.toList, List.nil_append, List.cons_append, Int.reduceToNat, Nat.reduceAdd, Nat.reduceLT, Nat.reduceLeDiff, List.length_cons, List.length_nil, Nat.zero_add, if_true, if_false, reduceIte, and_self, and_true, true_and, eq_self, reduceCtorEq, t_within wS d, h1, bI_f, r_X6_sheet_24, Bool.false_eq_true, false_and, n1]
  | true =>
    cases h2 : (decide (0 ≤ l) && decide (l ≤ 2)) with
    | false =>
      simp only [EV, LV, CB, OI, OL, NP, CZ, popN, CT, OZ, List.map_nil, List.map_cons, List.sum_nil, List.sum_cons, Option.toList, List.nil_append, List.cons_append, Int.reduceToNat, Nat.reduceAdd, Nat.reduceLT, Nat.reduceLeDiff, List.length_cons, List.length_nil, Nat.zero_add, if_true, if_false, reduceIte, and_self, and_true, true_and, eq_self, reduceCtorEq, t_within wS d, h1, h2, bI_t, bI_f, e10, r_X6_sheet_24, Bool.false_eq_true, false_and, and_false, n1]
    | true =>
      by_cases h3 : n ≤ 40
      · by_cases h4 : 0 ≤ n
        · obtain ⟨K, hK, rfl⟩ := in_nI (N := 3) (by decide) h1
          have e3 : (nI K).toNatClampNeg = K := nI_clamp (by omega)
          simp only [EV, LV, CB, OI, OL, NP, CZ, popN, CT, OZ, List.map_nil, List.map_cons, List.sum_nil, List.sum_cons, Option.toList, List.nil_append, List.cons_append, Int.reduceToNat, Nat.reduceAdd, Nat.reduceLT, Nat.reduceLeDiff, List.length_cons, List.length_nil, Nat.zero_add, if_true, if_false, reduceIte, and_self, and_true, true_and, eq_self, reduceCtorEq, t_within wS d, h1, h2, h3, h4, bI_t, e10, r_X6_sheet_26, r_X6_sheet_33, gP0, aR28 K (by omega), clO_K (show K < 4 by omega), t_renew wS d (hs_K (show K < 4 by omega)), e3, shM]
        · simp only [EV, LV, CB, OI, OL, NP, CZ, popN, CT, OZ, List.map_nil, List.map_cons, List.sum_nil, List.sum_cons, Option.toList, List.nil_append, List.cons_append, Int.reduceToNat, Nat.reduceAdd, Nat.reduceLT, Nat.reduceLeDiff, List.length_cons, List.length_nil, Nat.zero_add, if_true, if_false, reduceIte, and_self, and_true, true_and, eq_self, reduceCtorEq, t_within wS d, h1, h2, h3, h4, bI_t, e10, r_X6_sheet_26, n14]
      · simp only [EV, LV, CB, OI, OL, NP, CZ, popN, CT, OZ, List.map_nil, List.map_cons, List.sum_nil, List.sum_cons, Option.toList, List.nil_append, List.cons_append, Int.reduceToNat, Nat.reduceAdd, Nat.reduceLT, Nat.reduceLeDiff, List.length_cons, List.length_nil, Nat.zero_add, if_true, if_false, reduceIte, and_self, and_true, true_and, eq_self, reduceCtorEq, t_within wS d, h1, h2, h3, bI_t, e10, and_false, n1]
theorem t_sheet7_l (m : Mm) (g : Nat → Int32) {K : Nat} (hK : K < 4) (l n : Int32) : ∀ (k i : Nat), i + k = 40 → rn shP tb0 mN mO (semZ shP wS d) (some .int) (codeZ 180) 40 [.ref 68, .int (nI K), .int l, .int n, .int (nI i)] [] (setR m 79 (zf g K i)) = some (some (.int 1), setR m 79 (zf g K 40)) := by
  intro k
  induction k with
  | zero =>
    intro i hi
    have e0 : i = 40 := by omega
    subst e0
    have e1 : (40 : Int32) ≤ nI 40 := by decide +kernel
    rw [r_X7_sheet_40]
    simp only [EV, LV, CB, OI, OL, NP, CZ, popN, CT, OZ, List.map_nil, List.map_cons, List.sum_nil, List.sum_cons, Option.toList, List.nil_append, List.cons_append, Int.reduceToNat, Nat.reduceAdd, Nat.reduceLT, Nat.reduceLeDiff, List.length_cons, List.length_nil, Nat.zero_add, if_true, if_false, reduceIte, and_self, and_true, true_and, eq_self, reduceCtorEq, e1, r_X7_sheet_66]
  | succ k ih =>
    intro i hi
    have e1 : ¬ (40 : Int32) ≤ nI i := nI_ge (a := i) (b := 40) (by omega) (by omega)
    have e0 : (40 : Int32) * nI K + nI i = nI (40 * K + i) := by
      rw [← nI_add, ← nI_mul]
      rfl
    have e2 : inR (nI (40 * K + i)) 160 = true := inR_nI (by omega) (by omega)
    have e3 : (nI (40 * K + i)).toNatClampNeg = 40 * K + i := nI_clamp (by omega)
    have e4 := zf_s g K i
    rw [r_X7_sheet_40]
    simp only [EV, LV, CB, OI, OL, NP, CZ, popN, CT, OZ, List.map_nil, List.map_cons, List.sum_nil, List.sum_cons, Option.toList, List.nil_append, List.cons_append, Int.reduceToNat, Nat.reduceAdd, Nat.reduceLT, Nat.reduceLeDiff, List.length_cons, List.length_nil, Nat.zero_add, if_true, if_false, reduceIte, and_self, and_true, true_and, eq_self, reduceCtorEq, gM MP68, sM MP68, e1, e0, e2, e3, wI_R, setR_s, setR_R, e4, nI_1]
    exact ih (i + 1) (by omega)
theorem t_sheet7 (k l n : Int32) (m : Mm) : semZ shP wS (d + 3) 180 [.ref 68, .int k, .int l, .int n] m = some (some (.int (shV k l n)), if shV k l n = 1 then shN k.toNatClampNeg l n m else m) := by
  have e10 : ¬ (1 : Int32) = 0 := by decide
  have n1 : ¬ (-1 : Int32) = 1 := by decide
  have n14 : ¬ (-14 : Int32) = 1 := by decide
  have d1 := dec64 k 0 3 0 3 (by decide) (by decide)
  have d2 := dec64 l 0 2 0 2 (by decide) (by decide)
  rw [se_X7_sheet, r_X7_sheet_0]
  unfold shV
  cases h1 : (decide (0 ≤ k) && decide (k ≤ 3)) with
  | false =>
    simp only [EV, LV, CB, OI, OL, NP, CZ, popN, CT, OZ, List.map_nil, List.map_cons, List.sum_nil, List.sum_cons, Option.toList, List.nil_append, List.cons_append, Int.reduceToNat, Nat.reduceAdd, Nat.reduceLT, Nat.reduceLeDiff, List.length_cons, List.length_nil, Nat.zero_add, if_true, if_false, reduceIte, and_self, and_true, true_and, eq_self, reduceCtorEq, t_isSheet wS d, d1, d2, h1, bI_f, r_X7_sheet_14, Bool.false_eq_true, Bool.false_and, false_and, n1]
  | true =>
    cases h2 : (decide (0 ≤ l) && decide (l ≤ 2)) with
    | false =>
      simp only [EV, LV, CB, OI, OL, NP, CZ, popN, CT, OZ, List.map_nil, List.map_cons, List.sum_nil, List.sum_cons, Option.toList, List.nil_append, List.cons_append, Int.reduceToNat, Nat.reduceAdd, Nat.reduceLT, Nat.reduceLeDiff, List.length_cons, List.length_nil, Nat.zero_add, if_true, if_false, reduceIte, and_self, and_true, true_and, eq_self, reduceCtorEq, t_isSheet wS d, d1, d2, h1, h2, bI_f, r_X7_sheet_14, Bool.false_eq_true, Bool.and_false, false_and, and_false, n1]
    | true =>
      by_cases h3 : n ≤ 40
      · by_cases h4 : 0 ≤ n
        · obtain ⟨K, hK, rfl⟩ := in_nI (N := 3) (by decide) h1
          have e3 : (nI K).toNatClampNeg = K := nI_clamp (by omega)
          have e2 : inR (nI K) 4 = true := inR_nI (by omega) (by omega)
          simp only [EV, LV, CB, OI, OL, NP, CZ, popN, CT, OZ, List.map_nil, List.map_cons, List.sum_nil, List.sum_cons, Option.toList, List.nil_append, List.cons_append, Int.reduceToNat, Nat.reduceAdd, Nat.reduceLT, Nat.reduceLeDiff, List.length_cons, List.length_nil, Nat.zero_add, if_true, if_false, reduceIte, and_self, and_true, true_and, eq_self, reduceCtorEq, t_isSheet wS d, d1, d2, h1, h2, h3, h4, bI_t, e10, Bool.and_self, r_X7_sheet_16, r_X7_sheet_23, gM MP68, sM MP68, e2, e3, wI_R, shN]
          have h := t_sheet7_l wS (d + 2) (setR (setR m 77 (upd (m.1 77) K l)) 78 (upd (m.1 78) K n)) (m.1 79) (show K < 4 by omega) l n 40 0 rfl
          rw [zf_0, show m.1 79 = (setR (setR m 77 (upd (m.1 77) K l)) 78 (upd (m.1 78) K n)).1 79 from rfl, setR_id] at h
          exact h
        · simp only [EV, LV, CB, OI, OL, NP, CZ, popN, CT, OZ, List.map_nil, List.map_cons, List.sum_nil, List.sum_cons, Option.toList, List.nil_append, List.cons_append, Int.reduceToNat, Nat.reduceAdd, Nat.reduceLT, Nat.reduceLeDiff, List.length_cons, List.length_nil, Nat.zero_add, if_true, if_false, reduceIte, and_self, and_true, true_and, eq_self, reduceCtorEq, t_isSheet wS d, d1, d2, h1, h2, h3, h4, bI_t, e10, Bool.and_self, r_X7_sheet_16, n14]
      · simp only [EV, LV, CB, OI, OL, NP, CZ, popN, CT, OZ, List.map_nil, List.map_cons, List.sum_nil, List.sum_cons, Option.toList, List.nil_append, List.cons_append, Int.reduceToNat, Nat.reduceAdd, Nat.reduceLT, Nat.reduceLeDiff, List.length_cons, List.length_nil, Nat.zero_add, if_true, if_false, reduceIte, and_self, and_true, true_and, eq_self, reduceCtorEq, t_isSheet wS d, d1, d2, h1, h2, h3, bI_t, e10, Bool.and_self, and_false, n1]
/-- what lay answers -/
def lyV (nul : Bool) (sz i : Int32) : Int32 := if nul = true then -11 else if (decide (0 ≤ i) && decide (i < sz)) = true then 1 else -12
theorem t_lay_bad (k i v : Int32) (h : (decide (0 ≤ k) && decide (k ≤ 3)) = false) (m : Mm) : semZ shP wS (d + 2) 95 [.ref 0, .int k, .int i, .int v] m = some (some (.int (-1)), m) ∧ semZ shP wS (d + 3) 181 [.ref 68, .int k, .int i, .int v] m = some (some (.int (-1)), m) := by
  have d1 := dec64 k 0 3 0 3 (by decide) (by decide)
  constructor
  · rw [se_X6_lay, r_X6_lay_0]
    simp only [EV, LV, CB, OI, OL, NP, CZ, popN, CT, OZ, List.map_nil, List.map_cons, List.sum_nil, List.sum_cons, Option.toList, List.nil_append, List.cons_append, Int.reduceToNat, Nat.reduceAdd, Nat.reduceLT, Nat.reduceLeDiff, List.length_cons, List.length_nil, Nat.zero_add, if_true, if_false, reduceIte, and_self, and_true, true_and, eq_self, reduceCtorEq, t_within wS d, h, bI_f, not_true_eq_false]
  · rw [se_X7_lay, r_X7_lay_0]
    simp only [EV, LV, CB, OI, OL, NP, CZ, popN, CT, OZ, List.map_nil, List.map_cons, List.sum_nil, List.sum_cons, Option.toList, List.nil_append, List.cons_append, Int.reduceToNat, Nat.reduceAdd, Nat.reduceLT, Nat.reduceLeDiff, List.length_cons, List.length_nil, Nat.zero_add, if_true, if_false, reduceIte, and_self, and_true, true_and, eq_self, reduceCtorEq, t_isSheet wS d, d1, h, bI_f, Bool.false_and, not_true_eq_false]
theorem t_lay6 {K : Nat} (hK : K < 4) (i v : Int32) (m : Mm) (hs : (m.1 (60 + 2 * K) 1).toInt ≤ 40) : semZ shP wS (d + 2) 95 [.ref 0, .int (nI K), .int i, .int v] m = some (some (.int (lyV (decide (m.1 (60 + 2 * K) 0 = 0)) (m.1 (60 + 2 * K) 1) i)), if lyV (decide (m.1 (60 + 2 * K) 0 = 0)) (m.1 (60 + 2 * K) 1) i = 1 then setR m (60 + 2 * K + 1) (upd (m.1 (60 + 2 * K + 1)) i.toNatClampNeg (lnV (m.1 (60 + 2 * K) 3) v)) else m) := by
  have e10 : ¬ (1 : Int32) = 0 := by decide
  have e20 : ¬ (2 : Int32) = 0 := by decide
  have n11 : ¬ (-11 : Int32) = 1 := by decide
  have n12 : ¬ (-12 : Int32) = 1 := by decide
  have h1 : (decide (0 ≤ nI K) && decide (nI K ≤ 3)) = true := by
    have a : (0 : Int32) ≤ nI K := nI_pos' (by omega)
    have b : nI K ≤ (3 : Int32) := nI_le (a := K) (b := 3) (by omega) (by omega)
    simp only [a, b, decide_true, Bool.and_self]
  have L0 : ((i.toInt64 < 0) = (i < 0)) := by
    apply propext
    rw [Int64.lt_iff_toInt_lt, Int32.lt_iff_toInt_lt, Int32.toInt_toInt64]
    exact Iff.rfl
  have L1 : ((i.toInt64 < (m.1 (60 + 2 * K) 1).toInt64) = (i < m.1 (60 + 2 * K) 1)) := by
    apply propext
    rw [Int64.lt_iff_toInt_lt, Int32.lt_iff_toInt_lt, Int32.toInt_toInt64, Int32.toInt_toInt64]
  rw [se_X6_lay, r_X6_lay_0]
  unfold lyV
  by_cases h0 : m.1 (60 + 2 * K) 0 = 0
  · simp only [EV, LV, CB, OI, OL, NP, CZ, popN, CT, OZ, List.map_nil, List.map_cons, List.sum_nil, List.sum_cons, Option.toList, List.nil_append, List.cons_append, Int.reduceToNat, Nat.reduceAdd, Nat.reduceLT, Nat.reduceLeDiff, List.length_cons, List.length_nil, Nat.zero_add, if_true, if_false, reduceIte, and_self, and_true, true_and, eq_self, reduceCtorEq, t_within wS d, h1, bI_t, e10, not_false_eq_true, r_X6_lay_11, gP0, aR28 K hK, clO_K hK, t_faultAt wS d (hs_K hK), h0, decide_true, n11]
    rfl
  · by_cases h2 : i < 0
    · have h3 : ¬ (0 : Int32) ≤ i := Int32.not_le.mpr h2
      simp only [EV, LV, CB, OI, OL, NP, CZ, popN, CT, OZ, List.map_nil, List.map_cons, List.sum_nil, List.sum_cons, Option.toList, List.nil_append, List.cons_append, Int.reduceToNat, Nat.reduceAdd, Nat.reduceLT, Nat.reduceLeDiff, List.length_cons, List.length_nil, Nat.zero_add, if_true, if_false, reduceIte, and_self, and_true, true_and, eq_self, reduceCtorEq, t_within wS d, h1, bI_t, e10, e20, not_false_eq_true, r_X6_lay_11, gP0, aR28 K hK, clO_K hK, t_faultAt wS d (hs_K hK), h0, L0, h2, h3, decide_false, Bool.false_and, Bool.false_eq_true, n12]
      rfl
    · have h3 : (0 : Int32) ≤ i := Int32.not_lt.mp h2
      by_cases h4 : i < m.1 (60 + 2 * K) 1
      · obtain ⟨I, hI, rfl⟩ := nI_of h2
        have h5 := Int32.lt_iff_toInt_lt.mp h4
        rw [nI_toInt hI] at h5
        have hI40 : I < 40 := by omega
        have e3 : (nI I).toNatClampNeg = I := nI_clamp (by omega)
        simp only [EV, LV, CB, OI, OL, NP, CZ, popN, CT, OZ, List.map_nil, List.map_cons, List.sum_nil, List.sum_cons, Option.toList, List.nil_append, List.cons_append, Int.reduceToNat, Nat.reduceAdd, Nat.reduceLT, Nat.reduceLeDiff, List.length_cons, List.length_nil, Nat.zero_add, if_true, if_false, reduceIte, and_self, and_true, true_and, eq_self, reduceCtorEq, t_within wS d, h1, bI_t, e10, not_false_eq_true, r_X6_lay_11, r_X6_lay_35, gP0, aR28 K hK, clO_K hK, t_faultAt wS d (hs_K hK), t_put wS d (hs_K hK) hI40, h0, L0, L1, h2, h3, h4, decide_false, decide_true, Bool.and_self, Bool.false_eq_true, e3]
      · simp only [EV, LV, CB, OI, OL, NP, CZ, popN, CT, OZ, List.map_nil, List.map_cons, List.sum_nil, List.sum_cons, Option.toList, List.nil_append, List.cons_append, Int.reduceToNat, Nat.reduceAdd, Nat.reduceLT, Nat.reduceLeDiff, List.length_cons, List.length_nil, Nat.zero_add, if_true, if_false, reduceIte, and_self, and_true, true_and, eq_self, reduceCtorEq, t_within wS d, h1, bI_t, e10, e20, not_false_eq_true, r_X6_lay_11, gP0, aR28 K hK, clO_K hK, t_faultAt wS d (hs_K hK), h0, L0, L1, h2, h3, h4, decide_false, decide_true, Bool.and_false, Bool.false_eq_true, n12]
        rfl
theorem t_lay7 {K : Nat} (hK : K < 4) (i v : Int32) (m : Mm) (hs0 : 0 ≤ (m.1 78 K).toInt) (hs : (m.1 78 K).toInt ≤ 40) : semZ shP wS (d + 3) 181 [.ref 68, .int (nI K), .int i, .int v] m = some (some (.int (lyV (decide (m.1 77 K = -4)) (m.1 78 K) i)), if lyV (decide (m.1 77 K = -4)) (m.1 78 K) i = 1 then setR m 79 (upd (m.1 79) (40 * K + i.toNatClampNeg) (lnV (m.1 77 K) v)) else m) := by
  have e10 : ¬ (1 : Int32) = 0 := by decide
  have n11 : ¬ (-11 : Int32) = 1 := by decide
  have n12 : ¬ (-12 : Int32) = 1 := by decide
  have d1 := dec64 (nI K) 0 3 0 3 (by decide) (by decide)
  have h1 : (decide (0 ≤ nI K) && decide (nI K ≤ 3)) = true := by
    have a : (0 : Int32) ≤ nI K := nI_pos' (by omega)
    have b : nI K ≤ (3 : Int32) := nI_le (a := K) (b := 3) (by omega) (by omega)
    simp only [a, b, decide_true, Bool.and_self]
  have d2 : (decide ((0 : Int64) ≤ (0 : Int32).toInt64) && decide ((0 : Int32).toInt64 ≤ 2)) = true := by decide
  have d3 := in_sub1 i (m.1 78 K) hs0
  have e2 : inR (nI K) 4 = true := inR_nI (by omega) (by omega)
  have e3 : (nI K).toNatClampNeg = K := nI_clamp (by omega)
  rw [se_X7_lay, r_X7_lay_0]
  unfold lyV
  by_cases h0 : m.1 77 K = -4
  · simp only [EV, LV, CB, OI, OL, NP, CZ, popN, CT, OZ, List.map_nil, List.map_cons, List.sum_nil, List.sum_cons, Option.toList, List.nil_append, List.cons_append, Int.reduceToNat, Nat.reduceAdd, Nat.reduceLT, Nat.reduceLeDiff, List.length_cons, List.length_nil, Nat.zero_add, if_true, if_false, reduceIte, and_self, and_true, true_and, eq_self, reduceCtorEq, t_isSheet wS d, d1, d2, h1, bI_t, Bool.and_self, e10, not_false_eq_true, not_true_eq_false, r_X7_lay_10, gM MP68, aM MP68, e2, e3, h0, decide_true, n11]
  · cases h2 : (decide (0 ≤ i) && decide (i < m.1 78 K)) with
    | false =>
      simp only [EV, LV, CB, OI, OL, NP, CZ, popN, CT, OZ, List.map_nil, List.map_cons, List.sum_nil, List.sum_cons, Option.toList, List.nil_append, List.cons_append, Int.reduceToNat, Nat.reduceAdd, Nat.reduceLT, Nat.reduceLeDiff, List.length_cons, List.length_nil, Nat.zero_add, if_true, if_false, reduceIte, and_self, and_true, true_and, eq_self, reduceCtorEq, t_isSheet wS d, d1, d2, h1, bI_t, bI_f, Bool.and_self, e10, not_false_eq_true, not_true_eq_false, r_X7_lay_10, r_X7_lay_24, gM MP68, aM MP68, e2, e3, h0, t_in wS (d + 1), d3, h2, decide_false, Bool.false_eq_true, n12]
    | true =>
      simp only [Bool.and_eq_true, decide_eq_true_eq] at h2
      obtain ⟨I, hI, rfl⟩ := nI_of (Int32.not_lt.mpr h2.1)
      have h5 := Int32.lt_iff_toInt_lt.mp h2.2
      rw [nI_toInt hI] at h5
      have e5 : (40 : Int32) * nI K + nI I = nI (40 * K + I) := by
        rw [← nI_add, ← nI_mul]
        rfl
      have e6 : inR (nI (40 * K + I)) 160 = true := inR_nI (by omega) (by omega)
      have e7 : (nI (40 * K + I)).toNatClampNeg = 40 * K + I := nI_clamp (by omega)
      have e8 : (nI I).toNatClampNeg = I := nI_clamp hI
      have d4 : (decide (0 ≤ nI I) && decide (nI I < m.1 78 K)) = true := by simp only [h2.1, h2.2, decide_true, Bool.and_self]
      have z0 : ¬ (0 : Int32) = -4 := by decide
      have z1 : ¬ (1 : Int32) = -4 := by decide
      unfold lnV
      by_cases c0 : m.1 77 K = 0
      · simp only [EV, LV, CB, OI, OL, NP, CZ, popN, CT, OZ, List.map_nil, List.map_cons, List.sum_nil, List.sum_cons, Option.toList, List.nil_append, List.cons_append, Int.reduceToNat, Nat.reduceAdd, Nat.reduceLT, Nat.reduceLeDiff, List.length_cons, List.length_nil, Nat.zero_add, if_true, if_false, reduceIte, and_self, and_true, true_and, eq_self, reduceCtorEq, t_isSheet wS d, d1, d2, h1, bI_t, Bool.and_self, e10, not_false_eq_true, not_true_eq_false, r_X7_lay_10, r_X7_lay_24, r_X7_lay_45, r_X7_lay_85, gM MP68, aM MP68, sM MP68, e2, e3, h0, c0, z0, t_in wS (d + 1), d3, d4, decide_false, Bool.false_eq_true, e5, e6, e7, e8, wI_R]
      · by_cases c1 : m.1 77 K = 1
        · simp only [EV, LV, CB, OI, OL, NP, CZ, popN, CT, OZ, List.map_nil, List.map_cons, List.sum_nil, List.sum_cons, Option.toList, List.nil_append, List.cons_append, Int.reduceToNat, Nat.reduceAdd, Nat.reduceLT, Nat.reduceLeDiff, List.length_cons, List.length_nil, Nat.zero_add, if_true, if_false, reduceIte, and_self, and_true, true_and, eq_self, reduceCtorEq, t_isSheet wS d, d1, d2, h1, bI_t, Bool.and_self, e10, not_false_eq_true, not_true_eq_false, r_X7_lay_10, r_X7_lay_24, r_X7_lay_45, r_X7_lay_69, r_X7_lay_85, gM MP68, aM MP68, sM MP68, e2, e3, h0, c0, c1, z1, e10, t_in wS (d + 1), d3, d4, decide_false, Bool.false_eq_true, e5, e6, e7, e8, wI_R]
        · simp only [EV, LV, CB, OI, OL, NP, CZ, popN, CT, OZ, List.map_nil, List.map_cons, List.sum_nil, List.sum_cons, Option.toList, List.nil_append, List.cons_append, Int.reduceToNat, Nat.reduceAdd, Nat.reduceLT, Nat.reduceLeDiff, List.length_cons, List.length_nil, Nat.zero_add, if_true, if_false, reduceIte, and_self, and_true, true_and, eq_self, reduceCtorEq, t_isSheet wS d, d1, d2, h1, bI_t, Bool.and_self, e10, not_false_eq_true, not_true_eq_false, r_X7_lay_10, r_X7_lay_24, r_X7_lay_45, r_X7_lay_69, r_X7_lay_84, gM MP68, aM MP68, sM MP68, e2, e3, h0, c0, c1, t_in wS (d + 1), d3, d4, decide_false, Bool.false_eq_true, e5, e6, e7, e8, wI_R]
end Sh2
