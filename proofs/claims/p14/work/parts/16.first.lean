/-! memories by rows -/
def setR (m : Mm) (o : Nat) (f : Nat → Int32) : Mm := (va_up m.1 o f, m.2)
theorem wI_R (m : Mm) (o j : Nat) (x : Int32) : wI m o j x = setR m o (upd (m.1 o) j x) := rfl
theorem setR_s (m : Mm) (o : Nat) (f : Nat → Int32) : (setR m o f).1 o = f := up_s _ _ _
theorem setR_n (m : Mm) {o o' : Nat} (f : Nat → Int32) (h : o' ≠ o) : (setR m o f).1 o' = m.1 o' := up_n _ _ h
theorem setR_2 (m : Mm) (o : Nat) (f : Nat → Int32) : (setR m o f).2 = m.2 := rfl
theorem setR_R (m : Mm) (o : Nat) (f g : Nat → Int32) : setR (setR m o f) o g = setR m o g := by
  simp only [setR, bx_uu]
theorem setR_id (m : Mm) (o : Nat) : setR m o (m.1 o) = m := by
  have : va_up m.1 o (m.1 o) = m.1 := by
    funext j
    by_cases h : j = o
    · rw [h, up_s]
    · rw [up_n _ _ h]
  unfold setR
  rw [this]
theorem setR_at (m : Mm) (o o' : Nat) (f : Nat → Int32) : (setR m o f).1 o' = if o' = o then f else m.1 o' := rfl
def fillR (f g : Nat → Int32) (i : Nat) : Nat → Int32 := fun j => if j < i then f j else g j
theorem fillR_0 (f g : Nat → Int32) : fillR f g 0 = g := by funext j; simp [fillR]
theorem fillR_s (f g : Nat → Int32) (i : Nat) : upd (fillR f g i) i (f i) = fillR f g (i + 1) := by
  funext j
  simp only [upd, fillR]
  by_cases h : j = i
  · subst h; simp
  · rw [if_neg h]
    by_cases h2 : j < i
    · rw [if_pos h2, if_pos (by omega)]
    · rw [if_neg h2, if_neg (by omega)]
theorem OZ : (∀ x : Int32, okZ (some .int) x = true) ∧ okZ (some .boolean) 0 = true ∧ okZ (some .boolean) 1 = true ∧ (∀ n : String, isRefT (some (.object n)) = true) ∧ (∀ t : FieldType, isRefT (some (.array t)) = true) := ⟨fun _ => rfl, by decide +kernel, by decide +kernel, fun _ => rfl, fun _ => rfl⟩
section First
variable {sh : List ShE} {w : Nat} (wS : List Value → Mm → Option Rs) (d : Nat)
theorem t_turns_l (hw : WSh sh w) (m : Mm) (g : Nat → Int32) : ∀ (k i : Nat), i + k = 4 → rn sh tb0 mN mO (semZ sh wS d) none (codeZ 24) 2 [.ref w, .int (nI i)] [] (setR m (w + 3) (fillR nI g i)) = some (none, setR m (w + 3) (fillR nI g 4)) := by
  intro k
  induction k with
  | zero =>
    intro i hi
    have e0 : i = 4 := by omega
    subst e0
    rw [rn_eq, b_X5_takeTurnsByNumber_2]
    simp only [EV, LV, CB, OI, OL, NP, CZ, popN, CT, OZ, List.map_nil, List.map_cons, List.sum_nil, List.sum_cons, Option.toList, List.nil_append, List.cons_append, Int.reduceToNat, Nat.reduceAdd, Nat.reduceLT, Nat.reduceLeDiff, List.length_cons, List.length_nil, Nat.zero_add, if_true, if_false, reduceIte, and_self, and_true, true_and, eq_self, reduceCtorEq]
    have e1 : (4 : Int32) ≤ nI 4 := by decide +kernel
    simp only [e1, EV, LV, CB, OI, OL, NP, CZ, popN, CT, OZ, List.map_nil, List.map_cons, List.sum_nil, List.sum_cons, Option.toList, List.nil_append, List.cons_append, Int.reduceToNat, Nat.reduceAdd, Nat.reduceLT, Nat.reduceLeDiff, List.length_cons, List.length_nil, Nat.zero_add, if_true, if_false, reduceIte, and_self, and_true, true_and, eq_self, reduceCtorEq]
    rw [rn_eq, b_X5_takeTurnsByNumber_20]
    simp only [EV, LV, CB, OI, OL, NP, CZ, popN, CT, OZ, List.map_nil, List.map_cons, List.sum_nil, List.sum_cons, Option.toList, List.nil_append, List.cons_append, Int.reduceToNat, Nat.reduceAdd, Nat.reduceLT, Nat.reduceLeDiff, List.length_cons, List.length_nil, Nat.zero_add, if_true, if_false, reduceIte, and_self, and_true, true_and, eq_self, reduceCtorEq]
  | succ k ih =>
    intro i hi
    have e1 : ¬ (4 : Int32) ≤ nI i := nI_ge (a := i) (b := 4) (by omega) (by omega)
    have e2 : inR (nI i) 4 = true := inR_nI (by omega) (by omega)
    have e3 : (nI i).toNatClampNeg = i := nI_clamp (by omega)
    rw [rn_eq, b_X5_takeTurnsByNumber_2]
    simp only [EV, LV, CB, OI, OL, NP, CZ, popN, CT, OZ, List.map_nil, List.map_cons, List.sum_nil, List.sum_cons, Option.toList, List.nil_append, List.cons_append, Int.reduceToNat, Nat.reduceAdd, Nat.reduceLT, Nat.reduceLeDiff, List.length_cons, List.length_nil, Nat.zero_add, if_true, if_false, reduceIte, and_self, and_true, true_and, eq_self, reduceCtorEq, gW hw, sW hw, e1, e2, e3, wI_R, setR_s, setR_R, fillR_s, nI_1]
    exact ih (i + 1) (by omega)
theorem t_turns (hw : WSh sh w) (m : Mm) : semZ sh wS (d + 1) 24 [.ref w] m = some (none, setR m (w + 3) (fillR nI (m.1 (w + 3)) 4)) := by
  rw [se_X5_takeTurnsByNumber, rn_eq, b_X5_takeTurnsByNumber_0]
  simp only [EV, LV, CB, OI, OL, NP, CZ, popN, CT, OZ, List.map_nil, List.map_cons, List.sum_nil, List.sum_cons, Option.toList, List.nil_append, List.cons_append, Int.reduceToNat, Nat.reduceAdd, Nat.reduceLT, Nat.reduceLeDiff, List.length_cons, List.length_nil, Nat.zero_add, if_true, if_false, reduceIte, and_self, and_true, true_and, eq_self, reduceCtorEq]
  have h := t_turns_l wS d hw m (m.1 (w + 3)) 4 0 rfl
  rw [fillR_0, setR_id] at h
  exact h
/-- the fields of a new World -/
def newF (f : Nat → Int32) : Nat → Int32 := upd (upd (upd (upd (upd (upd (upd (upd f 0 0) 1 0) 2 5) 3 46) 4 5) 5 0) 6 0) 7 0
theorem t_clear (hw : WSh sh w) (m : Mm) : semZ sh wS (d + 2) 23 [.ref w] m = some (none, setR (setR m w (newF (m.1 w))) (w + 3) (fillR nI (m.1 (w + 3)) 4)) := by
  rw [se_X5_clear, rn_eq, b_X5_clear_0]
  simp only [EV, LV, CB, OI, OL, NP, CZ, popN, CT, OZ, List.map_nil, List.map_cons, List.sum_nil, List.sum_cons, Option.toList, List.nil_append, List.cons_append, Int.reduceToNat, Nat.reduceAdd, Nat.reduceLT, Nat.reduceLeDiff, List.length_cons, List.length_nil, Nat.zero_add, if_true, if_false, reduceIte, and_self, and_true, true_and, eq_self, reduceCtorEq, gW hw, pW hw, wI_R, setR_s, setR_R, t_turns wS d hw]
  have e : w + 3 ≠ w := by omega
  simp only [setR_n _ _ e, newF]
theorem t_first_l (hw : MSh sh w) (m : Mm) (g : Nat → Int32) : ∀ (k i : Nat), i + k = 63 → rn sh tb0 mN mO (semZ sh wS d) none (codeZ 103) 2 [.ref w, .int (nI i)] [] (setR m (w + 4) (fillR (fun _ => 0) g i)) = rn sh tb0 mN mO (semZ sh wS d) none (codeZ 103) 21 [.ref w, .int 63] [] (setR m (w + 4) (fillR (fun _ => 0) g 63)) := by
  intro k
  induction k with
  | zero =>
    intro i hi
    have e0 : i = 63 := by omega
    subst e0
    rw [rn_eq, b_X7_firstDraft_2]
    have e1 : (63 : Int32) ≤ nI 63 := by decide +kernel
    simp only [e1, EV, LV, CB, OI, OL, NP, CZ, popN, CT, OZ, List.map_nil, List.map_cons, List.sum_nil, List.sum_cons, Option.toList, List.nil_append, List.cons_append, Int.reduceToNat, Nat.reduceAdd, Nat.reduceLT, Nat.reduceLeDiff, List.length_cons, List.length_nil, Nat.zero_add, if_true, if_false, reduceIte, and_self, and_true, true_and, eq_self, reduceCtorEq]
    rfl
  | succ k ih =>
    intro i hi
    have e1 : ¬ (63 : Int32) ≤ nI i := nI_ge (a := i) (b := 63) (by omega) (by omega)
    have e2 : inR (nI i) 63 = true := inR_nI (by omega) (by omega)
    have e3 : (nI i).toNatClampNeg = i := nI_clamp (by omega)
    have e4 := fillR_s (fun _ => 0) g i
    rw [rn_eq, b_X7_firstDraft_2]
    simp only [EV, LV, CB, OI, OL, NP, CZ, popN, CT, OZ, List.map_nil, List.map_cons, List.sum_nil, List.sum_cons, Option.toList, List.nil_append, List.cons_append, Int.reduceToNat, Nat.reduceAdd, Nat.reduceLT, Nat.reduceLeDiff, List.length_cons, List.length_nil, Nat.zero_add, if_true, if_false, reduceIte, and_self, and_true, true_and, eq_self, reduceCtorEq, gM hw, sM hw, e1, e2, e3, wI_R, setR_s, setR_R, e4, nI_1]
    exact ih (i + 1) (by omega)
theorem in_39 : inR 39 63 = true ∧ inR 40 63 = true ∧ inR 41 63 = true ∧ (39 : Int32).toNatClampNeg = 39 ∧ (40 : Int32).toNatClampNeg = 40 ∧ (41 : Int32).toNatClampNeg = 41 := by decide +kernel
theorem in_01 : inR 0 2 = true ∧ inR 1 2 = true ∧ (0 : Int32).toNatClampNeg = 0 ∧ (1 : Int32).toNatClampNeg = 1 := by decide +kernel
/-- the first draft -/
def dr0 (g : Nat → Int32) : Nat → Int32 := upd (upd (upd (fillR (fun _ => 0) g 63) 39 5) 40 46) 41 5
theorem t_firstDraft (hw : MSh sh w) (m : Mm) : semZ sh wS (d + 1) 103 [.ref w] m = some (none, setR (setR m (w + 4) (dr0 (m.1 (w + 4)))) w (upd (upd (upd (m.1 w) 5 0) 6 0) 7 (-4))) := by
  rw [se_X7_firstDraft, rn_eq, b_X7_firstDraft_0]
  simp only [EV, LV, CB, OI, OL, NP, CZ, popN, CT, OZ, List.map_nil, List.map_cons, List.sum_nil, List.sum_cons, Option.toList, List.nil_append, List.cons_append, Int.reduceToNat, Nat.reduceAdd, Nat.reduceLT, Nat.reduceLeDiff, List.length_cons, List.length_nil, Nat.zero_add, if_true, if_false, reduceIte, and_self, and_true, true_and, eq_self, reduceCtorEq]
  have h := t_first_l wS d hw m (m.1 (w + 4)) 63 0 rfl
  rw [fillR_0, setR_id] at h
  have e : w ≠ w + 4 := by omega
  refine Eq.trans h ?_
  rw [rn_eq, b_X7_firstDraft_21]
  simp only [EV, LV, CB, OI, OL, NP, CZ, popN, CT, OZ, List.map_nil, List.map_cons, List.sum_nil, List.sum_cons, Option.toList, List.nil_append, List.cons_append, Int.reduceToNat, Nat.reduceAdd, Nat.reduceLT, Nat.reduceLeDiff, List.length_cons, List.length_nil, Nat.zero_add, if_true, if_false, reduceIte, and_self, and_true, true_and, eq_self, reduceCtorEq, gM hw, pM hw, sM hw, in_39, wI_R, setR_s, setR_R, setR_n _ _ e, dr0]
theorem t_keep_l (hw : MSh sh w) (m : Mm) (g : Nat → Int32) : ∀ (k i : Nat), i + k = 63 → rn sh tb0 mN mO (semZ sh wS d) none (codeZ 104) 2 [.ref w, .int (nI i)] [] (setR m (w + 1) (fillR (m.1 (w + 4)) g i)) = rn sh tb0 mN mO (semZ sh wS d) none (codeZ 104) 26 [.ref w, .int 63] [] (setR m (w + 1) (fillR (m.1 (w + 4)) g 63)) := by
  intro k
  induction k with
  | zero =>
    intro i hi
    have e0 : i = 63 := by omega
    subst e0
    rw [rn_eq, b_X7_keepDraft_2]
    have e1 : (63 : Int32) ≤ nI 63 := by decide +kernel
    simp only [e1, EV, LV, CB, OI, OL, NP, CZ, popN, CT, OZ, List.map_nil, List.map_cons, List.sum_nil, List.sum_cons, Option.toList, List.nil_append, List.cons_append, Int.reduceToNat, Nat.reduceAdd, Nat.reduceLT, Nat.reduceLeDiff, List.length_cons, List.length_nil, Nat.zero_add, if_true, if_false, reduceIte, and_self, and_true, true_and, eq_self, reduceCtorEq]
    rfl
  | succ k ih =>
    intro i hi
    have e1 : ¬ (63 : Int32) ≤ nI i := nI_ge (a := i) (b := 63) (by omega) (by omega)
    have e2 : inR (nI i) 63 = true := inR_nI (by omega) (by omega)
    have e5 : inR (nI i) 189 = true := inR_nI (by omega) (by omega)
    have e3 : (nI i).toNatClampNeg = i := nI_clamp (by omega)
    have e4 := fillR_s (m.1 (w + 4)) g i
    have e : w + 4 ≠ w + 1 := by omega
    rw [rn_eq, b_X7_keepDraft_2]
    simp only [EV, LV, CB, OI, OL, NP, CZ, popN, CT, OZ, List.map_nil, List.map_cons, List.sum_nil, List.sum_cons, Option.toList, List.nil_append, List.cons_append, Int.reduceToNat, Nat.reduceAdd, Nat.reduceLT, Nat.reduceLeDiff, List.length_cons, List.length_nil, Nat.zero_add, if_true, if_false, reduceIte, and_self, and_true, true_and, eq_self, reduceCtorEq, gM hw, sM hw, aM hw, e1, e2, e3, e5, wI_R, setR_s, setR_n _ _ e, setR_R, e4, nI_1]
    exact ih (i + 1) (by omega)
theorem t_keepDraft (hw : MSh sh w) (m : Mm) : semZ sh wS (d + 1) 104 [.ref w] m = some (none, setR (setR (setR m (w + 1) (fillR (m.1 (w + 4)) (m.1 (w + 1)) 63)) w (upd (m.1 w) 3 (m.1 w 5))) (w + 3) (upd (upd (m.1 (w + 3)) 0 0) 1 0)) := by
  rw [se_X7_keepDraft, rn_eq, b_X7_keepDraft_0]
  simp only [EV, LV, CB, OI, OL, NP, CZ, popN, CT, OZ, List.map_nil, List.map_cons, List.sum_nil, List.sum_cons, Option.toList, List.nil_append, List.cons_append, Int.reduceToNat, Nat.reduceAdd, Nat.reduceLT, Nat.reduceLeDiff, List.length_cons, List.length_nil, Nat.zero_add, if_true, if_false, reduceIte, and_self, and_true, true_and, eq_self, reduceCtorEq]
  have h := t_keep_l wS d hw m (m.1 (w + 1)) 63 0 rfl
  rw [fillR_0, setR_id] at h
  have e : w ≠ w + 1 := by omega
  have e2 : w + 3 ≠ w := by omega
  have e3 : w + 3 ≠ w + 1 := by omega
  refine Eq.trans h ?_
  rw [rn_eq, b_X7_keepDraft_26]
  simp only [EV, LV, CB, OI, OL, NP, CZ, popN, CT, OZ, List.map_nil, List.map_cons, List.sum_nil, List.sum_cons, Option.toList, List.nil_append, List.cons_append, Int.reduceToNat, Nat.reduceAdd, Nat.reduceLT, Nat.reduceLeDiff, List.length_cons, List.length_nil, Nat.zero_add, if_true, if_false, reduceIte, and_self, and_true, true_and, eq_self, reduceCtorEq, gM hw, pM hw, sM hw, in_01, wI_R, setR_s, setR_R, setR_n _ _ e, setR_n _ _ e2, setR_n _ _ e3, true_or]
end First
