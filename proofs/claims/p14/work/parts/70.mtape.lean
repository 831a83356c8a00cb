/-! THE MODEL'S TAPE: its six numbers (pos, from, sort, value, fault, wrongAt) -/
def tk6 (r : Nat → Int32) (ps fr : Nat) (so va fa wr : Int32) : Nat → Int32 := fun j => if j = 10 then nI ps else if j = 11 then nI fr else if j = 12 then so else if j = 13 then va else if j = 14 then fa else if j = 15 then wr else r j
def pm (m : Mm) (ps fr : Nat) (so va fa wr : Int32) : Mm := setR m 68 (tk6 (m.1 68) ps fr so va fa wr)
theorem pm_id (m : Mm) {ps fr : Nat} (h1 : m.1 68 10 = nI ps) (h2 : m.1 68 11 = nI fr) : pm m ps fr (m.1 68 12) (m.1 68 13) (m.1 68 14) (m.1 68 15) = m := by
  have e : tk6 (m.1 68) ps fr (m.1 68 12) (m.1 68 13) (m.1 68 14) (m.1 68 15) = m.1 68 := by
    funext j
    unfold tk6
    split
    · rename_i h; rw [h, h1]
    split
    · rename_i h; rw [h, h2]
    split
    · rename_i h; rw [h]
    split
    · rename_i h; rw [h]
    split
    · rename_i h; rw [h]
    split
    · rename_i h; rw [h]
    · rfl
  unfold pm
  rw [e, setR_id]
section Pm
variable (m : Mm) (ps fr : Nat) (so va fa wr : Int32)
theorem pm_w10 (q : Nat) : wI (pm m ps fr so va fa wr) 68 10 (nI q) = pm m q fr so va fa wr := by
  unfold pm
  rw [wI_R, setR_s, setR_R]
  congr 1
  funext j
  simp only [upd, tk6]
  (repeat' split) <;> first | rfl | omega
theorem pm_w11 (q : Nat) : wI (pm m ps fr so va fa wr) 68 11 (nI q) = pm m ps q so va fa wr := by
  unfold pm
  rw [wI_R, setR_s, setR_R]
  congr 1
  funext j
  simp only [upd, tk6]
  (repeat' split) <;> first | rfl | omega
theorem pm_w12 (q : Int32) : wI (pm m ps fr so va fa wr) 68 12 (q) = pm m ps fr q va fa wr := by
  unfold pm
  rw [wI_R, setR_s, setR_R]
  congr 1
  funext j
  simp only [upd, tk6]
  (repeat' split) <;> first | rfl | omega
theorem pm_w13 (q : Int32) : wI (pm m ps fr so va fa wr) 68 13 (q) = pm m ps fr so q fa wr := by
  unfold pm
  rw [wI_R, setR_s, setR_R]
  congr 1
  funext j
  simp only [upd, tk6]
  (repeat' split) <;> first | rfl | omega
theorem pm_w14 (q : Int32) : wI (pm m ps fr so va fa wr) 68 14 (q) = pm m ps fr so va q wr := by
  unfold pm
  rw [wI_R, setR_s, setR_R]
  congr 1
  funext j
  simp only [upd, tk6]
  (repeat' split) <;> first | rfl | omega
theorem pm_w15 (q : Int32) : wI (pm m ps fr so va fa wr) 68 15 (q) = pm m ps fr so va fa q := by
  unfold pm
  rw [wI_R, setR_s, setR_R]
  congr 1
  funext j
  simp only [upd, tk6]
  (repeat' split) <;> first | rfl | omega
theorem pm_wo (j : Nat) (x : Int32) (h : j < 10 ∨ 15 < j) : wI (pm m ps fr so va fa wr) 68 j x = pm (wI m 68 j x) ps fr so va fa wr := by
  unfold pm
  rw [wI_R, setR_s, setR_R, wI_R]
  rw [show setR (setR m 68 (upd (m.1 68) j x)) 68 (tk6 ((setR m 68 (upd (m.1 68) j x)).1 68) ps fr so va fa wr) = setR m 68 (tk6 (upd (m.1 68) j x) ps fr so va fa wr) by rw [setR_s, setR_R]]
  congr 1
  funext i
  simp only [upd, tk6]
  (repeat' split) <;> first | rfl | omega
theorem pm_wd (j : Nat) (x : Int32) : wI (pm m ps fr so va fa wr) 72 j x = pm (wI m 72 j x) ps fr so va fa wr := by
  have e1 : (wI m 72 j x).1 68 = m.1 68 := by
    funext i
    rw [wI_at, if_neg (by omega)]
  unfold pm
  rw [e1]
  have : (wI (setR m 68 (tk6 (m.1 68) ps fr so va fa wr)) 72 j x).1 = (setR (wI m 72 j x) 68 (tk6 (m.1 68) ps fr so va fa wr)).1 := by
    funext o i
    rw [wI_at, setR_at, setR_at]
    by_cases h : o = 68
    · subst h
      rw [if_neg (by omega), if_pos rfl, if_pos rfl]
    · rw [if_neg h, if_neg h, wI_at]
  exact Prod.ext this rfl
theorem C68 : clO shP 68 = some 7 := rfl
theorem G68 : gfI shP 710 68 (pm m ps fr so va fa wr) = some (.int (nI ps)) ∧ gfI shP 711 68 (pm m ps fr so va fa wr) = some (.int (nI fr)) ∧ gfI shP 712 68 (pm m ps fr so va fa wr) = some (.int so) ∧ gfI shP 713 68 (pm m ps fr so va fa wr) = some (.int va) ∧ gfI shP 714 68 (pm m ps fr so va fa wr) = some (.int fa) ∧ gfI shP 715 68 (pm m ps fr so va fa wr) = some (.int wr) ∧ gfI shP 709 68 (pm m ps fr so va fa wr) = some (.int (m.1 68 9)) ∧ gfI shP 708 68 (pm m ps fr so va fa wr) = some (.ref 73) ∧ gfI shP 704 68 (pm m ps fr so va fa wr) = some (.ref 72) ∧ gfI shP 705 68 (pm m ps fr so va fa wr) = some (.int (m.1 68 5)) ∧ gfI shP 706 68 (pm m ps fr so va fa wr) = some (.int (m.1 68 6)) ∧ gfI shP 707 68 (pm m ps fr so va fa wr) = some (.int (m.1 68 7)) := ⟨rfl, rfl, rfl, rfl, rfl, rfl, rfl, rfl, rfl, rfl, rfl, rfl⟩
theorem P68 : (∀ x : Int32, pfI shP 710 68 (.int x) (pm m ps fr so va fa wr) = some (wI (pm m ps fr so va fa wr) 68 10 x)) ∧ (∀ x : Int32, pfI shP 711 68 (.int x) (pm m ps fr so va fa wr) = some (wI (pm m ps fr so va fa wr) 68 11 x)) ∧ (∀ x : Int32, pfI shP 712 68 (.int x) (pm m ps fr so va fa wr) = some (wI (pm m ps fr so va fa wr) 68 12 x)) ∧ (∀ x : Int32, pfI shP 713 68 (.int x) (pm m ps fr so va fa wr) = some (wI (pm m ps fr so va fa wr) 68 13 x)) ∧ (∀ x : Int32, pfI shP 714 68 (.int x) (pm m ps fr so va fa wr) = some (wI (pm m ps fr so va fa wr) 68 14 x)) ∧ (∀ x : Int32, pfI shP 715 68 (.int x) (pm m ps fr so va fa wr) = some (wI (pm m ps fr so va fa wr) 68 15 x)) ∧ (∀ x : Int32, pfI shP 705 68 (.int x) (pm m ps fr so va fa wr) = some (wI (pm m ps fr so va fa wr) 68 5 x)) ∧ (∀ x : Int32, pfI shP 706 68 (.int x) (pm m ps fr so va fa wr) = some (wI (pm m ps fr so va fa wr) 68 6 x)) ∧ (∀ x : Int32, pfI shP 707 68 (.int x) (pm m ps fr so va fa wr) = some (wI (pm m ps fr so va fa wr) 68 7 x)) := ⟨fun _ => rfl, fun _ => rfl, fun _ => rfl, fun _ => rfl, fun _ => rfl, fun _ => rfl, fun _ => rfl, fun _ => rfl, fun _ => rfl⟩
theorem A73 (i : Int32) : alI shP tb0 0 73 i (pm m ps fr so va fa wr) = if inR i 160 = true then some (m.1 73 i.toNatClampNeg) else none := by
  rw [al_of (n := 160) (rs := []) rfl]
  rfl
theorem A72 (i : Int32) : alI shP tb0 0 72 i (pm m ps fr so va fa wr) = if inR i 63 = true then some (m.1 72 i.toNatClampNeg) else none := by
  rw [al_of (n := 63) (rs := []) rfl]
  rfl
theorem S72 (i x : Int32) : asI shP 0 72 i x (pm m ps fr so va fa wr) = if inR i 63 = true then some (wI (pm m ps fr so va fa wr) 72 i.toNatClampNeg x) else none := as_of (n := 63) (rs := []) rfl i x _
end Pm
/-- the byte at a place, -1 behind the end -/
def bA (m : Mm) (p : Nat) : Int32 := if nI p < m.1 68 9 then m.1 73 p else -1
section Pn
variable (wS : List Value → Mm → Option Rs) (d : Nat) (m : Mm) (fr : Nat) (so va fa wr : Int32)
theorem t_byteAt (hT : (m.1 68 9).toInt ≤ 160) {p : Nat} (hp : p < 2 ^ 31) (ps : Nat) : semZ shP wS (d + 1) 108 [.ref 68, .int (nI p)] (pm m ps fr so va fa wr) = some (some (.int (bA m p)), pm m ps fr so va fa wr) := by
  unfold bA
  rw [se_X7_byteAt, rn_eq, b_X7_byteAt_0]
  by_cases h : nI p < m.1 68 9
  · have hi := Int32.lt_iff_toInt_lt.mp h
    rw [nI_toInt hp] at hi
    have e1 : ¬ m.1 68 9 ≤ nI p := Int32.not_le.mpr h
    have e2 : inR (nI p) 160 = true := inR_nI (by omega) (by omega)
    have e3 : (nI p).toNatClampNeg = p := nI_clamp hp
    simp only [EV, LV, CB, OI, OL, NP, CZ, popN, CT, OZ, List.map_nil, List.map_cons, List.sum_nil, List.sum_cons, Option.toList, List.nil_append, List.cons_append, Int.reduceToNat, Nat.reduceAdd, Nat.reduceLT, Nat.reduceLeDiff, List.length_cons, List.length_nil, Nat.zero_add, if_true, if_false, reduceIte, and_self, and_true, true_and, eq_self, reduceCtorEq, G68, A73, e1, e2, e3, h]
    rw [rn_eq, b_X7_byteAt_18]
    simp only [EV, LV, CB, OI, OL, NP, CZ, popN, CT, OZ, List.map_nil, List.map_cons, List.sum_nil, List.sum_cons, Option.toList, List.nil_append, List.cons_append, Int.reduceToNat, Nat.reduceAdd, Nat.reduceLT, Nat.reduceLeDiff, List.length_cons, List.length_nil, Nat.zero_add, if_true, if_false, reduceIte, and_self, and_true, true_and, eq_self, reduceCtorEq]
  · have e1 : m.1 68 9 ≤ nI p := Int32.not_lt.mp h
    simp only [EV, LV, CB, OI, OL, NP, CZ, popN, CT, OZ, List.map_nil, List.map_cons, List.sum_nil, List.sum_cons, Option.toList, List.nil_append, List.cons_append, Int.reduceToNat, Nat.reduceAdd, Nat.reduceLT, Nat.reduceLeDiff, List.length_cons, List.length_nil, Nat.zero_add, if_true, if_false, reduceIte, and_self, and_true, true_and, eq_self, reduceCtorEq, G68, e1, h]
    rw [rn_eq, b_X7_byteAt_17]
    simp only [EV, LV, CB, OI, OL, NP, CZ, popN, CT, OZ, List.map_nil, List.map_cons, List.sum_nil, List.sum_cons, Option.toList, List.nil_append, List.cons_append, Int.reduceToNat, Nat.reduceAdd, Nat.reduceLT, Nat.reduceLeDiff, List.length_cons, List.length_nil, Nat.zero_add, if_true, if_false, reduceIte, and_self, and_true, true_and, eq_self, reduceCtorEq]
theorem bA_ge (hT : (m.1 68 9).toInt ≤ 160) {p : Nat} (hp : 160 ≤ p) (hp2 : p < 2 ^ 31) : bA m p = -1 := by
  unfold bA
  rw [if_neg]
  intro h
  have hi := Int32.lt_iff_toInt_lt.mp h
  rw [nI_toInt hp2] at hi
  omega
theorem t_needs (ps : Nat) (g c : Int32) : semZ shP wS (d + 1) 107 [.ref 68, .int g, .int c] (pm m ps fr so va fa wr) = some (none, if g = 0 ∧ fa = 0 then pm m ps fr so va c (nI fr) else pm m ps fr so va fa wr) := by
  rw [se_X7_needs, rn_eq, b_X7_needs_0]
  by_cases h1 : g = 0
  · by_cases h2 : fa = 0
    · simp only [EV, LV, CB, OI, OL, NP, CZ, popN, CT, OZ, List.map_nil, List.map_cons, List.sum_nil, List.sum_cons, Option.toList, List.nil_append, List.cons_append, Int.reduceToNat, Nat.reduceAdd, Nat.reduceLT, Nat.reduceLeDiff, List.length_cons, List.length_nil, Nat.zero_add, if_true, if_false, reduceIte, and_self, and_true, true_and, eq_self, reduceCtorEq, G68, P68, h1, h2, not_true_eq_false, pm_w14, pm_w15]
    · simp only [EV, LV, CB, OI, OL, NP, CZ, popN, CT, OZ, List.map_nil, List.map_cons, List.sum_nil, List.sum_cons, Option.toList, List.nil_append, List.cons_append, Int.reduceToNat, Nat.reduceAdd, Nat.reduceLT, Nat.reduceLeDiff, List.length_cons, List.length_nil, Nat.zero_add, if_true, if_false, reduceIte, and_self, and_true, true_and, eq_self, reduceCtorEq, G68, h1, h2, not_true_eq_false, not_false_eq_true, and_false]
      rw [rn_eq, b_X7_needs_24]
      simp only [EV, LV, CB, OI, OL, NP, CZ, popN, CT, OZ, List.map_nil, List.map_cons, List.sum_nil, List.sum_cons, Option.toList, List.nil_append, List.cons_append, Int.reduceToNat, Nat.reduceAdd, Nat.reduceLT, Nat.reduceLeDiff, List.length_cons, List.length_nil, Nat.zero_add, if_true, if_false, reduceIte, and_self, and_true, true_and, eq_self, reduceCtorEq]
  · simp only [EV, LV, CB, OI, OL, NP, CZ, popN, CT, OZ, List.map_nil, List.map_cons, List.sum_nil, List.sum_cons, Option.toList, List.nil_append, List.cons_append, Int.reduceToNat, Nat.reduceAdd, Nat.reduceLT, Nat.reduceLeDiff, List.length_cons, List.length_nil, Nat.zero_add, if_true, if_false, reduceIte, and_self, and_true, true_and, eq_self, reduceCtorEq, h1, not_false_eq_true, false_and]
    rw [rn_eq, b_X7_needs_24]
    simp only [EV, LV, CB, OI, OL, NP, CZ, popN, CT, OZ, List.map_nil, List.map_cons, List.sum_nil, List.sum_cons, Option.toList, List.nil_append, List.cons_append, Int.reduceToNat, Nat.reduceAdd, Nat.reduceLT, Nat.reduceLeDiff, List.length_cons, List.length_nil, Nat.zero_add, if_true, if_false, reduceIte, and_self, and_true, true_and, eq_self, reduceCtorEq]
theorem tk_8 (hT : (m.1 68 9).toInt ≤ 160) : ∀ (k p : Nat), p + k = 160 → ∃ p', p ≤ p' ∧ p' ≤ 160 ∧ rn shP tb0 mN mO (semZ shP wS (d + 1)) none (codeZ 113) 8 [.ref 68, noV] [] (pm m p fr so va fa wr) = rn shP tb0 mN mO (semZ shP wS (d + 1)) none (codeZ 113) 34 [.ref 68, noV] [] (pm m p' fr so va fa wr) := by
  intro k
  induction k with
  | zero =>
    intro p hp
    refine ⟨p, Nat.le_refl _, by omega, ?_⟩
    have e := bA_ge m hT (p := p) (by omega) (by omega)
    have e2 : ¬ (-1 : Int32) = 32 := by decide
    rw [rn_eq, b_X7_takes_8]
    simp only [EV, LV, CB, OI, OL, NP, CZ, popN, CT, OZ, List.map_nil, List.map_cons, List.sum_nil, List.sum_cons, Option.toList, List.nil_append, List.cons_append, Int.reduceToNat, Nat.reduceAdd, Nat.reduceLT, Nat.reduceLeDiff, List.length_cons, List.length_nil, Nat.zero_add, if_true, if_false, reduceIte, and_self, and_true, true_and, eq_self, reduceCtorEq, C68, G68, t_byteAt wS d m fr so va fa wr hT (by omega : p < 2 ^ 31), e, e2, not_false_eq_true]
  | succ k ih =>
    intro p hp
    by_cases h : bA m p = 32
    · obtain ⟨p', a1, a2, a3⟩ := ih (p + 1) (by omega)
      refine ⟨p', by omega, a2, ?_⟩
      rw [rn_eq, b_X7_takes_8]
      simp only [EV, LV, CB, OI, OL, NP, CZ, popN, CT, OZ, List.map_nil, List.map_cons, List.sum_nil, List.sum_cons, Option.toList, List.nil_append, List.cons_append, Int.reduceToNat, Nat.reduceAdd, Nat.reduceLT, Nat.reduceLeDiff, List.length_cons, List.length_nil, Nat.zero_add, if_true, if_false, reduceIte, and_self, and_true, true_and, eq_self, reduceCtorEq, C68, G68, P68, t_byteAt wS d m fr so va fa wr hT (by omega : p < 2 ^ 31), h, nI_1, pm_w10, not_true_eq_false]
      exact a3
    · refine ⟨p, Nat.le_refl _, by omega, ?_⟩
      rw [rn_eq, b_X7_takes_8]
      simp only [EV, LV, CB, OI, OL, NP, CZ, popN, CT, OZ, List.map_nil, List.map_cons, List.sum_nil, List.sum_cons, Option.toList, List.nil_append, List.cons_append, Int.reduceToNat, Nat.reduceAdd, Nat.reduceLT, Nat.reduceLeDiff, List.length_cons, List.length_nil, Nat.zero_add, if_true, if_false, reduceIte, and_self, and_true, true_and, eq_self, reduceCtorEq, C68, G68, t_byteAt wS d m fr so va fa wr hT (by omega : p < 2 ^ 31), h, not_false_eq_true]
/-- a byte within bounds -/
def bW (b : Int32) (lo hi : Int64) : Bool := decide (lo ≤ b.toInt64) && decide (b.toInt64 ≤ hi)
theorem bW_m1 : bW (-1) 97 122 = false ∧ bW (-1) 48 57 = false := by decide
theorem tk_82 (hT : (m.1 68 9).toInt ≤ 160) (c : Int32) : ∀ (k p : Nat), p + k = 160 → ∃ p', p ≤ p' ∧ p' ≤ 160 ∧ (bW (bA m p) 97 122 = true → p < p') ∧ rn shP tb0 mN mO (semZ shP wS (d + 1)) none (codeZ 113) 82 [.ref 68, .int c] [] (pm m p fr so va fa wr) = some (none, pm m p' fr so va fa wr) := by
  intro k
  induction k with
  | zero =>
    intro p hp
    have e := bA_ge m hT (p := p) (by omega) (by omega)
    have e3 : (decide ((97 : Int64) ≤ (-1 : Int32).toInt64) && decide ((-1 : Int32).toInt64 ≤ 122)) = false := bW_m1.1
    refine ⟨p, Nat.le_refl _, by omega, fun h => ?_, ?_⟩
    · rw [e, bW_m1.1] at h; cases h
    rw [rn_eq, b_X7_takes_82]
    simp only [EV, LV, CB, OI, OL, NP, CZ, popN, CT, OZ, List.map_nil, List.map_cons, List.sum_nil, List.sum_cons, Option.toList, List.nil_append, List.cons_append, Int.reduceToNat, Nat.reduceAdd, Nat.reduceLT, Nat.reduceLeDiff, List.length_cons, List.length_nil, Nat.zero_add, if_true, if_false, reduceIte, and_self, and_true, true_and, eq_self, reduceCtorEq, C68, G68, t_byteAt wS d m fr so va fa wr hT (by omega : p < 2 ^ 31), e, t_in wS d, e3, bI_f]
    rw [rn_eq, b_X7_takes_274]
    simp only [EV, LV, CB, OI, OL, NP, CZ, popN, CT, OZ, List.map_nil, List.map_cons, List.sum_nil, List.sum_cons, Option.toList, List.nil_append, List.cons_append, Int.reduceToNat, Nat.reduceAdd, Nat.reduceLT, Nat.reduceLeDiff, List.length_cons, List.length_nil, Nat.zero_add, if_true, if_false, reduceIte, and_self, and_true, true_and, eq_self, reduceCtorEq]
  | succ k ih =>
    intro p hp
    have e10 : ¬ (1 : Int32) = 0 := by decide
    cases h : bW (bA m p) 97 122 with
    | true =>
      obtain ⟨p', a1, a2, -, a3⟩ := ih (p + 1) (by omega)
      have h' : (decide ((97 : Int64) ≤ (bA m p).toInt64) && decide ((bA m p).toInt64 ≤ 122)) = true := h
      refine ⟨p', by omega, a2, fun _ => by omega, ?_⟩
      rw [rn_eq, b_X7_takes_82]
      simp only [EV, LV, CB, OI, OL, NP, CZ, popN, CT, OZ, List.map_nil, List.map_cons, List.sum_nil, List.sum_cons, Option.toList, List.nil_append, List.cons_append, Int.reduceToNat, Nat.reduceAdd, Nat.reduceLT, Nat.reduceLeDiff, List.length_cons, List.length_nil, Nat.zero_add, if_true, if_false, reduceIte, and_self, and_true, true_and, eq_self, reduceCtorEq, C68, G68, P68, t_byteAt wS d m fr so va fa wr hT (by omega : p < 2 ^ 31), t_in wS d, h', bI_t, e10, nI_1, pm_w10]
      exact a3
    | false =>
      have h' : (decide ((97 : Int64) ≤ (bA m p).toInt64) && decide ((bA m p).toInt64 ≤ 122)) = false := h
      refine ⟨p, Nat.le_refl _, by omega, fun z => (by cases z), ?_⟩
      rw [rn_eq, b_X7_takes_82]
      simp only [EV, LV, CB, OI, OL, NP, CZ, popN, CT, OZ, List.map_nil, List.map_cons, List.sum_nil, List.sum_cons, Option.toList, List.nil_append, List.cons_append, Int.reduceToNat, Nat.reduceAdd, Nat.reduceLT, Nat.reduceLeDiff, List.length_cons, List.length_nil, Nat.zero_add, if_true, if_false, reduceIte, and_self, and_true, true_and, eq_self, reduceCtorEq, C68, G68, t_byteAt wS d m fr so va fa wr hT (by omega : p < 2 ^ 31), t_in wS d, h', bI_f]
      rw [rn_eq, b_X7_takes_274]
      simp only [EV, LV, CB, OI, OL, NP, CZ, popN, CT, OZ, List.map_nil, List.map_cons, List.sum_nil, List.sum_cons, Option.toList, List.nil_append, List.cons_append, Int.reduceToNat, Nat.reduceAdd, Nat.reduceLT, Nat.reduceLeDiff, List.length_cons, List.length_nil, Nat.zero_add, if_true, if_false, reduceIte, and_self, and_true, true_and, eq_self, reduceCtorEq]
theorem tk_140 (hT : (m.1 68 9).toInt ≤ 160) (c : Int32) : ∀ (k p : Nat), p + k = 160 → ∀ va : Int32, ∃ (p' : Nat) (va' : Int32), p ≤ p' ∧ p' ≤ 160 ∧ (bW (bA m p) 48 57 = true → p < p') ∧ rn shP tb0 mN mO (semZ shP wS (d + 1)) none (codeZ 113) 140 [.ref 68, .int c] [] (pm m p fr so va fa wr) = rn shP tb0 mN mO (semZ shP wS (d + 1)) none (codeZ 113) 217 [.ref 68, .int c] [] (pm m p' fr so va' fa wr) := by
  intro k
  induction k with
  | zero =>
    intro p hp va
    have e := bA_ge m hT (p := p) (by omega) (by omega)
    have e3 : (decide ((48 : Int64) ≤ (-1 : Int32).toInt64) && decide ((-1 : Int32).toInt64 ≤ 57)) = false := bW_m1.2
    refine ⟨p, va, Nat.le_refl _, by omega, fun h => ?_, ?_⟩
    · rw [e, bW_m1.2] at h; cases h
    rw [rn_eq, b_X7_takes_140]
    simp only [EV, LV, CB, OI, OL, NP, CZ, popN, CT, OZ, List.map_nil, List.map_cons, List.sum_nil, List.sum_cons, Option.toList, List.nil_append, List.cons_append, Int.reduceToNat, Nat.reduceAdd, Nat.reduceLT, Nat.reduceLeDiff, List.length_cons, List.length_nil, Nat.zero_add, if_true, if_false, reduceIte, and_self, and_true, true_and, eq_self, reduceCtorEq, C68, G68, t_byteAt wS d m fr so va fa wr hT (by omega : p < 2 ^ 31), e, t_in wS d, e3, bI_f]
  | succ k ih =>
    intro p hp va
    have e10 : ¬ (1 : Int32) = 0 := by decide
    cases h : bW (bA m p) 48 57 with
    | true =>
      have h' : (decide ((48 : Int64) ≤ (bA m p).toInt64) && decide ((bA m p).toInt64 ≤ 57)) = true := h
      by_cases h2 : (2 : Int32) ≤ nI p - nI fr
      · obtain ⟨p', va', a1, a2, -, a3⟩ := ih (p + 1) (by omega) va
        refine ⟨p', va', by omega, a2, fun _ => by omega, ?_⟩
        rw [rn_eq, b_X7_takes_140]
        simp only [EV, LV, CB, OI, OL, NP, CZ, popN, CT, OZ, List.map_nil, List.map_cons, List.sum_nil, List.sum_cons, Option.toList, List.nil_append, List.cons_append, Int.reduceToNat, Nat.reduceAdd, Nat.reduceLT, Nat.reduceLeDiff, List.length_cons, List.length_nil, Nat.zero_add, if_true, if_false, reduceIte, and_self, and_true, true_and, eq_self, reduceCtorEq, C68, G68, t_byteAt wS d m fr so va fa wr hT (by omega : p < 2 ^ 31), t_in wS d, h', bI_t, e10, h2]
        rw [rn_eq, b_X7_takes_197]
        simp only [EV, LV, CB, OI, OL, NP, CZ, popN, CT, OZ, List.map_nil, List.map_cons, List.sum_nil, List.sum_cons, Option.toList, List.nil_append, List.cons_append, Int.reduceToNat, Nat.reduceAdd, Nat.reduceLT, Nat.reduceLeDiff, List.length_cons, List.length_nil, Nat.zero_add, if_true, if_false, reduceIte, and_self, and_true, true_and, eq_self, reduceCtorEq, G68, P68, pm_w13, nI_1, pm_w10]
        exact a3
      · obtain ⟨p', va', a1, a2, -, a3⟩ := ih (p + 1) (by omega) (10 * va + bA m p - 48)
        refine ⟨p', va', by omega, a2, fun _ => by omega, ?_⟩
        rw [rn_eq, b_X7_takes_140]
        simp only [EV, LV, CB, OI, OL, NP, CZ, popN, CT, OZ, List.map_nil, List.map_cons, List.sum_nil, List.sum_cons, Option.toList, List.nil_append, List.cons_append, Int.reduceToNat, Nat.reduceAdd, Nat.reduceLT, Nat.reduceLeDiff, List.length_cons, List.length_nil, Nat.zero_add, if_true, if_false, reduceIte, and_self, and_true, true_and, eq_self, reduceCtorEq, C68, G68, t_byteAt wS d m fr so va fa wr hT (by omega : p < 2 ^ 31), t_in wS d, h', bI_t, e10, h2]
        rw [rn_eq, b_X7_takes_201]
        simp only [EV, LV, CB, OI, OL, NP, CZ, popN, CT, OZ, List.map_nil, List.map_cons, List.sum_nil, List.sum_cons, Option.toList, List.nil_append, List.cons_append, Int.reduceToNat, Nat.reduceAdd, Nat.reduceLT, Nat.reduceLeDiff, List.length_cons, List.length_nil, Nat.zero_add, if_true, if_false, reduceIte, and_self, and_true, true_and, eq_self, reduceCtorEq, G68, P68, pm_w13, nI_1, pm_w10]
        exact a3
    | false =>
      have h' : (decide ((48 : Int64) ≤ (bA m p).toInt64) && decide ((bA m p).toInt64 ≤ 57)) = false := h
      refine ⟨p, va, Nat.le_refl _, by omega, fun z => (by cases z), ?_⟩
      rw [rn_eq, b_X7_takes_140]
      simp only [EV, LV, CB, OI, OL, NP, CZ, popN, CT, OZ, List.map_nil, List.map_cons, List.sum_nil, List.sum_cons, Option.toList, List.nil_append, List.cons_append, Int.reduceToNat, Nat.reduceAdd, Nat.reduceLT, Nat.reduceLeDiff, List.length_cons, List.length_nil, Nat.zero_add, if_true, if_false, reduceIte, and_self, and_true, true_and, eq_self, reduceCtorEq, C68, G68, t_byteAt wS d m fr so va fa wr hT (by omega : p < 2 ^ 31), t_in wS d, h', bI_f]
end Pn
