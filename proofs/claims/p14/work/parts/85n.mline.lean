/-! THE MODEL'S LINES, exactly -/
/-- the model when the token at p has been read -/
def ml (B : Nat → Int32) (m : Mm) (p : Nat) (va wr : Int32) : Mm := pm m (lx B p).2.2 (lx B p).2.1 (soX B (lx B p).2.1) (vaX B (lx B p).2.1 (lx B p).2.2 va) (if (lx B p).1 = 4 then 1 else 0) (if (lx B p).1 = 4 then nI (lx B p).2.1 else wr)
theorem lx_va {B : Nat → Int32} {n : Nat} (hB : Tp B n) {p : Nat} (hp : p ≤ n) (h : (lx B p).1 = 2) (va : Int32) : vaX B (lx B p).2.1 (lx B p).2.2 va = vq B (lx B p).2.1 (lx B p).2.2 := by
  obtain ⟨n1, n2, n3⟩ := lx_2 hB hp h
  unfold vaX
  rw [if_pos (n3 _ (Nat.le_refl _) n1)]
section Ml
variable {B : Nat → Int32} {n : Nat} (wS : List Value → Mm → Option Rs) (d : Nat) {m : Mm}
theorem t_tkL (hB : Tp B n) (hm : TM B n m) {p : Nat} (hp : p ≤ n) (fr : Nat) (so va wr : Int32) : semZ shP wS (d + 2) 113 [.ref 68] (pm m p fr so va 0 wr) = some (none, ml B m p va wr) := t_takesX wS d hB hm hp fr so va wr
theorem t_rdF {fa : Int32} (hf : 0 < fa) (ps fr : Nat) (so va wr lo hi : Int32) (m : Mm) : semZ shP wS (d + 2) 114 [.ref 68, .int lo, .int hi] (pm m ps fr so va fa wr) = some (some (.int 0), pm m ps fr so va fa wr) := by
  have h0 : ¬ fa = 0 := fun z => by rw [z] at hf; exact absurd hf (by decide)
  rw [se_X7_readNumber, r_X7_readNumber_0]
  simp only [EV, LV, CB, OI, OL, NP, CZ, popN, CT, OZ, List.map_nil, List.map_cons, List.sum_nil, List.sum_cons, Option.toList, List.nil_append, List.cons_append, Int.reduceToNat, Nat.reduceAdd, Nat.reduceLT, Nat.reduceLeDiff, List.length_cons, List.length_nil, Nat.zero_add, if_true, if_false, reduceIte, and_self, and_true, true_and, eq_self, reduceCtorEq, C68, G68, h0, not_false_eq_true, r_X7_readNumber_25, r_X7_readNumber_49, r_X7_readNumber_63, t_takes_f wS d m ps fr so va fa wr hf]
theorem t_rdX (hB : Tp B n) (hm : TM B n m) {p : Nat} (hp : p ≤ n) (va wr : Int32) {lo hi : Int32} {z : Bool} (hz : (lo = 0 ∧ z = false) ∨ (lo = 1 ∧ z = true)) : semZ shP wS (d + 3) 114 [.ref 68, .int lo, .int hi] (ml B m p va wr) = (match num1 B hi z p with
    | .inl x => some (some (.int 0), pm m (lx B p).2.2 (lx B p).2.1 (soX B (lx B p).2.1) (vaX B (lx B p).2.1 (lx B p).2.2 va) x.1 (nI x.2))
    | .inr y => some (some (.int y.1), ml B m y.2 y.1 wr)) := by
  have hb := lx_b hB hp
  have e10 : ¬ (1 : Int32) = 0 := by decide
  have e20 : ¬ (2 : Int32) = 0 := by decide
  have e30 : ¬ (3 : Int32) = 0 := by decide
  unfold num1
  by_cases h4 : (lx B p).1 = 4
  · have h2 : ¬ (lx B p).1 = 2 := by omega
    rw [if_neg h2]
    unfold ml
    rw [if_pos h4, if_pos h4]
    have := t_rdF wS (d + 1) (fa := 1) (by decide) (lx B p).2.2 (lx B p).2.1 (soX B (lx B p).2.1) (vaX B (lx B p).2.1 (lx B p).2.2 va) (nI (lx B p).2.1) lo hi m
    rw [show bad (lx B p).1 = 1 from by rw [h4]; rfl]
    exact this
  · have so := lx_so h4
    have f1 : ∀ (fa' wr' : Int32), 0 < fa' → semZ shP wS (d + 2) 113 [.ref 68] (pm m (lx B p).2.2 (lx B p).2.1 (soX B (lx B p).2.1) (vaX B (lx B p).2.1 (lx B p).2.2 va) fa' wr') = some (none, pm m (lx B p).2.2 (lx B p).2.1 (soX B (lx B p).2.1) (vaX B (lx B p).2.1 (lx B p).2.2 va) fa' wr') := fun fa' wr' h => t_takes_f wS (d + 1) m _ _ _ _ _ _ h
    unfold ml
    rw [if_neg h4, if_neg h4, se_X7_readNumber, r_X7_readNumber_0]
    by_cases h2 : (lx B p).1 = 2
    · rw [if_pos h2]
      obtain ⟨n1, n2, n3⟩ := lx_2 hB hp h2
      have vb := vq_nn n1 n2 n3
      have ev := lx_va hB hp h2 va
      rw [h2] at so
      have so2 : soX B (lx B p).2.1 = 2 := so
      rw [ev, so2] at *
      have dd := dec64 (vq B (lx B p).2.1 (lx B p).2.2) lo hi lo.toInt64 hi.toInt64 rfl rfl
      generalize vq B (lx B p).2.1 (lx B p).2.2 = v at *
      have tk := t_tkL wS d hB hm hb.2.2.1 (lx B p).2.1 2 v wr
      by_cases c : hi < v ∨ (z = true ∧ v = 0)
      · have cd : (decide (lo ≤ v) && decide (v ≤ hi)) = false := by
          cases q : (decide (lo ≤ v) && decide (v ≤ hi)) with
          | false => rfl
          | true =>
            simp only [Bool.and_eq_true, decide_eq_true_eq] at q
            rcases c with c | ⟨c1, c2⟩
            · exact absurd q.2 (Int32.not_le.mpr c)
            · rcases hz with ⟨_, hz⟩ | ⟨hz, _⟩
              · rw [hz] at c1; cases c1
              · rw [hz, c2] at q
                exact absurd q.1 (by decide)
        rw [cd] at dd
        rw [if_pos c]
        have f3 := t_takes_f wS (d + 1) m (lx B p).2.2 (lx B p).2.1 2 v 3 (nI (lx B p).2.1) (by decide)
        simp only [EV, LV, CB, OI, OL, NP, CZ, popN, CT, OZ, List.map_nil, List.map_cons, List.sum_nil, List.sum_cons, Option.toList, List.nil_append, List.cons_append, Int.reduceToNat, Nat.reduceAdd, Nat.reduceLT, Nat.reduceLeDiff, List.length_cons, List.length_nil, Nat.zero_add, if_true, if_false, reduceIte, and_self, and_true, true_and, eq_self, reduceCtorEq, C68, G68, not_true_eq_false, not_false_eq_true, r_X7_readNumber_21, t_needs wS (d + 1), e10, false_and, t_in wS (d + 1), dd, bI_f, e30, r_X7_readNumber_63, f3]
      · have cd : (decide (lo ≤ v) && decide (v ≤ hi)) = true := by
          have q1 : v ≤ hi := Int32.not_lt.mp (fun q => c (Or.inl q))
          have q2 : lo ≤ v := by
            rcases hz with ⟨hz, _⟩ | ⟨hz, hz2⟩
            · rw [hz, Int32.le_iff_toInt_le, show (0 : Int32).toInt = 0 from by decide]
              exact vb.1
            · have v0 : ¬ v = 0 := fun q => c (Or.inr ⟨hz2, q⟩)
              have : v.toInt ≠ 0 := fun q => v0 (Int32.toInt_inj.mp (by rw [q]; decide))
              rw [hz, Int32.le_iff_toInt_le, show (1 : Int32).toInt = 1 from by decide]
              omega
          simp only [q1, q2, decide_true, Bool.and_self]
        rw [cd] at dd
        rw [if_neg c]
        simp only [EV, LV, CB, OI, OL, NP, CZ, popN, CT, OZ, List.map_nil, List.map_cons, List.sum_nil, List.sum_cons, Option.toList, List.nil_append, List.cons_append, Int.reduceToNat, Nat.reduceAdd, Nat.reduceLT, Nat.reduceLeDiff, List.length_cons, List.length_nil, Nat.zero_add, if_true, if_false, reduceIte, and_self, and_true, true_and, eq_self, reduceCtorEq, C68, G68, not_true_eq_false, not_false_eq_true, r_X7_readNumber_21, t_needs wS (d + 1), e10, false_and, t_in wS (d + 1), dd, bI_t, r_X7_readNumber_64, tk]
        rfl
    · rw [if_neg h2]
      have n2 : ¬ soX B (lx B p).2.1 = 2 := by
        rw [so]
        exact fun q => h2 ((nI_eq (b := 2) (by omega) (by omega)).mp q)
      have bd : bad (lx B p).1 = 2 := by
        unfold bad
        rw [if_neg h4]
      rw [bd]
      simp only [EV, LV, CB, OI, OL, NP, CZ, popN, CT, OZ, List.map_nil, List.map_cons, List.sum_nil, List.sum_cons, Option.toList, List.nil_append, List.cons_append, Int.reduceToNat, Nat.reduceAdd, Nat.reduceLT, Nat.reduceLeDiff, List.length_cons, List.length_nil, Nat.zero_add, if_true, if_false, reduceIte, and_self, and_true, true_and, eq_self, reduceCtorEq, C68, G68, not_true_eq_false, not_false_eq_true, n2, r_X7_readNumber_20, t_needs wS (d + 1), e20, r_X7_readNumber_49, r_X7_readNumber_63, f1 2 _ (by decide)]
end Ml
/-- what the model's lines may change -/
def FrM (m m' : Mm) : Prop := (∀ o, o ≠ 72 → o ≠ 68 → m'.1 o = m.1 o) ∧ ∀ j, j ≠ 5 → j ≠ 6 → j ≠ 7 → m'.1 68 j = m.1 68 j
theorem FrM_rf {m : Mm} : FrM m m := ⟨fun _ _ _ => rfl, fun _ _ _ _ => rfl⟩
theorem FrM_d {m m' : Mm} (h : FrM m m') (j : Nat) (x : Int32) : FrM m (wI m' 72 j x) := ⟨fun o h1 h2 => by rw [wI_n _ _ _ _ h1]; exact h.1 o h1 h2, fun j h1 h2 h3 => by rw [wI_o _ _ _ _ _ (by omega)]; exact h.2 j h1 h2 h3⟩
theorem FrM_e {m m' : Mm} (h : FrM m m') {j : Nat} (hj : j = 5 ∨ j = 6 ∨ j = 7) (x : Int32) : FrM m (wI m' 68 j x) := ⟨fun o h1 h2 => by rw [wI_n _ _ _ _ h2]; exact h.1 o h1 h2, fun i h1 h2 h3 => by rw [wI_j _ _ _ _ _ (by omega)]; exact h.2 i h1 h2 h3⟩
theorem FrM_tr {m m1 m2 : Mm} (h : FrM m m1) (h2 : FrM m1 m2) : FrM m m2 := ⟨fun o h3 h4 => (h2.1 o h3 h4).trans (h.1 o h3 h4), fun j h3 h4 h5 => (h2.2 j h3 h4 h5).trans (h.2 j h3 h4 h5)⟩
theorem TM_fr {B : Nat → Int32} {n : Nat} {m m' : Mm} (h : TM B n m) (hf : FrM m m') : TM B n m' := ⟨by rw [hf.2 9 (by omega) (by omega) (by omega)]; exact h.1, fun j hj => by rw [hf.1 73 (by omega) (by omega)]; exact h.2 j hj⟩
def FltM (m M : Mm) (x : Flt) : Prop := ∃ (m' : Mm) (ps fr : Nat) (so va : Int32), M = pm m' ps fr so va x.1 (nI x.2) ∧ FrM m m'
/-- the highest village of a body -/
def Hig (H : Int32) (f : Nat → Int32) (N : Nat) : Prop := (∀ b, b < N → f (8 + 5 * b + 1) ≤ H) ∧ (H = -4 ∨ ∃ b, b < N ∧ H = f (8 + 5 * b + 1))
def MT (V N : Nat) (f : Nat → Int32) (c : Nat) (m : Mm) : Prop := m.1 72 = f ∧ m.1 68 5 = nI V ∧ f 38 = nI N ∧ m.1 68 6 = tlV c ∧ Hig (m.1 68 7) f N ∧ V ≤ 4 ∧ N ≤ 6 ∧ c < 8
theorem pm_at (m : Mm) (ps fr : Nat) (so va fa wr : Int32) {o : Nat} (h : o ≠ 68) : (pm m ps fr so va fa wr).1 o = m.1 o := setR_n _ _ h
theorem G68b (m : Mm) (ps fr : Nat) (so va fa wr : Int32) : gfI shP 704 68 (pm m ps fr so va fa wr) = some (.ref 72) ∧ gfI shP 705 68 (pm m ps fr so va fa wr) = some (.int (m.1 68 5)) ∧ gfI shP 706 68 (pm m ps fr so va fa wr) = some (.int (m.1 68 6)) ∧ gfI shP 707 68 (pm m ps fr so va fa wr) = some (.int (m.1 68 7)) ∧ (∀ x : Int32, pfI shP 705 68 (.int x) (pm m ps fr so va fa wr) = some (wI (pm m ps fr so va fa wr) 68 5 x)) ∧ (∀ x : Int32, pfI shP 706 68 (.int x) (pm m ps fr so va fa wr) = some (wI (pm m ps fr so va fa wr) 68 6 x)) ∧ (∀ x : Int32, pfI shP 707 68 (.int x) (pm m ps fr so va fa wr) = some (wI (pm m ps fr so va fa wr) 68 7 x)) := ⟨rfl, rfl, rfl, rfl, fun _ => rfl, fun _ => rfl, fun _ => rfl⟩
theorem ml_d (B : Nat → Int32) (m : Mm) (p : Nat) (va wr : Int32) (j : Nat) (x : Int32) : wI (ml B m p va wr) 72 j x = ml B (wI m 72 j x) p va wr := pm_wd m _ _ _ _ _ _ j x
theorem ml_e (B : Nat → Int32) (m : Mm) (p : Nat) (va wr : Int32) {j : Nat} (hj : j = 5 ∨ j = 6 ∨ j = 7) (x : Int32) : wI (ml B m p va wr) 68 j x = ml B (wI m 68 j x) p va wr := pm_wo m _ _ _ _ _ _ j x (by omega)
