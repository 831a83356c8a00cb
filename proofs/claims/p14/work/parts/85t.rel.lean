/-! THE RELATION of class and model: tape and fault -/
def TR (n : Nat) (m : Mm) : Prop := ∃ B, Tp B n ∧ TC B n m ∧ TM B n m
def FR (m : Mm) : Prop := m.1 23 1 = m.1 68 14
theorem TR_len {n : Nat} {m : Mm} (h : TR n m) : m.1 24 0 = nI n ∧ m.1 68 9 = nI n ∧ n ≤ 160 := by
  obtain ⟨B, h1, h2, h3⟩ := h
  exact ⟨h2.1, h3.1, h1.1⟩
theorem g01 : (∀ j, grp 0 25 j = true) ∧ grp 0 24 0 = true ∧ (∀ j, grp 1 73 j = true) ∧ grp 1 68 9 = true ∧ grp 2 23 1 = true ∧ grp 3 68 14 = true := ⟨fun _ => rfl, rfl, fun _ => rfl, rfl, rfl, rfl⟩
theorem TC_Kp {B : Nat → Int32} {n : Nat} {q : List Nat} {m m' : Mm} (hn : n ≤ 160) (h : TC B n m) (hk : Kp q m m') (h0 : 0 ∈ q) : TC B n m' := ⟨by rw [Kp_at hk h0 (by omega) g01.2.1]; exact h.1, fun j hj => by rw [Kp_at hk h0 (by omega) (g01.1 j)]; exact h.2 j hj⟩
theorem TM_Kp {B : Nat → Int32} {n : Nat} {q : List Nat} {m m' : Mm} (hn : n ≤ 160) (h : TM B n m) (hk : Kp q m m') (h1 : 1 ∈ q) : TM B n m' := ⟨by rw [Kp_at hk h1 (by omega) g01.2.2.2.1]; exact h.1, fun j hj => by rw [Kp_at hk h1 (by omega) (g01.2.2.1 j)]; exact h.2 j hj⟩
theorem TR_Kp {n : Nat} {q : List Nat} {m m' : Mm} (h : TR n m) (hk : Kp q m m') (h0 : 0 ∈ q) (h1 : 1 ∈ q) : TR n m' := by
  obtain ⟨B, a1, a2, a3⟩ := h
  exact ⟨B, a1, TC_Kp a1.1 a2 hk h0, TM_Kp a1.1 a3 hk h1⟩
theorem FR_Kp {q : List Nat} {m m' : Mm} (h : FR m) (hk : Kp q m m') (h2 : 2 ∈ q) (h3 : 3 ∈ q) : FR m' := by
  unfold FR
  rw [Kp_at hk h2 (by omega) g01.2.2.2.2.1, Kp_at hk h3 (by omega) g01.2.2.2.2.2]
  exact h
theorem TR_0 {m : Mm} (h0 : m.1 24 0 = 0) (h1 : m.1 68 9 = 0) : TR 0 m := ⟨fun _ => -1, ⟨by omega, fun _ _ => rfl, fun j hj => by omega⟩, ⟨by rw [h0]; rfl, fun j hj => by omega⟩, ⟨by rw [h1]; rfl, fun j hj => by omega⟩⟩
theorem TR_feed {n : Nat} {m m1 m2 : Mm} {c : Int32} (h : TR n m) (a1 : m1.1 24 0 = nI (fdN c n)) (f1 : FdB 25 c n m m1) (k1 : frm ([25], [4800]) m m1) (a2 : m2.1 68 9 = nI (fdN c n)) (f2 : FdB 73 c n m1 m2) (k2 : frm ([73], [13609]) m1 m2) : TR (fdN c n) m2 := by
  obtain ⟨B, b1, b2, b3⟩ := h
  have h160 := b1.1
  have e24 : m2.1 24 0 = m1.1 24 0 := inW_f k2 (by omega) (by decide)
  have e25 : ∀ j, j < 160 → m2.1 25 j = m1.1 25 j := fun j hj => inW_f k2 (by omega) (by
    unfold inW
    have : (([73], [13609]) : Wr).2.contains (cd 25 j) = false := by
      simp [cd]
      omega
    rw [this]
    rfl)
  have e73 : ∀ j, j < 160 → m1.1 73 j = m.1 73 j := fun j hj => inW_f k1 (by omega) (by
    unfold inW
    have : (([25], [4800]) : Wr).2.contains (cd 73 j) = false := by
      simp [cd]
      omega
    rw [this]
    rfl)
  by_cases hc : (0 ≤ c ∧ c ≤ 127) ∧ n < 160
  · have en : fdN c n = n + 1 := by
      unfold fdN
      rw [if_pos hc.1, if_pos hc.2]
    rw [en] at a1 a2 ⊢
    refine ⟨upd B n c, ⟨by omega, fun j hj => ?_, fun j hj => ?_⟩, ⟨by rw [e24]; exact a1, fun j hj => ?_⟩, ⟨a2, fun j hj => ?_⟩⟩
    · rw [upd_n _ _ (by omega)]
      exact b1.2.1 j (by omega)
    · by_cases e : j = n
      · rw [e, upd_s]; exact hc.1
      · rw [upd_n _ _ e]; exact b1.2.2 j (by omega)
    · rw [e25 j (by omega), f1.1 hc]
      by_cases e : j = n
      · rw [e, upd_s, upd_s]
      · rw [upd_n _ _ e, upd_n _ _ e]; exact b2.2 j (by omega)
    · rw [f2.1 hc]
      by_cases e : j = n
      · rw [e, upd_s, upd_s]
      · rw [upd_n _ _ e, upd_n _ _ e, e73 j (by omega)]; exact b3.2 j (by omega)
  · have en : fdN c n = n := by
      unfold fdN
      split
      · rename_i q1
        split
        · rename_i q2; exact absurd ⟨q1, q2⟩ hc
        · rfl
      · rfl
    rw [en] at a1 a2 ⊢
    refine ⟨B, b1, ⟨by rw [e24]; exact a1, fun j hj => ?_⟩, ⟨a2, fun j hj => ?_⟩⟩
    · rw [e25 j (by omega), f1.2 hc]; exact b2.2 j hj
    · rw [f2.2 hc, e73 j (by omega)]; exact b3.2 j hj
theorem TR_end {n k : Nat} {m m1 m2 : Mm} (h : TR n m) (hk : k ≤ n) (a1 : m1.1 24 0 = nI k) (k1 : frm ([], [4800]) m m1) (a2 : m2.1 68 9 = nI k) (k2 : frm ([], [13609]) m1 m2) : TR k m2 := by
  obtain ⟨B, b1, b2, b3⟩ := h
  have h160 := b1.1
  have q1 : ∀ o j, j < 200 → o * 200 + j ≠ 4800 → m1.1 o j = m.1 o j := fun o j hj ho => (k1 o j hj (by simp) (by simpa using ho)).1
  have q2 : ∀ o j, j < 200 → o * 200 + j ≠ 13609 → m2.1 o j = m1.1 o j := fun o j hj ho => (k2 o j hj (by simp) (by simpa using ho)).1
  refine ⟨fun j => if j < k then B j else -1, ⟨by omega, fun j hj => if_neg (by omega), fun j hj => ?_⟩, ⟨by rw [q2 24 0 (by omega) (by omega)]; exact a1, fun j hj => ?_⟩, ⟨a2, fun j hj => ?_⟩⟩
  · show 0 ≤ (if j < k then B j else -1) ∧ (if j < k then B j else -1) ≤ 127
    rw [if_pos hj]
    exact b1.2.2 j (by omega)
  · show _ = if j < k then B j else -1
    rw [if_pos hj, q2 25 j (by omega) (by omega), q1 25 j (by omega) (by omega)]
    exact b2.2 j (by omega)
  · show _ = if j < k then B j else -1
    rw [if_pos hj, q2 73 j (by omega) (by omega), q1 73 j (by omega) (by omega)]
    exact b3.2 j (by omega)
theorem enN_n (x : Int32) {n : Nat} (h : n ≤ 160) : ∃ k : Nat, k ≤ n ∧ enN x n = nI k := by
  unfold enN
  split
  · rename_i q
    have hb := wi_i q
    rw [show (0 : Int32).toInt = 0 from by decide, nI_toInt (by omega)] at hb
    exact ⟨x.toInt.toNat, by omega, i_nI hb.1⟩
  · exact ⟨n, Nat.le_refl _, rfl⟩
section Rt
variable {wS : List Value → Mm → Option Rs} (d : Nat)
theorem t_fault6 (m : Mm) : semZ shP wS (d + 1) 46 [.ref 0] m = some (some (.int (m.1 23 1)), m) := by
  rw [se_X6_fault, r_X6_fault_0]
  simp only [EV, LV, CB, OI, OL, NP, CZ, popN, CT, OZ, List.map_nil, List.map_cons, List.sum_nil, List.sum_cons, Option.toList, List.nil_append, List.cons_append, Int.reduceToNat, Nat.reduceAdd, Nat.reduceLT, Nat.reduceLeDiff, List.length_cons, List.length_nil, Nat.zero_add, if_true, if_false, reduceIte, and_self, and_true, true_and, eq_self, reduceCtorEq, gP0, F404]
theorem t_fault7 (m : Mm) : semZ shP wS (d + 1) 119 [.ref 68] m = some (some (.int (m.1 68 14)), m) := by
  rw [se_X7_fault, r_X7_fault_0]
  simp only [EV, LV, CB, OI, OL, NP, CZ, popN, CT, OZ, List.map_nil, List.map_cons, List.sum_nil, List.sum_cons, Option.toList, List.nil_append, List.cons_append, Int.reduceToNat, Nat.reduceAdd, Nat.reduceLT, Nat.reduceLeDiff, List.length_cons, List.length_nil, Nat.zero_add, if_true, if_false, reduceIte, and_self, and_true, true_and, eq_self, reduceCtorEq, gM MP68]
theorem iv_tp : ivO TV 24 1 = (0, 160) ∧ ivO TV 68 11 = (0, 160) := by decide +kernel
theorem b_fault {m : Mm} (h : FR m) : ∃ v m1 m2, semZ shP wS (d + 30) 46 [.ref 0] m = some (some (.int v), m1) ∧ semZ shP wS (d + 30) 119 [.ref 68] m1 = some (some (.int v), m2) ∧ m2 = m := by
  refine ⟨m.1 23 1, m, m, t_fault6 (d + 29) m, ?_, rfl⟩
  rw [h]
  exact t_fault7 (d + 29) m
/-- text of both -/
theorem b_text (hw : WOK wS) (hX : WX wS) {n : Nat} {m : Mm} (hI : InvT TV m) (hJ : JK m) (hT : TR n m) : ∃ v m1 m2 B, semZ shP wS (d + 30) 45 [.ref 0] m = some (some (.int v), m1) ∧ semZ shP wS (d + 30) 118 [.ref 68] m1 = some (some (.int v), m2) ∧ InvT TV m1 ∧ InvT TV m2 ∧ JK m2 ∧ Kp (qx [0, 2, 8, 10, 12]) m m1 ∧ Kp (qx [1, 3, 9, 11, 13]) m1 m2 ∧ TxC m m1 v (prs B 160 0 0 0 0 (dr0 (m1.1 72)) 0) ∧ TxM m1 m2 v (prs B 160 0 0 0 0 (dr0 (m1.1 72)) 0) ∧ Tp B n := by
  obtain ⟨v1, m1, a1, p1, p2, p3, p4, k1⟩ := ok_X6_text (d + 2) hw m hI hJ
  have a1 : semZ shP wS (d + 30) 45 [.ref 0] m = some (some (.int v1), m1) := a1
  obtain ⟨v2, m2, b1, q1, q2, q3, q4, k2⟩ := ok_X7_text d hw m1 p1 p2
  obtain ⟨B, c1, c2, c3⟩ := hT
  have i1 := hI 24 1
  rw [iv_tp.1] at i1
  have i2 := p1 68 11
  rw [iv_tp.2] at i2
  obtain ⟨a, M, d1, d2⟩ := t_text6 wS (d + 24) hX c1 c2 (s0 := (m.1 24 1).toInt.toNat) (i_nI i1.1) (dr0_F (m1.1 72))
  have d1 : semZ shP wS (d + 30) 45 [.ref 0] m = some (some (.int a), M) := d1
  have e := a1.symm.trans d1
  simp only [Option.some.injEq, Prod.mk.injEq, Value.int.injEq] at e
  obtain ⟨rfl, rfl⟩ := e
  obtain ⟨a2, M2, f1, f2⟩ := t_text7 wS (d + 23) c1 (TM_Kp c1.1 c3 k1 (by decide)) (fr := (m1.1 68 11).toInt.toNat) (i_nI i2.1)
  have f1 : semZ shP wS (d + 30) 118 [.ref 68] m1 = some (some (.int a2), M2) := f1
  have e := b1.symm.trans f1
  simp only [Option.some.injEq, Prod.mk.injEq, Value.int.injEq] at e
  obtain ⟨rfl, rfl⟩ := e
  have ev : v1 = v2 := by
    have x1 := d2.2
    have x2 := f2.2
    generalize prs B 160 0 0 0 0 (dr0 (m1.1 72)) 0 = r at x1 x2
    cases r with
    | inl x => exact x1.1.trans x2.1.symm
    | inr y => exact x1.1.trans x2.1.symm
  subst ev
  exact ⟨v1, m1, m2, B, a1, b1, p1, q1, q2, k1, k2, d2, f2, c1⟩
theorem FR_text {m m1 m2 : Mm} {v : Int32} {r : Flt ⊕ (Nat × Nat × Nat × (Nat → Int32))} (h1 : TxC m m1 v r) (h2 : TxM m1 m2 v r) (k : Kp (qx [1, 3, 9, 11, 13]) m1 m2) : FR m2 := by
  have e : m2.1 23 1 = m1.1 23 1 := Kp_at k (by decide) (by omega) g01.2.2.2.2.1
  unfold FR
  rw [e]
  have x1 := h1.2
  have x2 := h2.2
  cases r with
  | inl x => exact x1.2.1.trans x2.2.1.symm
  | inr y => exact x1.2.1.trans x2.2.1.symm
end Rt
