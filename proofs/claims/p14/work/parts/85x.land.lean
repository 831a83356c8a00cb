/-! THE LAND in both -/
theorem CW_e {w V N : Nat} {f f' : Nat → Int32} {m m' : Mm} (h : CW w V N f m) (hf : ∀ j, j < 44 → f' j = f j) (hm : ∀ o j, w ≤ o → o ≤ w + 8 → j < 200 → m'.1 o j = m.1 o j) : CW w V N f' m' := by
  obtain ⟨h1, h2, c3, c4, c5, c6, c7, c8, c9, hg, hb⟩ := h
  refine ⟨h1, h2, ?_, ?_, ?_, ?_, ?_, ?_, ?_, fun g g4 => ?_, fun b b6 => ?_⟩
  · rw [hm w 0 (by omega) (by omega) (by omega)]; exact c3
  · rw [hm w 1 (by omega) (by omega) (by omega)]; exact c4
  · rw [hf 38 (by omega)]; exact c5
  · rw [hm w 2 (by omega) (by omega) (by omega), hf 39 (by omega)]; exact c6
  · rw [hm w 3 (by omega) (by omega) (by omega), hf 40 (by omega)]; exact c7
  · rw [hm w 4 (by omega) (by omega) (by omega), hf 41 (by omega)]; exact c8
  · rw [hm w 5 (by omega) (by omega) (by omega), hf 42 (by omega)]; exact c9
  · rw [hm (w + 1) g (by omega) (by omega) (by omega), hm (w + 2) g (by omega) (by omega) (by omega), hf (2 * g) (by omega), hf (2 * g + 1) (by omega)]
    exact hg g g4
  · rw [hm (w + 4) b (by omega) (by omega) (by omega), hm (w + 5) b (by omega) (by omega) (by omega), hm (w + 6) b (by omega) (by omega) (by omega), hm (w + 7) b (by omega) (by omega) (by omega), hm (w + 8) b (by omega) (by omega) (by omega), hf (8 + 5 * b) (by omega), hf (8 + 5 * b + 1) (by omega), hf (8 + 5 * b + 2) (by omega), hf (8 + 5 * b + 3) (by omega), hf (8 + 5 * b + 4) (by omega)]
    exact hb b b6
theorem Atf_e {V N : Nat} {f f' : Nat → Int32} (h : Atf V N f) (hN : N ≤ 6) (hf : ∀ j, j < 44 → f' j = f j) : Atf V N f' := by
  refine ⟨fun b hb => ?_, fun b hb => ?_, fun b hb => ?_⟩
  · rw [hf _ (by omega)]; exact h.1 b hb
  · rw [hf _ (by omega)]; exact h.2.1 b hb
  · rw [hf (8 + 5 * b + 2) (by omega), hf (8 + 5 * b + 3) (by omega)]; exact h.2.2 b hb
/-- the land that is now -/
def LNow (V N : Nat) (m : Mm) : Prop := m.1 68 3 = nI V ∧ CW 1 V N (m.1 69) m ∧ m.1 1 6 = m.1 69 43 ∧ (∀ j, j < 4 → m.1 4 j = nI j) ∧ Atf V N (m.1 69)
/-- what was seen: of the class at w, of the model from o on -/
def LSn (w o N : Nat) (m : Mm) : Prop := ∃ K, K ≤ 6 ∧ m.1 w 0 = nI K ∧ m.1 69 (o + 44) = nI K ∧ ∀ i, i < K → m.1 (w + 1) i = m.1 69 (o + 45 + 3 * i) ∧ m.1 (w + 2) i = m.1 69 (o + 46 + 3 * i) ∧ m.1 (w + 3) i = m.1 69 (o + 47 + 3 * i) ∧ ∃ b, b < N ∧ m.1 (w + 1) i = nI b
/-- image k -/
def LIm (V k : Nat) (m : Mm) : Prop := (m.1 (32 + 14 * k) 0 = 0 ∧ m.1 71 k = 0) ∨ (m.1 (32 + 14 * k) 0 = 1 ∧ m.1 71 k = 1 ∧ ∃ N, CW (33 + 14 * k) V N (fun j => m.1 69 (63 * (k + 1) + j)) m ∧ m.1 (33 + 14 * k) 6 = m.1 69 (63 * (k + 1) + 43) ∧ (∀ j, j < 4 → m.1 (33 + 14 * k + 3) j = nI j) ∧ Atf V N (fun j => m.1 69 (63 * (k + 1) + j)) ∧ LSn (42 + 14 * k) (63 * (k + 1)) N m)
def LND (m : Mm) : Prop := ∃ V N, LNow V N m ∧ LSn 19 0 N m ∧ LIm V 0 m ∧ LIm V 1 m
/-- what was torn -/
def LTo (m : Mm) : Prop := m.1 0 9 = m.1 68 27
theorem gp8 {o : Nat} (j : Nat) (h1 : 1 ≤ o) (h2 : o ≤ 9) : grp 8 o j = true := by
  simp only [grp, Bool.and_eq_true, Nat.ble_eq]
  exact ⟨h1, h2⟩
theorem gp9 {j : Nat} (h : j ≤ 43) : grp 9 69 j = true := by
  have : Nat.ble j 43 = true := Nat.ble_eq.mpr h
  simp only [grp, this, Bool.and_self, Bool.or_true, beq_self_eq_true]
theorem gp93 : grp 9 68 3 = true := rfl
theorem gp10 {o : Nat} (j : Nat) (h1 : 19 ≤ o) (h2 : o ≤ 22) : grp 10 o j = true := by
  simp only [grp, Bool.and_eq_true, Nat.ble_eq]
  exact ⟨h1, h2⟩
theorem gp11 {j : Nat} (h1 : 44 ≤ j) (h2 : j ≤ 62) : grp 11 69 j = true := by
  have a : Nat.ble 44 j = true := Nat.ble_eq.mpr h1
  have b : Nat.ble j 62 = true := Nat.ble_eq.mpr h2
  simp only [grp, a, b, Bool.and_self, beq_self_eq_true]
theorem gp12 {o : Nat} (j : Nat) (h1 : 32 ≤ o) (h2 : o ≤ 59) : grp 12 o j = true := by
  simp only [grp, Bool.and_eq_true, Nat.ble_eq]
  exact ⟨h1, h2⟩
theorem gp13 {j : Nat} (h1 : 63 ≤ j) (h2 : j ≤ 188) : grp 13 69 j = true := by
  have a : Nat.ble 63 j = true := Nat.ble_eq.mpr h1
  have b : Nat.ble j 188 = true := Nat.ble_eq.mpr h2
  simp only [grp, a, b, Bool.and_self, beq_self_eq_true, Bool.or_true]
theorem gp131 (j : Nat) : grp 13 71 j = true := rfl
theorem LNow_Kp {q : List Nat} {V N : Nat} {m m' : Mm} (h : LNow V N m) (hk : Kp q m m') (h8 : 8 ∈ q) (h9 : 9 ∈ q) : LNow V N m' := by
  obtain ⟨a1, a2, a3, a4, a5⟩ := h
  have e9 : ∀ j, j < 44 → m'.1 69 j = m.1 69 j := fun j hj => Kp_at hk h9 (by omega) (gp9 (by omega))
  refine ⟨by rw [Kp_at hk h9 (by omega) gp93]; exact a1, CW_e a2 e9 (fun o j h1 h2 hj => Kp_at hk h8 hj (gp8 j (by omega) (by omega))), ?_, fun j hj => ?_, Atf_e a5 a2.2.1 e9⟩
  · rw [Kp_at hk h8 (by omega) (gp8 6 (by omega) (by omega)), e9 43 (by omega)]; exact a3
  · rw [Kp_at hk h8 (by omega) (gp8 j (by omega) (by omega))]; exact a4 j hj
theorem LSn_e {w o N : Nat} {m m' : Mm} (h : LSn w o N m) (hm : ∀ p j, w ≤ p → p ≤ w + 3 → j < 200 → m'.1 p j = m.1 p j) (hf : ∀ j, 44 ≤ j → j ≤ 62 → m'.1 69 (o + j) = m.1 69 (o + j)) : LSn w o N m' := by
  obtain ⟨K, k6, a1, a2, a3⟩ := h
  refine ⟨K, k6, by rw [hm w 0 (by omega) (by omega) (by omega)]; exact a1, by rw [hf 44 (by omega) (by omega)]; exact a2, fun i hi => ?_⟩
  have f1 := hf (45 + 3 * i) (by omega) (by omega)
  have f2 := hf (46 + 3 * i) (by omega) (by omega)
  have f3 := hf (47 + 3 * i) (by omega) (by omega)
  rw [← Nat.add_assoc] at f1 f2 f3
  rw [hm (w + 1) i (by omega) (by omega) (by omega), hm (w + 2) i (by omega) (by omega) (by omega), hm (w + 3) i (by omega) (by omega) (by omega), f1, f2, f3]
  exact a3 i hi
theorem LSn_Kp {q : List Nat} {N : Nat} {m m' : Mm} (h : LSn 19 0 N m) (hk : Kp q m m') (h10 : 10 ∈ q) (h11 : 11 ∈ q) : LSn 19 0 N m' := LSn_e h (fun p j h1 h2 hj => Kp_at hk h10 hj (gp10 j (by omega) (by omega))) (fun j h1 h2 => Kp_at hk h11 (by omega) (gp11 (by omega) (by omega)))
theorem LSn_N {w o N N' : Nat} {m : Mm} (h : LSn w o N m) (hN : N ≤ N') : LSn w o N' m := by
  obtain ⟨K, k6, a1, a2, a3⟩ := h
  refine ⟨K, k6, a1, a2, fun i hi => ?_⟩
  obtain ⟨b1, b2, b3, b, b4, b5⟩ := a3 i hi
  exact ⟨b1, b2, b3, b, by omega, b5⟩
theorem LIm_Kp {q : List Nat} {V k : Nat} {m m' : Mm} (h : LIm V k m) (hk2 : k < 2) (hk : Kp q m m') (h12 : 12 ∈ q) (h13 : 13 ∈ q) : LIm V k m' := by
  have e0 : ∀ o j, 32 ≤ o → o ≤ 59 → j < 200 → m'.1 o j = m.1 o j := fun o j h1 h2 hj => Kp_at hk h12 hj (gp12 j h1 h2)
  have e1 : m'.1 71 k = m.1 71 k := Kp_at hk h13 (by omega) (gp131 k)
  have e9 : ∀ j, j < 63 → m'.1 69 (63 * (k + 1) + j) = m.1 69 (63 * (k + 1) + j) := fun j hj => Kp_at hk h13 (by omega) (gp13 (by omega) (by omega))
  rcases h with ⟨a1, a2⟩ | ⟨a1, a2, N, a3, a4, a5, a6, a7⟩
  · exact Or.inl ⟨by rw [e0 _ 0 (by omega) (by omega) (by omega)]; exact a1, by rw [e1]; exact a2⟩
  · refine Or.inr ⟨by rw [e0 _ 0 (by omega) (by omega) (by omega)]; exact a1, by rw [e1]; exact a2, N, CW_e a3 (fun j hj => e9 j (by omega)) (fun o j h1 h2 hj => e0 o j (by omega) (by omega) hj), ?_, fun j hj => ?_, Atf_e a6 a3.2.1 (fun j hj => e9 j (by omega)), LSn_e a7 (fun p j h1 h2 hj => e0 p j (by omega) (by omega) hj) (fun j h1 h2 => e9 j (by omega))⟩
    · rw [e0 _ 6 (by omega) (by omega) (by omega), e9 43 (by omega)]; exact a4
    · rw [e0 _ j (by omega) (by omega) (by omega)]; exact a5 j hj
theorem LND_Kp {q : List Nat} {m m' : Mm} (h : LND m) (hk : Kp q m m') (h8 : 8 ∈ q) (h9 : 9 ∈ q) (h10 : 10 ∈ q) (h11 : 11 ∈ q) (h12 : 12 ∈ q) (h13 : 13 ∈ q) : LND m' := by
  obtain ⟨V, N, a1, a2, a3, a4⟩ := h
  exact ⟨V, N, LNow_Kp a1 hk h8 h9, LSn_Kp a2 hk h10 h11, LIm_Kp a3 (by omega) hk h12 h13, LIm_Kp a4 (by omega) hk h12 h13⟩
theorem LTo_Kp {q : List Nat} {m m' : Mm} (h : LTo m) (hk : Kp q m m') (h6 : 6 ∈ q) (h7 : 7 ∈ q) : LTo m' := by
  unfold LTo
  rw [Kp_at hk h6 (by omega) (show grp 6 0 9 = true from rfl), Kp_at hk h7 (by omega) (show grp 7 68 27 = true from rfl)]
  exact h
