/-! THE LAND behind a text -/
theorem line_44 {B : Nat → Int32} {p V N : Nat} {f : Nat → Int32} {c : Nat} (hV : V ≤ 4) (hN : N ≤ 6) {y : Lin} (e : line B p V N f c = .inr y) : y.2.2.2.1 44 = f 44 ∧ y.2.1 ≤ 4 ∧ y.2.2.1 ≤ 6 := by
  have lv : ∀ y : Lin, V < 4 → liV B (lx B p).2.2 V N f c = .inr y → y.2.2.2.1 44 = f 44 ∧ y.2.1 ≤ 4 ∧ y.2.2.1 ≤ 6 := by
    intro y hV e
    unfold liV at e
    split at e
    · cases e
    · split at e
      · cases e
      · split at e
        · cases e
        · cases e
          refine ⟨?_, by show V + 1 ≤ 4; omega, hN⟩
          show upd (upd f (2 * V) _) (2 * V + 1) _ 44 = f 44
          rw [upd_n _ _ (by omega), upd_n _ _ (by omega)]
  have lb : ∀ (k : Int32) (y : Lin), N < 6 → liB B k (lx B p).2.2 V N f c = .inr y → y.2.2.2.1 44 = f 44 ∧ y.2.1 ≤ 4 ∧ y.2.2.1 ≤ 6 := by
    intro k y hN6 e
    unfold liB at e
    split at e
    · cases e
    · split at e
      · cases e
      · split at e
        · cases e
        · split at e
          · cases e
          · cases e
            refine ⟨?_, hV, by show N + 1 ≤ 6; omega⟩
            show bdF f N k _ _ _ 44 = f 44
            unfold bdF
            rw [upd_n _ _ (by omega), upd_n _ _ (by omega), upd_n _ _ (by omega), upd_n _ _ (by omega), upd_n _ _ (by omega)]
  have ls : ∀ (cell : Nat) (hi : Int32) (z : Bool) (bit : Nat) (y : Lin), cell < 44 → liS B cell hi z bit (lx B p).2.2 V N f c = .inr y → y.2.2.2.1 44 = f 44 ∧ y.2.1 ≤ 4 ∧ y.2.2.1 ≤ 6 := by
    intro cell hi z bit y hc e
    unfold liS at e
    split at e
    · cases e
    · split at e
      · cases e
      · cases e
        refine ⟨?_, hV, hN⟩
        show upd f cell _ 44 = f 44
        rw [upd_n _ _ (by omega)]
  unfold line at e
  split at e
  · split at e
    · cases e
    · split at e
      · cases e
      · split at e
        · cases e
        · rename_i hr
          generalize lnX B (lx B p).2.1 (lx B p).2.2 = k at e hr
          have hr : noRoom k V N = false := by simpa using hr
          unfold liK at e
          split at e
          · exact lv y (nr_V hr) e
          · exact lb _ y (nr_N (by omega) (by omega) hr) e
          · exact lb _ y (nr_N (by omega) (by omega) hr) e
          · exact lb _ y (nr_N (by omega) (by omega) hr) e
          · exact lb _ y (nr_N (by omega) (by omega) hr) e
          · exact ls _ _ _ _ y (by omega) e
          · exact ls _ _ _ _ y (by omega) e
          · exact ls _ _ _ _ y (by omega) e
  · cases e
theorem prs_44 (B : Nat → Int32) : ∀ q p L V N f c y, V ≤ 4 → N ≤ 6 → prs B q p L V N f c = .inr y → y.2.2.2 44 = f 44 ∧ y.2.1 ≤ 4 ∧ y.2.2.1 ≤ 6 ∧ ∀ b, b < y.2.2.1 → y.2.2.2 (8 + 5 * b + 1) < nI y.2.1 := by
  intro q
  induction q with
  | zero => intro p L V N f c y _ _ e; cases e
  | succ q ih =>
    intro p L V N f c y hV hN e
    unfold prs at e
    split at e
    · split at e
      · rename_i ha
        cases e
        refine ⟨rfl, hV, hN, fun b hb => ?_⟩
        have := List.all_eq_true.mp ha b (List.mem_range.mpr hb)
        exact of_decide_eq_true this
      · cases e
    · split at e
      · cases e
      · rename_i p' V' N' f' c' e2
        have l := line_44 hV hN e2
        have i := ih _ _ _ _ _ _ _ l.2.1 l.2.2 e
        exact ⟨i.1.trans l.1, i.2⟩
theorem iv_at : (∀ b, b < 6 → ivO TV 69 (8 + 5 * b + 1) = (0, 3) ∧ ivO TV 69 (8 + 5 * b) = (0, 3)) ∧ ivO TV 69 41 = (1, 9) := by decide +kernel
theorem LND_text {m m1 m2 : Mm} {v : Int32} {B g : Nat → Int32} (hL : LND m) (hI : InvT TV m2) (h1 : TxC m m1 v (prs B 160 0 0 0 0 (dr0 g) 0)) (h2 : TxM m1 m2 v (prs B 160 0 0 0 0 (dr0 g) 0)) (hk : ∀ y, prs B 160 0 0 0 0 (dr0 g) 0 = .inr y → KN y.2.2.1 y.2.2.2) (k1 : Kp (qx [0, 2, 8, 10, 12]) m m1) (k : Kp (qx [1, 3, 9, 11, 13]) m1 m2) : LND m2 := by
  have x1 := h1.2
  have x2 := h2.2
  have e8 : ∀ o j, 1 ≤ o → o ≤ 9 → j < 200 → m2.1 o j = m1.1 o j := fun o j a b hj => Kp_at k (g := 8) (by decide) hj (gp8 j a b)
  have e10 : ∀ o j, 19 ≤ o → o ≤ 22 → j < 200 → m2.1 o j = m1.1 o j := fun o j a b hj => Kp_at k (g := 10) (by decide) hj (gp10 j a b)
  have e12 : ∀ o j, 32 ≤ o → o ≤ 59 → j < 200 → m2.1 o j = m1.1 o j := fun o j a b hj => Kp_at k (g := 12) (by decide) hj (gp12 j a b)
  cases e : prs B 160 0 0 0 0 (dr0 g) 0 with
  | inl x =>
    rw [e] at x1 x2
    obtain ⟨-, -, -, x1⟩ := x1
    obtain ⟨-, -, x2, x3⟩ := x2
    have q1 : ∀ o, o < 10 ∨ 18 < o → o ≠ 23 → o ≠ 24 → o ≠ 26 → o ≠ 68 → o ≠ 72 → m2.1 o = m.1 o := fun o a b c d e f => (x2 o e f).trans (x1 o a b c d)
    have q9 : m2.1 69 = m.1 69 := q1 69 (by omega) (by omega) (by omega) (by omega) (by omega) (by omega)
    have q71 : m2.1 71 = m.1 71 := q1 71 (by omega) (by omega) (by omega) (by omega) (by omega) (by omega)
    have q3 : m2.1 68 3 = m.1 68 3 := by rw [x3, x1 68 (by omega) (by omega) (by omega) (by omega)]
    obtain ⟨V, N, a1, a2, a3, a4⟩ := hL
    have im : ∀ k, k < 2 → LIm V k m → LIm V k m2 := by
      intro k hk h
      have e0 : ∀ o j, 32 ≤ o → o ≤ 59 → j < 200 → m2.1 o j = m.1 o j := fun o j h1 h2 hj => by rw [q1 o (by omega) (by omega) (by omega) (by omega) (by omega) (by omega)]
      rcases h with ⟨b1, b2⟩ | ⟨b1, b2, N, b3, b4, b5, b6, b7⟩
      · exact Or.inl ⟨by rw [e0 _ 0 (by omega) (by omega) (by omega)]; exact b1, by rw [q71]; exact b2⟩
      · refine Or.inr ⟨by rw [e0 _ 0 (by omega) (by omega) (by omega)]; exact b1, by rw [q71]; exact b2, N, CW_e b3 (fun j hj => by rw [q9]) (fun o j h1 h2 hj => e0 o j (by omega) (by omega) hj), by rw [e0 _ 6 (by omega) (by omega) (by omega), q9]; exact b4, fun j hj => by rw [e0 _ j (by omega) (by omega) (by omega)]; exact b5 j hj, Atf_e b6 b3.2.1 (fun j hj => by rw [q9]), LSn_e b7 (fun p j h1 h2 hj => e0 p j (by omega) (by omega) hj) (fun j h1 h2 => by rw [q9])⟩
    refine ⟨V, N, ⟨q3.trans a1.1, CW_e a1.2.1 (fun j hj => by rw [q9]) (fun o j h1 h2 hj => by rw [q1 o (by omega) (by omega) (by omega) (by omega) (by omega) (by omega)]), ?_, fun j hj => ?_, Atf_e a1.2.2.2.2 a1.2.1.2.1 (fun j hj => by rw [q9])⟩, LSn_e a2 (fun p j h1 h2 hj => by rw [q1 p (by omega) (by omega) (by omega) (by omega) (by omega) (by omega)]) (fun j h1 h2 => by rw [q9]), im 0 (by omega) a3, im 1 (by omega) a4⟩
    · rw [q1 1 (by omega) (by omega) (by omega) (by omega) (by omega) (by omega), q9]; exact a1.2.2.1
    · rw [q1 4 (by omega) (by omega) (by omega) (by omega) (by omega) (by omega)]; exact a1.2.2.2.1 j hj
  | inr y =>
    rw [e] at x1 x2
    obtain ⟨-, -, c1, c2, c3, c4, c5, c6⟩ := x1
    obtain ⟨-, -, d1, d2, d3, d4⟩ := x2
    have p := prs_44 B 160 0 0 0 0 (dr0 g) 0 y (by omega) (by omega) e
    have f44 : dr0 g 44 = 0 := by
      unfold dr0
      rw [upd_n _ _ (by omega), upd_n _ _ (by omega), upd_n _ _ (by omega)]
      rfl
    have c2' : CW 1 y.2.1 y.2.2.1 (m2.1 69) m2 := CW_e c1 (fun j hj => d2 j (by omega)) (fun o j h1 h2 hj => e8 o j (by omega) (by omega) hj)
    refine ⟨y.2.1, y.2.2.1, ⟨d1, c2', ?_, fun j hj => ?_, fun b hb => ?_, fun b hb => ?_, fun b hb => ?_⟩, ⟨0, by omega, ?_, ?_, fun i hi => by omega⟩, Or.inl ⟨?_, d3⟩, Or.inl ⟨?_, d4⟩⟩
    · rw [e8 1 6 (by omega) (by omega) (by omega), d2 43 (by omega)]; exact c2
    · rw [e8 4 j (by omega) (by omega) (by omega)]; exact c3 j hj
    · have i := hI 69 (8 + 5 * b + 1)
      rw [(iv_at.1 b (by omega)).1] at i
      have q := p.2.2.2 b hb
      rw [← d2 _ (by omega), Int32.lt_iff_toInt_lt, nI_toInt (by omega)] at q
      exact ⟨(m2.1 69 (8 + 5 * b + 1)).toInt.toNat, by omega, i_nI i.1⟩
    · have i := hI 69 (8 + 5 * b)
      rw [(iv_at.1 b (by omega)).2] at i
      have i2 := i.2
      have i1 := i.1
      simp only at i1 i2
      exact ⟨(m2.1 69 (8 + 5 * b)).toInt.toNat, by omega, i_nI i.1⟩
    · rw [d2 (8 + 5 * b + 2) (by omega), d2 (8 + 5 * b + 3) (by omega)]; exact hk y e b hb
    · rw [e10 19 0 (by omega) (by omega) (by omega), c4]; rfl
    · rw [Nat.zero_add, d2 44 (by omega), p.1, f44]; rfl
    · rw [e12 _ 0 (by omega) (by omega) (by omega)]; exact c5
    · rw [e12 _ 0 (by omega) (by omega) (by omega)]; exact c6
