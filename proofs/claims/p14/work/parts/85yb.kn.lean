/-! THE KIN that a text tells: 0 to 9 -/
theorem num1_q {B : Nat → Int32} {n : Nat} {hi : Int32} {z : Bool} {p : Nat} (hB : Tp B n) (hp : p ≤ n) {a : Int32} {p1 : Nat} (h : num1 B hi z p = .inr (a, p1)) : p1 ≤ n ∧ ¬ hi < a := by
  have hb := lx_b hB hp
  unfold num1 at h
  split at h
  · split at h
    · cases h
    · rename_i q
      cases h
      exact ⟨hb.2.2.1, fun z => q (Or.inl z)⟩
  · cases h
theorem num1_k {B : Nat → Int32} {n : Nat} {z : Bool} {p : Nat} (hB : Tp B n) (hp : p ≤ n) {a : Int32} {p1 : Nat} (h : num1 B 9 z p = .inr (a, p1)) : ∃ x, x < 10 ∧ a = nI x := by
  have h1 := num1_v hB hp h
  have h2 := (num1_q hB hp h).2
  have h1 : 0 ≤ a := h1
  rw [Int32.le_iff_toInt_le, show (0 : Int32).toInt = 0 from by decide] at h1
  rw [Int32.lt_iff_toInt_lt, show (9 : Int32).toInt = 9 from by decide] at h2
  exact ⟨a.toInt.toNat, by omega, i_nI h1⟩
theorem stp_p {B : Nat → Int32} {n p p1 : Nat} (hB : Tp B n) (hp : p ≤ n) (h : stp B p = .inr p1) : p1 ≤ n := by
  have hb := lx_b hB hp
  unfold stp at h
  split at h
  · cases h
    exact hb.2.2.1
  · cases h
theorem KN_u {f : Nat → Int32} {N : Nat} (h : KN N f) {j : Nat} (x : Int32) (hj : j < 8 ∨ 38 ≤ j) (hN : N ≤ 6) : KN N (upd f j x) := fun b hb => by
  rw [upd_n _ _ (by omega), upd_n _ _ (by omega)]
  exact h b hb
theorem line_kn {B : Nat → Int32} {n p V N : Nat} {f : Nat → Int32} {c : Nat} (hB : Tp B n) (hp : p ≤ n) (hV : V ≤ 4) (hN : N ≤ 6) (h : KN N f) {y : Lin} (e : line B p V N f c = .inr y) : KN y.2.2.1 y.2.2.2.1 ∧ y.1 ≤ n := by
  have hb := lx_b hB hp
  have lv : ∀ y : Lin, V < 4 → liV B (lx B p).2.2 V N f c = .inr y → KN y.2.2.1 y.2.2.2.1 ∧ y.1 ≤ n := by
    intro y hV e
    unfold liV at e
    split at e
    · cases e
    · rename_i a p1 e1
      have q1 := (num1_q hB hb.2.2.1 e1).1
      split at e
      · cases e
      · rename_i b p2 e2
        have q2 := (num1_q hB q1 e2).1
        split at e
        · cases e
        · rename_i p3 e3
          cases e
          exact ⟨KN_u (KN_u h _ (by omega) hN) _ (by omega) hN, stp_p hB q2 e3⟩
  have lb : ∀ (k : Int32) (y : Lin), N < 6 → liB B k (lx B p).2.2 V N f c = .inr y → KN y.2.2.1 y.2.2.2.1 ∧ y.1 ≤ n := by
    intro k y hN6 e
    unfold liB at e
    split at e
    · cases e
    · rename_i a p1 e1
      have q1 := (num1_q hB hb.2.2.1 e1).1
      split at e
      · cases e
      · rename_i b p2 e2
        have q2 := (num1_q hB q1 e2).1
        have v2 := num1_k hB q1 e2
        split at e
        · cases e
        · rename_i g p3 e3
          have q3 := (num1_q hB q2 e3).1
          have v3 := num1_k hB q2 e3
          split at e
          · cases e
          · rename_i p4 e4
            cases e
            refine ⟨fun i hi => ?_, stp_p hB q3 e4⟩
            have hi : i < N + 1 := hi
            show (∃ x, x < 10 ∧ bdF f N k a b g (8 + 5 * i + 2) = nI x) ∧ ∃ y, y < 10 ∧ bdF f N k a b g (8 + 5 * i + 3) = nI y
            unfold bdF
            by_cases q : i = N
            · subst q
              rw [upd_n _ _ (show 8 + 5 * i + 2 ≠ 38 by omega), upd_n _ _ (show 8 + 5 * i + 2 ≠ 8 + 5 * i + 3 by omega), upd_s, upd_n _ _ (show 8 + 5 * i + 3 ≠ 38 by omega), upd_s]
              exact ⟨v2, v3⟩
            · have z : ∀ t, t < 5 → upd (upd (upd (upd (upd f (8 + 5 * N) k) (8 + 5 * N + 1) a) (8 + 5 * N + 2) b) (8 + 5 * N + 3) g) 38 (nI (N + 1)) (8 + 5 * i + t) = f (8 + 5 * i + t) := fun t ht => by rw [upd_n _ _ (by omega), upd_n _ _ (by omega), upd_n _ _ (by omega), upd_n _ _ (by omega), upd_n _ _ (by omega)]
              rw [z 2 (by omega), z 3 (by omega)]
              exact h i (by omega)
  have ls : ∀ (cell : Nat) (hi : Int32) (z : Bool) (bit : Nat) (y : Lin), 38 ≤ cell → liS B cell hi z bit (lx B p).2.2 V N f c = .inr y → KN y.2.2.1 y.2.2.2.1 ∧ y.1 ≤ n := by
    intro cell hi z bit y hc e
    unfold liS at e
    split at e
    · cases e
    · rename_i a p1 e1
      have q1 := (num1_q hB hb.2.2.1 e1).1
      split at e
      · cases e
      · rename_i p2 e2
        cases e
        exact ⟨KN_u h _ (by omega) hN, stp_p hB q1 e2⟩
  unfold line at e
  split at e
  · split at e
    · cases e
    · split at e
      · cases e
      · split at e
        · cases e
        · rename_i hr
          generalize lnX B (lx B p).2.1 (lx B p).2.2 = k at e hr
          have hr : noRoom k V N = false := by simpa using hr
          unfold liK at e
          split at e
          · exact lv y (nr_V hr) e
          · exact lb _ y (nr_N (by omega) (by omega) hr) e
          · exact lb _ y (nr_N (by omega) (by omega) hr) e
          · exact lb _ y (nr_N (by omega) (by omega) hr) e
          · exact lb _ y (nr_N (by omega) (by omega) hr) e
          · exact ls _ _ _ _ y (by omega) e
          · exact ls _ _ _ _ y (by omega) e
          · exact ls _ _ _ _ y (by omega) e
  · cases e
theorem prs_kn {B : Nat → Int32} {n : Nat} (hB : Tp B n) : ∀ q p L V N f c y, p ≤ n → V ≤ 4 → N ≤ 6 → KN N f → prs B q p L V N f c = .inr y → KN y.2.2.1 y.2.2.2 := by
  intro q
  induction q with
  | zero => intro p L V N f c y _ _ _ _ e; cases e
  | succ q ih =>
    intro p L V N f c y hp hV hN hK e
    unfold prs at e
    split at e
    · split at e
      · cases e
        exact hK
      · cases e
    · split at e
      · cases e
      · rename_i p' V' N' f' c' e2
        have l := line_44 hV hN e2
        have k := line_kn hB hp hV hN hK e2
        exact ih _ _ _ _ _ _ _ k.2 l.2.1 l.2.2 k.1 e
theorem hk_text {B g : Nat → Int32} {n : Nat} (hB : Tp B n) : ∀ y, prs B 160 0 0 0 0 (dr0 g) 0 = .inr y → KN y.2.2.1 y.2.2.2 := fun y e => prs_kn hB 160 0 0 0 0 (dr0 g) 0 y (by omega) (by omega) (by omega) (fun b hb => by omega) e
