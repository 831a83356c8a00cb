/-! THE RELATION of class and model: the sheets -/
def SR (m : Mm) : Prop := ∀ k, k < 4 → (m.1 (60 + 2 * k) 0 = 0 ∧ m.1 77 k = -4) ∨ (m.1 (60 + 2 * k) 0 = 1 ∧ ¬ m.1 77 k = -4 ∧ m.1 (60 + 2 * k) 3 = m.1 77 k ∧ m.1 (60 + 2 * k) 1 = m.1 78 k ∧ ∀ i, i < 40 → m.1 (60 + 2 * k + 1) i = m.1 79 (40 * k + i))
theorem g4 {o j : Nat} (h1 : 60 ≤ o) (h2 : o ≤ 67) : grp 4 o j = true := by
  simp only [grp, Bool.and_eq_true, Nat.ble_eq]
  exact ⟨h1, h2⟩
theorem g5 (j : Nat) : grp 5 77 j = true ∧ grp 5 78 j = true ∧ grp 5 79 j = true := ⟨rfl, rfl, rfl⟩
theorem SR_Kp {q : List Nat} {m m' : Mm} (h : SR m) (hk : Kp q m m') (h4 : 4 ∈ q) (h5 : 5 ∈ q) : SR m' := by
  intro k k4
  have a : ∀ j, j < 200 → m'.1 (60 + 2 * k) j = m.1 (60 + 2 * k) j := fun j hj => Kp_at hk h4 hj (g4 (by omega) (by omega))
  have b : ∀ j, j < 200 → m'.1 (60 + 2 * k + 1) j = m.1 (60 + 2 * k + 1) j := fun j hj => Kp_at hk h4 hj (g4 (by omega) (by omega))
  have c := Kp_at hk h5 (show k < 200 by omega) (g5 k).1
  have e := Kp_at hk h5 (show k < 200 by omega) (g5 k).2.1
  rw [a 0 (by omega), a 3 (by omega), a 1 (by omega), c, e]
  rcases h k k4 with h | ⟨h1, h2, h3, h4', h5'⟩
  · exact Or.inl h
  · refine Or.inr ⟨h1, h2, h3, h4', fun i hi => ?_⟩
    rw [b i (by omega), Kp_at hk h5 (show 40 * k + i < 200 by omega) (g5 _).2.2]
    exact h5' i hi
theorem shV_1 {k l n : Int32} (h : shV k l n = 1) : ∃ K, K < 4 ∧ k = nI K ∧ ¬ l = -4 := by
  unfold shV at h
  split at h
  · rename_i q
    obtain ⟨K, hK, rfl⟩ := in_nI (N := 3) (by decide) q.1
    refine ⟨K, by omega, rfl, fun z => ?_⟩
    subst z
    exact absurd q.2.1 (by decide)
  · exact absurd h (by decide)
theorem SR_sheet {K : Nat} (hK : K < 4) {l n : Int32} (hl : ¬ l = -4) {m : Mm} (h : SR m) : SR (shN K l n (shM K l n m)) := by
  have e60 : ∀ o, 60 ≤ o → o ≤ 67 → (shN K l n (shM K l n m)).1 o = (shM K l n m).1 o := fun o h1 h2 => by
    unfold shN
    rw [setR_n _ _ (by omega), setR_n _ _ (by omega), setR_n _ _ (by omega)]
  have e77 : (shN K l n (shM K l n m)).1 77 = upd (m.1 77) K l := by
    unfold shN
    rw [setR_n _ _ (by omega), setR_n _ _ (by omega), setR_s]
    unfold shM
    rw [setR_n _ _ (by omega), setR_n _ _ (by omega)]
  have e78 : (shN K l n (shM K l n m)).1 78 = upd (m.1 78) K n := by
    unfold shN
    rw [setR_n _ _ (by omega), setR_s]
    unfold shM
    rw [setR_n _ _ (by omega), setR_n _ _ (by omega)]
  have e79 : (shN K l n (shM K l n m)).1 79 = zf (m.1 79) K 40 := by
    unfold shN
    rw [setR_s]
    unfold shM
    rw [setR_n _ _ (by omega), setR_n _ _ (by omega)]
  intro k k4
  rw [e60 (60 + 2 * k) (by omega) (by omega), e60 (60 + 2 * k + 1) (by omega) (by omega), e77, e78, e79]
  by_cases hk : k = K
  · subst hk
    refine Or.inr ?_
    have a : (shM k l n m).1 (60 + 2 * k) = upd (upd (upd (m.1 (60 + 2 * k)) 0 1) 3 l) 1 n := by
      unfold shM
      rw [setR_n _ _ (by omega), setR_s]
    have b : (shM k l n m).1 (60 + 2 * k + 1) = fillR (fun _ => 0) (m.1 (60 + 2 * k + 1)) 40 := by
      unfold shM
      rw [setR_s]
    rw [a, b]
    refine ⟨rfl, by simpa [upd] using hl, by simp [upd], by simp [upd], fun i hi => ?_⟩
    unfold fillR zf
    rw [if_pos hi, if_pos (by omega)]
  · have a : (shM K l n m).1 (60 + 2 * k) = m.1 (60 + 2 * k) := by
      unfold shM
      rw [setR_n _ _ (by omega), setR_n _ _ (by omega)]
    have b : (shM K l n m).1 (60 + 2 * k + 1) = m.1 (60 + 2 * k + 1) := by
      unfold shM
      rw [setR_n _ _ (by omega), setR_n _ _ (by omega)]
    have c : ∀ (f : Nat → Int32) (x : Int32), upd f K x k = f k := fun f x => by
      unfold upd
      rw [if_neg hk]
    rw [a, b, c, c]
    rcases h k k4 with h | ⟨h1, h2, h3, h4, h5⟩
    · exact Or.inl h
    · refine Or.inr ⟨h1, h2, h3, h4, fun i hi => ?_⟩
      unfold zf
      rw [if_neg (by omega)]
      exact h5 i hi
theorem SR_lay {K I : Nat} (hK : K < 4) (hI : I < 40) {x : Int32} {m : Mm} (h : SR m) : SR (setR (setR m (60 + 2 * K + 1) (upd (m.1 (60 + 2 * K + 1)) I x)) 79 (upd (m.1 79) (40 * K + I) x)) := by
  intro k k4
  rw [setR_n _ _ (show 60 + 2 * k ≠ 79 by omega), setR_n _ _ (show 60 + 2 * k ≠ 60 + 2 * K + 1 by omega), setR_n _ _ (show (77 : Nat) ≠ 79 by omega), setR_n _ _ (show 77 ≠ 60 + 2 * K + 1 by omega), setR_n _ _ (show (78 : Nat) ≠ 79 by omega), setR_n _ _ (show 78 ≠ 60 + 2 * K + 1 by omega), setR_n _ _ (show 60 + 2 * k + 1 ≠ 79 by omega), setR_s]
  rcases h k k4 with h | ⟨h1, h2, h3, h4, h5⟩
  · exact Or.inl h
  · refine Or.inr ⟨h1, h2, h3, h4, fun i hi => ?_⟩
    by_cases hk : k = K
    · subst hk
      rw [setR_s]
      unfold upd
      by_cases e : i = I
      · rw [if_pos e, if_pos (by omega)]
      · rw [if_neg e, if_neg (by omega)]
        exact h5 i hi
    · rw [setR_n _ _ (by omega)]
      unfold upd
      rw [if_neg (by omega)]
      exact h5 i hi
theorem lyV_1 {b : Bool} {sz i : Int32} (h : lyV b sz i = 1) (hs : sz.toInt ≤ 40) : i.toNatClampNeg < 40 := by
  unfold lyV at h
  split at h
  · exact absurd h (by decide)
  · split at h
    · rename_i q
      simp only [Bool.and_eq_true, decide_eq_true_eq, Int32.le_iff_toInt_le, Int32.lt_iff_toInt_lt] at q
      have e : (0 : Int32).toInt = 0 := by decide
      have : i.toNatClampNeg = i.toInt.toNat := rfl
      omega
    · exact absurd h (by decide)
section Rl
variable {wS : List Value → Mm → Option Rs} (d : Nat)
theorem iv_6x : ∀ K, K < 4 → ivO TV (60 + 2 * K) 1 = (0, 40) := by decide +kernel
theorem iv_78 : ∀ K, K < 4 → ivO TV 78 K = (0, 40) := by decide +kernel
/-- sheet of both -/
theorem b_sheet (k l n : Int32) {m : Mm} (h : SR m) : ∃ v m1 m2, semZ shP wS (d + 30) 94 [.ref 0, .int k, .int l, .int n] m = some (some (.int v), m1) ∧ semZ shP wS (d + 30) 180 [.ref 68, .int k, .int l, .int n] m1 = some (some (.int v), m2) ∧ SR m2 := by
  refine ⟨_, _, _, t_sheet6 wS (d + 28) k l n m, t_sheet7 wS (d + 27) k l n _, ?_⟩
  split
  · rename_i e
    obtain ⟨K, hK, rfl, hl⟩ := shV_1 e
    rw [nI_clamp (by omega)]
    exact SR_sheet hK hl h
  · exact h
/-- lay of both -/
theorem b_lay (k i v : Int32) {m : Mm} (hI : InvT TV m) (h : SR m) : ∃ x m1 m2, semZ shP wS (d + 30) 95 [.ref 0, .int k, .int i, .int v] m = some (some (.int x), m1) ∧ semZ shP wS (d + 30) 181 [.ref 68, .int k, .int i, .int v] m1 = some (some (.int x), m2) ∧ SR m2 := by
  cases hk : (decide (0 ≤ k) && decide (k ≤ 3)) with
  | false => exact ⟨_, _, _, (t_lay_bad wS (d + 28) k i v hk m).1, (t_lay_bad wS (d + 27) k i v hk m).2, h⟩
  | true =>
    obtain ⟨K, hK, rfl⟩ := in_nI (N := 3) (by decide) hk
    have hK : K < 4 := by omega
    have b1 := hI (60 + 2 * K) 1
    rw [iv_6x K hK] at b1
    have b2 := hI 78 K
    rw [iv_78 K hK] at b2
    have a6 := t_lay6 wS (d + 28) hK i v m b1.2
    rcases h K hK with ⟨h1, h2⟩ | ⟨h1, h2, h3, h4, h5⟩
    · have e6 : lyV (decide (m.1 (60 + 2 * K) 0 = 0)) (m.1 (60 + 2 * K) 1) i = -11 := by
        rw [h1]
        rfl
      rw [e6] at a6
      have a7 := t_lay7 wS (d + 27) hK i v m b2.1 b2.2
      have e7 : lyV (decide (m.1 77 K = -4)) (m.1 78 K) i = -11 := by
        rw [h2]
        rfl
      rw [e7] at a7
      exact ⟨_, _, _, a6, a7, h⟩
    · have ea : decide (m.1 (60 + 2 * K) 0 = 0) = decide (m.1 77 K = -4) := by
        rw [h1, decide_eq_false h2]
        rfl
      rw [ea, h4, h3] at a6
      by_cases e : lyV (decide (m.1 77 K = -4)) (m.1 78 K) i = 1
      · rw [if_pos e] at a6
        have hi := lyV_1 e b2.2
        have n77 : (setR m (60 + 2 * K + 1) (upd (m.1 (60 + 2 * K + 1)) i.toNatClampNeg (lnV (m.1 77 K) v))).1 77 = m.1 77 := setR_n _ _ (by omega)
        have n78 : (setR m (60 + 2 * K + 1) (upd (m.1 (60 + 2 * K + 1)) i.toNatClampNeg (lnV (m.1 77 K) v))).1 78 = m.1 78 := setR_n _ _ (by omega)
        have n79 : (setR m (60 + 2 * K + 1) (upd (m.1 (60 + 2 * K + 1)) i.toNatClampNeg (lnV (m.1 77 K) v))).1 79 = m.1 79 := setR_n _ _ (by omega)
        have a7 := t_lay7 wS (d + 27) hK i v (setR m (60 + 2 * K + 1) (upd (m.1 (60 + 2 * K + 1)) i.toNatClampNeg (lnV (m.1 77 K) v))) (by rw [n78]; exact b2.1) (by rw [n78]; exact b2.2)
        rw [n77, n78, n79, if_pos e] at a7
        exact ⟨_, _, _, a6, a7, SR_lay hK hi h⟩
      · rw [if_neg e] at a6
        have a7 := t_lay7 wS (d + 27) hK i v m b2.1 b2.2
        rw [if_neg e] at a7
        exact ⟨_, _, _, a6, a7, h⟩
end Rl
