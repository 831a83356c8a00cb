/-! THE CHECKER IS SOUND: numbers -/
section Sv
variable {L0 L : List Value} {m : Mm}
/-! numbers -/
theorem add_ok {a b c : AV} {v w : Value} (h : addA a b = some c) (ga : gv L0 L m a v) (gb : gv L0 L m b w) : ∃ x y : Int32, v = .int x ∧ w = .int y ∧ gv L0 L m c (.int (x + y)) := by
  unfold addA at h
  split at h
  · rename_i ai e s o im bi f s' o' im'
    obtain ⟨x, hx, a1, a2, a3, a4⟩ := ga
    obtain ⟨y, hy, b1, b2, b3, b4⟩ := gb
    refine ⟨x, y, hx, hy, ?_⟩
    have A := gN_hul a1
    have B := gN_hul b1
    split at h
    · rename_i hc
      obtain ⟨hc, rfl⟩ := hc
      have ey := gN_1 b1 hc
      split at h
      · rename_i hr
        unfold in32 at hr
        simp only [Bool.and_eq_true, decide_eq_true_eq] at hr
        have e1 : (x + y).toInt = x.toInt + bi.1 := by
          rw [Int32.toInt_add, ey]
          exact bm32 (by omega) (by omega)
        cases h
        refine ⟨x + y, rfl, Or.inr ⟨?_, ?_, ?_⟩, Or.inl rfl, ?_, fun _ q hq => by cases hq⟩
        · rw [e1]; show _ + _ ≤ _; omega
        · rw [e1]; show _ ≤ _ + _; omega
        · rw [e1]
          have e2 : x.toInt + bi.1 - ((hul ai e).1 + bi.1) = x.toInt - (hul ai e).1 := by omega
          show _ ∣ x.toInt + bi.1 - ((hul ai e).1 + bi.1)
          rw [e2]
          exact A.2.2
        · rw [e1]
          rcases a3 with a3 | ⟨z, a3, a5⟩
          · rw [if_pos a3]
            exact Or.inl rfl
          · by_cases ho : o.1 = 0
            · rw [if_pos ho]
              exact Or.inl rfl
            · rw [if_neg ho]
              exact Or.inr ⟨z, a3, by show _ = _ + (_ + _); omega⟩
      · cases h
        exact gv_tI _
    · split at h
      · rename_i hr
        unfold in32 at hr
        simp only [Bool.and_eq_true, decide_eq_true_eq] at hr
        have e1 : (x + y).toInt = x.toInt + y.toInt := by
          rw [Int32.toInt_add]
          exact bm32 (by omega) (by omega)
        cases h
        refine ⟨x + y, rfl, Or.inr ⟨?_, ?_, ?_⟩, Or.inl rfl, Or.inl rfl, fun _ q hq => by cases hq⟩
        · rw [e1]; show _ + _ ≤ _; omega
        · rw [e1]; show _ ≤ _ + _; omega
        · rw [e1]
          have e2 : x.toInt + y.toInt - ((hul ai e).1 + (hul bi f).1) = (x.toInt - (hul ai e).1) + (y.toInt - (hul bi f).1) := by omega
          show ((Nat.gcd (hul ai e).2.2 (hul bi f).2.2 : Nat) : Int) ∣ x.toInt + y.toInt - ((hul ai e).1 + (hul bi f).1)
          rw [e2]
          exact Int.dvd_add (Int.dvd_trans (Int.ofNat_dvd.mpr (Nat.gcd_dvd_left _ _)) A.2.2) (Int.dvd_trans (Int.ofNat_dvd.mpr (Nat.gcd_dvd_right _ _)) B.2.2)
      · cases h
        exact gv_tI _
  · cases h
theorem sub_ok {a b c : AV} {v w : Value} (h : subA a b = some c) (ga : gv L0 L m a v) (gb : gv L0 L m b w) : ∃ x y : Int32, v = .int x ∧ w = .int y ∧ gv L0 L m c (.int (x - y)) := by
  unfold subA at h
  split at h
  · rename_i ai e s o im bi f s' o' im'
    obtain ⟨x, hx, a1, a2, a3, a4⟩ := ga
    obtain ⟨y, hy, b1, b2, b3, b4⟩ := gb
    refine ⟨x, y, hx, hy, ?_⟩
    have A := gN_hul a1
    have B := gN_hul b1
    split at h
    · rename_i hc
      obtain ⟨hc, rfl⟩ := hc
      have ey := gN_1 b1 hc
      split at h
      · rename_i hr
        unfold in32 at hr
        simp only [Bool.and_eq_true, decide_eq_true_eq] at hr
        have e1 : (x - y).toInt = x.toInt - bi.1 := by
          rw [Int32.toInt_sub, ey]
          exact bm32 (by omega) (by omega)
        cases h
        refine ⟨x - y, rfl, Or.inr ⟨?_, ?_, ?_⟩, Or.inl rfl, ?_, fun _ q hq => by cases hq⟩
        · rw [e1]; show _ - _ ≤ _; omega
        · rw [e1]; show _ ≤ _ - _; omega
        · rw [e1]
          have e2 : x.toInt - bi.1 - ((hul ai e).1 - bi.1) = x.toInt - (hul ai e).1 := by omega
          show _ ∣ x.toInt - bi.1 - ((hul ai e).1 - bi.1)
          rw [e2]
          exact A.2.2
        · rw [e1]
          rcases a3 with a3 | ⟨z, a3, a5⟩
          · rw [if_pos a3]
            exact Or.inl rfl
          · by_cases ho : o.1 = 0
            · rw [if_pos ho]
              exact Or.inl rfl
            · rw [if_neg ho]
              exact Or.inr ⟨z, a3, by show _ = _ + (_ - _); omega⟩
      · split at h
        · rename_i hr
          unfold in32 at hr
          simp only [Bool.and_eq_true, decide_eq_true_eq] at hr
          have e1 : (x - y).toInt = x.toInt - bi.1 + 4294967296 := by
            rw [Int32.toInt_sub, ey]
            show (x.toInt - bi.1).bmod 4294967296 = _
            rw [Int.bmod_def]
            split <;> omega
          cases h
          exact gv_i (by omega) (by omega)
        · cases h
          exact gv_tI _
    · split at h
      · rename_i hr
        unfold in32 at hr
        simp only [Bool.and_eq_true, decide_eq_true_eq] at hr
        have e1 : (x - y).toInt = x.toInt - y.toInt := by
          rw [Int32.toInt_sub]
          exact bm32 (by omega) (by omega)
        cases h
        exact gv_i (by omega) (by omega)
      · cases h
        exact gv_tI _
  · cases h
theorem mul_bd {a b x y A B : Int} (h1 : 0 ≤ a) (h2 : 0 ≤ b) (h3 : a ≤ x) (h4 : b ≤ y) (h5 : x ≤ A) (h6 : y ≤ B) : a * b ≤ x * y ∧ x * y ≤ A * B := ⟨Int.mul_le_mul h3 h4 h2 (by omega), Int.mul_le_mul h5 h6 (by omega) (by omega)⟩
theorem mul_ok {a b c : AV} {v w : Value} (h : mulA a b = some c) (ga : gv L0 L m a v) (gb : gv L0 L m b w) : ∃ x y : Int32, v = .int x ∧ w = .int y ∧ gv L0 L m c (.int (x * y)) := by
  unfold mulA at h
  split at h
  · rename_i ai e s o im bi f s' o' im'
    obtain ⟨x, hx, a1, a2, a3, a4⟩ := ga
    obtain ⟨y, hy, b1, b2, b3, b4⟩ := gb
    refine ⟨x, y, hx, hy, ?_⟩
    have A := gN_hul a1
    have B := gN_hul b1
    split at h
    · rename_i hc
      obtain ⟨c1, c2, hr⟩ := hc
      unfold in32 at hr
      simp only [Bool.and_eq_true, decide_eq_true_eq] at hr
      have mb := mul_bd c1 c2 A.1 B.1 A.2.1 B.2.1
      have e1 : (x * y).toInt = x.toInt * y.toInt := by
        rw [Int32.toInt_mul]
        exact bm32 (by omega) (by omega)
      cases h
      refine ⟨x * y, rfl, Or.inr ⟨?_, ?_, ?_⟩, Or.inl rfl, Or.inl rfl, fun _ q hq => by cases hq⟩
      · rw [e1]; exact mb.1
      · rw [e1]; exact mb.2
      · rw [e1]
        show ((if bi.1 = bi.2.1 ∧ f = none then (hul ai e).2.2 * bi.1.toNat else if ai.1 = ai.2.1 ∧ e = none then (hul bi f).2.2 * ai.1.toNat else 1 : Nat) : Int) ∣ x.toInt * y.toInt - (hul ai e).1 * (hul bi f).1
        split
        · rename_i hk
          obtain ⟨k1, rfl⟩ := hk
          have ey := gN_1 b1 k1
          have eb : (hul bi none).1 = bi.1 := rfl
          rw [eb] at c2 ⊢
          rw [ey, ← Int.sub_mul, Int.natCast_mul, Int.toNat_of_nonneg c2]
          exact Int.mul_dvd_mul A.2.2 (Int.dvd_refl _)
        · split
          · rename_i hk
            obtain ⟨k1, rfl⟩ := hk
            have ex := gN_1 a1 k1
            have eb : (hul ai none).1 = ai.1 := rfl
            rw [eb] at c1 ⊢
            rw [ex, ← Int.mul_sub, Int.natCast_mul, Int.toNat_of_nonneg c1, Int.mul_comm]
            exact Int.mul_dvd_mul (Int.dvd_refl _) B.2.2
          · exact one_dv _
    · cases h
      exact gv_tI _
  · cases h
theorem div_i {x y : Int32} (h : 0 < y.toInt) : (x / y).toInt = x.toInt.tdiv y.toInt := Int32.toInt_div_of_ne_right x y (fun z => by rw [z] at h; exact absurd h (by decide))
theorem rem_i {x y : Int32} (h : 0 < y.toInt) : (x - x / y * y).toInt = x.toInt.tmod y.toInt := by
  have h1 := Int.tmod_add_mul_tdiv x.toInt y.toInt
  have r1 := r32 x
  have r2 := r32 y
  have hb : -y.toInt < x.toInt.tmod y.toInt ∧ x.toInt.tmod y.toInt < y.toInt := by
    have q1 := Int.tmod_lt_of_pos x.toInt h
    have q2 := Int.lt_tmod_of_pos x.toInt h
    omega
  have hs : 0 ≤ x.toInt → 0 ≤ x.toInt.tmod y.toInt := fun z => Int.tmod_nonneg _ z
  have hn : x.toInt ≤ 0 → x.toInt.tmod y.toInt ≤ 0 := fun z => by
    have := Int.tmod_nonneg (a := -x.toInt) y.toInt (by omega)
    rw [Int.neg_tmod] at this
    omega
  have hm : (x / y * y).toInt = y.toInt * x.toInt.tdiv y.toInt := by
    rw [Int32.toInt_mul, div_i h, Int.mul_comm]
    refine bm32 ?_ ?_
    · by_cases z : 0 ≤ x.toInt
      · have := hs z; omega
      · have := hn (by omega); omega
    · by_cases z : 0 ≤ x.toInt
      · have := hs z; omega
      · have := hn (by omega); omega
  rw [Int32.toInt_sub, hm]
  have e : x.toInt - y.toInt * x.toInt.tdiv y.toInt = x.toInt.tmod y.toInt := by omega
  rw [e]
  exact bm32 (by omega) (by omega)
theorem rem_ok {a b c : AV} {v w : Value} (h : remA a b = some c) (ga : gv L0 L m a v) (gb : gv L0 L m b w) : ∃ x y : Int32, v = .int x ∧ w = .int y ∧ ¬ y = 0 ∧ gv L0 L m c (.int (x - x / y * y)) := by
  unfold remA at h
  split at h
  · rename_i ai e s o im bi f s' o' im'
    obtain ⟨x, hx, a1, a2, a3, a4⟩ := ga
    obtain ⟨y, hy, b1, b2, b3, b4⟩ := gb
    have A := gN_hul a1
    have B := gN_hul b1
    split at h
    · rename_i hc
      have hy0 : 0 < y.toInt := by omega
      refine ⟨x, y, hx, hy, fun z => by rw [z] at hy0; exact absurd hy0 (by decide), ?_⟩
      cases h
      have q1 := Int.tmod_lt_of_pos x.toInt hy0
      have q2 := Int.lt_tmod_of_pos x.toInt hy0
      refine gv_i ?_ ?_
      · rw [rem_i hy0]
        split
        · exact Int.tmod_nonneg _ (by omega)
        · omega
      · rw [rem_i hy0]; omega
    · cases h
  · cases h
theorem div_ok {a b c : AV} {v w : Value} (h : divA a b = some c) (ga : gv L0 L m a v) (gb : gv L0 L m b w) : ∃ x y : Int32, v = .int x ∧ w = .int y ∧ ¬ y = 0 ∧ gv L0 L m c (.int (x / y)) := by
  unfold divA at h
  split at h
  · rename_i ai e s o im bi f s' o' im'
    obtain ⟨x, hx, a1, a2, a3, a4⟩ := ga
    obtain ⟨y, hy, b1, b2, b3, b4⟩ := gb
    have A := gN_hul a1
    have B := gN_hul b1
    split at h
    · rename_i hc
      have hy0 : 0 < y.toInt := by omega
      refine ⟨x, y, hx, hy, fun z => by rw [z] at hy0; exact absurd hy0 (by decide), ?_⟩
      split at h
      · rename_i hx0
        cases h
        refine gv_i ?_ ?_
        · rw [div_i hy0]
          exact Int.tdiv_nonneg (by omega) (by omega)
        · rw [div_i hy0]
          exact Int.le_trans (Int.tdiv_le_self _ (by omega)) A.2.1
      · cases h
        exact gv_tI _
    · cases h
  · cases h
theorem and_i {x y : Int32} (h : 0 ≤ y.toInt) : 0 ≤ (x &&& y).toInt ∧ (x &&& y).toInt ≤ y.toInt := by
  have e1 : (x &&& y).toInt = ((x.toBitVec &&& y.toBitVec).toInt) := rfl
  have e2 : y.toInt = y.toBitVec.toInt := rfl
  rw [e2] at h
  rw [e1, e2]
  have hy := BitVec.toInt_eq_toNat_cond y.toBitVec
  have hz := BitVec.toInt_eq_toNat_cond (x.toBitVec &&& y.toBitVec)
  have hle : (x.toBitVec &&& y.toBitVec).toNat ≤ y.toBitVec.toNat := by
    rw [BitVec.toNat_and]
    exact Nat.and_le_right
  have h3 := y.toBitVec.isLt
  split at hy
  · split at hz <;> omega
  · omega
theorem and_ok {a b c : AV} {v w : Value} (h : andA a b = some c) (ga : gv L0 L m a v) (gb : gv L0 L m b w) : ∃ x y : Int32, v = .int x ∧ w = .int y ∧ gv L0 L m c (.int (x &&& y)) := by
  unfold andA at h
  split at h
  · rename_i ai0 bi f s' o' im'
    obtain ⟨ai, e, s, o, im⟩ := ai0
    obtain ⟨x, hx, a1, a2, a3, a4⟩ := ga
    obtain ⟨y, hy, b1, b2, b3, b4⟩ := gb
    refine ⟨x, y, hx, hy, ?_⟩
    have B := gN_hul b1
    split at h
    · rename_i hc
      cases h
      have := and_i (x := x) (y := y) (by omega)
      exact gv_i (by omega) (by omega)
    · cases h
      exact gv_tI _
  · cases h
theorem nf_sh : ∀ l, l < 32 → ((1 : Int32) <<< (nI l &&& 31)).toBitVec = BitVec.twoPow 32 l := by decide +kernel
theorem shl_1 (k : Nat) (h : k < 31) : ((1 : Int32) <<< (nI k &&& 31)).toInt = ((2 ^ k : Nat) : Int) := by
  have e : ((1 : Int32) <<< (nI k &&& 31)).toBitVec = BitVec.twoPow 32 k := nf_sh k (by omega)
  have e1 : ((1 : Int32) <<< (nI k &&& 31)).toInt = ((1 : Int32) <<< (nI k &&& 31)).toBitVec.toInt := rfl
  have hp : 2 ^ k < 2 ^ 31 := Nat.pow_lt_pow_right (by omega) h
  have h31 : 2 ^ 31 = 2147483648 := by decide
  have h32 : 2 ^ 32 = 4294967296 := by decide
  rw [e1, e, BitVec.toInt_eq_toNat_cond, BitVec.toNat_twoPow]
  generalize 2 ^ k = q at hp ⊢
  rw [Nat.mod_eq_of_lt (by omega), if_pos (by omega)]
theorem i_nI {y : Int32} (h : 0 ≤ y.toInt) : y = nI y.toInt.toNat := by
  apply Int32.toInt_inj.mp
  have := (r32 y).2
  rw [nI_toInt (by omega)]
  omega
theorem pow_le2 {a b : Nat} (h : a ≤ b) : ((2 ^ a : Nat) : Int) ≤ ((2 ^ b : Nat) : Int) := Int.ofNat_le.mpr (Nat.pow_le_pow_right (by omega) h)
theorem shl_ok {a b c : AV} {v w : Value} (h : shlA a b = some c) (ga : gv L0 L m a v) (gb : gv L0 L m b w) : ∃ x y : Int32, v = .int x ∧ w = .int y ∧ gv L0 L m c (.int (x <<< (y &&& 31))) := by
  unfold shlA at h
  split at h
  · rename_i ai e s o im bi f s' o' im'
    obtain ⟨x, hx, a1, a2, a3, a4⟩ := ga
    obtain ⟨y, hy, b1, b2, b3, b4⟩ := gb
    refine ⟨x, y, hx, hy, ?_⟩
    have B := gN_hul b1
    split at h
    · rename_i hc
      obtain ⟨c1, c2, rfl, c4, c5⟩ := hc
      have ex : x.toInt = 1 := by
        have := gN_1 a1 (by omega)
        omega
      have ex2 : x = 1 := Int32.toInt_inj.mp (by rw [ex]; decide)
      cases h
      have ey := i_nI (y := y) (by omega)
      have e1 := shl_1 y.toInt.toNat (by omega)
      rw [← ey] at e1
      rw [ex2]
      refine gv_i ?_ ?_
      · rw [e1]
        exact pow_le2 (a := 0) (b := y.toInt.toNat) (by omega)
      · rw [e1]
        exact pow_le2 (by omega)
    · cases h
      exact gv_tI _
  · cases h
theorem any_ok {a b c : AV} {v w : Value} (h : anyA a b = some c) (ga : gv L0 L m a v) (gb : gv L0 L m b w) (f : Int32 → Int32 → Int32) : ∃ x y : Int32, v = .int x ∧ w = .int y ∧ gv L0 L m c (.int (f x y)) := by
  unfold anyA at h
  split at h
  · rename_i ai0 bi0
    obtain ⟨ai, e, s, o, im⟩ := ai0
    obtain ⟨bi, g, s', o', im'⟩ := bi0
    obtain ⟨x, hx, _⟩ := ga
    obtain ⟨y, hy, _⟩ := gb
    refine ⟨x, y, hx, hy, ?_⟩
    cases h
    exact gv_tI _
  · cases h
end Sv
