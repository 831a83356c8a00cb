/-! THE CHECKER IS SOUND: values, locals, memory -/
theorem bm32 {z : Int} (h1 : -2147483648 ≤ z) (h2 : z ≤ 2147483647) : z.bmod (2 ^ 32) = z := by
  show z.bmod 4294967296 = z
  rw [Int.bmod_def]
  split <;> omega
theorem r32 (x : Int32) : -2147483648 ≤ x.toInt ∧ x.toInt ≤ 2147483647 := ⟨by have := x.le_toInt; omega, by have := x.toInt_lt; omega⟩
theorem r64 (x : Int64) : -9223372036854775808 ≤ x.toInt ∧ x.toInt ≤ 9223372036854775807 := ⟨by have := x.le_toInt; omega, by have := x.toInt_lt; omega⟩
theorem one_dv (x : Int) : ((1 : Nat) : Int) ∣ x := ⟨x, by omega⟩
theorem gN_hul {a : AI} {e : Option Int} {x : Int} (h : gN a e x) : (hul a e).1 ≤ x ∧ x ≤ (hul a e).2.1 ∧ ((hul a e).2.2 : Int) ∣ x - (hul a e).1 := by
  unfold gN at h
  cases e with
  | none =>
    rcases h with h | h
    · cases h
    · exact h
  | some y =>
    unfold hul
    by_cases hc : a.1 ≤ a.2.1
    · simp only [if_pos hc]
      rcases h with h | ⟨h1, h2, h3⟩
      · cases h
        refine ⟨?_, ?_, one_dv _⟩
        · split <;> omega
        · split <;> omega
      · refine ⟨?_, ?_, one_dv _⟩
        · split <;> omega
        · split <;> omega
    · simp only [if_neg hc]
      rcases h with h | ⟨h1, h2, h3⟩
      · cases h
        exact ⟨Int.le_refl _, Int.le_refl _, ⟨0, by omega⟩⟩
      · omega
theorem gN_i {lo hi x : Int} (h1 : lo ≤ x) (h2 : x ≤ hi) : gN (lo, hi, 1) none x := Or.inr ⟨h1, h2, one_dv _⟩
theorem gN_1 {a : AI} {x : Int} (h : gN a none x) (hc : a.1 = a.2.1) : x = a.1 := by
  rcases h with h | h
  · cases h
  · omega
section Sv
variable {L0 L : List Value} {m : Mm}
theorem gv_i {lo hi : Int} {x : Int32} (h1 : lo ≤ x.toInt) (h2 : x.toInt ≤ hi) : gv L0 L m (iA lo hi) (.int x) := ⟨x, rfl, gN_i h1 h2, Or.inl rfl, Or.inl rfl, fun _ q hq => by cases hq⟩
theorem gv_tI (x : Int32) : gv L0 L m tI (.int x) := gv_i (r32 x).1 (r32 x).2
theorem gv_tJ (x : Int64) : gv L0 L m tJ (.long x) := ⟨x, rfl, (r64 x).1, (r64 x).2, Or.inl rfl⟩
theorem gv_cst {n : Int} (h : in32 n n = true) : gv L0 L m (cst n) (.int (Int32.ofInt n)) := by
  unfold in32 at h
  simp only [Bool.and_eq_true, decide_eq_true_eq] at h
  have e : (Int32.ofInt n).toInt = n := Int32.toInt_ofInt_of_le (by omega) (by omega)
  exact ⟨_, rfl, by rw [e]; exact Or.inr ⟨Int.le_refl _, Int.le_refl _, ⟨0, by show n - n = _; omega⟩⟩, Or.inl rfl, Or.inl rfl, fun _ q hq => by cases hq⟩
theorem gv_clr {a : AV} {v : Value} (h : gv L0 L m a v) (L' : List Value) (m' : Mm) : gv L0 L' m' (clr a) v := by
  match a, h with
  | none, _ => trivial
  | some (.inl (ai, e, s, o, im)), ⟨x, hx, h1, h2, h3, h4⟩ => exact ⟨x, hx, h1, Or.inl rfl, h3, fun _ q hq => by cases hq⟩
  | some (.inr (.inl rs)), h => exact h
  | some (.inr (.inr (lo, hi, s))), ⟨x, hx, h1, h2, h3⟩ => exact ⟨x, hx, h1, h2, Or.inl rfl⟩
theorem gv_cle {a : AV} {v : Value} (h : gv L0 L m a v) (L1 L' : List Value) (m' : Mm) : gv L1 L' m' (cle a) v := by
  match a, h with
  | none, _ => trivial
  | some (.inl (ai, e, s, o, im)), ⟨x, hx, h1, h2, h3, h4⟩ => exact ⟨x, hx, h1, Or.inl rfl, Or.inl rfl, fun _ q hq => by cases hq⟩
  | some (.inr (.inl rs)), h => exact h
  | some (.inr (.inr (lo, hi, s))), ⟨x, hx, h1, h2, h3⟩ => exact ⟨x, hx, h1, h2, Or.inl rfl⟩
theorem gT_clr {as : List AV} {st : List Value} (h : gT L0 L m as st) (L' : List Value) (m' : Mm) : gT L0 L' m' (as.map clr) st := by
  induction as generalizing st with
  | nil => cases st with
    | nil => trivial
    | cons v st => exact h.elim
  | cons a as ih => cases st with
    | nil => exact h.elim
    | cons v st => exact ⟨gv_clr h.1 L' m', ih h.2⟩
theorem gT_cons {a : AV} {as : List AV} {st : List Value} (h : gT L0 L m (a :: as) st) : ∃ v vs, st = v :: vs ∧ gv L0 L m a v ∧ gT L0 L m as vs := by
  cases st with
  | nil => exact h.elim
  | cons v st => exact ⟨v, st, rfl, h.1, h.2⟩
theorem gT_nil {st : List Value} (h : gT L0 L m [] st) : st = [] := by
  cases st with
  | nil => rfl
  | cons v st => exact h.elim
theorem isI_v {a : AV} {v : Value} (h : isI a = true) (g : gv L0 L m a v) : ∃ x : Int32, v = .int x := by
  match a, g with
  | none, _ => cases h
  | some (.inl (ai, e, s, o, im)), ⟨x, hx, _⟩ => exact ⟨x, hx⟩
  | some (.inr (.inl rs)), _ => cases h
  | some (.inr (.inr _)), _ => cases h
theorem isJ_v {a : AV} {v : Value} (h : isJ a = true) (g : gv L0 L m a v) : ∃ x : Int64, v = .long x := by
  match a, g with
  | none, _ => cases h
  | some (.inl _), _ => cases h
  | some (.inr (.inl rs)), _ => cases h
  | some (.inr (.inr (lo, hi, s))), ⟨x, hx, _⟩ => exact ⟨x, hx⟩
theorem is1_v {a : AV} {v : Value} (h : is1 a = true) (g : gv L0 L m a v) : v.category = 1 := by
  match a, g with
  | none, _ => cases h
  | some (.inl (ai, e, s, o, im)), ⟨x, hx, _⟩ => subst hx; rfl
  | some (.inr (.inl rs)), ⟨x, hx, _⟩ => subst hx; rfl
  | some (.inr (.inr _)), _ => cases h
theorem cat_2 (v : Value) : v.category ≤ 2 := by cases v <;> first | exact (by decide : (1 : Nat) ≤ 2) | exact (by decide : (2 : Nat) ≤ 2)
theorem catA_v {a : AV} {v : Value} (g : gv L0 L m a v) : v.category ≤ catA a := by
  unfold catA
  split
  · rename_i h
    rw [is1_v h g]
    exact Nat.le_refl 1
  · exact cat_2 v
theorem gT_cat {as : List AV} {st : List Value} (h : gT L0 L m as st) : (st.map fun v => v.category).sum ≤ (as.map catA).sum := by
  induction as generalizing st with
  | nil => rw [gT_nil h]; exact Nat.le_refl _
  | cons a as ih =>
    obtain ⟨v, vs, rfl, h1, h2⟩ := gT_cons h
    have := ih h2
    have := catA_v h1
    simp only [List.map_cons, List.sum_cons]
    omega
/-! locals -/
theorem ld_set (L : List Value) (i j : Nat) (v : Value) : ldL (L.set i v) j = if i = j ∧ i < L.length then v else ldL L j := by
  unfold ldL
  rw [List.getD_eq_getElem?_getD, List.getD_eq_getElem?_getD, List.getElem?_set]
  by_cases h : i = j
  · subst h
    by_cases h2 : i < L.length
    · rw [if_pos rfl, if_pos h2, if_pos ⟨rfl, h2⟩]; rfl
    · rw [if_pos rfl, if_neg h2, if_neg (fun z => h2 z.2), List.getElem?_eq_none (by omega)]
  · rw [if_neg h, if_neg (fun z => h z.1)]
theorem gL_at {as : List AV} (h : gL L0 L m as) {i : Nat} {a : AV} (ha : as[i]? = some a) : gv L0 L m a (ldL L i) := h.2 i a ha
theorem map_clr_at {as : List AV} {i : Nat} {b : AV} (h : (as.map clr)[i]? = some b) : ∃ a, as[i]? = some a ∧ b = clr a := by
  rw [List.getElem?_map] at h
  cases ha : as[i]? with
  | none => rw [ha] at h; cases h
  | some a => rw [ha] at h; cases h; exact ⟨a, rfl, rfl⟩
theorem gL_clr {as : List AV} (h : gL L0 L m as) (m' : Mm) : gL L0 L m' (as.map clr) := by
  refine ⟨by rw [List.length_map]; exact h.1, fun i b hb => ?_⟩
  obtain ⟨a, h1, rfl⟩ := map_clr_at hb
  exact gv_clr (h.2 i a h1) _ _
theorem preA_len (as : List AV) (i : Nat) : (preA as i).length = as.length := by
  unfold preA
  split
  · rfl
  · split
    · rfl
    · rfl
    · rw [List.length_set]
theorem pre_id {k : Nat} (h : (ldL L k).category = 1) : preL L (k + 1) = L := by
  unfold preL
  have : ¬ (L.getD k noV).category = 2 := by
    intro z
    have e : (ldL L k).category = 2 := z
    omega
  simp only [if_neg this]
theorem pre_ld {k j : Nat} (h : k ≠ j) : ldL (preL L (k + 1)) j = ldL L j := by
  show ldL (if (L.getD k noV).category = 2 then L.set k noV else L) j = _
  split
  · rw [ld_set, if_neg (fun z => h z.1)]
  · rfl
theorem pre_ok {as : List AV} (h : gL L0 L m as) {i j : Nat} {b : AV} (hb : (preA (as.map clr) i)[j]? = some b) (L' : List Value) : gv L0 L' m b (ldL (preL L i) j) := by
  have key : ∀ b, (as.map clr)[j]? = some b → gv L0 L' m b (ldL L j) := fun b hb => by
    obtain ⟨a, h1, rfl⟩ := map_clr_at hb
    exact gv_clr (h.2 j a h1) _ _
  cases i with
  | zero => exact key b hb
  | succ k =>
    unfold preA at hb
    simp only at hb
    split at hb
    · rename_i q hq
      obtain ⟨a, h1, h2⟩ := map_clr_at hq
      have g := gv_clr (h.2 k a h1) L m
      rw [← h2] at g
      rw [pre_id (is1_v (a := some (.inl q)) rfl g)]
      exact key b hb
    · rename_i q hq
      obtain ⟨a, h1, h2⟩ := map_clr_at hq
      have g := gv_clr (h.2 k a h1) L m
      rw [← h2] at g
      rw [pre_id (is1_v (a := some (.inr (.inl q))) rfl g)]
      exact key b hb
    · rw [List.getElem?_set] at hb
      by_cases e : k = j
      · rw [if_pos e] at hb
        split at hb
        · cases hb; trivial
        · cases hb
      · rw [if_neg e] at hb
        rw [pre_ld e]
        exact key b hb
theorem gL_st {as : List AV} {a : AV} {v : Value} {i : Nat} (h : gL L0 L m as) (hv : gv L0 L m a v) (hi : i < L.length) : gL L0 (stL L i v) m ((preA (as.map clr) i).set i (clr a)) := by
  have hpl : (preA (as.map clr) i).length = L.length := by rw [preA_len, List.length_map]; exact h.1
  refine ⟨by rw [List.length_set, hpl]; unfold stL; rw [List.length_set, preL_len], fun j b hj => ?_⟩
  unfold stL
  rw [ld_set]
  rw [List.getElem?_set] at hj
  by_cases e : i = j
  · rw [if_pos e, if_pos (by rw [hpl]; exact hi)] at hj
    cases hj
    rw [if_pos ⟨e, by rw [preL_len]; exact hi⟩]
    exact gv_clr hv _ _
  · rw [if_neg e] at hj
    rw [if_neg (fun z => e z.1)]
    exact pre_ok h hj _
theorem gL_none {as : List AV} {i : Nat} (h : gL L0 L m as) : gL L0 (L.set i noV) m ((as.map clr).set i none) := by
  refine ⟨by rw [List.length_set, List.length_set, List.length_map]; exact h.1, fun j b hj => ?_⟩
  rw [ld_set]
  rw [List.getElem?_set] at hj
  by_cases e : i = j
  · rw [if_pos e] at hj
    split at hj
    · cases hj; trivial
    · cases hj
  · rw [if_neg e] at hj
    rw [if_neg (fun z => e z.1)]
    obtain ⟨a, h1, rfl⟩ := map_clr_at hj
    exact gv_clr (h.2 j a h1) _ _
end Sv
