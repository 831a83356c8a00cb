/-! THE START: what the tables and the Statement give at the law's entry -/
section Start
variable {s : State} {args : Array Value}
theorem iwAll {c : Nat} (h : c < 8) : Cond.instantiable (clE c).1 (clE c).2.2 ∈ tblG := by
  match c, h with
  | 0, _ => exact iwX0.1
  | 1, _ => exact iwX1.1
  | 2, _ => exact iwX2.1
  | 3, _ => exact iwX3.1
  | 4, _ => exact iwX4.1
  | 5, _ => exact iwX5.1
  | 6, _ => exact iwX6.1
  | 7, _ => exact iwX7.1
theorem st_arr {ty : FieldType} (h : (Cond.arrayClass ty).before args s = true) : ∃ cA : ClassId, ArrOfT s cA ty ∧ s.vm.findClass ("[" ++ ty.toString) = some cA := by
  obtain ⟨c, k, comp, h1, h2, h3⟩ := Cond.arrayClass_spec h
  exact ⟨c, fun N z => ⟨(fun k h => by cases h), k, h2, comp, h3⟩, h1⟩
theorem st_arq {C : String} (h : va_AO C s) : ∃ cA : ClassId, ArrOfT s cA (.object C) ∧ va_RA s cA (.object C) := by
  obtain ⟨comp, c, k, h1, h2, h3, h4, h5⟩ := Cond.arrayOver_spec h
  exact ⟨c, fun N z => ⟨(fun k h => by cases h), k, h3, comp, h4⟩, k, comp, h3, h4, h1, h5⟩
theorem st_K (hts : ∀ w ∈ tblG, w.before args s = true) (h0 : va_AO RX0 s) (h1 : va_AO RX1 s) : ∃ (D : va_G) (dA : Nat → ClassId), va_K D clsT (tysL dA) s := by
  have hc : ∀ c : Nat, ∃ q : ClassId × (Nat → Nat), c < 8 → u_Kn s (clE c).1 (clE c).2.1 (clE c).2.2 q.1 q.2 := by
    intro c
    by_cases h : c < 8
    · obtain ⟨cC, iS, hk⟩ := u_known hts (lay_ok h) (hts _ (iwAll h))
      exact ⟨(cC, iS), fun _ => hk⟩
    · exact ⟨(0, fun _ => 0), fun z => absurd z h⟩
  obtain ⟨f, hf⟩ := Classical.axiomOfChoice hc
  obtain ⟨c0, a0, b0⟩ := st_arr (hts _ arrI_in)
  obtain ⟨c1, a1, b1⟩ := st_arr (hts _ arrZ_in)
  obtain ⟨c2, a2, b2⟩ := st_arq h0
  obtain ⟨c3, a3, b3⟩ := st_arq h1
  refine ⟨(fun c => (f c).1, fun c => (f c).2), fun k => if k = 0 then c0 else if k = 1 then c1 else if k = 2 then c2 else c3, fun c q hq => ?_, fun k q hq => ?_⟩
  · have h8 : c < 8 := (List.getElem?_eq_some_iff.mp hq).1
    have e := Option.some.inj ((clE_get h8).symm.trans hq)
    rw [← e]
    exact hf c h8
  · match k, hq with
    | 0, hq => cases hq; exact ⟨a0, b0⟩
    | 1, hq => cases hq; exact ⟨a1, b1⟩
    | 2, hq => cases hq; exact ⟨a2, b2⟩
    | 3, hq => cases hq; exact ⟨a3, b3⟩
    | k + 4, hq => simp [tysL] at hq
theorem nest_in : ∀ q ∈ nestT, Cond.methodLinkNest (clsN q.1) q.2.1 q.2.2 "ProofFine" ∈ lw_tbl := by decide +kernel
theorem st_N (hts : ∀ w ∈ lw_tbl, w.before args s = true) : NsI s :=
  ⟨fun q hq => va_Nw.of rfl (hts _ (nest_in q hq)), va_AO.of (A := args) (hts _ (List.mem_of_getElem? (i := 242) (by decide +kernel))), va_AO.of (A := args) (hts _ (List.mem_of_getElem? (i := 244) (by decide +kernel)))⟩
def idS : List Nat := [123, 125, 127, 129, 131, 133, 134, 135]
def txS : List String := ["village", "plain", "river", "adopted", "mixed", "price", "fine", "round"]
def tmS (i : Nat) : Term := .string RX4 (idS.getD i 0)
def flS : List Cond := flatC (Jvm.Cond.and given_1 narrow_1)
theorem fs_ex : ∀ i, i < 8 → Cond.exactly (tmS i) "java/lang/String" ∈ flS := by decide +kernel
theorem fs_co : ∀ i, i < 8 → Cond.eq (.field (tmS i) "java/lang/String" "coder" "B") (.int 0) ∈ flS := by decide +kernel
theorem fs_ar : ∀ i, i < 8 → Cond.arrayOf (.field (tmS i) "java/lang/String" "value" "[B") .byte ∈ flS := by decide +kernel
theorem fs_le : ∀ i, i < 8 → Cond.eq (.length (.field (tmS i) "java/lang/String" "value" "[B")) (.int (Int32.ofNat (lenS.getD i 0))) ∈ flS := by decide +kernel
theorem fs_el : ∀ i, i < 8 → ∀ j, j < lenS.getD i 0 → Cond.eq (.elem (.field (tmS i) "java/lang/String" "value" "[B") (.int (Int32.ofNat j))) (.int ((bytS.getD i []).getD j 0)) ∈ flS := by decide +kernel
theorem fs_ne : ∀ i, i < 8 → ∀ j, j < 8 → i ≠ j → Cond.not (Cond.eq (tmS i) (tmS j)) ∈ flS ∨ Cond.not (Cond.eq (tmS j) (tmS i)) ∈ flS := by decide +kernel
theorem fs_len : ∀ i, i < 8 → lenS.getD i 0 < 2 ^ 31 := by decide
theorem sr_in : ∀ i, i < 8 → Cond.stringRef RX4 (idS.getD i 0) (txS.getD i "") ∈ lw_tbl := by decide +kernel
theorem str_at : ∀ q ∈ strTab, ∃ i, i < 8 ∧ clsN q.1 = RX4 ∧ q.2.1 = idS.getD i 0 ∧ q.2.2 = 2000 + i := by
  intro q hq
  simp only [strTab, List.mem_cons, List.not_mem_nil, or_false] at hq
  rcases hq with rfl | rfl | rfl | rfl | rfl | rfl | rfl | rfl
  · exact ⟨0, by decide, rfl, rfl, rfl⟩
  · exact ⟨1, by decide, rfl, rfl, rfl⟩
  · exact ⟨2, by decide, rfl, rfl, rfl⟩
  · exact ⟨3, by decide, rfl, rfl, rfl⟩
  · exact ⟨4, by decide, rfl, rfl, rfl⟩
  · exact ⟨5, by decide, rfl, rfl, rfl⟩
  · exact ⟨6, by decide, rfl, rfl, rfl⟩
  · exact ⟨7, by decide, rfl, rfl, rfl⟩
theorem st_T (hf : ∀ w ∈ flS, w.before args s = true) (n : String) (T : List Int32) (hN : T.length < 2 ^ 31) (h1 : Cond.arrayOf (.static "ProofFine" n "[I") .int ∈ flS) (h2 : Cond.eq (.length (.static "ProofFine" n "[I")) (.int (Int32.ofNat T.length)) ∈ flS) (h3 : ∀ j, j < T.length → Cond.eq (.elem (.static "ProofFine" n "[I") (.int (Int32.ofNat j))) (.int (T.getD j 0)) ∈ flS) : ∃ t : Nat, (Term.static "ProofFine" n "[I").eval args s none [] s = some (.ref t) ∧ va_T .int t T.length (fun j => .int (T.getD j 0)) (fun q => s.heap.size ≤ q) s s.heap :=
  va_Tof (f := fun j => .int (T.getD j 0)) hN (hf _ h1) (va_eqt (hf _ h2)) (fun j hj => va_eqt (hf _ (h3 j hj))) (fun a ha => Nat.not_le.mpr ha)
def aSf (t0 t1 b : Nat) (k : Nat → Nat) (o : Nat) : Nat := if o = 1000 then t0 else if o = 1001 then t1 else if o = 3000 then b else k (o - 2000)
theorem aSf_k (t0 t1 b : Nat) (k : Nat → Nat) {i : Nat} (h : i < 8) : aSf t0 t1 b k (2000 + i) = k i := by
  unfold aSf
  rw [if_neg (by omega), if_neg (by omega), if_neg (by omega), Nat.add_sub_cancel_left]
theorem st_F (hts : ∀ w ∈ lw_tbl, w.before args s = true) (hf : ∀ w ∈ flS, w.before args s = true) (b : Nat) : ∃ aS : Nat → Nat, aS 3000 = b ∧ StF aS (fun q => s.heap.size ≤ q) s := by
  have hA : ∀ a : Nat, a < s.heap.size → ¬ (fun q : Nat => s.heap.size ≤ q) a := fun a ha => Nat.not_le.mpr ha
  obtain ⟨t0, e0, T0⟩ := st_T hf "FATHER_NEEDS" [2, 3, 3, 4] (by decide) (by decide +kernel) (by decide +kernel) (by decide +kernel)
  obtain ⟨t1, e1, T1⟩ := st_T hf "MOTHER_NEEDS" [1, 1, 0, 2] (by decide) (by decide +kernel) (by decide +kernel) (by decide +kernel)
  obtain ⟨adK, adV, hS, hE⟩ := vk_Sof (tm := tmS) (N := 8) (len := lenS) (byt := bytS) (A := fun q : Nat => s.heap.size ≤ q) fs_len (fun i hi => hf _ (fs_ex i hi)) (fun i hi => hf _ (fs_co i hi)) (fun i hi => hf _ (fs_ar i hi)) (fun i hi => hf _ (fs_le i hi)) (fun i hi j hj => hf _ (fs_el i hi j hj)) (fun i j hi hj hij => (fs_ne i hi j hj hij).elim (fun z => Or.inl (hf _ z)) (fun z => Or.inr (hf _ z))) hA
  refine ⟨aSf t0 t1 b adK, rfl, ?_, ?_, ?_, ⟨adV, ?_⟩, ?_, ?_⟩
  · intro o T ht
    unfold tb0 at ht
    split at ht
    · rename_i h
      subst h
      cases ht
      exact T0
    · split at ht
      · rename_i h
        subst h
        cases ht
        exact T1
      · cases ht
  · intro q hq
    simp only [statTab, List.mem_cons, List.not_mem_nil, or_false] at hq
    rcases hq with rfl | rfl
    · exact ⟨va_Zref (hts _ (List.mem_of_getElem? (i := 506) (by decide +kernel))) (hts _ (List.mem_of_getElem? (i := 64) (by decide +kernel))) e0 hA, va_Nw.of rfl (hts _ (List.mem_of_getElem? (i := 505) (by decide +kernel)))⟩
    · exact ⟨va_Zref (hts _ (List.mem_of_getElem? (i := 508) (by decide +kernel))) (hts _ (List.mem_of_getElem? (i := 64) (by decide +kernel))) e1 hA, va_Nw.of rfl (hts _ (List.mem_of_getElem? (i := 507) (by decide +kernel)))⟩
  · intro q hq
    obtain ⟨i, hi, q1, q2, q3⟩ := str_at q hq
    rw [q1, q2, q3, aSf_k t0 t1 b adK hi]
    exact ⟨_, vk_R.of (hts _ (sr_in i hi)) (hE i hi)⟩
  · refine ⟨fun i hi => ?_, fun i j hi hj h => ?_⟩
    · show va_O _ (aSf t0 t1 b adK (2000 + i)) _ _ _ ∧ va_OF _ _ _ _ (aSf t0 t1 b adK (2000 + i)) _ _ _ ∧ va_OF _ _ _ _ (aSf t0 t1 b adK (2000 + i)) _ _ _ ∧ _
      rw [aSf_k t0 t1 b adK hi]
      exact hS.1 i hi
    · have h : aSf t0 t1 b adK (2000 + i) = aSf t0 t1 b adK (2000 + j) := h
      rw [aSf_k t0 t1 b adK hi, aSf_k t0 t1 b adK hj] at h
      exact hS.2 i j hi hj h
  · exact va_Zof (hts _ (List.mem_of_getElem? (i := 398) (by decide +kernel))) (hts _ (List.mem_of_getElem? (i := 72) (by decide +kernel))) (va_eqi (hf _ (by decide +kernel))) hA
  · exact va_Zqof (hts _ (List.mem_of_getElem? (i := 414) (by decide +kernel))) (hts _ (List.mem_of_getElem? (i := 74) (by decide +kernel))) (hf _ (by decide +kernel)) hA
end Start
