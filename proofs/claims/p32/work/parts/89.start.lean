section
/-! THE START: what the tables and the Statement give at the law's entry -/
section Start
variable {s : State} {args : Array Value}
theorem iwAll {c : Nat} (h : c < 8) : Cond.instantiable (clE c).1 (clE c).2.2 ∈ tblG := by
  match c, h with
  | 0, _ => exact iwX0.1
  | 1, _ => exact iwX1.1
  | 2, _ => exact iwX2.1
  | 3, _ => exact iwX3.1
  | 4, _ => exact iwX4.1
  | 5, _ => exact iwX5.1
  | 6, _ => exact iwX6.1
  | 7, _ => exact iwX7.1
theorem st_arr {ty : FieldType} (h : (Cond.arrayClass ty).before args s = true) : ∃ cA : ClassId, ArrOfT s cA ty ∧ s.vm.findClass ("[" ++ ty.toString) = some cA := by
  obtain ⟨c, k, comp, h1, h2, h3⟩ := Cond.arrayClass_spec h
  exact ⟨c, fun N z => ⟨(fun k h => by cases h), k, h2, comp, h3⟩, h1⟩
theorem st_arq {C : String} (h : va_AO C s) : ∃ cA : ClassId, ArrOfT s cA (.object C) ∧ va_RA s cA (.object C) := by
  obtain ⟨comp, c, k, h1, h2, h3, h4, h5⟩ := Cond.arrayOver_spec h
  exact ⟨c, fun N z => ⟨(fun k h => by cases h), k, h3, comp, h4⟩, k, comp, h3, h4, h1, h5⟩
theorem st_K (hts : ∀ w ∈ tblG, w.before args s = true) (h0 : va_AO RX0 s) (h1 : va_AO RX1 s) : ∃ (D : va_G) (dA : Nat → ClassId), va_K D clsT (tysL dA) s := by
  have hc : ∀ c : Nat, ∃ q : ClassId × (Nat → Nat), c < 8 → u_Kn s (clE c).1 (clE c).2.1 (clE c).2.2 q.1 q.2 := by
    intro c
    by_cases h : c < 8
    · obtain ⟨cC, iS, hk⟩ := u_known hts (lay_ok h) (hts _ (iwAll h))
      exact ⟨(cC, iS), fun _ => hk⟩
    · exact ⟨(0, fun _ => 0), fun z => absurd z h⟩
  obtain ⟨f, hf⟩ := Classical.axiomOfChoice hc
  obtain ⟨c0, a0, b0⟩ := st_arr (hts _ arrI_in)
  obtain ⟨c1, a1, b1⟩ := st_arr (hts _ arrZ_in)
  obtain ⟨c2, a2, b2⟩ := st_arq h0
  obtain ⟨c3, a3, b3⟩ := st_arq h1
  refine ⟨(fun c => (f c).1, fun c => (f c).2), fun k => if k = 0 then c0 else if k = 1 then c1 else if k = 2 then c2 else c3, fun c q hq => ?_, fun k q hq => ?_⟩
  · have h8 : c < 8 := (List.getElem?_eq_some_iff.mp hq).1
    have e := Option.some.inj ((clE_get h8).symm.trans hq)
    rw [← e]
    exact hf c h8
  · match k, hq with
    | 0, hq => cases hq; exact ⟨a0, b0⟩
    | 1, hq => cases hq; exact ⟨a1, b1⟩
    | 2, hq => cases hq; exact ⟨a2, b2⟩
    | 3, hq => cases hq; exact ⟨a3, b3⟩
    | k + 4, hq => simp [tysL] at hq
theorem nest_in : ∀ q ∈ nestT, Cond.methodLinkNest (clsN q.1) q.2.1 q.2.2 "ProofFine" ∈ lw_tbl := by decide +kernel
theorem st_N (hts : ∀ w ∈ lw_tbl, w.before args s = true) : NsI s :=
  ⟨fun q hq => va_Nw.of rfl (hts _ (nest_in q hq)), va_AO.of (A := args) (hts _ (List.mem_of_getElem? (i := 242) (by decide +kernel))), va_AO.of (A := args) (hts _ (List.mem_of_getElem? (i := 244) (by decide +kernel)))⟩
def idS : List Nat := [123, 125, 127, 129, 131, 133, 134, 135]
def txS : List String := ["village", "plain", "river", "adopted", "mixed", "price", "fine", "round"]
def tmS (i : Nat) : Term := .string RX4 (idS.getD i 0)
def flS : List Cond := flatC (Jvm.Cond.and given_1 narrow_1)
theorem fs_ex : ∀ i, i < 8 → Cond.exactly (tmS i) "java/lang/String" ∈ flS := by decide +kernel
theorem fs_co : ∀ i, i < 8 → Cond.eq (.field (tmS i) "java/lang/String" "coder" "B") (.int 0) ∈ flS := by decide +kernel
theorem fs_ar : ∀ i, i < 8 → Cond.arrayOf (.field (tmS i) "java/lang/String" "value" "[B") .byte ∈ flS := by decide +kernel
theorem fs_le : ∀ i, i < 8 → Cond.eq (.length (.field (tmS i) "java/lang/String" "value" "[B")) (.int (Int32.ofNat (lenS.getD i 0))) ∈ flS := by decide +kernel
theorem fs_el : ∀ i, i < 8 → ∀ j, j < lenS.getD i 0 → Cond.eq (.elem (.field (tmS i) "java/lang/String" "value" "[B") (.int (Int32.ofNat j))) (.int ((bytS.getD i []).getD j 0)) ∈ flS := by decide +kernel
theorem fs_ne : ∀ i, i < 8 → ∀ j, j < 8 → i ≠ j → Cond.not (Cond.eq (tmS i) (tmS j)) ∈ flS ∨ Cond.not (Cond.eq (tmS j) (tmS i)) ∈ flS := by decide +kernel
theorem fs_len : ∀ i, i < 8 → lenS.getD i 0 < 2 ^ 31 := by decide
theorem sr_in : ∀ i, i < 8 → Cond.stringRef RX4 (idS.getD i 0) (txS.getD i "") ∈ lw_tbl := by decide +kernel
theorem str_at : ∀ q ∈ strTab, ∃ i, i < 8 ∧ clsN q.1 = RX4 ∧ q.2.1 = idS.getD i 0 ∧ q.2.2 = 2000 + i := by
  intro q hq
  simp only [strTab, List.mem_cons, List.not_mem_nil, or_false] at hq
  rcases hq with rfl | rfl | rfl | rfl | rfl | rfl | rfl | rfl
  · exact ⟨0, by decide, rfl, rfl, rfl⟩
  · exact ⟨1, by decide, rfl, rfl, rfl⟩
  · exact ⟨2, by decide, rfl, rfl, rfl⟩
  · exact ⟨3, by decide, rfl, rfl, rfl⟩
  · exact ⟨4, by decide, rfl, rfl, rfl⟩
  · exact ⟨5, by decide, rfl, rfl, rfl⟩
  · exact ⟨6, by decide, rfl, rfl, rfl⟩
  · exact ⟨7, by decide, rfl, rfl, rfl⟩
theorem st_T (hf : ∀ w ∈ flS, w.before args s = true) (n : String) (T : List Int32) (hN : T.length < 2 ^ 31) (h1 : Cond.arrayOf (.static "ProofFine" n "[I") .int ∈ flS) (h2 : Cond.eq (.length (.static "ProofFine" n "[I")) (.int (Int32.ofNat T.length)) ∈ flS) (h3 : ∀ j, j < T.length → Cond.eq (.elem (.static "ProofFine" n "[I") (.int (Int32.ofNat j))) (.int (T.getD j 0)) ∈ flS) : ∃ t : Nat, (Term.static "ProofFine" n "[I").eval args s none [] s = some (.ref t) ∧ va_T .int t T.length (fun j => .int (T.getD j 0)) (fun q => s.heap.size ≤ q) s s.heap :=
  va_Tof (f := fun j => .int (T.getD j 0)) hN (hf _ h1) (va_eqt (hf _ h2)) (fun j hj => va_eqt (hf _ (h3 j hj))) (fun a ha => Nat.not_le.mpr ha)
def aSf (t0 t1 b : Nat) (k : Nat → Nat) (o : Nat) : Nat := if o = 1000 then t0 else if o = 1001 then t1 else if o = 3000 then b else k (o - 2000)
theorem aSf_k (t0 t1 b : Nat) (k : Nat → Nat) {i : Nat} (h : i < 8) : aSf t0 t1 b k (2000 + i) = k i := by
  unfold aSf
  rw [if_neg (by omega), if_neg (by omega), if_neg (by omega), Nat.add_sub_cancel_left]
theorem st_F (hts : ∀ w ∈ lw_tbl, w.before args s = true) (hf : ∀ w ∈ flS, w.before args s = true) (b : Nat) : ∃ aS : Nat → Nat, aS 3000 = b ∧ StF aS (fun q => s.heap.size ≤ q) s := by
  have hA : ∀ a : Nat, a < s.heap.size → ¬ (fun q : Nat => s.heap.size ≤ q) a := fun a ha => Nat.not_le.mpr ha
  obtain ⟨t0, e0, T0⟩ := st_T hf "FATHER_NEEDS" [2, 3, 3, 4] (by decide) (by decide +kernel) (by decide +kernel) (by decide +kernel)
  obtain ⟨t1, e1, T1⟩ := st_T hf "MOTHER_NEEDS" [1, 1, 0, 2] (by decide) (by decide +kernel) (by decide +kernel) (by decide +kernel)
  obtain ⟨adK, adV, hS, hE⟩ := vk_Sof (tm := tmS) (N := 8) (len := lenS) (byt := bytS) (A := fun q : Nat => s.heap.size ≤ q) fs_len (fun i hi => hf _ (fs_ex i hi)) (fun i hi => hf _ (fs_co i hi)) (fun i hi => hf _ (fs_ar i hi)) (fun i hi => hf _ (fs_le i hi)) (fun i hi j hj => hf _ (fs_el i hi j hj)) (fun i j hi hj hij => (fs_ne i hi j hj hij).elim (fun z => Or.inl (hf _ z)) (fun z => Or.inr (hf _ z))) hA
  refine ⟨aSf t0 t1 b adK, rfl, ?_, ?_, ?_, ⟨adV, ?_⟩, ?_, ?_⟩
  · intro o T ht
    unfold tb0 at ht
    split at ht
    · rename_i h
      subst h
      cases ht
      exact T0
    · split at ht
      · rename_i h
        subst h
        cases ht
        exact T1
      · cases ht
  · intro q hq
    simp only [statTab, List.mem_cons, List.not_mem_nil, or_false] at hq
    rcases hq with rfl | rfl
    · exact ⟨va_Zref (hts _ (List.mem_of_getElem? (i := 506) (by decide +kernel))) (hts _ (List.mem_of_getElem? (i := 64) (by decide +kernel))) e0 hA, va_Nw.of rfl (hts _ (List.mem_of_getElem? (i := 505) (by decide +kernel)))⟩
    · exact ⟨va_Zref (hts _ (List.mem_of_getElem? (i := 508) (by decide +kernel))) (hts _ (List.mem_of_getElem? (i := 64) (by decide +kernel))) e1 hA, va_Nw.of rfl (hts _ (List.mem_of_getElem? (i := 507) (by decide +kernel)))⟩
  · intro q hq
    obtain ⟨i, hi, q1, q2, q3⟩ := str_at q hq
    rw [q1, q2, q3, aSf_k t0 t1 b adK hi]
    exact ⟨_, vk_R.of (hts _ (sr_in i hi)) (hE i hi)⟩
  · refine ⟨fun i hi => ?_, fun i j hi hj h => ?_⟩
    · show va_O _ (aSf t0 t1 b adK (2000 + i)) _ _ _ ∧ va_OF _ _ _ _ (aSf t0 t1 b adK (2000 + i)) _ _ _ ∧ va_OF _ _ _ _ (aSf t0 t1 b adK (2000 + i)) _ _ _ ∧ _
      rw [aSf_k t0 t1 b adK hi]
      exact hS.1 i hi
    · have h : aSf t0 t1 b adK (2000 + i) = aSf t0 t1 b adK (2000 + j) := h
      rw [aSf_k t0 t1 b adK hi, aSf_k t0 t1 b adK hj] at h
      exact hS.2 i j hi hj h
  · exact va_Zof (hts _ (List.mem_of_getElem? (i := 398) (by decide +kernel))) (hts _ (List.mem_of_getElem? (i := 72) (by decide +kernel))) (va_eqi (hf _ (by decide +kernel))) hA
  · exact va_Zqof (hts _ (List.mem_of_getElem? (i := 414) (by decide +kernel))) (hts _ (List.mem_of_getElem? (i := 74) (by decide +kernel))) (hf _ (by decide +kernel)) hA
end Start
end
section
/-! TWO WORLDS IN ONE MEMORY: the ProofFine at 0, the ProofFineModel at 68 -/
def shE (k : Nat) (e : ShE) : ShE := match e with
  | .inl (ci, fs) => .inl (ci, fs.map (fun t => if t < 3 then t else t + k))
  | .inr (kd, n, rs) => .inr (kd, n, rs.map (fun r => r + k))
def rfOK (N : Nat) (e : ShE) : Bool := match e with
  | .inl (_, fs) => fs.all (fun t => decide (t < N + 3))
  | .inr (_, _, rs) => rs.all (fun r => decide (r < N))
theorem mapI_map {α β γ : Type} (f : Nat → β → γ) (g : α → β) : ∀ (l : List α) (k : Nat), mapI f k (l.map g) = mapI (fun i a => f i (g a)) k l
  | [], _ => rfl
  | a :: l, k => by
    show f k (g a) :: mapI f (k + 1) (l.map g) = f k (g a) :: mapI (fun i a => f i (g a)) (k + 1) l
    rw [mapI_map f g l (k + 1)]
theorem mapI_congr {α β : Type} {f g : Nat → α → β} : ∀ (l : List α) (k k' : Nat), (∀ i a, l[i]? = some a → f (k + i) a = g (k' + i) a) → mapI f k l = mapI g k' l
  | [], _, _, _ => rfl
  | a :: l, k, k', h => by
    show f k a :: mapI f (k + 1) l = g k' a :: mapI g (k' + 1) l
    have e0 : f k a = g k' a := by
      have := h 0 a rfl
      rwa [Nat.add_zero, Nat.add_zero] at this
    rw [e0, mapI_congr l (k + 1) (k' + 1) (fun i b hb => by
      have := h (i + 1) b hb
      rwa [show k + (i + 1) = k + 1 + i by omega, show k' + (i + 1) = k' + 1 + i by omega] at this)]
theorem mapI_app {α β : Type} (f : Nat → α → β) : ∀ (a b : List α) (k : Nat), mapI f k (a ++ b) = mapI f k a ++ mapI f (k + a.length) b
  | [], b, k => rfl
  | x :: a, b, k => by
    show f k x :: mapI f (k + 1) (a ++ b) = f k x :: (mapI f (k + 1) a ++ mapI f (k + (a.length + 1)) b)
    rw [mapI_app f a b (k + 1), show k + 1 + a.length = k + (a.length + 1) by omega]
theorem cellE_sh {ad ad' : Nat → Nat} {dA : Nat → ClassId} {m m' : Mm} {k o N : Nat} {e : ShE} (hN : rfOK N e = true) (hr : ∀ r, r < N → ad (k + r) = ad' r) (h1 : m.1 (k + o) = m'.1 o) (h2 : m.2 (k + o) = m'.2 o) : cellE ad dA m (k + o) (shE k e) = cellE ad' dA m' o e := by
  cases e with
  | inl x =>
    obtain ⟨ci, fs⟩ := x
    simp only [shE, cellE]
    congr 2
    rw [mapI_map]
    refine mapI_congr fs 0 0 (fun i t ht => ?_)
    have hb : t < N + 3 := of_decide_eq_true (List.all_eq_true.mp hN t (List.mem_of_getElem? ht))
    rcases t with _ | _ | _ | t
    · rw [if_pos (by omega)]
      simp only [fval, cv, h1]
    · rw [if_pos (by omega)]
      simp only [fval, cv, h2]
    · rw [if_pos (by omega)]
      simp only [fval, cv, h1]
    · rw [if_neg (by omega), show t + 3 + k = (k + t) + 3 by omega]
      show Value.ref (ad (k + t)) = Value.ref (ad' t)
      rw [hr t (by omega)]
  | inr x =>
    obtain ⟨kd, n, rs⟩ := x
    simp only [shE, cellE, h1]
    split
    · rfl
    · congr 7
      funext j
      rw [List.getElem?_map]
      cases hj : rs[j]? with
      | none => rfl
      | some r =>
        simp only [Option.map_some]
        rw [Nat.add_comm, hr r (of_decide_eq_true (List.all_eq_true.mp hN r (List.mem_of_getElem? hj)))]
theorem shP_two : shP = proofE0.map (shE 0) ++ (modelE 0).map (shE 68) := by decide +kernel
theorem two_rf : proofE0.all (rfOK 68) = true ∧ (modelE 0).all (rfOK 13) = true ∧ proofE0.length = 68 := by decide +kernel
/-- the memory at the law's start -/
def mN0 : Mm := (fun o => if o < 68 then mP0.1 o else mM0.1 (o - 68), fun o => if o < 68 then mP0.2 o else mM0.2 (o - 68))
def mS0 : Mm := (va_up mN0.1 69 (fun j => mN0.1 69 (j % 189)), mN0.2)
theorem cells_two {ad : Nat → Nat} {dA : Nat → ClassId} {u v : List Nat} (hu : ∀ r, r < 68 → ad r = u.getD r 0) (hv : ∀ r, r < 13 → ad (68 + r) = v.getD r 0) : cellsW shP ad dA mN0 = gOf proofE0 dA mP0 u ++ gOf (modelE 0) dA mM0 v := by
  unfold cellsW gOf cellsW
  rw [shP_two, mapI_app]
  congr 1
  · rw [mapI_map]
    refine mapI_congr _ 0 0 (fun i e he => ?_)
    have hi : i < 68 := by
      have := (List.getElem?_eq_some_iff.mp he).1
      rw [two_rf.2.2] at this
      exact this
    show (ad (0 + i), cellE ad dA mN0 (0 + i) (shE 0 e)) = (u.getD (0 + i) 0, cellE (fun k => u.getD k 0) dA mP0 (0 + i) e)
    have key := cellE_sh (ad := ad) (ad' := fun k => u.getD k 0) (dA := dA) (m := mN0) (m' := mP0) (k := 0) (o := i) (N := 68) (List.all_eq_true.mp two_rf.1 e (List.mem_of_getElem? he)) (fun r hr => by rw [Nat.zero_add]; exact hu r hr) (by rw [Nat.zero_add]; exact if_pos hi) (by rw [Nat.zero_add]; exact if_pos hi)
    rw [Nat.zero_add] at key
    rw [Nat.zero_add, hu i hi, key]
  · rw [List.length_map, two_rf.2.2, mapI_map]
    refine mapI_congr _ (0 + 68) 0 (fun i e he => ?_)
    have hi : i < 13 := (List.getElem?_eq_some_iff.mp he).1
    rw [Nat.zero_add, Nat.zero_add, hv i hi]
    congr 1
    exact cellE_sh (k := 68) (N := 13) (List.all_eq_true.mp two_rf.2.1 e (List.mem_of_getElem? he)) hv (by simp only [mN0]; rw [if_neg (by omega), Nat.add_sub_cancel_left]) (by simp only [mN0]; rw [if_neg (by omega), Nat.add_sub_cancel_left])
theorem sh69 : shP[69]? = some (.inr (0, 189, [])) := by decide +kernel
theorem P_two {D : va_G} {ad : Nat → Nat} {dA : Nat → ClassId} {H : Heap} (h : va_P D clsT (cellsW shP ad dA mN0) H) : va_P D clsT (cellsW shP ad dA mS0) H := by
  have e := cells_row (ad := ad) (dA := dA) (m := mN0) (fun j => mN0.1 69 (j % 189)) sh69 (by decide)
  unfold mS0
  rw [← e]
  intro k q hk
  rw [List.getElem?_set] at hk
  by_cases hq : 69 = k
  · rw [if_pos hq] at hk
    split at hk
    · cases hk
      have h0 := h 69 _ (cells_get sh69)
      have h1 : H[ad 69]? = some (vp_cell (dA 0) (189, .inl (mN0.1 69))) := h0
      show H[ad 69]? = some (vp_cell (dA 0) (189, .inl (fun j => mN0.1 69 (j % 189))))
      rw [h1, vp_cell_i, vp_cell_i]
      unfold arrV
      congr 3
      funext j
      show Value.int (mN0.1 69 j.1) = Value.int (mN0.1 69 (j.1 % 189))
      rw [Nat.mod_eq_of_lt j.2]
    · cases hk
  · rw [if_neg hq] at hk
    exact h k q hk
/-! its bounds -/
def bndO (o : Nat) (f : Nat → Int32) : Prop := ∀ j, (ivO TV o j).1 ≤ (f j).toInt ∧ (f j).toInt ≤ (ivO TV o j).2
def inB (o j : Nat) (x : Int32) : Bool := decide ((ivO TV o j).1 ≤ x.toInt ∧ x.toInt ≤ (ivO TV o j).2)
theorem tv_zero : TV.zipIdx.all (fun q => decide (q.2 = 69) || q.1.all (fun b => decide (b.1 ≤ 0 ∧ 0 ≤ b.2))) = true := by decide +kernel
theorem bnd_zero {o : Nat} (ho : o ≠ 69) : bndO o (fun _ => 0) := by
  intro j
  show (ivO TV o j).1 ≤ 0 ∧ 0 ≤ (ivO TV o j).2
  unfold ivO
  rw [List.getD_eq_getElem?_getD, List.getD_eq_getElem?_getD]
  cases h1 : TV[o]? with
  | none => simp
  | some r =>
    simp only [Option.getD_some]
    have h2 := List.all_eq_true.mp tv_zero (r, o) (List.mem_zipIdx_iff_getElem?.mpr h1)
    simp only [Bool.or_eq_true, decide_eq_true_eq] at h2
    cases h3 : r[j % r.length]? with
    | none => simp
    | some b =>
      rcases h2 with h2 | h2
      · exact absurd h2 ho
      · have := List.all_eq_true.mp h2 b (List.mem_of_getElem? h3)
        simpa using this
theorem bnd_upd {o j : Nat} {x : Int32} {f : Nat → Int32} (hf : bndO o f) (h : inB o j x = true) : bndO o (upd f j x) := by
  intro q
  unfold upd
  split
  · rename_i e
    rw [e]
    exact of_decide_eq_true h
  · exact hf q
theorem bnd_fill {o n : Nat} {f g : Nat → Int32} (hg : bndO o g) (h : ∀ j, j < n → inB o j (f j) = true) : bndO o (fillR f g n) := by
  intro q
  unfold fillR
  split
  · rename_i e
    exact of_decide_eq_true (h q e)
  · exact hg q
theorem mW0_at (k : Nat) : mW0.1 k = if k = 3 then fillR nI (fun _ => 0) 4 else if k = 0 then newF (fun _ => 0) else fun _ => 0 := by
  unfold mW0 setR
  show va_up (va_up m00.1 0 _) 3 _ k = _
  by_cases h3 : k = 3
  · rw [if_pos h3, h3, up_s]
    rfl
  · rw [if_neg h3, up_n _ _ h3]
    by_cases h0 : k = 0
    · rw [if_pos h0, h0, up_s]
      rfl
    · rw [if_neg h0, up_n _ _ h0]
      rfl
def inW0 (w : Nat) : Bool := inB w 0 0 && (inB w 1 0 && (inB w 2 5 && (inB w 3 46 && (inB w 4 5 && (inB w 5 0 && (inB w 6 0 && inB w 7 0)))))) && (List.range 4).all (fun j => inB (w + 3) j (nI j))
theorem bnd_world {w o : Nat} (h : inW0 w = true) (h1 : w ≤ o) (h2 : o < w + 9) (hw : w + 9 ≤ 69) : bndO o (mW0.1 (o - w)) := by
  simp only [inW0, Bool.and_eq_true] at h
  obtain ⟨⟨a0, a1, a2, a3, a4, a5, a6, a7⟩, a8⟩ := h
  have hz : bndO o (fun _ => 0) := bnd_zero (by omega)
  rw [mW0_at]
  split
  · rename_i e
    have : o = w + 3 := by omega
    subst this
    exact bnd_fill hz (fun j hj => List.all_eq_true.mp a8 j (List.mem_range.mpr hj))
  · split
    · rename_i e
      have : o = w := by omega
      subst this
      exact bnd_upd (bnd_upd (bnd_upd (bnd_upd (bnd_upd (bnd_upd (bnd_upd (bnd_upd hz a0) a1) a2) a3) a4) a5) a6) a7
    · exact hz
theorem w_in : inW0 1 = true ∧ inW0 10 = true ∧ inW0 33 = true ∧ inW0 47 = true := by decide +kernel
theorem bnd_P {o : Nat} (h : o < 68) : bndO o (mP0.1 o) := by
  have hz : bndO o (fun _ => 0) := bnd_zero (by omega)
  unfold mP0
  simp only
  split
  · rename_i e
    exact bnd_world w_in.1 e.1 (by omega) (by omega)
  · split
    · rename_i e
      exact bnd_world w_in.2.1 e.1 (by omega) (by omega)
    · split
      · rename_i e
        exact bnd_world w_in.2.2.1 e.1 (by omega) (by omega)
      · split
        · rename_i e
          exact bnd_world w_in.2.2.2 e.1 (by omega) (by omega)
        · exact hz
def fM (k : Nat) : Nat → Int32 := if k = 0 then upd (upd (upd (upd (fun _ => 0) 5 0) 6 0) 7 (-4)) 3 0 else if k = 1 then fillR (dr0 (fun _ => 0)) (fun _ => 0) 63 else if k = 3 then upd (upd (fun _ => 0) 0 0) 1 0 else if k = 4 then dr0 (fun _ => 0) else if k = 9 then upd (upd (upd (upd (fun _ => 0) 0 (-4)) 1 (-4)) 2 (-4)) 3 (-4) else fun _ => 0
theorem mM0_at (k : Nat) : mM0.1 k = fM k := by
  have e1 : ∀ k, mM1.1 k = if k = 9 then upd (upd (upd (upd (fun _ => 0) 0 (-4)) 1 (-4)) 2 (-4)) 3 (-4) else fun _ => 0 := fun _ => rfl
  have e2 : ∀ k, mM2.1 k = va_up (va_up mM1.1 4 (dr0 (mM1.1 4))) 0 (upd (upd (upd (mM1.1 0) 5 0) 6 0) 7 (-4)) k := fun _ => rfl
  have e3 : mM0.1 k = va_up (va_up (va_up mM2.1 1 (fillR (mM2.1 4) (mM2.1 1) 63)) 0 (upd (mM2.1 0) 3 (mM2.1 0 5))) 3 (upd (upd (mM2.1 3) 0 0) 1 0) k := rfl
  have f0 : mM2.1 0 = upd (upd (upd (fun _ => 0) 5 0) 6 0) 7 (-4) := by rw [e2, up_s]; rfl
  have f1 : mM2.1 1 = fun _ => 0 := by rw [e2, up_n _ _ (by decide), up_n _ _ (by decide)]; rfl
  have f3 : mM2.1 3 = fun _ => 0 := by rw [e2, up_n _ _ (by decide), up_n _ _ (by decide)]; rfl
  have f4 : mM2.1 4 = dr0 (fun _ => 0) := by rw [e2, up_n _ _ (by decide), up_s]; rfl
  rw [e3]
  unfold fM
  by_cases h0 : k = 0
  · rw [if_pos h0, h0, up_n _ _ (by decide), up_s, f0]
    rfl
  · rw [if_neg h0]
    by_cases h1 : k = 1
    · rw [if_pos h1, h1, up_n _ _ (by decide), up_n _ _ (by decide), up_s, f4, f1]
    · rw [if_neg h1]
      by_cases h3 : k = 3
      · rw [if_pos h3, h3, up_s, f3]
      · rw [if_neg h3, up_n _ _ h3, up_n _ _ h0, up_n _ _ h1]
        by_cases h4 : k = 4
        · rw [if_pos h4, h4, f4]
        · rw [if_neg h4, e2, up_n _ _ h0, up_n _ _ h4, e1]
def okM0 : Bool := inB 68 5 0 && (inB 68 6 0 && (inB 68 7 (-4) && inB 68 3 0)) && (inB 71 0 0 && inB 71 1 0 && (inB 72 39 5 && (inB 72 40 46 && inB 72 41 5))) && (inB 77 0 (-4) && (inB 77 1 (-4) && (inB 77 2 (-4) && inB 77 3 (-4)))) && ((List.range 63).all (fun j => inB 72 j 0) && (List.range 189).all (fun j => inB 69 j (fM 1 j)))
theorem m_in : okM0 = true := by decide +kernel
theorem bnd_M {k : Nat} (h : k ≠ 1) : bndO (68 + k) (mM0.1 k) := by
  have hz : bndO (68 + k) (fun _ => 0) := bnd_zero (by omega)
  have h9 := m_in
  simp only [okM0, Bool.and_eq_true] at h9
  obtain ⟨⟨⟨⟨a0, a1, a2, a3⟩, ⟨b0, b1⟩, b2, b3, b4⟩, c0, c1, c2, c3⟩, d0, d1⟩ := h9
  rw [mM0_at]
  unfold fM
  by_cases h0 : k = 0
  · rw [if_pos h0]
    subst h0
    exact bnd_upd (bnd_upd (bnd_upd (bnd_upd hz a0) a1) a2) a3
  · rw [if_neg h0, if_neg h]
    by_cases h3 : k = 3
    · rw [if_pos h3]
      subst h3
      exact bnd_upd (bnd_upd hz b0) b1
    · rw [if_neg h3]
      by_cases h4 : k = 4
      · rw [if_pos h4]
        subst h4
        exact bnd_upd (bnd_upd (bnd_upd (bnd_fill hz (fun j hj => List.all_eq_true.mp d0 j (List.mem_range.mpr hj))) b2) b3) b4
      · rw [if_neg h4]
        by_cases h5 : k = 9
        · rw [if_pos h5]
          subst h5
          exact bnd_upd (bnd_upd (bnd_upd (bnd_upd hz c0) c1) c2) c3
        · rw [if_neg h5]
          exact hz
theorem iv69 (j : Nat) : ivO TV 69 j = ivO TV 69 (j % 189) := by
  have e : (TV.getD 69 []).length = 189 := by decide +kernel
  unfold ivO
  rw [e, Nat.mod_mod]
theorem inv_S0 : InvT TV mS0 := by
  intro o j
  by_cases h9 : o = 69
  · subst h9
    have h1 := m_in
    simp only [okM0, Bool.and_eq_true] at h1
    have h2 := of_decide_eq_true (List.all_eq_true.mp h1.2.2 (j % 189) (List.mem_range.mpr (Nat.mod_lt _ (by decide))))
    have e : mS0.1 69 j = fM 1 (j % 189) := by
      show va_up mN0.1 69 (fun j => mN0.1 69 (j % 189)) 69 j = _
      rw [up_s]
      show mM0.1 1 (j % 189) = _
      rw [mM0_at]
    rw [e, iv69]
    exact h2
  · have e : mS0.1 o = mN0.1 o := up_n _ _ h9
    rw [e]
    show (ivO TV o j).1 ≤ ((if o < 68 then mP0.1 o else mM0.1 (o - 68)) j).toInt ∧ ((if o < 68 then mP0.1 o else mM0.1 (o - 68)) j).toInt ≤ (ivO TV o j).2
    by_cases h : o < 68
    · rw [if_pos h]
      exact bnd_P h j
    · rw [if_neg h]
      have := bnd_M (k := o - 68) (by omega) j
      rwa [show 68 + (o - 68) = o by omega] at this
theorem mS0_n {o : Nat} (h : o ≠ 69) : mS0.1 o = mN0.1 o := by
  show va_up mN0.1 69 (fun j => mN0.1 69 (j % 189)) o = mN0.1 o
  exact up_n mN0.1 (fun j => mN0.1 69 (j % 189)) h
theorem SR_S0 : SR mS0 := by
  have e77 : mS0.1 77 = fM 9 := by
    rw [mS0_n (by decide)]
    show mM0.1 9 = _
    rw [mM0_at]
  intro k hk
  refine Or.inl ?_
  match k, hk with
  | 0, _ => exact ⟨by rw [mS0_n (by decide)]; rfl, by rw [e77]; rfl⟩
  | 1, _ => exact ⟨by rw [mS0_n (by decide)]; rfl, by rw [e77]; rfl⟩
  | 2, _ => exact ⟨by rw [mS0_n (by decide)]; rfl, by rw [e77]; rfl⟩
  | 3, _ => exact ⟨by rw [mS0_n (by decide)]; rfl, by rw [e77]; rfl⟩
theorem TR_S0 : TR 0 mS0 := by
  refine TR_0 ?_ ?_
  · rw [mS0_n (by decide)]
    rfl
  · rw [mS0_n (by decide)]
    show mM0.1 0 9 = 0
    rw [mM0_at]
    rfl
theorem FR_S0 : FR mS0 := by
  unfold FR
  rw [mS0_n (by decide), mS0_n (by decide)]
  show (0 : Int32) = mM0.1 0 14
  rw [mM0_at]
  rfl
theorem mS0_69 (j : Nat) : mS0.1 69 j = fM 1 (j % 189) := by
  show va_up mN0.1 69 (fun j => mN0.1 69 (j % 189)) 69 j = _
  rw [up_s]
  show mM0.1 1 (j % 189) = _
  rw [mM0_at]
theorem mS0_w {o : Nat} (h1 : 1 ≤ o) (h2 : o < 10) : mS0.1 o = mW0.1 (o - 1) := by
  rw [mS0_n (by omega)]
  show (if o < 68 then mP0.1 o else mM0.1 (o - 68)) = _
  rw [if_pos (by omega)]
  show (if 1 ≤ o ∧ o < 10 then mW0.1 (o - 1) else _) = _
  rw [if_pos ⟨h1, h2⟩]
theorem mS0_71 : mS0.1 71 = fM 3 := by
  rw [mS0_n (by decide)]
  show mM0.1 3 = _
  rw [mM0_at]
theorem LND_S0 : LND mS0 := by
  have e1 : mS0.1 1 = newF (fun _ => 0) := by rw [mS0_w (by omega) (by omega), mW0_at]; rfl
  have e4 : mS0.1 4 = fillR nI (fun _ => 0) 4 := by rw [mS0_w (by omega) (by omega), mW0_at]; rfl
  have e68 : mS0.1 68 = fM 0 := by
    rw [mS0_n (by decide)]
    show mM0.1 0 = _
    rw [mM0_at]
  refine ⟨0, 0, ⟨by rw [e68]; rfl, ⟨by omega, by omega, by rw [e1]; rfl, by rw [e1]; rfl, by rw [mS0_69]; rfl, by rw [e1, mS0_69]; rfl, by rw [e1, mS0_69]; rfl, by rw [e1, mS0_69]; rfl, by rw [e1, mS0_69]; rfl, fun g hg => by omega, fun b hb => by omega⟩, by rw [e1, mS0_69]; rfl, fun j hj => ?_, ⟨fun b hb => by omega, fun b hb => by omega, fun b hb => by omega⟩, fun g hg => by omega, ⟨5, by omega, by rw [mS0_69]; rfl⟩, ⟨46, by omega, by rw [mS0_69]; rfl⟩⟩, ⟨0, by omega, by rw [mS0_n (by decide)]; rfl, by rw [mS0_69]; rfl, fun i hi => by omega⟩, Or.inl ⟨by rw [mS0_n (by decide)]; rfl, by rw [mS0_71]; rfl⟩, Or.inl ⟨by rw [mS0_n (by decide)]; rfl, by rw [mS0_71]; rfl⟩⟩
  rw [e4]
  unfold fillR
  rw [if_pos hj]
theorem LTo_S0 : LTo mS0 := by
  unfold LTo
  rw [mS0_n (by decide), mS0_n (by decide)]
  show (0 : Int32) = mM0.1 0 27
  rw [mM0_at]
  rfl
theorem LI_S0 : LI mS0 0 := by
  have e71 : mS0.1 71 = upd (upd (fun _ => 0) 0 0) 1 0 := by
    rw [mS0_n (by decide)]
    show mM0.1 3 = _
    rw [mM0_at]
    rfl
  exact ⟨inv_S0, ⟨fun h => absurd (by rw [e71]; rfl) h, fun h => absurd (by rw [e71]; rfl) h⟩, TR_S0, SR_S0, FR_S0, LND_S0, LTo_S0⟩
end
section
/-! A WINDOW of the bytes: what is decoded there is decoded in the whole -/
section Win
variable {cc cw : ByteArray} {a : Nat}
def Win (a : Nat) (cw cc : ByteArray) : Prop := ∀ i (h : i < cw.size), ∃ h2 : a + i < cc.size, cc[a + i] = cw[i]
def Sim (a : Nat) (cw cc : ByteArray) {α : Type} (X Y : Decoder α) : Prop := ∀ p v q, X.runAt cw p = .ok (v, q) → Y.runAt cc (a + p) = .ok (v, a + q)
theorem sim_pure {α : Type} (v : α) : Sim a cw cc (pure v) (pure v) := by
  intro p v' q h
  cases h
  rfl
theorem sim_throw {α : Type} (e : DecodeError) (Y : Decoder α) : Sim a cw cc (throw e) Y := by
  intro p v q h
  cases h
theorem run_bind {α β : Type} (X : Decoder α) (f : α → Decoder β) (c : ByteArray) (p : Nat) : (X >>= f).runAt c p = match X.runAt c p with | .ok y => (f y.1).runAt c y.2 | .error e => .error e := by
  show Except.bind (X.runAt c p) (fun y => (f y.1).runAt c y.2) = _
  cases X.runAt c p <;> rfl
theorem sim_bind {α β : Type} {X Y : Decoder α} {f g : α → Decoder β} (h1 : Sim a cw cc X Y) (h2 : ∀ v, Sim a cw cc (f v) (g v)) : Sim a cw cc (X >>= f) (Y >>= g) := by
  intro p v q h
  rw [run_bind] at h ⊢
  cases e : X.runAt cw p with
  | error x => rw [e] at h; cases h
  | ok y =>
    rw [e] at h
    rw [h1 p y.1 y.2 e]
    exact h2 y.1 y.2 v q h
theorem sim_map {α β : Type} {X Y : Decoder α} (f : α → β) (h1 : Sim a cw cc X Y) : Sim a cw cc (f <$> X) (f <$> Y) := by
  have h := sim_bind (a := a) (cw := cw) (cc := cc) h1 (fun v => sim_pure (f v))
  exact h
theorem run_u1 (c : ByteArray) (p : Nat) : (Reader.u1 : Decoder Nat).runAt c p = if h : p < c.size then .ok (c[p].toNat, p + 1) else .error (.truncated p) := by
  show (dite (p < c.size) (fun h => ((do set (p + 1); pure c[p].toNat : Decoder Nat))) (fun _ => throw (HasTruncated.truncated p))) c p = _
  by_cases h : p < c.size
  · rw [dif_pos h, dif_pos h]; rfl
  · rw [dif_neg h, dif_neg h]; rfl
theorem sim_u1 (hw : Win a cw cc) : Sim a cw cc Reader.u1 Reader.u1 := by
  intro p v q h
  rw [run_u1] at h ⊢
  by_cases c : p < cw.size
  · rw [dif_pos c] at h
    cases h
    obtain ⟨h2, e⟩ := hw p c
    rw [dif_pos h2, e]
    rfl
  · rw [dif_neg c] at h
    cases h
theorem sim_u2 (hw : Win a cw cc) : Sim a cw cc Reader.u2 Reader.u2 := sim_bind (sim_u1 hw) (fun _ => sim_bind (sim_u1 hw) (fun _ => sim_pure _))
theorem sim_u4 (hw : Win a cw cc) : Sim a cw cc Reader.u4 Reader.u4 := sim_bind (sim_u2 hw) (fun _ => sim_bind (sim_u2 hw) (fun _ => sim_pure _))
theorem sim_s1 (hw : Win a cw cc) : Sim a cw cc Reader.s1 Reader.s1 := sim_map _ (sim_u1 hw)
theorem sim_s2 (hw : Win a cw cc) : Sim a cw cc Reader.s2 Reader.s2 := sim_map _ (sim_u2 hw)
theorem sim_s4 (hw : Win a cw cc) : Sim a cw cc Reader.s4 Reader.s4 := sim_map _ (sim_u4 hw)
theorem run_bytes (n : Nat) (c : ByteArray) (p : Nat) : (Reader.bytes n : Decoder ByteArray).runAt c p = if p + n ≤ c.size then .ok (c.extract p (p + n), p + n) else .error (.truncated c.size) := by
  show (ite (p + n ≤ c.size) ((do set (p + n); pure (c.extract p (p + n)) : Decoder ByteArray)) (throw (HasTruncated.truncated c.size))) c p = _
  by_cases h : p + n ≤ c.size
  · rw [if_pos h, if_pos h]; rfl
  · rw [if_neg h, if_neg h]; rfl
theorem run_pad (c : ByteArray) (p : Nat) : (Decoder.padding).runAt c p = if p + (4 - p % 4) % 4 ≤ c.size then .ok ((), p + (4 - p % 4) % 4) else .error (.truncated c.size) := by
  unfold Decoder.padding
  rw [run_bind]
  show ((do let _ ← Reader.bytes ((4 - p % 4) % 4); pure () : Decoder Unit)).runAt c p = _
  rw [run_bind, run_bytes]
  by_cases h : p + (4 - p % 4) % 4 ≤ c.size
  · rw [if_pos h, if_pos h]; rfl
  · rw [if_neg h, if_neg h]
theorem win_le (hw : Win a cw cc) {p : Nat} (h : p ≤ cw.size) (h0 : 0 < cw.size) : a + p ≤ cc.size := by
  obtain ⟨h2, -⟩ := hw (cw.size - 1) (by omega)
  omega
theorem sim_pad (hw : Win a cw cc) (ha : a % 4 = 0) (h0 : 0 < cw.size) : Sim a cw cc Decoder.padding Decoder.padding := by
  intro p v q h
  rw [run_pad] at h ⊢
  have e : (4 - (a + p) % 4) % 4 = (4 - p % 4) % 4 := by omega
  rw [e]
  by_cases c : p + (4 - p % 4) % 4 ≤ cw.size
  · rw [if_pos c] at h
    cases h
    have := win_le hw c h0
    rw [if_pos (by omega), Nat.add_assoc]
  · rw [if_neg c] at h
    cases h
theorem sim_times {α : Type} {r r' : Decoder α} (h : Sim a cw cc r r') (n : Nat) : Sim a cw cc (Reader.times n r) (Reader.times n r') := by
  have go : ∀ n acc, Sim a cw cc (Reader.times.go r n acc) (Reader.times.go r' n acc) := by
    intro n
    induction n with
    | zero => intro acc; exact sim_pure acc
    | succ n ih => intro acc; exact sim_bind h (fun v => ih _)
  exact go n #[]
theorem sim_unless {c : Prop} [Decidable c] (e e' : DecodeError) : Sim a cw cc (unless c do throw e) (unless c do throw e') := by
  by_cases h : c
  · simp only [h, if_true]; exact sim_pure _
  · simp only [h, if_false]; exact sim_throw e _
theorem sim_jp {β : Type} {c : Prop} [Decidable c] {e e' : DecodeError} {A A' : Decoder β} {f f' : PUnit → Decoder β} (h : Sim a cw cc A A') : Sim a cw cc (if c then A else (throw e >>= f)) (if c then A' else (throw e' >>= f')) := by
  by_cases q : c
  · rw [if_pos q, if_pos q]; exact h
  · rw [if_neg q, if_neg q]
    intro p v r z
    cases z
theorem sim_tsw (hw : Win a cw cc) (ha : a % 4 = 0) (h0 : 0 < cw.size) (p p' : Nat) : Sim a cw cc (Decoder.tableswitch p) (Decoder.tableswitch p') := by
  unfold Decoder.tableswitch
  exact sim_bind (sim_pad hw ha h0) (fun _ => sim_bind (sim_s4 hw) (fun _ => sim_bind (sim_s4 hw) (fun _ => sim_bind (sim_s4 hw) (fun _ => sim_jp (sim_bind (sim_times (sim_s4 hw) _) (fun _ => sim_pure _))))))
theorem sim_lsw (hw : Win a cw cc) (ha : a % 4 = 0) (h0 : 0 < cw.size) (p p' : Nat) : Sim a cw cc (Decoder.lookupswitch p) (Decoder.lookupswitch p') := by
  unfold Decoder.lookupswitch
  exact sim_bind (sim_pad hw ha h0) (fun _ => sim_bind (sim_s4 hw) (fun _ => sim_bind (sim_s4 hw) (fun _ => sim_jp (sim_bind (sim_times (sim_bind (sim_s4 hw) (fun _ => sim_bind (sim_s4 hw) (fun _ => sim_pure _))) _) (fun _ => sim_jp (sim_pure _))))))
theorem sim_int (hw : Win a cw cc) (p p' : Nat) : Sim a cw cc (Decoder.invokeinterface p) (Decoder.invokeinterface p') := by
  unfold Decoder.invokeinterface
  exact sim_bind (sim_u2 hw) (fun _ => sim_bind (sim_u1 hw) (fun _ => sim_bind (sim_u1 hw) (fun _ => sim_jp (sim_pure _))))
theorem sim_dyn (hw : Win a cw cc) (p p' : Nat) : Sim a cw cc (Decoder.invokedynamic p) (Decoder.invokedynamic p') := by
  unfold Decoder.invokedynamic
  exact sim_bind (sim_u2 hw) (fun _ => sim_bind (sim_u2 hw) (fun _ => sim_jp (sim_pure _)))
theorem sim_mna (hw : Win a cw cc) (p p' : Nat) : Sim a cw cc (Decoder.multianewarray p) (Decoder.multianewarray p') := by
  unfold Decoder.multianewarray
  exact sim_bind (sim_u2 hw) (fun _ => sim_bind (sim_u1 hw) (fun _ => sim_jp (sim_pure _)))
theorem sim_na (hw : Win a cw cc) (p p' : Nat) : Sim a cw cc (Decoder.newarray p) (Decoder.newarray p') := by
  unfold Decoder.newarray
  refine sim_bind (sim_u1 hw) (fun v => ?_)
  split <;> first | exact sim_throw _ _ | exact sim_pure _
theorem sim_wide (hw : Win a cw cc) (p p' : Nat) : Sim a cw cc (Decoder.wide p) (Decoder.wide p') := by
  unfold Decoder.wide
  refine sim_bind (sim_u1 hw) (fun v => ?_)
  split <;> first | exact sim_throw _ _ | exact sim_bind (sim_u2 hw) (fun _ => sim_pure _) | exact sim_bind (sim_u2 hw) (fun _ => sim_bind (sim_s2 hw) (fun _ => sim_pure _))
theorem u1_lt (c : ByteArray) (p v q : Nat) (h : (Reader.u1 : Decoder Nat).runAt c p = .ok (v, q)) : v < 256 := by
  rw [run_u1] at h
  split at h
  · cases h
    exact UInt8.toNat_lt _
  · cases h
theorem sim_bind1 {β : Type} {f g : Nat → Decoder β} (hw : Win a cw cc) (h2 : ∀ v, v < 256 → Sim a cw cc (f v) (g v)) : Sim a cw cc (Reader.u1 >>= f) (Reader.u1 >>= g) := by
  intro p v q h
  rw [run_bind] at h ⊢
  cases e : (Reader.u1 : Decoder Nat).runAt cw p with
  | error x => rw [e] at h; cases h
  | ok y =>
    rw [e] at h
    rw [sim_u1 hw p y.1 y.2 e]
    exact h2 y.1 (u1_lt cw p y.1 y.2 e) y.2 v q h
set_option maxRecDepth 40000 in
theorem sim_instr (hw : Win a cw cc) (ha : a % 4 = 0) (h0 : 0 < cw.size) (p p' : Nat) : Sim a cw cc (Decoder.instr p) (Decoder.instr p') := by
  unfold Decoder.instr
  refine sim_bind1 hw (fun v hv => ?_)
  match v, hv with
  | 0, _ => exact sim_pure _
  | 1, _ => exact sim_pure _
  | 2, _ => exact sim_pure _
  | 3, _ => exact sim_pure _
  | 4, _ => exact sim_pure _
  | 5, _ => exact sim_pure _
  | 6, _ => exact sim_pure _
  | 7, _ => exact sim_pure _
  | 8, _ => exact sim_pure _
  | 9, _ => exact sim_pure _
  | 10, _ => exact sim_pure _
  | 11, _ => exact sim_pure _
  | 12, _ => exact sim_pure _
  | 13, _ => exact sim_pure _
  | 14, _ => exact sim_pure _
  | 15, _ => exact sim_pure _
  | 16, _ => exact sim_bind (sim_s1 hw) (fun _ => sim_pure _)
  | 17, _ => exact sim_bind (sim_s2 hw) (fun _ => sim_pure _)
  | 18, _ => exact sim_bind (sim_u1 hw) (fun _ => sim_pure _)
  | 19, _ => exact sim_bind (sim_u2 hw) (fun _ => sim_pure _)
  | 20, _ => exact sim_bind (sim_u2 hw) (fun _ => sim_pure _)
  | 21, _ => exact sim_bind (sim_u1 hw) (fun _ => sim_pure _)
  | 22, _ => exact sim_bind (sim_u1 hw) (fun _ => sim_pure _)
  | 23, _ => exact sim_bind (sim_u1 hw) (fun _ => sim_pure _)
  | 24, _ => exact sim_bind (sim_u1 hw) (fun _ => sim_pure _)
  | 25, _ => exact sim_bind (sim_u1 hw) (fun _ => sim_pure _)
  | 26, _ => exact sim_pure _
  | 27, _ => exact sim_pure _
  | 28, _ => exact sim_pure _
  | 29, _ => exact sim_pure _
  | 30, _ => exact sim_pure _
  | 31, _ => exact sim_pure _
  | 32, _ => exact sim_pure _
  | 33, _ => exact sim_pure _
  | 34, _ => exact sim_pure _
  | 35, _ => exact sim_pure _
  | 36, _ => exact sim_pure _
  | 37, _ => exact sim_pure _
  | 38, _ => exact sim_pure _
  | 39, _ => exact sim_pure _
  | 40, _ => exact sim_pure _
  | 41, _ => exact sim_pure _
  | 42, _ => exact sim_pure _
  | 43, _ => exact sim_pure _
  | 44, _ => exact sim_pure _
  | 45, _ => exact sim_pure _
  | 46, _ => exact sim_pure _
  | 47, _ => exact sim_pure _
  | 48, _ => exact sim_pure _
  | 49, _ => exact sim_pure _
  | 50, _ => exact sim_pure _
  | 51, _ => exact sim_pure _
  | 52, _ => exact sim_pure _
  | 53, _ => exact sim_pure _
  | 54, _ => exact sim_bind (sim_u1 hw) (fun _ => sim_pure _)
  | 55, _ => exact sim_bind (sim_u1 hw) (fun _ => sim_pure _)
  | 56, _ => exact sim_bind (sim_u1 hw) (fun _ => sim_pure _)
  | 57, _ => exact sim_bind (sim_u1 hw) (fun _ => sim_pure _)
  | 58, _ => exact sim_bind (sim_u1 hw) (fun _ => sim_pure _)
  | 59, _ => exact sim_pure _
  | 60, _ => exact sim_pure _
  | 61, _ => exact sim_pure _
  | 62, _ => exact sim_pure _
  | 63, _ => exact sim_pure _
  | 64, _ => exact sim_pure _
  | 65, _ => exact sim_pure _
  | 66, _ => exact sim_pure _
  | 67, _ => exact sim_pure _
  | 68, _ => exact sim_pure _
  | 69, _ => exact sim_pure _
  | 70, _ => exact sim_pure _
  | 71, _ => exact sim_pure _
  | 72, _ => exact sim_pure _
  | 73, _ => exact sim_pure _
  | 74, _ => exact sim_pure _
  | 75, _ => exact sim_pure _
  | 76, _ => exact sim_pure _
  | 77, _ => exact sim_pure _
  | 78, _ => exact sim_pure _
  | 79, _ => exact sim_pure _
  | 80, _ => exact sim_pure _
  | 81, _ => exact sim_pure _
  | 82, _ => exact sim_pure _
  | 83, _ => exact sim_pure _
  | 84, _ => exact sim_pure _
  | 85, _ => exact sim_pure _
  | 86, _ => exact sim_pure _
  | 87, _ => exact sim_pure _
  | 88, _ => exact sim_pure _
  | 89, _ => exact sim_pure _
  | 90, _ => exact sim_pure _
  | 91, _ => exact sim_pure _
  | 92, _ => exact sim_pure _
  | 93, _ => exact sim_pure _
  | 94, _ => exact sim_pure _
  | 95, _ => exact sim_pure _
  | 96, _ => exact sim_pure _
  | 97, _ => exact sim_pure _
  | 98, _ => exact sim_pure _
  | 99, _ => exact sim_pure _
  | 100, _ => exact sim_pure _
  | 101, _ => exact sim_pure _
  | 102, _ => exact sim_pure _
  | 103, _ => exact sim_pure _
  | 104, _ => exact sim_pure _
  | 105, _ => exact sim_pure _
  | 106, _ => exact sim_pure _
  | 107, _ => exact sim_pure _
  | 108, _ => exact sim_pure _
  | 109, _ => exact sim_pure _
  | 110, _ => exact sim_pure _
  | 111, _ => exact sim_pure _
  | 112, _ => exact sim_pure _
  | 113, _ => exact sim_pure _
  | 114, _ => exact sim_pure _
  | 115, _ => exact sim_pure _
  | 116, _ => exact sim_pure _
  | 117, _ => exact sim_pure _
  | 118, _ => exact sim_pure _
  | 119, _ => exact sim_pure _
  | 120, _ => exact sim_pure _
  | 121, _ => exact sim_pure _
  | 122, _ => exact sim_pure _
  | 123, _ => exact sim_pure _
  | 124, _ => exact sim_pure _
  | 125, _ => exact sim_pure _
  | 126, _ => exact sim_pure _
  | 127, _ => exact sim_pure _
  | 128, _ => exact sim_pure _
  | 129, _ => exact sim_pure _
  | 130, _ => exact sim_pure _
  | 131, _ => exact sim_pure _
  | 132, _ => exact sim_bind (sim_u1 hw) (fun _ => sim_bind (sim_s1 hw) (fun _ => sim_pure _))
  | 133, _ => exact sim_pure _
  | 134, _ => exact sim_pure _
  | 135, _ => exact sim_pure _
  | 136, _ => exact sim_pure _
  | 137, _ => exact sim_pure _
  | 138, _ => exact sim_pure _
  | 139, _ => exact sim_pure _
  | 140, _ => exact sim_pure _
  | 141, _ => exact sim_pure _
  | 142, _ => exact sim_pure _
  | 143, _ => exact sim_pure _
  | 144, _ => exact sim_pure _
  | 145, _ => exact sim_pure _
  | 146, _ => exact sim_pure _
  | 147, _ => exact sim_pure _
  | 148, _ => exact sim_pure _
  | 149, _ => exact sim_pure _
  | 150, _ => exact sim_pure _
  | 151, _ => exact sim_pure _
  | 152, _ => exact sim_pure _
  | 153, _ => exact sim_bind (sim_s2 hw) (fun _ => sim_pure _)
  | 154, _ => exact sim_bind (sim_s2 hw) (fun _ => sim_pure _)
  | 155, _ => exact sim_bind (sim_s2 hw) (fun _ => sim_pure _)
  | 156, _ => exact sim_bind (sim_s2 hw) (fun _ => sim_pure _)
  | 157, _ => exact sim_bind (sim_s2 hw) (fun _ => sim_pure _)
  | 158, _ => exact sim_bind (sim_s2 hw) (fun _ => sim_pure _)
  | 159, _ => exact sim_bind (sim_s2 hw) (fun _ => sim_pure _)
  | 160, _ => exact sim_bind (sim_s2 hw) (fun _ => sim_pure _)
  | 161, _ => exact sim_bind (sim_s2 hw) (fun _ => sim_pure _)
  | 162, _ => exact sim_bind (sim_s2 hw) (fun _ => sim_pure _)
  | 163, _ => exact sim_bind (sim_s2 hw) (fun _ => sim_pure _)
  | 164, _ => exact sim_bind (sim_s2 hw) (fun _ => sim_pure _)
  | 165, _ => exact sim_bind (sim_s2 hw) (fun _ => sim_pure _)
  | 166, _ => exact sim_bind (sim_s2 hw) (fun _ => sim_pure _)
  | 167, _ => exact sim_bind (sim_s2 hw) (fun _ => sim_pure _)
  | 168, _ => exact sim_bind (sim_s2 hw) (fun _ => sim_pure _)
  | 169, _ => exact sim_bind (sim_u1 hw) (fun _ => sim_pure _)
  | 170, _ => exact sim_tsw hw ha h0 _ _
  | 171, _ => exact sim_lsw hw ha h0 _ _
  | 172, _ => exact sim_pure _
  | 173, _ => exact sim_pure _
  | 174, _ => exact sim_pure _
  | 175, _ => exact sim_pure _
  | 176, _ => exact sim_pure _
  | 177, _ => exact sim_pure _
  | 178, _ => exact sim_bind (sim_u2 hw) (fun _ => sim_pure _)
  | 179, _ => exact sim_bind (sim_u2 hw) (fun _ => sim_pure _)
  | 180, _ => exact sim_bind (sim_u2 hw) (fun _ => sim_pure _)
  | 181, _ => exact sim_bind (sim_u2 hw) (fun _ => sim_pure _)
  | 182, _ => exact sim_bind (sim_u2 hw) (fun _ => sim_pure _)
  | 183, _ => exact sim_bind (sim_u2 hw) (fun _ => sim_pure _)
  | 184, _ => exact sim_bind (sim_u2 hw) (fun _ => sim_pure _)
  | 185, _ => exact sim_int hw _ _
  | 186, _ => exact sim_dyn hw _ _
  | 187, _ => exact sim_bind (sim_u2 hw) (fun _ => sim_pure _)
  | 188, _ => exact sim_na hw _ _
  | 189, _ => exact sim_bind (sim_u2 hw) (fun _ => sim_pure _)
  | 190, _ => exact sim_pure _
  | 191, _ => exact sim_pure _
  | 192, _ => exact sim_bind (sim_u2 hw) (fun _ => sim_pure _)
  | 193, _ => exact sim_bind (sim_u2 hw) (fun _ => sim_pure _)
  | 194, _ => exact sim_pure _
  | 195, _ => exact sim_pure _
  | 196, _ => exact sim_wide hw _ _
  | 197, _ => exact sim_mna hw _ _
  | 198, _ => exact sim_bind (sim_s2 hw) (fun _ => sim_pure _)
  | 199, _ => exact sim_bind (sim_s2 hw) (fun _ => sim_pure _)
  | 200, _ => exact sim_bind (sim_s4 hw) (fun _ => sim_pure _)
  | 201, _ => exact sim_bind (sim_s4 hw) (fun _ => sim_pure _)
  | 202, _ => exact sim_throw _ _
  | 203, _ => exact sim_throw _ _
  | 204, _ => exact sim_throw _ _
  | 205, _ => exact sim_throw _ _
  | 206, _ => exact sim_throw _ _
  | 207, _ => exact sim_throw _ _
  | 208, _ => exact sim_throw _ _
  | 209, _ => exact sim_throw _ _
  | 210, _ => exact sim_throw _ _
  | 211, _ => exact sim_throw _ _
  | 212, _ => exact sim_throw _ _
  | 213, _ => exact sim_throw _ _
  | 214, _ => exact sim_throw _ _
  | 215, _ => exact sim_throw _ _
  | 216, _ => exact sim_throw _ _
  | 217, _ => exact sim_throw _ _
  | 218, _ => exact sim_throw _ _
  | 219, _ => exact sim_throw _ _
  | 220, _ => exact sim_throw _ _
  | 221, _ => exact sim_throw _ _
  | 222, _ => exact sim_throw _ _
  | 223, _ => exact sim_throw _ _
  | 224, _ => exact sim_throw _ _
  | 225, _ => exact sim_throw _ _
  | 226, _ => exact sim_throw _ _
  | 227, _ => exact sim_throw _ _
  | 228, _ => exact sim_throw _ _
  | 229, _ => exact sim_throw _ _
  | 230, _ => exact sim_throw _ _
  | 231, _ => exact sim_throw _ _
  | 232, _ => exact sim_throw _ _
  | 233, _ => exact sim_throw _ _
  | 234, _ => exact sim_throw _ _
  | 235, _ => exact sim_throw _ _
  | 236, _ => exact sim_throw _ _
  | 237, _ => exact sim_throw _ _
  | 238, _ => exact sim_throw _ _
  | 239, _ => exact sim_throw _ _
  | 240, _ => exact sim_throw _ _
  | 241, _ => exact sim_throw _ _
  | 242, _ => exact sim_throw _ _
  | 243, _ => exact sim_throw _ _
  | 244, _ => exact sim_throw _ _
  | 245, _ => exact sim_throw _ _
  | 246, _ => exact sim_throw _ _
  | 247, _ => exact sim_throw _ _
  | 248, _ => exact sim_throw _ _
  | 249, _ => exact sim_throw _ _
  | 250, _ => exact sim_throw _ _
  | 251, _ => exact sim_throw _ _
  | 252, _ => exact sim_throw _ _
  | 253, _ => exact sim_throw _ _
  | 254, _ => exact sim_throw _ _
  | 255, _ => exact sim_throw _ _
  | n + 256, h => exact absurd h (by omega)
end Win
/-! blocks checked in a window -/
section OkW
theorem decode_win {cc cw : ByteArray} {a : Nat} (hw : Win a cw cc) (ha : a % 4 = 0) {p : Nat} {i : ClassFile.Instr} {len : Nat} (h : decode cw p = .ok (i, len)) : decode cc (a + p) = .ok (i, len) := by
  have e1 : decode cw p = (match (Decoder.instr p).runAt cw p with | .ok y => .ok (y.1, y.2 - p) | .error e => .error e) := by
    show Except.bind ((Decoder.instr p).runAt cw p) (fun y => .ok (y.1, y.2 - p)) = _
    cases (Decoder.instr p).runAt cw p <;> rfl
  have e2 : decode cc (a + p) = (match (Decoder.instr (a + p)).runAt cc (a + p) with | .ok y => .ok (y.1, y.2 - (a + p)) | .error e => .error e) := by
    show Except.bind ((Decoder.instr (a + p)).runAt cc (a + p)) (fun y => .ok (y.1, y.2 - (a + p))) = _
    cases (Decoder.instr (a + p)).runAt cc (a + p) <;> rfl
  rw [e1] at h
  rw [e2]
  cases e : (Decoder.instr p).runAt cw p with
  | error x => rw [e] at h; cases h
  | ok y =>
    rw [e] at h
    have h0 : 0 < cw.size := by
      by_cases z : 0 < cw.size
      · exact z
      · exfalso
        unfold Decoder.instr at e
        rw [run_bind, run_u1, dif_neg (by omega)] at e
        cases e
    rw [sim_instr hw ha h0 p (a + p) p y.1 y.2 e]
    have h : Except.ok (y.1, y.2 - p) = Except.ok (i, len) := h
    rw [← h]
    show Except.ok (y.1, a + y.2 - (a + p)) = _
    rw [Nat.add_sub_add_left]
def okW (own fr lo a : Nat) (cw : ByteArray) : List ClassFile.Instr → Nat → Bool
  | [], _ => true
  | i :: is, p => match i with
    | .goto_w t => decide (t = ((a + p : Nat) : Int))
    | i => (match decode cw p with
      | .ok (raw, len) => okI own fr lo (a + p) i raw len && okW own fr lo a cw is (p + len)
      | .error _ => false)
theorem okW_ok {own fr lo a : Nat} {cc cw : ByteArray} (hw : Win a cw cc) (ha : a % 4 = 0) : ∀ is p, okW own fr lo a cw is p = true → okL own fr lo cc is (a + p) = true := by
  intro is
  induction is with
  | nil => intro p h; rfl
  | cons i is ih =>
    intro p h
    unfold okW at h
    unfold okL
    split at h
    · exact h
    · rename_i x hx
      split
      · rename_i t
        exact absurd rfl (hx t)
      · cases e : decode cw p with
        | error x => rw [e] at h; cases h
        | ok y =>
          obtain ⟨raw, len⟩ := y
          rw [e] at h
          rw [decode_win hw ha e]
          have h : (okI own fr lo (a + p) i raw len && okW own fr lo a cw is (p + len)) = true := h
          show (okI own fr lo (a + p) i raw len && okL own fr lo cc is (a + p + len)) = true
          rw [Bool.and_eq_true] at h ⊢
          refine ⟨h.1, ?_⟩
          rw [Nat.add_assoc]
          exact ih (p + len) h.2
def winOf (cc : ByteArray) (a : Nat) : ByteArray := ⟨(cc.data.toList.drop a).toArray⟩
theorem win_of (cc : ByteArray) (a : Nat) : Win a (winOf cc a) cc := by
  intro i h
  have h1 : i < (cc.data.toList.drop a).length := by
    have : (winOf cc a).size = (cc.data.toList.drop a).length := by
      show (cc.data.toList.drop a).toArray.size = _
      exact List.size_toArray
    omega
  have h1' := h1
  rw [List.length_drop] at h1'
  have hs : cc.size = cc.data.toList.length := by
    show cc.data.size = _
    exact (Array.length_toList).symm
  refine ⟨by omega, ?_⟩
  have e : ∀ (l : List UInt8) (i : Nat) (h : i < (⟨l.toArray⟩ : ByteArray).size), (⟨l.toArray⟩ : ByteArray)[i] = l[i]'(by have : (⟨l.toArray⟩ : ByteArray).size = l.length := List.size_toArray; omega) := fun l i h => rfl
  have e1 := e (cc.data.toList.drop a) i h
  have e2 : cc[a + i]'(by omega) = cc.data.toList[a + i]'(by omega) := rfl
  exact e2.trans ((List.getElem_drop ..).symm.trans e1.symm)
/-- where a window begins -/
def wst (pc : Nat) : Nat := if Nat.ble pc 40 = true then 0 else pc / 4 * 4
theorem wst_4 (pc : Nat) : wst pc % 4 = 0 ∧ wst pc ≤ pc := by
  unfold wst
  split
  · exact ⟨rfl, by omega⟩
  · exact ⟨by omega, by omega⟩
def okMW (own fr lo : Nat) (cc : ByteArray) (cd : List (Nat × List ClassFile.Instr)) : Bool := cd.all (fun q => okW own fr lo (wst q.1) (winOf cc (wst q.1)) q.2 (q.1 - wst q.1))
theorem okMW_ok {own fr lo : Nat} {cc : ByteArray} {cd : List (Nat × List ClassFile.Instr)} (h : okMW own fr lo cc cd = true) : okM own fr lo cc cd = true := by
  unfold okMW at h
  unfold okM
  rw [List.all_eq_true] at h ⊢
  intro q hq
  have w := wst_4 q.1
  have := okW_ok (win_of cc (wst q.1)) w.1 q.2 (q.1 - wst q.1) (h q hq)
  rwa [show wst q.1 + (q.1 - wst q.1) = q.1 by omega] at this
end OkW
end
section
/-! THE LAW'S BYTES are its program: four blocks a row -/
theorem all_chunk {α : Type} {l : List α} {f : α → Bool} {n : Nat} (h : ∀ k, k < n → ((l.drop (4 * k)).take 4).all f = true) (hl : l.length ≤ 4 * n) : l.all f = true := by
  refine List.all_eq_true.mpr (fun x hx => ?_)
  obtain ⟨i, hi⟩ := List.getElem?_of_mem hx
  have h1 : i < l.length := (List.getElem?_eq_some_iff.mp hi).1
  have h2 := h (i / 4) (by omega)
  refine List.all_eq_true.mp h2 x (List.mem_of_getElem? (i := i % 4) ?_)
  rw [List.getElem?_take_of_lt (by omega), List.getElem?_drop, show 4 * (i / 4) + i % 4 = i by omega]
  exact hi
def okC (k : Nat) : Bool := (((cdL.getD 186 []).drop (4 * k)).take 4).all (fun q => okW 9 9 271 (wst q.1) (winOf code (wst q.1)) q.2 (q.1 - wst q.1))
theorem okC_0 : okC 0 = true := by decide +kernel
theorem okC_1 : okC 1 = true := by decide +kernel
theorem okC_2 : okC 2 = true := by decide +kernel
theorem okC_3 : okC 3 = true := by decide +kernel
theorem okC_4 : okC 4 = true := by decide +kernel
theorem okC_5 : okC 5 = true := by decide +kernel
theorem okC_6 : okC 6 = true := by decide +kernel
theorem okC_7 : okC 7 = true := by decide +kernel
theorem okC_8 : okC 8 = true := by decide +kernel
theorem okC_9 : okC 9 = true := by decide +kernel
theorem okC_10 : okC 10 = true := by decide +kernel
theorem okLaw : okM 9 9 271 code (cdL.getD 186 []) = true := by
  refine okMW_ok ?_
  unfold okMW
  refine all_chunk (n := 11) (fun k hk => ?_) (by decide +kernel)
  match k, hk with
  | 0, _ => exact okC_0
  | 1, _ => exact okC_1
  | 2, _ => exact okC_2
  | 3, _ => exact okC_3
  | 4, _ => exact okC_4
  | 5, _ => exact okC_5
  | 6, _ => exact okC_6
  | 7, _ => exact okC_7
  | 8, _ => exact okC_8
  | 9, _ => exact okC_9
  | 10, _ => exact okC_10
  | k + 11, h => exact absurd h (by omega)
end
