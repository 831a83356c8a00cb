section
/-! every method's data is what stands in its bytes: by the kernel -/
theorem ck_0 : (List.range 6).all (fun k => okZ1 (0 + k)) = true := by decide +kernel
theorem ck_6 : (List.range 6).all (fun k => okZ1 (6 + k)) = true := by decide +kernel
theorem ck_12 : (List.range 6).all (fun k => okZ1 (12 + k)) = true := by decide +kernel
theorem ck_18 : (List.range 6).all (fun k => okZ1 (18 + k)) = true := by decide +kernel
theorem ck_24 : (List.range 6).all (fun k => okZ1 (24 + k)) = true := by decide +kernel
theorem ck_30 : (List.range 6).all (fun k => okZ1 (30 + k)) = true := by decide +kernel
theorem ck_36 : (List.range 6).all (fun k => okZ1 (36 + k)) = true := by decide +kernel
theorem ck_42 : (List.range 6).all (fun k => okZ1 (42 + k)) = true := by decide +kernel
theorem ck_48 : (List.range 6).all (fun k => okZ1 (48 + k)) = true := by decide +kernel
theorem ck_54 : (List.range 6).all (fun k => okZ1 (54 + k)) = true := by decide +kernel
theorem ck_60 : (List.range 6).all (fun k => okZ1 (60 + k)) = true := by decide +kernel
theorem ck_66 : (List.range 6).all (fun k => okZ1 (66 + k)) = true := by decide +kernel
theorem ck_72 : (List.range 6).all (fun k => okZ1 (72 + k)) = true := by decide +kernel
theorem ck_78 : (List.range 6).all (fun k => okZ1 (78 + k)) = true := by decide +kernel
theorem ck_84 : (List.range 6).all (fun k => okZ1 (84 + k)) = true := by decide +kernel
theorem ck_90 : (List.range 6).all (fun k => okZ1 (90 + k)) = true := by decide +kernel
theorem ck_96 : (List.range 6).all (fun k => okZ1 (96 + k)) = true := by decide +kernel
theorem ck_102 : (List.range 6).all (fun k => okZ1 (102 + k)) = true := by decide +kernel
theorem ck_108 : (List.range 6).all (fun k => okZ1 (108 + k)) = true := by decide +kernel
theorem ck_114 : (List.range 6).all (fun k => okZ1 (114 + k)) = true := by decide +kernel
theorem ck_120 : (List.range 6).all (fun k => okZ1 (120 + k)) = true := by decide +kernel
theorem ck_126 : (List.range 6).all (fun k => okZ1 (126 + k)) = true := by decide +kernel
theorem ck_132 : (List.range 6).all (fun k => okZ1 (132 + k)) = true := by decide +kernel
theorem ck_138 : (List.range 6).all (fun k => okZ1 (138 + k)) = true := by decide +kernel
theorem ck_144 : (List.range 6).all (fun k => okZ1 (144 + k)) = true := by decide +kernel
theorem ck_150 : (List.range 6).all (fun k => okZ1 (150 + k)) = true := by decide +kernel
theorem ck_156 : (List.range 6).all (fun k => okZ1 (156 + k)) = true := by decide +kernel
theorem ck_162 : (List.range 6).all (fun k => okZ1 (162 + k)) = true := by decide +kernel
theorem ck_168 : (List.range 6).all (fun k => okZ1 (168 + k)) = true := by decide +kernel
theorem ck_174 : (List.range 6).all (fun k => okZ1 (174 + k)) = true := by decide +kernel
theorem ck_180 : (List.range 6).all (fun k => okZ1 (180 + k)) = true := by decide +kernel
theorem ck_all : ∀ z, z + 1 < nZ → okZ1 z = true := by
  intro z h
  have h2 : z < 186 := by unfold nZ at h; omega
  have key : ∀ (a n : Nat), (List.range n).all (fun k => okZ1 (a + k)) = true → a ≤ z → z < a + n → okZ1 z = true := by
    intro a n h1 h3 h4
    have := List.all_eq_true.mp h1 (z - a) (List.mem_range.mpr (by omega))
    rwa [show a + (z - a) = z by omega] at this
  by_cases c0 : z < 6
  · exact key 0 6 ck_0 (by omega) (by omega)
  by_cases c6 : z < 12
  · exact key 6 6 ck_6 (by omega) (by omega)
  by_cases c12 : z < 18
  · exact key 12 6 ck_12 (by omega) (by omega)
  by_cases c18 : z < 24
  · exact key 18 6 ck_18 (by omega) (by omega)
  by_cases c24 : z < 30
  · exact key 24 6 ck_24 (by omega) (by omega)
  by_cases c30 : z < 36
  · exact key 30 6 ck_30 (by omega) (by omega)
  by_cases c36 : z < 42
  · exact key 36 6 ck_36 (by omega) (by omega)
  by_cases c42 : z < 48
  · exact key 42 6 ck_42 (by omega) (by omega)
  by_cases c48 : z < 54
  · exact key 48 6 ck_48 (by omega) (by omega)
  by_cases c54 : z < 60
  · exact key 54 6 ck_54 (by omega) (by omega)
  by_cases c60 : z < 66
  · exact key 60 6 ck_60 (by omega) (by omega)
  by_cases c66 : z < 72
  · exact key 66 6 ck_66 (by omega) (by omega)
  by_cases c72 : z < 78
  · exact key 72 6 ck_72 (by omega) (by omega)
  by_cases c78 : z < 84
  · exact key 78 6 ck_78 (by omega) (by omega)
  by_cases c84 : z < 90
  · exact key 84 6 ck_84 (by omega) (by omega)
  by_cases c90 : z < 96
  · exact key 90 6 ck_90 (by omega) (by omega)
  by_cases c96 : z < 102
  · exact key 96 6 ck_96 (by omega) (by omega)
  by_cases c102 : z < 108
  · exact key 102 6 ck_102 (by omega) (by omega)
  by_cases c108 : z < 114
  · exact key 108 6 ck_108 (by omega) (by omega)
  by_cases c114 : z < 120
  · exact key 114 6 ck_114 (by omega) (by omega)
  by_cases c120 : z < 126
  · exact key 120 6 ck_120 (by omega) (by omega)
  by_cases c126 : z < 132
  · exact key 126 6 ck_126 (by omega) (by omega)
  by_cases c132 : z < 138
  · exact key 132 6 ck_132 (by omega) (by omega)
  by_cases c138 : z < 144
  · exact key 138 6 ck_138 (by omega) (by omega)
  by_cases c144 : z < 150
  · exact key 144 6 ck_144 (by omega) (by omega)
  by_cases c150 : z < 156
  · exact key 150 6 ck_150 (by omega) (by omega)
  by_cases c156 : z < 162
  · exact key 156 6 ck_156 (by omega) (by omega)
  by_cases c162 : z < 168
  · exact key 162 6 ck_162 (by omega) (by omega)
  by_cases c168 : z < 174
  · exact key 168 6 ck_168 (by omega) (by omega)
  by_cases c174 : z < 180
  · exact key 174 6 ck_174 (by omega) (by omega)
  exact key 180 6 ck_180 (by omega) (by omega)
end
section
/-! CONSTRUCTORS: rows by which objects are made -/
def nestT : List (Nat × Nat × MethodName) := [(6, 21, yX2_init), (6, 28, yX4_init), (4, 11, yX3_init), (6, 55, yX0_init), (0, 18, yX2_init), (6, 56, yX1_init)]
def NsI (U : State) : Prop := (∀ q ∈ nestT, va_Nw (.methodLinkNest (clsN q.1) q.2.1 q.2.2 "ProofFine") U) ∧ va_AO RX0 U ∧ va_AO RX1 U
theorem NsI.warm {s U : State} (hW : s.WarmedH U.vm) (h : NsI s) : NsI U := ⟨fun q hq => (h.1 q hq).warmM hW, h.2.1.moved hW.alike, h.2.2.moved hW.alike⟩
theorem NsI.same {u : State} (g : JFrame) (mk : MethodId) (a : Array Value) (h : NsI u) : NsI (u.calling g mk a) := ⟨fun q hq => va_Nw.same (u := u) (U := u.calling g mk a) rfl rfl (h.1 q hq), va_AO.moved (u := u) (U := u.calling g mk a) (Vm.Alike.refl u.vm) h.2.1, va_AO.moved (u := u) (U := u.calling g mk a) (Vm.Alike.refl u.vm) h.2.2⟩
/-- StO without a shape -/
def StF (aS : Nat → Nat) (A : Nat → Prop) (U : State) : Prop :=
  (∀ (o : Nat) (T : List Int32), tb0 o = some T → va_T .int (aS o) T.length (fun j => .int (T.getD j 0)) A U U.heap) ∧
  (∀ q ∈ statTab, va_Z "ProofFine" q.2.2.2.1 "[I" (.ref (aS q.2.2.1)) A U U.heap ∧ va_Nw (.fieldLinkNest (clsN q.1) q.2.1 "ProofFine" q.2.2.2.1 "[I" "ProofFine") U) ∧
  (∀ q ∈ strTab, ∃ tx, vk_R (clsN q.1) q.2.1 tx (aS q.2.2) U) ∧
  (∃ adV : Nat → Nat, vk_S 8 lenS bytS (fun i => aS (2000 + i)) adV A U U.heap) ∧ va_Z "java/lang/String" "COMPACT_STRINGS" "Z" (.int 1) A U U.heap ∧
  va_Zq "jdk/internal/util/Preconditions" "SIOOBE_FORMATTER" "Ljava/util/function/BiFunction;" A U U.heap
theorem StF.same {aS : Nat → Nat} {A : Nat → Prop} {U : State} (g : JFrame) (mk : MethodId) (a : Array Value) (h : StF aS A U) : StF aS A (U.calling g mk a) := by
  obtain ⟨q2, q3, q4, ⟨adV, q5⟩, q6, q7⟩ := h
  refine ⟨fun o T ht => va_T.moved (u := U) (U := U.calling g mk a) (Vm.Alike.refl U.vm) (q2 o T ht), fun q hq => ⟨va_Z.moved (u := U) (U := U.calling g mk a) (Vm.Alike.refl U.vm) (q3 q hq).1, va_Nw.same (u := U) (U := U.calling g mk a) rfl rfl (q3 q hq).2⟩, fun q hq => ?_, ⟨adV, vk_S.moved (u := U) (U := U.calling g mk a) (Vm.Alike.refl U.vm) q5⟩, va_Z.moved (u := U) (U := U.calling g mk a) (Vm.Alike.refl U.vm) q6, va_Zq.moved (u := U) (U := U.calling g mk a) (Vm.Alike.refl U.vm) q7⟩
  obtain ⟨tx, h4⟩ := q4 q hq
  exact ⟨tx, vk_R.same (u := U) (U := U.calling g mk a) rfl h4⟩
theorem StF.go {aS : Nat → Nat} {A B : Nat → Prop} {s : State} {H : Heap} {locs : List Loc} (h : StF aS A s) (hS : va_S A s.heap H locs) (hn : ∀ q, B q → A q) {U : State} (hU : U.heap = H) (hW : s.WarmedH U.vm) : StF aS B U := by
  obtain ⟨h1, h2, h3, ⟨adV, h5⟩, h6, h7⟩ := h
  refine ⟨fun o T ht => ?_, fun q hq => ⟨?_, ?_⟩, fun q hq => ?_, ⟨adV, ?_⟩, ?_, ?_⟩
  · rw [hU]
    exact (((h1 o T ht).kept (H1 := H) hS.2.1).narrow hn).moved hW.alike
  · rw [hU]
    exact (((h2 q hq).1.kept (H1 := H) hS.2.1).narrow hn).moved hW.alike
  · exact (h2 q hq).2.warmF hW
  · obtain ⟨tx, h4⟩ := h3 q hq
    exact ⟨tx, h4.warm hW⟩
  · rw [hU]
    exact ((h5.kept (H1 := H) hS.2.1).narrow hn).moved hW.alike
  · rw [hU]
    exact ((h6.kept (H1 := H) hS.2.1).narrow hn).moved hW.alike
  · rw [hU]
    exact ((h7.kept (H1 := H) hS.2.1).narrow hn).moved hW.alike
theorem tb0_ge {o : Nat} {T : List Int32} (h : tb0 o = some T) : 1000 ≤ o := by
  unfold tb0 at h
  split at h
  · omega
  · split at h
    · omega
    · cases h
theorem stat_ge : ∀ q ∈ statTab, 1000 ≤ q.2.2.1 := by decide
theorem str_ge : ∀ q ∈ strTab, 1000 ≤ q.2.2 := by decide
theorem StF.O {aS ad : Nat → Nat} {A : Nat → Prop} {U : State} {sh : List ShE} (had : ∀ o, 1000 ≤ o → ad o = aS o) (h : StF aS A U) : StO sh tb0 ad A U := by
  obtain ⟨h1, h2, h3, ⟨adV, h5⟩, h6, h7⟩ := h
  refine ⟨fun o T _ ht => by rw [had o (tb0_ge ht)]; exact h1 o T ht, fun q hq => ⟨by rw [had _ (stat_ge q hq)]; exact (h2 q hq).1, (h2 q hq).2⟩, fun q hq => by rw [had _ (str_ge q hq)]; exact h3 q hq, ⟨adV, ?_⟩, h6, h7⟩
  have e : (fun i => ad (2000 + i)) = fun i => aS (2000 + i) := funext fun i => had _ (by omega)
  rw [e]
  exact h5
/-- a constructor's start: one new object -/
def PcI (aS : Nat → Nat) (dA : Nat → ClassId) (D : va_G) (ci : Nat) (fs0 : List Value) (h0 sz : Nat) : Array Value → State → Prop := va_Pc [.ref h0] (fun U => U.heap.size = sz ∧ va_P D clsT [(h0, .inr (ci, fs0))] U.heap ∧ va_K D clsT (tysL dA) U ∧ va_D (fun _ => True) [(h0, .inr (ci, fs0))] ∧ NsI U ∧ StF aS (va_A [(h0, .inr (ci, fs0))] sz) U)
/-- its end: the object and what was made with it, at new addresses u -/
def QcI (D : va_G) (ci : Nat) (fs0 : List Value) (n : Nat) (G : List Nat → va_W) (h0 sz : Nat) : Array Value → State → Outcome → State → Prop := fun _ st oc t => (∃ u : List Nat, oc = .returned none ∧ u.length = n ∧ va_P D clsT (G (h0 :: u)) t.heap ∧ va_D (va_A [(h0, .inr (ci, fs0))] sz) (G (h0 :: u))) ∧ va_F (va_A [(h0, .inr (ci, fs0))] sz) st t
def MetI (l : Launch) (aS : Nat → Nat) (dA : Nat → ClassId) (D : va_G) (y : MethodName) (cc : ByteArray) (mx : Nat) (rm : Room) (ci : Nat) (fs0 : List Value) (n : Nat) (G : List Nat → va_W) : Prop := ∀ h0 sz : Nat, Met l y (.code y cc mx none :: tblG) rm (PcI aS dA D ci fs0 h0 sz) (QcI D ci fs0 n G h0 sz) rm.cells rm.slots (va_A [(h0, .inr (ci, fs0))] sz)
theorem PcI_blind {aS : Nat → Nat} {dA : Nat → ClassId} {D : va_G} {ci : Nat} {fs0 : List Value} {h0 sz : Nat} : FrameBlind (PcI aS dA D ci fs0 h0 sz) := by
  intro a U g mk q
  obtain ⟨q0, q1, qP, qK, qD, q2, q3⟩ := q
  exact ⟨q0, q1, qP, va_K.moved (u := U) (U := U.calling g mk a) (Vm.Alike.refl U.vm) qK, qD, q2.same g mk a, q3.same g mk a⟩
theorem nd_range : ∀ n : Nat, va_nd (List.range n) = true := by
  intro n
  have key : ∀ l : List Nat, l.Nodup → va_nd l = true := by
    intro l
    induction l with
    | nil => intro _; rfl
    | cons a l ih =>
      intro h
      rw [List.nodup_cons] at h
      simp only [va_nd, Bool.and_eq_true, decide_eq_true_eq]
      exact ⟨h.1, ih h.2⟩
  exact key _ List.nodup_range
section Mk
variable {l : Launch} {aS : Nat → Nat} {dA : Nat → ClassId} {D : va_G}
variable {p : Program} {e : Env} {R : Room} {s : State} {m : MethodId} {args : Array Value} {below : List Frame} {meth : Method} {c : Code} {cells slots : Nat} {Q : State → Prop}
variable {A : Nat → Prop} {own nL : Nat} {cc : ByteArray} {H : Heap} {locs : List Loc} {ws : va_W} {ls : Array Slot} {rest : List Value} {pc : Nat}
/-- where a constructor runs -/
def Ci (aS : Nat → Nat) (dA : Nat → ClassId) (D : va_G) (A : Nat → Prop) (own nL : Nat) (cc : ByteArray) (p : Program) (s : State) (m : MethodId) (args : Array Value) (c : Code) : Prop :=
  p.tables.exec = Jvm.exec ∧ c.code = cc ∧ c.maxLocals = nL ∧ s.vm.findClass (clsN own) = some m.cls ∧ (∀ w ∈ tblG, w.before args s = true) ∧ va_K D clsT (tysL dA) s ∧ (∀ q : Nat, s.heap.size ≤ q → A q) ∧ NsI s ∧ StF aS A s
def Hw (D : va_G) (A : Nat → Prop) (s : State) (ws : va_W) (H : Heap) (locs : List Loc) : Prop := va_P D clsT ws H ∧ va_D A ws ∧ va_S A s.heap H locs
theorem arrI_in : Cond.arrayClass .int ∈ tblG := wAt_mem (pl := 172) (by decide +kernel)
theorem arrZ_in : Cond.arrayClass .boolean ∈ tblG := wAt_mem (pl := 890) (by decide +kernel)
theorem mk_arr (X : Ci aS dA D A own nL cc p s m args c) (hH : Hw D A s ws H locs) {n : Int32} {N : Nat} (hn : ¬ n < 0) (hN : n.toNatClampNeg = N) (hb : N ≤ 1000) (hcells : cells + 1 ≤ R.cells) (hslots : slots + N ≤ R.slots) (hd : decode cc pc = .ok (.newarray .int, 2))
    (kk : ∀ (q : Nat) (H1 : Heap), Hw D A s (ws ++ [(q, .inl (dA 0, N, .inl (fun _ => 0)))]) H1 locs → W p l e R s m args below meth c H1 locs (cells + 1) (slots + N) Q (F0 m (pc + 2) ls (.ref q :: rest))) : W p l e R s m args below meth c H locs cells slots Q (F0 m pc ls (.int n :: rest)) := by
  obtain ⟨hx, hbb, hml, hown, hts, hK, hA, hN2, hSF⟩ := X
  refine va_newa (D := D) (cl := clsT) (ty := .int) (atype := .int) (a0 := (N, .inl (fun _ => 0))) hx hbb (hts _ arrI_in) rfl hK hH.1 hH.2.1 hH.2.2 hA (fun _ => rfl) hn hN (by show N * 4 ≤ _; omega) hcells hslots hd (fun q cA H1 k1 k2 k3 k4 => ?_)
  have e1 : cA = dA 0 := by
    have h1 := (k1.2 4 (cA, .int) rfl).2
    have h2 := (hK.2 0 (dA 0, .int) rfl).2
    exact Option.some.inj (h1.symm.trans h2)
  subst e1
  exact kk q H1 ⟨k2, k3, k4⟩
theorem mk_arz (X : Ci aS dA D A own nL cc p s m args c) (hH : Hw D A s ws H locs) {n : Int32} {N : Nat} (hn : ¬ n < 0) (hN : n.toNatClampNeg = N) (hb : N ≤ 1000) (hcells : cells + 1 ≤ R.cells) (hslots : slots + N ≤ R.slots) (hd : decode cc pc = .ok (.newarray .boolean, 2))
    (kk : ∀ (q : Nat) (H1 : Heap), Hw D A s (ws ++ [(q, .inl (dA 1, N, .inl (fun _ => 0)))]) H1 locs → W p l e R s m args below meth c H1 locs (cells + 1) (slots + N) Q (F0 m (pc + 2) ls (.ref q :: rest))) : W p l e R s m args below meth c H locs cells slots Q (F0 m pc ls (.int n :: rest)) := by
  obtain ⟨hx, hbb, hml, hown, hts, hK, hA, hN2, hSF⟩ := X
  refine va_newa (D := D) (cl := clsT) (ty := .boolean) (atype := .boolean) (a0 := (N, .inl (fun _ => 0))) hx hbb (hts _ arrZ_in) rfl hK hH.1 hH.2.1 hH.2.2 hA (fun _ => rfl) hn hN (by show N * 1 ≤ _; omega) hcells hslots hd (fun q cA H1 k1 k2 k3 k4 => ?_)
  have e1 : cA = dA 1 := by
    have h1 := (k1.2 4 (cA, .boolean) rfl).2
    have h2 := (hK.2 1 (dA 1, .boolean) rfl).2
    exact Option.some.inj (h1.symm.trans h2)
  subst e1
  exact kk q H1 ⟨k2, k3, k4⟩
theorem mk_arq (X : Ci aS dA D A own nL cc p s m args c) (hH : Hw D A s ws H locs) {k : Nat} {C : String} (hk : (k = 2 ∧ C = RX0) ∨ (k = 3 ∧ C = RX1)) {idx : Nat} (hcl : Cond.classLink (clsN own) idx C ∈ tblG) {n : Int32} {N : Nat} (hn : ¬ n < 0) (hN : n.toNatClampNeg = N) (hb : N ≤ 1000) (hcells : cells + 1 ≤ R.cells) (hslots : slots + N ≤ R.slots) (hd : decode cc pc = .ok (.anewarray idx, 3))
    (kk : ∀ (q : Nat) (H1 : Heap), Hw D A s (ws ++ [(q, .inl (dA k, N, .inr (.inr (.inr (.inr (fun _ => none))))))]) H1 locs → W p l e R s m args below meth c H1 locs (cells + 1) (slots + N) Q (F0 m (pc + 3) ls (.ref q :: rest))) : W p l e R s m args below meth c H locs cells slots Q (F0 m pc ls (.int n :: rest)) := by
  obtain ⟨hx, hbb, hml, hown, hts, hK, hA, hN2, hSF⟩ := X
  have hAO : va_AO C s := by
    rcases hk with ⟨-, rfl⟩ | ⟨-, rfl⟩
    · exact hN2.2.1
    · exact hN2.2.2
  refine va_newq (D := D) (cl := clsT) hx hbb hown (hts _ hcl) hAO hK hH.1 hH.2.1 hH.2.2 hA hn hN (by omega) hcells hslots hd (fun q cA H1 k1 k2 k3 k4 => ?_)
  have h1 := (k1.2 4 (cA, .object C) rfl).2
  obtain ⟨kA, comp, -, -, -, h1⟩ := h1
  have e1 : cA = dA k := by
    rcases hk with ⟨rfl, rfl⟩ | ⟨rfl, rfl⟩
    · obtain ⟨kB, comp2, -, -, -, h2⟩ := (hK.2 2 (dA 2, .object RX0) rfl).2
      exact Option.some.inj (h1.symm.trans h2)
    · obtain ⟨kB, comp2, -, -, -, h2⟩ := (hK.2 3 (dA 3, .object RX1) rfl).2
      exact Option.some.inj (h1.symm.trans h2)
  subst e1
  exact kk q H1 ⟨k2, k3, k4⟩
/-- a reference into a final field of the object at place q0 -/
theorem mk_putF (X : Ci aS dA D A own nL cc p s m args c) (hin : meth.name = "<init>") (hH : Hw D A s ws H locs) {h0 q0 ci k idx v : Nat} {fs : List Value} (he : ws[q0]? = some (h0, .inr (ci, fs))) (hci : ci < 8) (hk : k < (clE ci).2.2) (hfl : k < fs.length) (hfin : ((clE ci).2.1 k).2.2.2 = true) (hdecl : ((clE ci).2.1 k).1 = clsN own) {ty : FieldType} (hty : parseFieldDescriptor ((clE ci).2.1 k).2.2.1 = some ty) (hnr : narrow ty (.ref v) = .ref v) (hft : fits ty (.ref v) = true) (hlink : Cond.fieldLink (clsN own) idx ((clE ci).2.1 k).1 ((clE ci).2.1 k).2.1 ((clE ci).2.1 k).2.2.1 ∈ tblG) (hd : decode cc pc = .ok (.putfield idx, 3))
    (kk : ∀ (H1 : Heap) (locs1 : List Loc), Hw D A s (ws.set q0 (h0, .inr (ci, fs.set k (.ref v)))) H1 locs1 → W p l e R s m args below meth c H1 locs1 cells slots Q (F0 m (pc + 3) ls rest)) : W p l e R s m args below meth c H locs cells slots Q (F0 m pc ls (.ref v :: .ref h0 :: rest)) := by
  obtain ⟨hx, hbb, hml, hown, hts, hK, hA, hN2, hSF⟩ := X
  exact va_putF (D := D) (cl := clsT) (C := (clE ci).1) (T := (clE ci).2.1) (N := (clE ci).2.2) hx hbb hts (lay_ok hci) (tyT ci) (ty_ok hci) (nm_ok hci) hown hK hH.1 hH.2.1 hH.2.2 q0 he (clE_get hci) k hk (hts _ hlink) (fun _ h9 => h9) hfin hin hdecl hty hnr hft hfl hd (fun H1 locs1 k1 k2 k3 => kk H1 locs1 ⟨k1, k2, k3⟩)
/-- behind a constructor -/
theorem init_go {ci n mc ms q : Nat} {fs0 : List Value} {G : List Nat → va_W} {a : Array Value} {st0 : List Value} (hA : ∀ q : Nat, s.heap.size ≤ q → A q) (hH : Hw D A s (ws ++ [(q, .inr (ci, fs0))]) H locs)
    (hr : va_Run p l e R s m args below meth c H locs cells slots mc ms (F0 m pc ls st0) rest (QcI D ci fs0 n G q H.size a) (va_A [(q, .inr (ci, fs0))] H.size))
    (kk : ∀ (u : List Nat) (H1 : Heap) (locs1 : List Loc), u.length = n → Hw D A s (ws ++ G (q :: u)) H1 locs1 → W p l e R s m args below meth c H1 locs1 (cells + mc) (slots + ms) Q (F0 m (pc + 3) ls rest)) : W p l e R s m args below meth c H locs cells slots Q (F0 m pc ls st0) := by
  obtain ⟨hP, hD, hS⟩ := hH
  have hC : [ws.length].map (fun i => (ws ++ [(q, .inr (ci, fs0))])[i]?) = [((q, .inr (ci, fs0)) : Nat × va_E)].map some := by simp
  have hF : ∀ x, va_A [(q, .inr (ci, fs0))] H.size x → A x := va_free hD hS hA [ws.length] hC
  intro T hT X
  obtain ⟨v, st₀, t, T', L, h0, X', hL, e1, e2, ⟨⟨u, hv, hu, hp, hd⟩, hz, hk⟩, st⟩ := hr T hT X
  simp only [Outcome.returned.injEq] at hv
  subst hv
  rw [h0] at hz hk
  have hR : (List.range ws.length).map (fun i => (ws ++ [(q, .inr (ci, fs0))])[i]?) = ws.map some := by
    apply List.ext_getElem?
    intro i
    simp only [List.getElem?_map]
    by_cases hi : i < ws.length
    · rw [List.getElem?_range hi]
      simp [List.getElem?_append_left hi, List.getElem?_eq_getElem hi]
    · rw [List.getElem?_eq_none (by simp; omega), List.getElem?_eq_none (by omega)]
      rfl
  have hj := va_join (wr := ws) (w1 := G (q :: u)) (H1 := T'.heap) hP hD [ws.length] (List.range ws.length) hC hR (nd_range _) (fun i hi => by simp only [List.mem_range] at hi; simp; omega) (fun x h1 h2 => by rw [e1]; exact hk x h1 h2) hF (by rw [e1]; exact hp) hd
  obtain ⟨t2, a1, b1⟩ := kk u T'.heap (locs ++ L) hu ⟨hj.1, hj.2, Nat.le_trans hS.1 (by rw [e1]; exact hz), fun x h1 h2 => by
      rw [e1, hk x (Nat.lt_of_lt_of_le h1 hS.1) (fun z => h2 (hF x z))]
      exact hS.2.1 x h1 h2, fun x hx => by
      rcases List.mem_append.mp hx with h | h
      · exact hS.2.2 x h
      · exact hF _ (hL x h)⟩ T' rfl X'
  exact ⟨t2, st t2 a1, b1⟩
theorem PcI_of (X : Ci aS dA D A own nL cc p s m args c) {q ci : Nat} {fs0 : List Value} (hH : Hw D A s (ws ++ [(q, .inr (ci, fs0))]) H locs) (U : State) (hU : U.heap = H) (hW : s.WarmedH U.vm) : PcI aS dA D ci fs0 q H.size #[.ref q] U := by
  obtain ⟨hx, hbb, hml, hown, hts, hK, hA, hN2, hSF⟩ := X
  have hC : [ws.length].map (fun i => (ws ++ [(q, .inr (ci, fs0))])[i]?) = [((q, .inr (ci, fs0)) : Nat × va_E)].map some := by simp
  refine ⟨rfl, by rw [hU], ?_, va_K.moved hW.alike hK, ?_, hN2.warm hW, hSF.go hH.2.2 (va_free hH.2.1 hH.2.2 hA [ws.length] hC) hU hW⟩
  · rw [hU]
    exact hH.1.sub [ws.length] (by simp)
  · exact (hH.2.1.sub (ws' := [(q, .inr (ci, fs0))]) [ws.length] (by rfl) hC).weaken (fun _ _ _ _ => trivial)
/-- new, dup, invokespecial of a constructor -/
theorem mk_new (X : Ci aS dA D A own nL cc p s m args c) (hls : ls.size = nL) (hH : Hw D A s ws H locs) {ci n idx idx2 mx : Nat} {fs0 : List Value} {G : List Nat → va_W} {y : MethodName} {bytes : ByteArray} {rm : Room} (hM : MetI l aS dA D y bytes mx rm ci fs0 n G) (hci : ci < 8) (hy : y.cls = (clE ci).1 ∧ y.name = "<init>" ∧ y.desc = "()V") (hcl : Cond.classLink (clsN own) idx (clE ci).1 ∈ tblG) (hinst : Cond.instantiable (clE ci).1 (clE ci).2.2 ∈ tblG) (hini : Cond.initialized (clE ci).1 ∈ tblG) (hcode : Cond.code y bytes mx none ∈ tblG) (hiM : Cond.instanceMethod y ∈ tblG) (hlink : Cond.methodLink (clsN own) idx2 y ∈ tblG ∨ va_Nw (.methodLinkNest (clsN own) idx2 y "ProofFine") s)
    (hfs : ∀ j, j < (clE ci).2.2 → defaultValue (tyT ci j) = vp_V fs0 j) (hne : y.cls ≠ "java/lang/invoke/MethodHandle" ∧ y.cls ≠ "java/lang/invoke/VarHandle") (hcells : cells + 1 + rm.cells ≤ R.cells) (hslots : slots + (clE ci).2.2 + rm.slots ≤ R.slots) (hfr : rm.frames + 1 ≤ R.frames) (hlo : 8 + (mx + 11) + rm.locals ≤ R.locals) (hcat : (rest.map fun v => v.category).sum ≤ 7)
    (d1 : decode cc pc = .ok (.new idx, 3)) (d2 : decode cc (pc + 3) = .ok (.dup, 1)) (d3 : decode cc (pc + 4) = .ok (.invokespecial idx2, 3))
    (kk : ∀ (q : Nat) (u : List Nat) (H1 : Heap) (locs1 : List Loc), u.length = n → Hw D A s (ws ++ G (q :: u)) H1 locs1 → W p l e R s m args below meth c H1 locs1 (cells + 1 + rm.cells) (slots + (clE ci).2.2 + rm.slots) Q (F0 m (pc + 7) ls (.ref q :: rest))) : W p l e R s m args below meth c H locs cells slots Q (F0 m pc ls rest) := by
  obtain ⟨hx, hbb, hml, hown, hts, hK, hA, hN2, hSF⟩ := id X
  refine va_new (D := D) (cl := clsT) (C := (clE ci).1) (T := (clE ci).2.1) (N := (clE ci).2.2) hx hbb hts (lay_ok hci) (tyT ci) (ty_ok hci) hown (hts _ hcl) (hts _ hinst) (hts _ hini) hK hH.1 hH.2.1 hH.2.2 hA (clE_get hci) hfs (by omega) (by omega) d1 (fun q H1 k1 k2 k3 => ?_)
  refine lv_dup hx hbb d2 rfl ?_
  have hH1 : Hw D A s (ws ++ [(q, .inr (ci, fs0))]) H1 locs := ⟨k1, k2, k3⟩
  have hdp : (parseMethodDescriptor y.desc).map (fun d => d.parameters.length) = some 0 := by rw [hy.2.2]; decide +kernel
  have hG : GoodIn tblG (.code y bytes mx none :: tblG) := goodG (fun w hw => by
    rcases List.mem_cons.mp hw with rfl | h
    · exact hcode
    · exact h)
  have hini2 : (Cond.initialized y.cls).before args s = true := by rw [hy.1]; exact hts _ hini
  have hroom : 2 * (F0 m (pc + 4) ls (.ref q :: .ref q :: rest)).monitorRoom + ((Value.ref q :: rest).map fun v => v.category).sum ≤ 8 := lv_room (by rw [List.map_cons, List.sum_cons]; show 1 + _ ≤ 8; omega)
  refine init_go hA hH1 (rest := .ref q :: rest) (a := #[.ref q]) (mc := rm.cells) (ms := rm.slots) (n := n) (G := G) ?_ (fun u H2 locs2 hu hH2 => kk q u H2 locs2 hu hH2)
  rcases hlink with hl | hl
  · exact va_runI (As := []) (rest := .ref q :: rest) (b := q) (n := 0) ⟨hx, hbb, hml, hown, hts⟩ (hM q H1.size) (cwI (bytes := bytes) (maxL := mx) (ws' := tblG) 0 hts hG rfl rfl rfl hini2 (hts _ hl) (hts _ hiM) hy.2.1 ⟨hne.1, hne.2, hdp⟩ ⟨hfr, hlo⟩) ⟨PcI_blind, fun U hU hW => PcI_of X hH1 U hU hW⟩ rfl rfl hls rfl hroom d3 ⟨hcells, hslots⟩
  · exact va_runIN (As := []) (rest := .ref q :: rest) (b := q) (n := 0) ⟨hx, hbb, hml, hown, hts⟩ (hM q H1.size) ⟨va_cnB (bytes := bytes) (maxL := mx) (ret := none) (ws' := tblG) 0 hts hG rfl rfl rfl hl hini2 ⟨hne.1, hne.2, hdp⟩ ⟨hfr, hlo⟩, hy.2.1, hts _ hiM⟩ ⟨PcI_blind, fun U hU hW => PcI_of X hH1 U hU hW⟩ rfl rfl hls rfl hroom d3 ⟨hcells, hslots⟩
end Mk
end
