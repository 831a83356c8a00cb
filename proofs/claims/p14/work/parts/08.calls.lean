/-! calls -/
section SimC
variable {l : Launch} {sh : List ShE} {ad : Nat → Nat} {dA : Nat → ClassId} {D : va_G}
variable {p : Program} {e : Env} {R : Room} {s : State} {m : MethodId} {args : Array Value} {below : List Frame} {meth : Method} {c : Code} {cells slots : Nat} {Q : State → Prop}
variable {tb : Nat → Option (List Int32)} {A : Nat → Prop} {own nL : Nat} {cc : ByteArray}
theorem AA_A {H : Heap} (hA : ∀ q : Nat, AA sh ad s.heap.size q → A q) (hz : s.heap.size ≤ H.size) {q : Nat} (h : AA sh ad H.size q) : A q := by
  rcases h with h | h
  · exact hA q (Or.inl h)
  · exact hA q (Or.inr (Nat.le_trans hz h))
theorem call_go {H : Heap} {locs : List Loc} {pc : Nat} {ls : Array Slot} {st0 rest : List Value} {a : Array Value} {r : Rs} {m0 : Mm} (hA : ∀ q : Nat, AA sh ad s.heap.size q → A q) (hH : Hp sh ad dA D A s m0 H locs)
    (hr : va_Run p l e R s m args below meth c H locs cells slots 0 0 (F0 m pc ls st0) rest (QcZ sh ad dA D r H.size a) (AA sh ad H.size))
    (kk : ∀ (H1 : Heap) (locs1 : List Loc), Hp sh ad dA D A s r.2 H1 locs1 → W p l e R s m args below meth c H1 locs1 cells slots Q (F0 m (pc + 3) ls ((r.1.map (cv ad)).toList ++ rest))) : W p l e R s m args below meth c H locs cells slots Q (F0 m pc ls st0) := by
  obtain ⟨hP, hD, hS⟩ := hH
  intro T hT X
  obtain ⟨v, st₀, t, T', L, h0, X', hL, e1, e2, ⟨⟨hv, hp⟩, hz, hk⟩, st⟩ := hr T hT X
  simp only [Outcome.returned.injEq] at hv
  subst hv
  rw [h0] at hz hk
  obtain ⟨t2, a1, b1⟩ := kk T'.heap (locs ++ L) ⟨by rw [e1]; exact hp, D_any hD, Nat.le_trans hS.1 (by rw [e1]; exact hz), fun q h1 h2 => by
      rw [e1, hk q (Nat.lt_of_lt_of_le h1 hS.1) (fun z => h2 (AA_A hA hS.1 z))]
      exact hS.2.1 q h1 h2, fun q hq => by
      rcases List.mem_append.mp hq with h | h
      · exact hS.2.2 q h
      · exact AA_A hA hS.1 (hL q h)⟩ T' rfl X'
  exact ⟨t2, st t2 a1, b1⟩
theorem StO.call {H : Heap} {locs : List Loc} (hT : ∀ o T, tb0 o = some T → tb o = some T) (hA : ∀ q : Nat, AA sh ad s.heap.size q → A q) (h : StO sh tb ad A s) (hS : va_S A s.heap H locs) {U : State} (hU : U.heap = H) (hW : s.WarmedH U.vm) : StO sh tb0 ad (AA sh ad H.size) U := by
  obtain ⟨h1, h2, h3, ⟨adV, h5⟩, h6, h7⟩ := h
  have hn : ∀ q, AA sh ad H.size q → A q := fun q z => AA_A hA hS.1 z
  refine ⟨fun o T ho ht => ?_, fun q hq => ⟨?_, ?_⟩, fun q hq => ?_, ⟨adV, ?_⟩, ?_, ?_⟩
  · rw [hU]
    exact (((h1 o T ho (hT o T ht)).kept (H1 := H) hS.2.1).narrow hn).moved hW.alike
  · rw [hU]
    exact (((h2 q hq).1.kept (H1 := H) hS.2.1).narrow hn).moved hW.alike
  · exact (h2 q hq).2.warmF hW
  · obtain ⟨tx, h4⟩ := h3 q hq
    exact ⟨tx, h4.warm hW⟩
  · rw [hU]
    exact ((h5.kept (H1 := H) hS.2.1).narrow hn).moved hW.alike
  · rw [hU]
    exact ((h6.kept (H1 := H) hS.2.1).narrow hn).moved hW.alike
  · rw [hU]
    exact ((h7.kept (H1 := H) hS.2.1).narrow hn).moved hW.alike
theorem PcZ_blind {As : List Value} {m0 : Mm} {sz : Nat} : FrameBlind (PcZ sh ad dA D As m0 sz) := by
  intro a U g mk q
  obtain ⟨q0, q1, qP, qK, qD, q2, q3, q4, ⟨adV, q5⟩, q6, q7⟩ := q
  refine ⟨q0, q1, qP, va_K.moved (u := U) (U := U.calling g mk a) (Vm.Alike.refl U.vm) qK, qD, fun o T ho ht => va_T.moved (u := U) (U := U.calling g mk a) (Vm.Alike.refl U.vm) (q2 o T ho ht), fun q hq => ⟨va_Z.moved (u := U) (U := U.calling g mk a) (Vm.Alike.refl U.vm) (q3 q hq).1, va_Nw.same (u := U) (U := U.calling g mk a) rfl rfl (q3 q hq).2⟩, fun q hq => ?_, ⟨adV, vk_S.moved (u := U) (U := U.calling g mk a) (Vm.Alike.refl U.vm) q5⟩, va_Z.moved (u := U) (U := U.calling g mk a) (Vm.Alike.refl U.vm) q6, va_Zq.moved (u := U) (U := U.calling g mk a) (Vm.Alike.refl U.vm) q7⟩
  obtain ⟨tx, h4⟩ := q4 q hq
  exact ⟨tx, vk_R.same (u := U) (U := U.calling g mk a) rfl h4⟩
theorem Pc_call {H : Heap} {locs : List Loc} {m0 : Mm} {As : List Value} (hT : ∀ o T, tb0 o = some T → tb o = some T) (X : Cx sh tb ad dA D A own nL cc p s m args c) (hH : Hp sh ad dA D A s m0 H locs) (U : State) (hU : U.heap = H) (hW : s.WarmedH U.vm) : PcZ sh ad dA D As m0 H.size (As.map (cv ad)).toArray U := by
  obtain ⟨-, -, -, -, -, hK, -, hSt, hA⟩ := X
  obtain ⟨hP, hD, hS⟩ := hH
  exact ⟨rfl, by rw [hU], by rw [hU]; exact hP, va_K.moved hW.alike hK, hD.weaken (fun _ _ _ _ => trivial), hSt.call hT hA hS hU hW⟩
theorem good_tail {z : Nat} (hz : z + 1 < nZ) {w : Cond} (h : w ∈ mW z) : w ∈ tblG := by
  rcases List.mem_cons.mp h with rfl | h
  · exact code_in hz
  · exact h
theorem z_st {z : Nat} (hz : z + 1 < nZ) : Cond.initialized (mY z).cls ∈ tblG ∧ (mY z).cls ≠ "java/lang/invoke/MethodHandle" ∧ (mY z).cls ≠ "java/lang/invoke/VarHandle" ∧ (parseMethodDescriptor (mY z).desc).map (fun d => d.parameters.length) = some (mN z) ∧ plainName (mY z).cls = true ∧ (mY z).cls = clsN (mO z) := by
  have h := z_ok hz
  simp only [zOK, Bool.and_eq_true, decide_eq_true_eq] at h
  exact ⟨wAt_mem h.2.2.1, h.2.2.2.1, h.2.2.2.2.1, h.2.2.2.2.2.1, h.2.2.2.2.2.2.1, h.2.2.2.2.2.2.2⟩
theorem z_vi {z : Nat} (hz : z + 1 < nZ) (hs : mS z = false) : Cond.instanceMethod (mY z) ∈ tblG ∧ Cond.selects (mY z).cls (mY z) (mY z) ∈ tblG ∧ mO z < 8 ∧ (clE (mO z)).1 = (mY z).cls := by
  have h := z_ok hz
  simp only [zOK, hs, Bool.and_eq_true, decide_eq_true_eq] at h
  have h2 := h.2.1
  simp only [Bool.false_eq_true, if_false, Bool.and_eq_true, decide_eq_true_eq] at h2
  exact ⟨wAt_mem h2.1, wAt_mem h2.2.1, h2.2.2.1, h2.2.2.2⟩
theorem z_sta {z : Nat} (hz : z + 1 < nZ) (hs : mS z = true) : Cond.static (mY z) ∈ tblG := by
  have h := z_ok hz
  simp only [zOK, hs, Bool.and_eq_true, decide_eq_true_eq] at h
  have h2 := h.2.1
  simp only [if_true] at h2
  exact wAt_mem h2
theorem goodG {ws : List Cond} (h : ∀ w ∈ ws, w ∈ tblG) : GoodIn tblG ws := fun w hw => ⟨h w hw, tblG_good (h w hw)⟩
theorem go_V (hT : ∀ o T, tb0 o = some T → tb o = some T) (X : Cx sh tb ad dA D A own nL cc p s m args c) {z x o pc : Nat} {As rest L : List Value} {m0 : Mm} {r : Rs} (hC : MetZ l sh ad dA D z (.ref o :: As) m0 r) (hz : z + 1 < nZ) (hs : mS z = false) (hlink : Cond.methodLink (clsN own) x (mY z) ∈ tblG) (hfr : mF z + 1 ≤ R.frames) (hlo : 8 + (mX z + 11) + mL z ≤ R.locals) (hn : As.length = mN z) (ho : clO sh o = some (mO z)) (hcat : (rest.map fun v => v.category).sum ≤ 8) (hd : decode cc pc = .ok (.invokevirtual x, 3)) (hc : cells ≤ R.cells) (hsl : slots ≤ R.slots)
    (kk : Gd l sh ad dA D A nL p e R s m args below meth c cells slots Q (pc + 3) L (r.1.toList ++ rest) r.2) : Gd l sh ad dA D A nL p e R s m args below meth c cells slots Q pc L (As.reverse ++ .ref o :: rest) m0 := by
  intro ls H locs hl hH
  obtain ⟨hx, hb, hml, hown, hts, hK, hsh, hSt, hA⟩ := id X
  obtain ⟨i1, i2, i3, i4, i5, i6⟩ := z_st hz
  obtain ⟨j1, j2, j3, j4⟩ := z_vi hz hs
  obtain ⟨fs, hfs⟩ : ∃ fs, sh[o]? = some (.inl (mO z, fs)) := by
    unfold clO at ho
    split at ho
    · rename_i ci fs hh
      cases ho
      exact ⟨fs, hh⟩
    · cases ho
  have hrecv := va_recv (s := s) hK hH.1 (clE_get j3) (cells_get hfs)
  rw [j4] at hrecv
  refine call_go hA hH (rest := rest.map (cv ad)) (va_runV (As := As.map (cv ad)) (rest := rest.map (cv ad)) (b := ad o) (n := mN z) ⟨hx, hb, hml, hown, hts⟩ (hC H.size) (cwV (C := (mY z).cls) (bytes := mB z) (maxL := mX z) (ret := mT z) (ws' := tblG) (mN z) hts (goodG (fun w hw => ?_)) rfl rfl rfl ⟨rfl, i2, i3, i4⟩ ⟨hfr, hlo⟩) ⟨PcZ_blind, hrecv, fun U hU hW => Pc_call hT X hH U hU hW⟩ rfl (by rw [List.length_map, hn]) hl.1 (by simp [List.map_append, List.map_reverse, cv]) (lv_room (by rw [cat_sum]; exact hcat)) hd ⟨hc, hsl⟩) (fun H1 locs1 hH1 => ?_)
  · rcases List.mem_append.mp hw with h | h
    · simp only [List.mem_cons, List.not_mem_nil, or_false] at h
      rcases h with rfl | rfl | rfl | rfl
      · exact hlink
      · exact j1
      · exact j2
      · exact i1
    · exact good_tail hz h
  · have := kk ls H1 locs1 hl hH1
    rw [List.map_append] at this
    cases hr : r.1 with
    | none => rw [hr] at this; exact this
    | some v => rw [hr] at this; exact this
theorem go_S (hT : ∀ o T, tb0 o = some T → tb o = some T) (X : Cx sh tb ad dA D A own nL cc p s m args c) {z x pc : Nat} {As rest L : List Value} {m0 : Mm} {r : Rs} (hC : MetZ l sh ad dA D z As m0 r) (hz : z + 1 < nZ) (hs : mS z = true) (hlink : Cond.methodLink (clsN own) x (mY z) ∈ tblG) (hfr : mF z + 1 ≤ R.frames) (hlo : 8 + (mX z + 11) + mL z ≤ R.locals) (hn : As.length = mN z) (hcat : (rest.map fun v => v.category).sum ≤ 8) (hd : decode cc pc = .ok (.invokestatic x, 3)) (hc : cells ≤ R.cells) (hsl : slots ≤ R.slots)
    (kk : Gd l sh ad dA D A nL p e R s m args below meth c cells slots Q (pc + 3) L (r.1.toList ++ rest) r.2) : Gd l sh ad dA D A nL p e R s m args below meth c cells slots Q pc L (As.reverse ++ rest) m0 := by
  intro ls H locs hl hH
  obtain ⟨hx, hb, hml, hown, hts, hK, hsh, hSt, hA⟩ := id X
  obtain ⟨i1, i2, i3, i4, i5, i6⟩ := z_st hz
  have j1 := z_sta hz hs
  refine call_go hA hH (rest := rest.map (cv ad)) (va_runS (As := As.map (cv ad)) (rest := rest.map (cv ad)) (n := mN z) ⟨hx, hb, hml, hown, hts⟩ (hC H.size) (va_cwS (bytes := mB z) (maxL := mX z) (ret := mT z) (ws' := tblG) (mN z) hts (goodG (fun w hw => ?_)) rfl rfl rfl ⟨i2, i3, i4⟩ ⟨hfr, hlo⟩) ⟨PcZ_blind, fun U hU hW => Pc_call hT X hH U hU hW⟩ rfl (by rw [List.length_map, hn]) hl.1 (by simp [List.map_append, List.map_reverse]) (lv_room (by rw [cat_sum]; exact hcat)) hd ⟨hc, hsl⟩) (fun H1 locs1 hH1 => ?_)
  · rcases List.mem_append.mp hw with h | h
    · simp only [List.mem_cons, List.not_mem_nil, or_false] at h
      rcases h with rfl | rfl | rfl
      · exact hlink
      · exact j1
      · exact i1
    · exact good_tail hz h
  · have := kk ls H1 locs1 hl hH1
    rw [List.map_append] at this
    cases hr : r.1 with
    | none => rw [hr] at this; exact this
    | some v => rw [hr] at this; exact this
end SimC
