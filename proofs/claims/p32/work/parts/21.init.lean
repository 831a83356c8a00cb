section
/-! THE CONSTRUCTORS, walked: written by wip/gen/init.py -/
def m00 : Mm := (fun _ _ => 0, fun _ _ => 0)
def mW0 : Mm := setR (setR m00 0 (newF (m00.1 0))) (0 + 3) (fillR nI (m00.1 (0 + 3)) 4)
def tapeE0 : List ShE := [.inl (3, [0, 0, 0, 4]), .inr (0, 160, [])]
def tellE0 : List ShE := [.inl (4, [4, 0, 0, 6, 0]), .inl (3, [0, 0, 0, 5]), .inr (0, 160, []), .inr (0, 3, [])]
def imgE0 : List ShE := .inl (0, [2, 4, 13]) :: (worldE 1 ++ seenE 10)
def proofE0 : List ShE := shP.take 68
def gOf (sh : List ShE) (dA : Nat → ClassId) (m : Mm) (u : List Nat) : va_W := cellsW sh (fun k => u.getD k 0) dA m
theorem objI_in : Cond.instanceMethod objectInit ∈ tblG ∧ Cond.code objectInit ⟨#[0xb1]⟩ 1 none ∈ tblG := ⟨wAt_mem (pl := 84) (by decide +kernel), wAt_mem (pl := 85) (by decide +kernel)⟩
theorem len_1 {u : List Nat} (h : u.length = 1) : ∃ a0 : Nat, u = [a0] := by
  match u, h with
  | [a0], _ => exact ⟨a0, rfl⟩
theorem len_3 {u : List Nat} (h : u.length = 3) : ∃ a0 a1 a2 : Nat, u = [a0, a1, a2] := by
  match u, h with
  | [a0, a1, a2], _ => exact ⟨a0, a1, a2, rfl⟩
theorem len_8 {u : List Nat} (h : u.length = 8) : ∃ a0 a1 a2 a3 a4 a5 a6 a7 : Nat, u = [a0, a1, a2, a3, a4, a5, a6, a7] := by
  match u, h with
  | [a0, a1, a2, a3, a4, a5, a6, a7], _ => exact ⟨a0, a1, a2, a3, a4, a5, a6, a7, rfl⟩
theorem len_13 {u : List Nat} (h : u.length = 13) : ∃ a0 a1 a2 a3 a4 a5 a6 a7 a8 a9 a10 a11 a12 : Nat, u = [a0, a1, a2, a3, a4, a5, a6, a7, a8, a9, a10, a11, a12] := by
  match u, h with
  | [a0, a1, a2, a3, a4, a5, a6, a7, a8, a9, a10, a11, a12], _ => exact ⟨a0, a1, a2, a3, a4, a5, a6, a7, a8, a9, a10, a11, a12, rfl⟩
abbrev fsX0 : List Value := [.int 0, .null, .null]
theorem fsX0_ok : ∀ j, j < (clE 0).2.2 → defaultValue (tyT 0 j) = vp_V fsX0 j := by decide +kernel
set_option maxRecDepth 100000 in
theorem cwiX0 : Cond.code yX0_init cX0_init 1 none ∈ tblG := List.mem_filter.mpr ⟨List.mem_of_getElem? (i := 248) rfl, rfl⟩
theorem iwX0 : Cond.instantiable (clE 0).1 (clE 0).2.2 ∈ tblG ∧ Cond.initialized (clE 0).1 ∈ tblG ∧ Cond.instanceMethod yX0_init ∈ tblG := ⟨wAt_mem (pl := 245) (by decide +kernel), wAt_mem (pl := 69) (by decide +kernel), wAt_mem (pl := 247) (by decide +kernel)⟩
abbrev fsX1 : List Value := [.int 0, .int 0, .null, .int 0]
theorem fsX1_ok : ∀ j, j < (clE 1).2.2 → defaultValue (tyT 1 j) = vp_V fsX1 j := by decide +kernel
set_option maxRecDepth 100000 in
theorem cwiX1 : Cond.code yX1_init cX1_init 1 none ∈ tblG := List.mem_filter.mpr ⟨List.mem_of_getElem? (i := 269) rfl, rfl⟩
theorem iwX1 : Cond.instantiable (clE 1).1 (clE 1).2.2 ∈ tblG ∧ Cond.initialized (clE 1).1 ∈ tblG ∧ Cond.instanceMethod yX1_init ∈ tblG := ⟨wAt_mem (pl := 266) (by decide +kernel), wAt_mem (pl := 70) (by decide +kernel), wAt_mem (pl := 268) (by decide +kernel)⟩
abbrev fsX2 : List Value := [.int 0, .null, .null, .null]
theorem fsX2_ok : ∀ j, j < (clE 2).2.2 → defaultValue (tyT 2 j) = vp_V fsX2 j := by decide +kernel
set_option maxRecDepth 100000 in
theorem cwiX2 : Cond.code yX2_init cX2_init 1 none ∈ tblG := List.mem_filter.mpr ⟨List.mem_of_getElem? (i := 177) rfl, rfl⟩
theorem iwX2 : Cond.instantiable (clE 2).1 (clE 2).2.2 ∈ tblG ∧ Cond.initialized (clE 2).1 ∈ tblG ∧ Cond.instanceMethod yX2_init ∈ tblG := ⟨wAt_mem (pl := 174) (by decide +kernel), wAt_mem (pl := 66) (by decide +kernel), wAt_mem (pl := 176) (by decide +kernel)⟩
abbrev fsX3 : List Value := [.int 0, .int 0, .int 0, .null]
theorem fsX3_ok : ∀ j, j < (clE 3).2.2 → defaultValue (tyT 3 j) = vp_V fsX3 j := by decide +kernel
set_option maxRecDepth 100000 in
theorem cwiX3 : Cond.code yX3_init cX3_init 1 none ∈ tblG := List.mem_filter.mpr ⟨List.mem_of_getElem? (i := 203) rfl, rfl⟩
theorem iwX3 : Cond.instantiable (clE 3).1 (clE 3).2.2 ∈ tblG ∧ Cond.initialized (clE 3).1 ∈ tblG ∧ Cond.instanceMethod yX3_init ∈ tblG := ⟨wAt_mem (pl := 200) (by decide +kernel), wAt_mem (pl := 68) (by decide +kernel), wAt_mem (pl := 202) (by decide +kernel)⟩
abbrev fsX4 : List Value := [.null, .int 0, .int 0, .null, .int 0]
theorem fsX4_ok : ∀ j, j < (clE 4).2.2 → defaultValue (tyT 4 j) = vp_V fsX4 j := by decide +kernel
set_option maxRecDepth 100000 in
theorem cwiX4 : Cond.code yX4_init cX4_init 1 none ∈ tblG := List.mem_filter.mpr ⟨List.mem_of_getElem? (i := 197) rfl, rfl⟩
theorem iwX4 : Cond.instantiable (clE 4).1 (clE 4).2.2 ∈ tblG ∧ Cond.initialized (clE 4).1 ∈ tblG ∧ Cond.instanceMethod yX4_init ∈ tblG := ⟨wAt_mem (pl := 194) (by decide +kernel), wAt_mem (pl := 67) (by decide +kernel), wAt_mem (pl := 196) (by decide +kernel)⟩
abbrev fsX5 : List Value := [.int 0, .int 0, .int 0, .int 0, .int 0, .int 0, .int 0, .int 0, .null, .null, .null, .null, .null, .null, .null, .null]
theorem fsX5_ok : ∀ j, j < (clE 5).2.2 → defaultValue (tyT 5 j) = vp_V fsX5 j := by decide +kernel
set_option maxRecDepth 100000 in
theorem cwiX5 : Cond.code yX5_init cX5_init 1 none ∈ tblG := List.mem_filter.mpr ⟨List.mem_of_getElem? (i := 90) rfl, rfl⟩
theorem iwX5 : Cond.instantiable (clE 5).1 (clE 5).2.2 ∈ tblG ∧ Cond.initialized (clE 5).1 ∈ tblG ∧ Cond.instanceMethod yX5_init ∈ tblG := ⟨wAt_mem (pl := 87) (by decide +kernel), wAt_mem (pl := 65) (by decide +kernel), wAt_mem (pl := 89) (by decide +kernel)⟩
abbrev fsX6 : List Value := [.null, .null, .null, .null, .null, .null, .null, .null, .null, .int 0]
theorem fsX6_ok : ∀ j, j < (clE 6).2.2 → defaultValue (tyT 6 j) = vp_V fsX6 j := by decide +kernel
set_option maxRecDepth 100000 in
theorem cwiX6 : Cond.code yX6_init cX6_init 2 none ∈ tblG := List.mem_filter.mpr ⟨List.mem_of_getElem? (i := 82) rfl, rfl⟩
theorem iwX6 : Cond.instantiable (clE 6).1 (clE 6).2.2 ∈ tblG ∧ Cond.initialized (clE 6).1 ∈ tblG ∧ Cond.instanceMethod yX6_init ∈ tblG := ⟨wAt_mem (pl := 79) (by decide +kernel), wAt_mem (pl := 64) (by decide +kernel), wAt_mem (pl := 81) (by decide +kernel)⟩
abbrev fsX7 : List Value := [.null, .null, .null, .int 0, .null, .int 0, .int 0, .int 0, .null, .int 0, .int 0, .int 0, .int 0, .int 0, .int 0, .int 0, .null, .int 0, .int 0, .long 0, .long 0, .long 0, .null, .null, .null, .null, .null, .int 0, .null]
theorem fsX7_ok : ∀ j, j < (clE 7).2.2 → defaultValue (tyT 7 j) = vp_V fsX7 j := by decide +kernel
set_option maxRecDepth 100000 in
theorem cwiX7 : Cond.code yX7_init cX7_init 2 none ∈ tblG := List.mem_filter.mpr ⟨List.mem_of_getElem? (i := 792) rfl, rfl⟩
theorem iwX7 : Cond.instantiable (clE 7).1 (clE 7).2.2 ∈ tblG ∧ Cond.initialized (clE 7).1 ∈ tblG ∧ Cond.instanceMethod yX7_init ∈ tblG := ⟨wAt_mem (pl := 789) (by decide +kernel), wAt_mem (pl := 71) (by decide +kernel), wAt_mem (pl := 791) (by decide +kernel)⟩
/-- a ProofFineModel when its rows are made, behind firstDraft, behind keepDraft -/
def mM1 : Mm := (fun o => if o = 9 then upd (upd (upd (upd (fun _ => 0) 0 (-4)) 1 (-4)) 2 (-4)) 3 (-4) else fun _ => 0, fun _ _ => 0)
def mM2 : Mm := setR (setR mM1 (0 + 4) (dr0 (mM1.1 (0 + 4)))) 0 (upd (upd (upd (mM1.1 0) 5 0) 6 0) 7 (-4))
def mM0 : Mm := setR (setR (setR mM2 (0 + 1) (fillR (mM2.1 (0 + 4)) (mM2.1 (0 + 1)) 63)) 0 (upd (mM2.1 0) 3 (mM2.1 0 5))) (0 + 3) (upd (upd (mM2.1 (0 + 3)) 0 0) 1 0)
def mI0 : Mm := (fun o => if o = 0 then fun _ => 0 else if o < 10 then mW0.1 (o - 1) else fun _ => 0, fun _ _ => 0)
def mP0 : Mm := (fun o => if 1 ≤ o ∧ o < 10 then mW0.1 (o - 1) else if 10 ≤ o ∧ o < 19 then mW0.1 (o - 10) else if 33 ≤ o ∧ o < 42 then mW0.1 (o - 33) else if 47 ≤ o ∧ o < 56 then mW0.1 (o - 47) else fun _ => 0, fun _ _ => 0)
set_option maxHeartbeats 4000000 in
set_option maxRecDepth 100000 in
theorem i_X2 (l : Launch) (aS : Nat → Nat) (dA : Nat → ClassId) (D : va_G) : MetI l aS dA D yX2_init cX2_init 1 ({ frames := 1, cells := 3, slots := 18, locals := 20 }) 2 fsX2 3 (gOf (seenE 0) dA m00) := by
  intro h0 sz
  refine Met.ofW (cc := cX2_init) (maxL := 1) (ret := none) (by decide) rfl ?_
  intro p e s m args below meth c s₁ B hml hv
  obtain ⟨rfl, hsz, hP, hK, hD0, hNs, hSF⟩ := hv
  subst hsz
  have hx := B.exec
  have hb := B.bytes
  have hr := B.returns
  have hlocks := B.notSynchronized
  have hts0 := atoms_spec (ws := .code yX2_init cX2_init 1 none :: tblG) B.pre
  have hts : ∀ w ∈ tblG, w.before ([Value.ref h0] : List Value).toArray s = true := fun w hw => hts0 w (List.mem_cons_of_mem _ hw)
  have hown : s.vm.findClass (clsN 2) = some m.cls := findClass_of_methodNamed B.named
  have hin : meth.name = "<init>" := (name_of_methodNamed B.named B.method).1
  have hD := hD0.self (sz := s.heap.size)
  generalize hAe : va_A [(h0, .inr (2, fsX2))] s.heap.size = A at hD hSF ⊢
  have hA : ∀ q : Nat, s.heap.size ≤ q → A q := fun q h => by rw [← hAe]; exact Or.inr h
  have X : Ci aS dA D A 2 1 cX2_init p s m ([Value.ref h0] : List Value).toArray c := ⟨hx, hb, hml, hown, hts, hK, hA, hNs, hSF⟩
  have hl := lv_entry ([.ref h0]) (n := 1) (Nat.le_of_ble_eq_true rfl)
  rw [lg_entry_eq]
  generalize (lg_sl ([.ref h0]) ++ List.replicate (1 - (lg_sl ([.ref h0])).length) Slot.unset).toArray = ls at hl ⊢
  have hl : lv_has ls 1 [(0, .ref h0)] := hl
  have hH : Hw D A s [(h0, .inr (2, fsX2))] s.heap [] := ⟨hP, hD, va_S.rf⟩
  refine lv_aload_n hx hb (show decode cX2_init 0 = .ok (.aload_n 0, 1) by decide +kernel) rfl (lv_at hl 0 rfl) ?_
  refine W.objInit hx hb hown (hts (.methodLink (clsN 2) 3 objectInit) (wAt_mem (pl := 178) (by decide +kernel))) (hts _ objI_in.1) (hts _ objI_in.2) rfl (by rw [hml]; exact hl.1) rfl (show decode cX2_init 1 = .ok (.invokespecial 3, 3) by decide +kernel) (Nat.le_of_ble_eq_true rfl) (Nat.le_of_ble_eq_true rfl) ?_
  refine W.eq (g2 := F0 m 4 ls []) rfl ?_
  refine lv_aload_n hx hb (show decode cX2_init 4 = .ok (.aload_n 0, 1) by decide +kernel) rfl (lv_at hl 0 rfl) ?_
  refine lv_bipush (v := 6) hx hb (show decode cX2_init 5 = .ok (.bipush 6, 2) by decide +kernel) (by decide +kernel) ?_
  refine mk_arr X hH (n := 6) (N := 6) (by decide) (by decide +kernel) (by omega) (Nat.le_of_ble_eq_true rfl) (Nat.le_of_ble_eq_true rfl) (show decode cX2_init 7 = .ok (.newarray .int, 2) by decide +kernel) (fun q0 H hH => ?_)
  have hH : Hw D A s ([(h0, .inr (2, [.int 0, .null, .null, .null])), (q0, .inl (dA 0, 6, .inl (fun _ => 0)))]) H [] := hH
  refine mk_putF X hin hH (q0 := 0) (ci := 2) (k := 1) (ty := .array .int) rfl (by decide) (by decide +kernel) (Nat.le_of_ble_eq_true rfl) (by decide +kernel) (by decide +kernel) (by decide +kernel) rfl rfl (wAt_mem (pl := 181) (by decide +kernel)) (show decode cX2_init 9 = .ok (.putfield 9, 3) by decide +kernel) (fun H locs hH => ?_)
  have hH : Hw D A s ([(h0, .inr (2, [.int 0, .ref q0, .null, .null])), (q0, .inl (dA 0, 6, .inl (fun _ => 0)))]) H locs := hH
  refine lv_aload_n hx hb (show decode cX2_init 12 = .ok (.aload_n 0, 1) by decide +kernel) rfl (lv_at hl 0 rfl) ?_
  refine lv_bipush (v := 6) hx hb (show decode cX2_init 13 = .ok (.bipush 6, 2) by decide +kernel) (by decide +kernel) ?_
  refine mk_arr X hH (n := 6) (N := 6) (by decide) (by decide +kernel) (by omega) (Nat.le_of_ble_eq_true rfl) (Nat.le_of_ble_eq_true rfl) (show decode cX2_init 15 = .ok (.newarray .int, 2) by decide +kernel) (fun q1 H hH => ?_)
  have hH : Hw D A s ([(h0, .inr (2, [.int 0, .ref q0, .null, .null])), (q0, .inl (dA 0, 6, .inl (fun _ => 0))), (q1, .inl (dA 0, 6, .inl (fun _ => 0)))]) H locs := hH
  refine mk_putF X hin hH (q0 := 0) (ci := 2) (k := 2) (ty := .array .int) rfl (by decide) (by decide +kernel) (Nat.le_of_ble_eq_true rfl) (by decide +kernel) (by decide +kernel) (by decide +kernel) rfl rfl (wAt_mem (pl := 182) (by decide +kernel)) (show decode cX2_init 17 = .ok (.putfield 15, 3) by decide +kernel) (fun H locs hH => ?_)
  have hH : Hw D A s ([(h0, .inr (2, [.int 0, .ref q0, .ref q1, .null])), (q0, .inl (dA 0, 6, .inl (fun _ => 0))), (q1, .inl (dA 0, 6, .inl (fun _ => 0)))]) H locs := hH
  refine lv_aload_n hx hb (show decode cX2_init 20 = .ok (.aload_n 0, 1) by decide +kernel) rfl (lv_at hl 0 rfl) ?_
  refine lv_bipush (v := 6) hx hb (show decode cX2_init 21 = .ok (.bipush 6, 2) by decide +kernel) (by decide +kernel) ?_
  refine mk_arr X hH (n := 6) (N := 6) (by decide) (by decide +kernel) (by omega) (Nat.le_of_ble_eq_true rfl) (Nat.le_of_ble_eq_true rfl) (show decode cX2_init 23 = .ok (.newarray .int, 2) by decide +kernel) (fun q2 H hH => ?_)
  have hH : Hw D A s ([(h0, .inr (2, [.int 0, .ref q0, .ref q1, .null])), (q0, .inl (dA 0, 6, .inl (fun _ => 0))), (q1, .inl (dA 0, 6, .inl (fun _ => 0))), (q2, .inl (dA 0, 6, .inl (fun _ => 0)))]) H locs := hH
  refine mk_putF X hin hH (q0 := 0) (ci := 2) (k := 3) (ty := .array .int) rfl (by decide) (by decide +kernel) (Nat.le_of_ble_eq_true rfl) (by decide +kernel) (by decide +kernel) (by decide +kernel) rfl rfl (wAt_mem (pl := 183) (by decide +kernel)) (show decode cX2_init 25 = .ok (.putfield 18, 3) by decide +kernel) (fun H locs hH => ?_)
  have hH : Hw D A s ([(h0, .inr (2, [.int 0, .ref q0, .ref q1, .ref q2])), (q0, .inl (dA 0, 6, .inl (fun _ => 0))), (q1, .inl (dA 0, 6, .inl (fun _ => 0))), (q2, .inl (dA 0, 6, .inl (fun _ => 0)))]) H locs := hH
  have hP9 : va_P D clsT (gOf (seenE 0) dA m00 (h0 :: [q0, q1, q2])) H := hH.1
  have hD9 : va_D A (gOf (seenE 0) dA m00 (h0 :: [q0, q1, q2])) := hH.2.1
  exact W.vret hx hb hr (fun t ht hW => by
    unfold QcI
    rw [hAe]
    exact ⟨⟨[q0, q1, q2], rfl, rfl, by rw [ht]; exact hP9, hD9⟩, hH.2.2.F ht⟩) hH.2.2.2.2 (show decode cX2_init 28 = .ok (.return_, 1) by decide +kernel)
set_option maxHeartbeats 4000000 in
set_option maxRecDepth 100000 in
theorem i_X3 (l : Launch) (aS : Nat → Nat) (dA : Nat → ClassId) (D : va_G) : MetI l aS dA D yX3_init cX3_init 1 ({ frames := 1, cells := 1, slots := 160, locals := 20 }) 3 fsX3 1 (gOf tapeE0 dA m00) := by
  intro h0 sz
  refine Met.ofW (cc := cX3_init) (maxL := 1) (ret := none) (by decide) rfl ?_
  intro p e s m args below meth c s₁ B hml hv
  obtain ⟨rfl, hsz, hP, hK, hD0, hNs, hSF⟩ := hv
  subst hsz
  have hx := B.exec
  have hb := B.bytes
  have hr := B.returns
  have hlocks := B.notSynchronized
  have hts0 := atoms_spec (ws := .code yX3_init cX3_init 1 none :: tblG) B.pre
  have hts : ∀ w ∈ tblG, w.before ([Value.ref h0] : List Value).toArray s = true := fun w hw => hts0 w (List.mem_cons_of_mem _ hw)
  have hown : s.vm.findClass (clsN 3) = some m.cls := findClass_of_methodNamed B.named
  have hin : meth.name = "<init>" := (name_of_methodNamed B.named B.method).1
  have hD := hD0.self (sz := s.heap.size)
  generalize hAe : va_A [(h0, .inr (3, fsX3))] s.heap.size = A at hD hSF ⊢
  have hA : ∀ q : Nat, s.heap.size ≤ q → A q := fun q h => by rw [← hAe]; exact Or.inr h
  have X : Ci aS dA D A 3 1 cX3_init p s m ([Value.ref h0] : List Value).toArray c := ⟨hx, hb, hml, hown, hts, hK, hA, hNs, hSF⟩
  have hl := lv_entry ([.ref h0]) (n := 1) (Nat.le_of_ble_eq_true rfl)
  rw [lg_entry_eq]
  generalize (lg_sl ([.ref h0]) ++ List.replicate (1 - (lg_sl ([.ref h0])).length) Slot.unset).toArray = ls at hl ⊢
  have hl : lv_has ls 1 [(0, .ref h0)] := hl
  have hH : Hw D A s [(h0, .inr (3, fsX3))] s.heap [] := ⟨hP, hD, va_S.rf⟩
  refine lv_aload_n hx hb (show decode cX3_init 0 = .ok (.aload_n 0, 1) by decide +kernel) rfl (lv_at hl 0 rfl) ?_
  refine W.objInit hx hb hown (hts (.methodLink (clsN 3) 1 objectInit) (wAt_mem (pl := 204) (by decide +kernel))) (hts _ objI_in.1) (hts _ objI_in.2) rfl (by rw [hml]; exact hl.1) rfl (show decode cX3_init 1 = .ok (.invokespecial 1, 3) by decide +kernel) (Nat.le_of_ble_eq_true rfl) (Nat.le_of_ble_eq_true rfl) ?_
  refine W.eq (g2 := F0 m 4 ls []) rfl ?_
  refine lv_aload_n hx hb (show decode cX3_init 4 = .ok (.aload_n 0, 1) by decide +kernel) rfl (lv_at hl 0 rfl) ?_
  refine lv_sipush (v := 160) hx hb (show decode cX3_init 5 = .ok (.sipush 160, 3) by decide +kernel) (by decide +kernel) ?_
  refine mk_arr X hH (n := 160) (N := 160) (by decide) (by decide +kernel) (by omega) (Nat.le_of_ble_eq_true rfl) (Nat.le_of_ble_eq_true rfl) (show decode cX3_init 8 = .ok (.newarray .int, 2) by decide +kernel) (fun q0 H hH => ?_)
  have hH : Hw D A s ([(h0, .inr (3, [.int 0, .int 0, .int 0, .null])), (q0, .inl (dA 0, 160, .inl (fun _ => 0)))]) H [] := hH
  refine mk_putF X hin hH (q0 := 0) (ci := 3) (k := 3) (ty := .array .int) rfl (by decide) (by decide +kernel) (Nat.le_of_ble_eq_true rfl) (by decide +kernel) (by decide +kernel) (by decide +kernel) rfl rfl (wAt_mem (pl := 212) (by decide +kernel)) (show decode cX3_init 10 = .ok (.putfield 9, 3) by decide +kernel) (fun H locs hH => ?_)
  have hH : Hw D A s ([(h0, .inr (3, [.int 0, .int 0, .int 0, .ref q0])), (q0, .inl (dA 0, 160, .inl (fun _ => 0)))]) H locs := hH
  have hP9 : va_P D clsT (gOf tapeE0 dA m00 (h0 :: [q0])) H := hH.1
  have hD9 : va_D A (gOf tapeE0 dA m00 (h0 :: [q0])) := hH.2.1
  exact W.vret hx hb hr (fun t ht hW => by
    unfold QcI
    rw [hAe]
    exact ⟨⟨[q0], rfl, rfl, by rw [ht]; exact hP9, hD9⟩, hH.2.2.F ht⟩) hH.2.2.2.2 (show decode cX3_init 13 = .ok (.return_, 1) by decide +kernel)
set_option maxHeartbeats 4000000 in
set_option maxRecDepth 100000 in
theorem i_X1 (l : Launch) (aS : Nat → Nat) (dA : Nat → ClassId) (D : va_G) : MetI l aS dA D yX1_init cX1_init 1 ({ frames := 1, cells := 1, slots := 40, locals := 20 }) 1 fsX1 1 (gOf (sheetE 0) dA m00) := by
  intro h0 sz
  refine Met.ofW (cc := cX1_init) (maxL := 1) (ret := none) (by decide) rfl ?_
  intro p e s m args below meth c s₁ B hml hv
  obtain ⟨rfl, hsz, hP, hK, hD0, hNs, hSF⟩ := hv
  subst hsz
  have hx := B.exec
  have hb := B.bytes
  have hr := B.returns
  have hlocks := B.notSynchronized
  have hts0 := atoms_spec (ws := .code yX1_init cX1_init 1 none :: tblG) B.pre
  have hts : ∀ w ∈ tblG, w.before ([Value.ref h0] : List Value).toArray s = true := fun w hw => hts0 w (List.mem_cons_of_mem _ hw)
  have hown : s.vm.findClass (clsN 1) = some m.cls := findClass_of_methodNamed B.named
  have hin : meth.name = "<init>" := (name_of_methodNamed B.named B.method).1
  have hD := hD0.self (sz := s.heap.size)
  generalize hAe : va_A [(h0, .inr (1, fsX1))] s.heap.size = A at hD hSF ⊢
  have hA : ∀ q : Nat, s.heap.size ≤ q → A q := fun q h => by rw [← hAe]; exact Or.inr h
  have X : Ci aS dA D A 1 1 cX1_init p s m ([Value.ref h0] : List Value).toArray c := ⟨hx, hb, hml, hown, hts, hK, hA, hNs, hSF⟩
  have hl := lv_entry ([.ref h0]) (n := 1) (Nat.le_of_ble_eq_true rfl)
  rw [lg_entry_eq]
  generalize (lg_sl ([.ref h0]) ++ List.replicate (1 - (lg_sl ([.ref h0])).length) Slot.unset).toArray = ls at hl ⊢
  have hl : lv_has ls 1 [(0, .ref h0)] := hl
  have hH : Hw D A s [(h0, .inr (1, fsX1))] s.heap [] := ⟨hP, hD, va_S.rf⟩
  refine lv_aload_n hx hb (show decode cX1_init 0 = .ok (.aload_n 0, 1) by decide +kernel) rfl (lv_at hl 0 rfl) ?_
  refine W.objInit hx hb hown (hts (.methodLink (clsN 1) 3 objectInit) (wAt_mem (pl := 270) (by decide +kernel))) (hts _ objI_in.1) (hts _ objI_in.2) rfl (by rw [hml]; exact hl.1) rfl (show decode cX1_init 1 = .ok (.invokespecial 3, 3) by decide +kernel) (Nat.le_of_ble_eq_true rfl) (Nat.le_of_ble_eq_true rfl) ?_
  refine W.eq (g2 := F0 m 4 ls []) rfl ?_
  refine lv_aload_n hx hb (show decode cX1_init 4 = .ok (.aload_n 0, 1) by decide +kernel) rfl (lv_at hl 0 rfl) ?_
  refine lv_bipush (v := 40) hx hb (show decode cX1_init 5 = .ok (.bipush 40, 2) by decide +kernel) (by decide +kernel) ?_
  refine mk_arr X hH (n := 40) (N := 40) (by decide) (by decide +kernel) (by omega) (Nat.le_of_ble_eq_true rfl) (Nat.le_of_ble_eq_true rfl) (show decode cX1_init 7 = .ok (.newarray .int, 2) by decide +kernel) (fun q0 H hH => ?_)
  have hH : Hw D A s ([(h0, .inr (1, [.int 0, .int 0, .null, .int 0])), (q0, .inl (dA 0, 40, .inl (fun _ => 0)))]) H [] := hH
  refine mk_putF X hin hH (q0 := 0) (ci := 1) (k := 2) (ty := .array .int) rfl (by decide) (by decide +kernel) (Nat.le_of_ble_eq_true rfl) (by decide +kernel) (by decide +kernel) (by decide +kernel) rfl rfl (wAt_mem (pl := 275) (by decide +kernel)) (show decode cX1_init 9 = .ok (.putfield 9, 3) by decide +kernel) (fun H locs hH => ?_)
  have hH : Hw D A s ([(h0, .inr (1, [.int 0, .int 0, .ref q0, .int 0])), (q0, .inl (dA 0, 40, .inl (fun _ => 0)))]) H locs := hH
  have hP9 : va_P D clsT (gOf (sheetE 0) dA m00 (h0 :: [q0])) H := hH.1
  have hD9 : va_D A (gOf (sheetE 0) dA m00 (h0 :: [q0])) := hH.2.1
  exact W.vret hx hb hr (fun t ht hW => by
    unfold QcI
    rw [hAe]
    exact ⟨⟨[q0], rfl, rfl, by rw [ht]; exact hP9, hD9⟩, hH.2.2.F ht⟩) hH.2.2.2.2 (show decode cX1_init 12 = .ok (.return_, 1) by decide +kernel)
set_option maxHeartbeats 4000000 in
set_option maxRecDepth 100000 in
theorem i_X4 (l : Launch) (aS : Nat → Nat) (dA : Nat → ClassId) (D : va_G) : MetI l aS dA D yX4_init cX4_init 1 ({ frames := 2, cells := 3, slots := 167, locals := 60 }) 4 fsX4 3 (gOf tellE0 dA m00) := by
  intro h0 sz
  refine Met.ofW (cc := cX4_init) (maxL := 1) (ret := none) (by decide) rfl ?_
  intro p e s m args below meth c s₁ B hml hv
  obtain ⟨rfl, hsz, hP, hK, hD0, hNs, hSF⟩ := hv
  subst hsz
  have hx := B.exec
  have hb := B.bytes
  have hr := B.returns
  have hlocks := B.notSynchronized
  have hts0 := atoms_spec (ws := .code yX4_init cX4_init 1 none :: tblG) B.pre
  have hts : ∀ w ∈ tblG, w.before ([Value.ref h0] : List Value).toArray s = true := fun w hw => hts0 w (List.mem_cons_of_mem _ hw)
  have hown : s.vm.findClass (clsN 4) = some m.cls := findClass_of_methodNamed B.named
  have hin : meth.name = "<init>" := (name_of_methodNamed B.named B.method).1
  have hD := hD0.self (sz := s.heap.size)
  generalize hAe : va_A [(h0, .inr (4, fsX4))] s.heap.size = A at hD hSF ⊢
  have hA : ∀ q : Nat, s.heap.size ≤ q → A q := fun q h => by rw [← hAe]; exact Or.inr h
  have X : Ci aS dA D A 4 1 cX4_init p s m ([Value.ref h0] : List Value).toArray c := ⟨hx, hb, hml, hown, hts, hK, hA, hNs, hSF⟩
  have hl := lv_entry ([.ref h0]) (n := 1) (Nat.le_of_ble_eq_true rfl)
  rw [lg_entry_eq]
  generalize (lg_sl ([.ref h0]) ++ List.replicate (1 - (lg_sl ([.ref h0])).length) Slot.unset).toArray = ls at hl ⊢
  have hl : lv_has ls 1 [(0, .ref h0)] := hl
  have hH : Hw D A s [(h0, .inr (4, fsX4))] s.heap [] := ⟨hP, hD, va_S.rf⟩
  refine lv_aload_n hx hb (show decode cX4_init 0 = .ok (.aload_n 0, 1) by decide +kernel) rfl (lv_at hl 0 rfl) ?_
  refine W.objInit hx hb hown (hts (.methodLink (clsN 4) 3 objectInit) (wAt_mem (pl := 198) (by decide +kernel))) (hts _ objI_in.1) (hts _ objI_in.2) rfl (by rw [hml]; exact hl.1) rfl (show decode cX4_init 1 = .ok (.invokespecial 3, 3) by decide +kernel) (Nat.le_of_ble_eq_true rfl) (Nat.le_of_ble_eq_true rfl) ?_
  refine W.eq (g2 := F0 m 4 ls []) rfl ?_
  refine lv_aload_n hx hb (show decode cX4_init 4 = .ok (.aload_n 0, 1) by decide +kernel) rfl (lv_at hl 0 rfl) ?_
  refine mk_new X hl.1 hH (i_X3 l aS dA D) (by decide) ⟨by decide +kernel, by decide +kernel, by decide +kernel⟩ (wAt_mem (pl := 199) (by decide +kernel)) iwX3.1 iwX3.2.1 cwiX3 iwX3.2.2 (Or.inr (hNs.1 _ (List.mem_of_getElem? (i := 2) rfl))) fsX3_ok ⟨by decide +kernel, by decide +kernel⟩ (Nat.le_of_ble_eq_true rfl) (Nat.le_of_ble_eq_true rfl) (Nat.le_of_ble_eq_true rfl) (Nat.le_of_ble_eq_true rfl) (Nat.le_of_ble_eq_true rfl) (show decode cX4_init 5 = .ok (.new 9, 3) by decide +kernel) (show decode cX4_init 8 = .ok (.dup, 1) by decide +kernel) (show decode cX4_init 9 = .ok (.invokespecial 11, 3) by decide +kernel) (fun q0 u H locs hu hH => ?_)
  obtain ⟨q0_0, rfl⟩ := len_1 hu
  have hH : Hw D A s ([(h0, .inr (4, [.null, .int 0, .int 0, .null, .int 0])), (q0, .inr (3, [.int 0, .int 0, .int 0, .ref q0_0])), (q0_0, .inl (dA 0, 160, .inl (fun _ => 0)))]) H locs := hH
  refine mk_putF X hin hH (q0 := 0) (ci := 4) (k := 0) (ty := .object "ProofFine$Tape") rfl (by decide) (by decide +kernel) (Nat.le_of_ble_eq_true rfl) (by decide +kernel) (by decide +kernel) (by decide +kernel) rfl rfl (wAt_mem (pl := 222) (by decide +kernel)) (show decode cX4_init 12 = .ok (.putfield 12, 3) by decide +kernel) (fun H locs hH => ?_)
  have hH : Hw D A s ([(h0, .inr (4, [.ref q0, .int 0, .int 0, .null, .int 0])), (q0, .inr (3, [.int 0, .int 0, .int 0, .ref q0_0])), (q0_0, .inl (dA 0, 160, .inl (fun _ => 0)))]) H locs := hH
  refine lv_aload_n hx hb (show decode cX4_init 15 = .ok (.aload_n 0, 1) by decide +kernel) rfl (lv_at hl 0 rfl) ?_
  refine lv_iconst (v := 3) hx hb (show decode cX4_init 16 = .ok (.iconst 3, 1) by decide +kernel) (by decide +kernel) ?_
  refine mk_arr X hH (n := 3) (N := 3) (by decide) (by decide +kernel) (by omega) (Nat.le_of_ble_eq_true rfl) (Nat.le_of_ble_eq_true rfl) (show decode cX4_init 17 = .ok (.newarray .int, 2) by decide +kernel) (fun q1 H hH => ?_)
  have hH : Hw D A s ([(h0, .inr (4, [.ref q0, .int 0, .int 0, .null, .int 0])), (q0, .inr (3, [.int 0, .int 0, .int 0, .ref q0_0])), (q0_0, .inl (dA 0, 160, .inl (fun _ => 0))), (q1, .inl (dA 0, 3, .inl (fun _ => 0)))]) H locs := hH
  refine mk_putF X hin hH (q0 := 0) (ci := 4) (k := 3) (ty := .array .int) rfl (by decide) (by decide +kernel) (Nat.le_of_ble_eq_true rfl) (by decide +kernel) (by decide +kernel) (by decide +kernel) rfl rfl (wAt_mem (pl := 228) (by decide +kernel)) (show decode cX4_init 19 = .ok (.putfield 18, 3) by decide +kernel) (fun H locs hH => ?_)
  have hH : Hw D A s ([(h0, .inr (4, [.ref q0, .int 0, .int 0, .ref q1, .int 0])), (q0, .inr (3, [.int 0, .int 0, .int 0, .ref q0_0])), (q0_0, .inl (dA 0, 160, .inl (fun _ => 0))), (q1, .inl (dA 0, 3, .inl (fun _ => 0)))]) H locs := hH
  have hP9 : va_P D clsT (gOf tellE0 dA m00 (h0 :: [q0, q0_0, q1])) H := hH.1
  have hD9 : va_D A (gOf tellE0 dA m00 (h0 :: [q0, q0_0, q1])) := hH.2.1
  exact W.vret hx hb hr (fun t ht hW => by
    unfold QcI
    rw [hAe]
    exact ⟨⟨[q0, q0_0, q1], rfl, rfl, by rw [ht]; exact hP9, hD9⟩, hH.2.2.F ht⟩) hH.2.2.2.2 (show decode cX4_init 22 = .ok (.return_, 1) by decide +kernel)
end
section
/-! THE CONSTRUCTORS, walked: written by wip/gen/init.py -/
set_option maxHeartbeats 4000000 in
set_option maxRecDepth 100000 in
theorem i_X5 (l : Launch) (aS : Nat → Nat) (dA : Nat → ClassId) (D : va_G) : MetI l aS dA D yX5_init cX5_init 1 ({ frames := 4, cells := 8, slots := 42, locals := 120 }) 5 fsX5 8 (gOf (worldE 0) dA mW0) := by
  intro h0 sz
  refine Met.ofW (cc := cX5_init) (maxL := 1) (ret := none) (by decide) rfl ?_
  intro p e s m args below meth c s₁ B hml hv
  obtain ⟨rfl, hsz, hP, hK, hD0, hNs, hSF⟩ := hv
  subst hsz
  have hx := B.exec
  have hb := B.bytes
  have hr := B.returns
  have hlocks := B.notSynchronized
  have hts0 := atoms_spec (ws := .code yX5_init cX5_init 1 none :: tblG) B.pre
  have hts : ∀ w ∈ tblG, w.before ([Value.ref h0] : List Value).toArray s = true := fun w hw => hts0 w (List.mem_cons_of_mem _ hw)
  have hown : s.vm.findClass (clsN 5) = some m.cls := findClass_of_methodNamed B.named
  have hin : meth.name = "<init>" := (name_of_methodNamed B.named B.method).1
  have hD := hD0.self (sz := s.heap.size)
  generalize hAe : va_A [(h0, .inr (5, fsX5))] s.heap.size = A at hD hSF ⊢
  have hA : ∀ q : Nat, s.heap.size ≤ q → A q := fun q h => by rw [← hAe]; exact Or.inr h
  have X : Ci aS dA D A 5 1 cX5_init p s m ([Value.ref h0] : List Value).toArray c := ⟨hx, hb, hml, hown, hts, hK, hA, hNs, hSF⟩
  have hl := lv_entry ([.ref h0]) (n := 1) (Nat.le_of_ble_eq_true rfl)
  rw [lg_entry_eq]
  generalize (lg_sl ([.ref h0]) ++ List.replicate (1 - (lg_sl ([.ref h0])).length) Slot.unset).toArray = ls at hl ⊢
  have hl : lv_has ls 1 [(0, .ref h0)] := hl
  have hH : Hw D A s [(h0, .inr (5, fsX5))] s.heap [] := ⟨hP, hD, va_S.rf⟩
  refine lv_aload_n hx hb (show decode cX5_init 0 = .ok (.aload_n 0, 1) by decide +kernel) rfl (lv_at hl 0 rfl) ?_
  refine W.objInit hx hb hown (hts (.methodLink (clsN 5) 3 objectInit) (wAt_mem (pl := 91) (by decide +kernel))) (hts _ objI_in.1) (hts _ objI_in.2) rfl (by rw [hml]; exact hl.1) rfl (show decode cX5_init 1 = .ok (.invokespecial 3, 3) by decide +kernel) (Nat.le_of_ble_eq_true rfl) (Nat.le_of_ble_eq_true rfl) ?_
  refine W.eq (g2 := F0 m 4 ls []) rfl ?_
  refine lv_aload_n hx hb (show decode cX5_init 4 = .ok (.aload_n 0, 1) by decide +kernel) rfl (lv_at hl 0 rfl) ?_
  refine lv_iconst (v := 4) hx hb (show decode cX5_init 5 = .ok (.iconst 4, 1) by decide +kernel) (by decide +kernel) ?_
  refine mk_arr X hH (n := 4) (N := 4) (by decide) (by decide +kernel) (by omega) (Nat.le_of_ble_eq_true rfl) (Nat.le_of_ble_eq_true rfl) (show decode cX5_init 6 = .ok (.newarray .int, 2) by decide +kernel) (fun q0 H hH => ?_)
  have hH : Hw D A s ([(h0, .inr (5, [.int 0, .int 0, .int 0, .int 0, .int 0, .int 0, .int 0, .int 0, .null, .null, .null, .null, .null, .null, .null, .null])), (q0, .inl (dA 0, 4, .inl (fun _ => 0)))]) H [] := hH
  refine mk_putF X hin hH (q0 := 0) (ci := 5) (k := 8) (ty := .array .int) rfl (by decide) (by decide +kernel) (Nat.le_of_ble_eq_true rfl) (by decide +kernel) (by decide +kernel) (by decide +kernel) rfl rfl (wAt_mem (pl := 121) (by decide +kernel)) (show decode cX5_init 8 = .ok (.putfield 9, 3) by decide +kernel) (fun H locs hH => ?_)
  have hH : Hw D A s ([(h0, .inr (5, [.int 0, .int 0, .int 0, .int 0, .int 0, .int 0, .int 0, .int 0, .ref q0, .null, .null, .null, .null, .null, .null, .null])), (q0, .inl (dA 0, 4, .inl (fun _ => 0)))]) H locs := hH
  refine lv_aload_n hx hb (show decode cX5_init 11 = .ok (.aload_n 0, 1) by decide +kernel) rfl (lv_at hl 0 rfl) ?_
  refine lv_iconst (v := 4) hx hb (show decode cX5_init 12 = .ok (.iconst 4, 1) by decide +kernel) (by decide +kernel) ?_
  refine mk_arr X hH (n := 4) (N := 4) (by decide) (by decide +kernel) (by omega) (Nat.le_of_ble_eq_true rfl) (Nat.le_of_ble_eq_true rfl) (show decode cX5_init 13 = .ok (.newarray .int, 2) by decide +kernel) (fun q1 H hH => ?_)
  have hH : Hw D A s ([(h0, .inr (5, [.int 0, .int 0, .int 0, .int 0, .int 0, .int 0, .int 0, .int 0, .ref q0, .null, .null, .null, .null, .null, .null, .null])), (q0, .inl (dA 0, 4, .inl (fun _ => 0))), (q1, .inl (dA 0, 4, .inl (fun _ => 0)))]) H locs := hH
  refine mk_putF X hin hH (q0 := 0) (ci := 5) (k := 9) (ty := .array .int) rfl (by decide) (by decide +kernel) (Nat.le_of_ble_eq_true rfl) (by decide +kernel) (by decide +kernel) (by decide +kernel) rfl rfl (wAt_mem (pl := 123) (by decide +kernel)) (show decode cX5_init 15 = .ok (.putfield 15, 3) by decide +kernel) (fun H locs hH => ?_)
  have hH : Hw D A s ([(h0, .inr (5, [.int 0, .int 0, .int 0, .int 0, .int 0, .int 0, .int 0, .int 0, .ref q0, .ref q1, .null, .null, .null, .null, .null, .null])), (q0, .inl (dA 0, 4, .inl (fun _ => 0))), (q1, .inl (dA 0, 4, .inl (fun _ => 0)))]) H locs := hH
  refine lv_aload_n hx hb (show decode cX5_init 18 = .ok (.aload_n 0, 1) by decide +kernel) rfl (lv_at hl 0 rfl) ?_
  refine lv_iconst (v := 4) hx hb (show decode cX5_init 19 = .ok (.iconst 4, 1) by decide +kernel) (by decide +kernel) ?_
  refine mk_arr X hH (n := 4) (N := 4) (by decide) (by decide +kernel) (by omega) (Nat.le_of_ble_eq_true rfl) (Nat.le_of_ble_eq_true rfl) (show decode cX5_init 20 = .ok (.newarray .int, 2) by decide +kernel) (fun q2 H hH => ?_)
  have hH : Hw D A s ([(h0, .inr (5, [.int 0, .int 0, .int 0, .int 0, .int 0, .int 0, .int 0, .int 0, .ref q0, .ref q1, .null, .null, .null, .null, .null, .null])), (q0, .inl (dA 0, 4, .inl (fun _ => 0))), (q1, .inl (dA 0, 4, .inl (fun _ => 0))), (q2, .inl (dA 0, 4, .inl (fun _ => 0)))]) H locs := hH
  refine mk_putF X hin hH (q0 := 0) (ci := 5) (k := 10) (ty := .array .int) rfl (by decide) (by decide +kernel) (Nat.le_of_ble_eq_true rfl) (by decide +kernel) (by decide +kernel) (by decide +kernel) rfl rfl (wAt_mem (pl := 125) (by decide +kernel)) (show decode cX5_init 22 = .ok (.putfield 18, 3) by decide +kernel) (fun H locs hH => ?_)
  have hH : Hw D A s ([(h0, .inr (5, [.int 0, .int 0, .int 0, .int 0, .int 0, .int 0, .int 0, .int 0, .ref q0, .ref q1, .ref q2, .null, .null, .null, .null, .null])), (q0, .inl (dA 0, 4, .inl (fun _ => 0))), (q1, .inl (dA 0, 4, .inl (fun _ => 0))), (q2, .inl (dA 0, 4, .inl (fun _ => 0)))]) H locs := hH
  refine lv_aload_n hx hb (show decode cX5_init 25 = .ok (.aload_n 0, 1) by decide +kernel) rfl (lv_at hl 0 rfl) ?_
  refine lv_bipush (v := 6) hx hb (show decode cX5_init 26 = .ok (.bipush 6, 2) by decide +kernel) (by decide +kernel) ?_
  refine mk_arr X hH (n := 6) (N := 6) (by decide) (by decide +kernel) (by omega) (Nat.le_of_ble_eq_true rfl) (Nat.le_of_ble_eq_true rfl) (show decode cX5_init 28 = .ok (.newarray .int, 2) by decide +kernel) (fun q3 H hH => ?_)
  have hH : Hw D A s ([(h0, .inr (5, [.int 0, .int 0, .int 0, .int 0, .int 0, .int 0, .int 0, .int 0, .ref q0, .ref q1, .ref q2, .null, .null, .null, .null, .null])), (q0, .inl (dA 0, 4, .inl (fun _ => 0))), (q1, .inl (dA 0, 4, .inl (fun _ => 0))), (q2, .inl (dA 0, 4, .inl (fun _ => 0))), (q3, .inl (dA 0, 6, .inl (fun _ => 0)))]) H locs := hH
  refine mk_putF X hin hH (q0 := 0) (ci := 5) (k := 11) (ty := .array .int) rfl (by decide) (by decide +kernel) (Nat.le_of_ble_eq_true rfl) (by decide +kernel) (by decide +kernel) (by decide +kernel) rfl rfl (wAt_mem (pl := 127) (by decide +kernel)) (show decode cX5_init 30 = .ok (.putfield 21, 3) by decide +kernel) (fun H locs hH => ?_)
  have hH : Hw D A s ([(h0, .inr (5, [.int 0, .int 0, .int 0, .int 0, .int 0, .int 0, .int 0, .int 0, .ref q0, .ref q1, .ref q2, .ref q3, .null, .null, .null, .null])), (q0, .inl (dA 0, 4, .inl (fun _ => 0))), (q1, .inl (dA 0, 4, .inl (fun _ => 0))), (q2, .inl (dA 0, 4, .inl (fun _ => 0))), (q3, .inl (dA 0, 6, .inl (fun _ => 0)))]) H locs := hH
  refine lv_aload_n hx hb (show decode cX5_init 33 = .ok (.aload_n 0, 1) by decide +kernel) rfl (lv_at hl 0 rfl) ?_
  refine lv_bipush (v := 6) hx hb (show decode cX5_init 34 = .ok (.bipush 6, 2) by decide +kernel) (by decide +kernel) ?_
  refine mk_arr X hH (n := 6) (N := 6) (by decide) (by decide +kernel) (by omega) (Nat.le_of_ble_eq_true rfl) (Nat.le_of_ble_eq_true rfl) (show decode cX5_init 36 = .ok (.newarray .int, 2) by decide +kernel) (fun q4 H hH => ?_)
  have hH : Hw D A s ([(h0, .inr (5, [.int 0, .int 0, .int 0, .int 0, .int 0, .int 0, .int 0, .int 0, .ref q0, .ref q1, .ref q2, .ref q3, .null, .null, .null, .null])), (q0, .inl (dA 0, 4, .inl (fun _ => 0))), (q1, .inl (dA 0, 4, .inl (fun _ => 0))), (q2, .inl (dA 0, 4, .inl (fun _ => 0))), (q3, .inl (dA 0, 6, .inl (fun _ => 0))), (q4, .inl (dA 0, 6, .inl (fun _ => 0)))]) H locs := hH
  refine mk_putF X hin hH (q0 := 0) (ci := 5) (k := 12) (ty := .array .int) rfl (by decide) (by decide +kernel) (Nat.le_of_ble_eq_true rfl) (by decide +kernel) (by decide +kernel) (by decide +kernel) rfl rfl (wAt_mem (pl := 129) (by decide +kernel)) (show decode cX5_init 38 = .ok (.putfield 24, 3) by decide +kernel) (fun H locs hH => ?_)
  have hH : Hw D A s ([(h0, .inr (5, [.int 0, .int 0, .int 0, .int 0, .int 0, .int 0, .int 0, .int 0, .ref q0, .ref q1, .ref q2, .ref q3, .ref q4, .null, .null, .null])), (q0, .inl (dA 0, 4, .inl (fun _ => 0))), (q1, .inl (dA 0, 4, .inl (fun _ => 0))), (q2, .inl (dA 0, 4, .inl (fun _ => 0))), (q3, .inl (dA 0, 6, .inl (fun _ => 0))), (q4, .inl (dA 0, 6, .inl (fun _ => 0)))]) H locs := hH
  refine lv_aload_n hx hb (show decode cX5_init 41 = .ok (.aload_n 0, 1) by decide +kernel) rfl (lv_at hl 0 rfl) ?_
  refine lv_bipush (v := 6) hx hb (show decode cX5_init 42 = .ok (.bipush 6, 2) by decide +kernel) (by decide +kernel) ?_
  refine mk_arr X hH (n := 6) (N := 6) (by decide) (by decide +kernel) (by omega) (Nat.le_of_ble_eq_true rfl) (Nat.le_of_ble_eq_true rfl) (show decode cX5_init 44 = .ok (.newarray .int, 2) by decide +kernel) (fun q5 H hH => ?_)
  have hH : Hw D A s ([(h0, .inr (5, [.int 0, .int 0, .int 0, .int 0, .int 0, .int 0, .int 0, .int 0, .ref q0, .ref q1, .ref q2, .ref q3, .ref q4, .null, .null, .null])), (q0, .inl (dA 0, 4, .inl (fun _ => 0))), (q1, .inl (dA 0, 4, .inl (fun _ => 0))), (q2, .inl (dA 0, 4, .inl (fun _ => 0))), (q3, .inl (dA 0, 6, .inl (fun _ => 0))), (q4, .inl (dA 0, 6, .inl (fun _ => 0))), (q5, .inl (dA 0, 6, .inl (fun _ => 0)))]) H locs := hH
  refine mk_putF X hin hH (q0 := 0) (ci := 5) (k := 13) (ty := .array .int) rfl (by decide) (by decide +kernel) (Nat.le_of_ble_eq_true rfl) (by decide +kernel) (by decide +kernel) (by decide +kernel) rfl rfl (wAt_mem (pl := 133) (by decide +kernel)) (show decode cX5_init 46 = .ok (.putfield 27, 3) by decide +kernel) (fun H locs hH => ?_)
  have hH : Hw D A s ([(h0, .inr (5, [.int 0, .int 0, .int 0, .int 0, .int 0, .int 0, .int 0, .int 0, .ref q0, .ref q1, .ref q2, .ref q3, .ref q4, .ref q5, .null, .null])), (q0, .inl (dA 0, 4, .inl (fun _ => 0))), (q1, .inl (dA 0, 4, .inl (fun _ => 0))), (q2, .inl (dA 0, 4, .inl (fun _ => 0))), (q3, .inl (dA 0, 6, .inl (fun _ => 0))), (q4, .inl (dA 0, 6, .inl (fun _ => 0))), (q5, .inl (dA 0, 6, .inl (fun _ => 0)))]) H locs := hH
  refine lv_aload_n hx hb (show decode cX5_init 49 = .ok (.aload_n 0, 1) by decide +kernel) rfl (lv_at hl 0 rfl) ?_
  refine lv_bipush (v := 6) hx hb (show decode cX5_init 50 = .ok (.bipush 6, 2) by decide +kernel) (by decide +kernel) ?_
  refine mk_arr X hH (n := 6) (N := 6) (by decide) (by decide +kernel) (by omega) (Nat.le_of_ble_eq_true rfl) (Nat.le_of_ble_eq_true rfl) (show decode cX5_init 52 = .ok (.newarray .int, 2) by decide +kernel) (fun q6 H hH => ?_)
  have hH : Hw D A s ([(h0, .inr (5, [.int 0, .int 0, .int 0, .int 0, .int 0, .int 0, .int 0, .int 0, .ref q0, .ref q1, .ref q2, .ref q3, .ref q4, .ref q5, .null, .null])), (q0, .inl (dA 0, 4, .inl (fun _ => 0))), (q1, .inl (dA 0, 4, .inl (fun _ => 0))), (q2, .inl (dA 0, 4, .inl (fun _ => 0))), (q3, .inl (dA 0, 6, .inl (fun _ => 0))), (q4, .inl (dA 0, 6, .inl (fun _ => 0))), (q5, .inl (dA 0, 6, .inl (fun _ => 0))), (q6, .inl (dA 0, 6, .inl (fun _ => 0)))]) H locs := hH
  refine mk_putF X hin hH (q0 := 0) (ci := 5) (k := 14) (ty := .array .int) rfl (by decide) (by decide +kernel) (Nat.le_of_ble_eq_true rfl) (by decide +kernel) (by decide +kernel) (by decide +kernel) rfl rfl (wAt_mem (pl := 135) (by decide +kernel)) (show decode cX5_init 54 = .ok (.putfield 30, 3) by decide +kernel) (fun H locs hH => ?_)
  have hH : Hw D A s ([(h0, .inr (5, [.int 0, .int 0, .int 0, .int 0, .int 0, .int 0, .int 0, .int 0, .ref q0, .ref q1, .ref q2, .ref q3, .ref q4, .ref q5, .ref q6, .null])), (q0, .inl (dA 0, 4, .inl (fun _ => 0))), (q1, .inl (dA 0, 4, .inl (fun _ => 0))), (q2, .inl (dA 0, 4, .inl (fun _ => 0))), (q3, .inl (dA 0, 6, .inl (fun _ => 0))), (q4, .inl (dA 0, 6, .inl (fun _ => 0))), (q5, .inl (dA 0, 6, .inl (fun _ => 0))), (q6, .inl (dA 0, 6, .inl (fun _ => 0)))]) H locs := hH
  refine lv_aload_n hx hb (show decode cX5_init 57 = .ok (.aload_n 0, 1) by decide +kernel) rfl (lv_at hl 0 rfl) ?_
  refine lv_bipush (v := 6) hx hb (show decode cX5_init 58 = .ok (.bipush 6, 2) by decide +kernel) (by decide +kernel) ?_
  refine mk_arr X hH (n := 6) (N := 6) (by decide) (by decide +kernel) (by omega) (Nat.le_of_ble_eq_true rfl) (Nat.le_of_ble_eq_true rfl) (show decode cX5_init 60 = .ok (.newarray .int, 2) by decide +kernel) (fun q7 H hH => ?_)
  have hH : Hw D A s ([(h0, .inr (5, [.int 0, .int 0, .int 0, .int 0, .int 0, .int 0, .int 0, .int 0, .ref q0, .ref q1, .ref q2, .ref q3, .ref q4, .ref q5, .ref q6, .null])), (q0, .inl (dA 0, 4, .inl (fun _ => 0))), (q1, .inl (dA 0, 4, .inl (fun _ => 0))), (q2, .inl (dA 0, 4, .inl (fun _ => 0))), (q3, .inl (dA 0, 6, .inl (fun _ => 0))), (q4, .inl (dA 0, 6, .inl (fun _ => 0))), (q5, .inl (dA 0, 6, .inl (fun _ => 0))), (q6, .inl (dA 0, 6, .inl (fun _ => 0))), (q7, .inl (dA 0, 6, .inl (fun _ => 0)))]) H locs := hH
  refine mk_putF X hin hH (q0 := 0) (ci := 5) (k := 15) (ty := .array .int) rfl (by decide) (by decide +kernel) (Nat.le_of_ble_eq_true rfl) (by decide +kernel) (by decide +kernel) (by decide +kernel) rfl rfl (wAt_mem (pl := 137) (by decide +kernel)) (show decode cX5_init 62 = .ok (.putfield 33, 3) by decide +kernel) (fun H locs hH => ?_)
  have hH : Hw D A s ([(h0, .inr (5, [.int 0, .int 0, .int 0, .int 0, .int 0, .int 0, .int 0, .int 0, .ref q0, .ref q1, .ref q2, .ref q3, .ref q4, .ref q5, .ref q6, .ref q7])), (q0, .inl (dA 0, 4, .inl (fun _ => 0))), (q1, .inl (dA 0, 4, .inl (fun _ => 0))), (q2, .inl (dA 0, 4, .inl (fun _ => 0))), (q3, .inl (dA 0, 6, .inl (fun _ => 0))), (q4, .inl (dA 0, 6, .inl (fun _ => 0))), (q5, .inl (dA 0, 6, .inl (fun _ => 0))), (q6, .inl (dA 0, 6, .inl (fun _ => 0))), (q7, .inl (dA 0, 6, .inl (fun _ => 0)))]) H locs := hH
  refine lv_aload_n hx hb (show decode cX5_init 65 = .ok (.aload_n 0, 1) by decide +kernel) rfl (lv_at hl 0 rfl) ?_
  have hsh : shOK (worldE 0) = true := by decide +kernel
  have hsem : semZ (worldE 0) (fun _ _ => none) 2 23 [.ref 0] m00 = some (none, mW0) := t_clear (sh := worldE 0) (w := 0) (fun _ _ => none) 0 ⟨rfl, rfl, rfl, rfl, rfl, rfl, rfl, rfl, rfl⟩ m00
  have hmet := met_all (l := l) (sh := worldE 0) (ad := fun k => if k < 1000 then ([h0, q0, q1, q2, q3, q4, q5, q6, q7] : List Nat).getD k 0 else aS k) (dA := dA) (D := D) hsh ck_all (wS := fun _ _ => none) (fun _ _ _ h => by cases h) 2 23 [.ref 0] m00 (none, mW0) hsem
  have hHp : Hp (worldE 0) (fun k => if k < 1000 then ([h0, q0, q1, q2, q3, q4, q5, q6, q7] : List Nat).getD k 0 else aS k) dA D A s m00 H locs := hH
  have X2 : Cx (worldE 0) tb0 (fun k => if k < 1000 then ([h0, q0, q1, q2, q3, q4, q5, q6, q7] : List Nat).getD k 0 else aS k) dA D A 5 1 cX5_init p s m ([Value.ref h0] : List Value).toArray c := ⟨hx, hb, hml, hown, hts, hK, hsh, hSF.O (fun o h => if_neg (by omega)), fun q hq => by
    rcases hq with ⟨k, hk, rfl⟩ | hq
    · obtain ⟨e9, he⟩ : ∃ e9, (worldE 0)[k]? = some e9 := ⟨_, List.getElem?_eq_getElem hk⟩
      exact hHp.2.1.2 k _ (cells_get (sh := worldE 0) (ad := fun k => if k < 1000 then ([h0, q0, q1, q2, q3, q4, q5, q6, q7] : List Nat).getD k 0 else aS k) (dA := dA) (m := m00) he)
    · exact hA q hq⟩
  refine go_V (L := [.ref 0]) (rest := []) (As := []) (o := 0) (fun o T h => h) X2 hmet (by decide) (by decide +kernel) (wAt_mem (pl := 92) (by decide +kernel)) (by decide +kernel) (by decide +kernel) (by decide +kernel) rfl (by decide) (show decode cX5_init 66 = .ok (.invokevirtual 36, 3) by decide +kernel) (Nat.le_of_ble_eq_true rfl) (Nat.le_of_ble_eq_true rfl) (fun ls H locs hl hH => ?_) ls H locs ⟨hl.1, hl.2.1, rfl, fun i v hi hv => ?_⟩ hHp
  · have hP9 : va_P D clsT (gOf (worldE 0) dA mW0 (h0 :: [q0, q1, q2, q3, q4, q5, q6, q7])) H := hH.1
    have hD9 : va_D A (gOf (worldE 0) dA mW0 (h0 :: [q0, q1, q2, q3, q4, q5, q6, q7])) := hH.2.1
    exact W.vret hx hb hr (fun t ht hW => by
      unfold QcI
      rw [hAe]
      exact ⟨⟨[q0, q1, q2, q3, q4, q5, q6, q7], rfl, rfl, by rw [ht]; exact hP9, hD9⟩, hH.2.2.F ht⟩) hH.2.2.2.2 (show decode cX5_init 69 = .ok (.return_, 1) by decide +kernel)
  · match i, hi with
    | 0, hi =>
      cases hi
      exact lv_at hl 0 rfl
    | i + 1, hi => cases hi
set_option maxHeartbeats 4000000 in
set_option maxRecDepth 100000 in
theorem i_X0 (l : Launch) (aS : Nat → Nat) (dA : Nat → ClassId) (D : va_G) : MetI l aS dA D yX0_init cX0_init 1 ({ frames := 5, cells := 13, slots := 80, locals := 160 }) 0 fsX0 13 (gOf imgE0 dA mI0) := by
  intro h0 sz
  refine Met.ofW (cc := cX0_init) (maxL := 1) (ret := none) (by decide) rfl ?_
  intro p e s m args below meth c s₁ B hml hv
  obtain ⟨rfl, hsz, hP, hK, hD0, hNs, hSF⟩ := hv
  subst hsz
  have hx := B.exec
  have hb := B.bytes
  have hr := B.returns
  have hlocks := B.notSynchronized
  have hts0 := atoms_spec (ws := .code yX0_init cX0_init 1 none :: tblG) B.pre
  have hts : ∀ w ∈ tblG, w.before ([Value.ref h0] : List Value).toArray s = true := fun w hw => hts0 w (List.mem_cons_of_mem _ hw)
  have hown : s.vm.findClass (clsN 0) = some m.cls := findClass_of_methodNamed B.named
  have hin : meth.name = "<init>" := (name_of_methodNamed B.named B.method).1
  have hD := hD0.self (sz := s.heap.size)
  generalize hAe : va_A [(h0, .inr (0, fsX0))] s.heap.size = A at hD hSF ⊢
  have hA : ∀ q : Nat, s.heap.size ≤ q → A q := fun q h => by rw [← hAe]; exact Or.inr h
  have X : Ci aS dA D A 0 1 cX0_init p s m ([Value.ref h0] : List Value).toArray c := ⟨hx, hb, hml, hown, hts, hK, hA, hNs, hSF⟩
  have hl := lv_entry ([.ref h0]) (n := 1) (Nat.le_of_ble_eq_true rfl)
  rw [lg_entry_eq]
  generalize (lg_sl ([.ref h0]) ++ List.replicate (1 - (lg_sl ([.ref h0])).length) Slot.unset).toArray = ls at hl ⊢
  have hl : lv_has ls 1 [(0, .ref h0)] := hl
  have hH : Hw D A s [(h0, .inr (0, fsX0))] s.heap [] := ⟨hP, hD, va_S.rf⟩
  refine lv_aload_n hx hb (show decode cX0_init 0 = .ok (.aload_n 0, 1) by decide +kernel) rfl (lv_at hl 0 rfl) ?_
  refine W.objInit hx hb hown (hts (.methodLink (clsN 0) 1 objectInit) (wAt_mem (pl := 249) (by decide +kernel))) (hts _ objI_in.1) (hts _ objI_in.2) rfl (by rw [hml]; exact hl.1) rfl (show decode cX0_init 1 = .ok (.invokespecial 1, 3) by decide +kernel) (Nat.le_of_ble_eq_true rfl) (Nat.le_of_ble_eq_true rfl) ?_
  refine W.eq (g2 := F0 m 4 ls []) rfl ?_
  refine lv_aload_n hx hb (show decode cX0_init 4 = .ok (.aload_n 0, 1) by decide +kernel) rfl (lv_at hl 0 rfl) ?_
  refine mk_new X hl.1 hH (i_X5 l aS dA D) (by decide) ⟨by decide +kernel, by decide +kernel, by decide +kernel⟩ (wAt_mem (pl := 250) (by decide +kernel)) iwX5.1 iwX5.2.1 cwiX5 iwX5.2.2 (Or.inl (wAt_mem (pl := 251) (by decide +kernel))) fsX5_ok ⟨by decide +kernel, by decide +kernel⟩ (Nat.le_of_ble_eq_true rfl) (Nat.le_of_ble_eq_true rfl) (Nat.le_of_ble_eq_true rfl) (Nat.le_of_ble_eq_true rfl) (Nat.le_of_ble_eq_true rfl) (show decode cX0_init 5 = .ok (.new 7, 3) by decide +kernel) (show decode cX0_init 8 = .ok (.dup, 1) by decide +kernel) (show decode cX0_init 9 = .ok (.invokespecial 9, 3) by decide +kernel) (fun q0 u H locs hu hH => ?_)
  obtain ⟨q0_0, q0_1, q0_2, q0_3, q0_4, q0_5, q0_6, q0_7, rfl⟩ := len_8 hu
  have hH : Hw D A s ([(h0, .inr (0, [.int 0, .null, .null])), (q0, .inr (5, [.int (mW0.1 0 0), .int (mW0.1 0 1), .int (mW0.1 0 2), .int (mW0.1 0 3), .int (mW0.1 0 4), .int (mW0.1 0 5), .int (mW0.1 0 6), .int (mW0.1 0 7), .ref q0_0, .ref q0_1, .ref q0_2, .ref q0_3, .ref q0_4, .ref q0_5, .ref q0_6, .ref q0_7])), (q0_0, .inl (dA 0, 4, .inl (mW0.1 1))), (q0_1, .inl (dA 0, 4, .inl (mW0.1 2))), (q0_2, .inl (dA 0, 4, .inl (mW0.1 3))), (q0_3, .inl (dA 0, 6, .inl (mW0.1 4))), (q0_4, .inl (dA 0, 6, .inl (mW0.1 5))), (q0_5, .inl (dA 0, 6, .inl (mW0.1 6))), (q0_6, .inl (dA 0, 6, .inl (mW0.1 7))), (q0_7, .inl (dA 0, 6, .inl (mW0.1 8)))]) H locs := hH
  refine mk_putF X hin hH (q0 := 0) (ci := 0) (k := 1) (ty := .object "ProofFine$World") rfl (by decide) (by decide +kernel) (Nat.le_of_ble_eq_true rfl) (by decide +kernel) (by decide +kernel) (by decide +kernel) rfl rfl (wAt_mem (pl := 255) (by decide +kernel)) (show decode cX0_init 12 = .ok (.putfield 10, 3) by decide +kernel) (fun H locs hH => ?_)
  have hH : Hw D A s ([(h0, .inr (0, [.int 0, .ref q0, .null])), (q0, .inr (5, [.int (mW0.1 0 0), .int (mW0.1 0 1), .int (mW0.1 0 2), .int (mW0.1 0 3), .int (mW0.1 0 4), .int (mW0.1 0 5), .int (mW0.1 0 6), .int (mW0.1 0 7), .ref q0_0, .ref q0_1, .ref q0_2, .ref q0_3, .ref q0_4, .ref q0_5, .ref q0_6, .ref q0_7])), (q0_0, .inl (dA 0, 4, .inl (mW0.1 1))), (q0_1, .inl (dA 0, 4, .inl (mW0.1 2))), (q0_2, .inl (dA 0, 4, .inl (mW0.1 3))), (q0_3, .inl (dA 0, 6, .inl (mW0.1 4))), (q0_4, .inl (dA 0, 6, .inl (mW0.1 5))), (q0_5, .inl (dA 0, 6, .inl (mW0.1 6))), (q0_6, .inl (dA 0, 6, .inl (mW0.1 7))), (q0_7, .inl (dA 0, 6, .inl (mW0.1 8)))]) H locs := hH
  refine lv_aload_n hx hb (show decode cX0_init 15 = .ok (.aload_n 0, 1) by decide +kernel) rfl (lv_at hl 0 rfl) ?_
  refine mk_new X hl.1 hH (i_X2 l aS dA D) (by decide) ⟨by decide +kernel, by decide +kernel, by decide +kernel⟩ (wAt_mem (pl := 252) (by decide +kernel)) iwX2.1 iwX2.2.1 cwiX2 iwX2.2.2 (Or.inr (hNs.1 _ (List.mem_of_getElem? (i := 4) rfl))) fsX2_ok ⟨by decide +kernel, by decide +kernel⟩ (Nat.le_of_ble_eq_true rfl) (Nat.le_of_ble_eq_true rfl) (Nat.le_of_ble_eq_true rfl) (Nat.le_of_ble_eq_true rfl) (Nat.le_of_ble_eq_true rfl) (show decode cX0_init 16 = .ok (.new 16, 3) by decide +kernel) (show decode cX0_init 19 = .ok (.dup, 1) by decide +kernel) (show decode cX0_init 20 = .ok (.invokespecial 18, 3) by decide +kernel) (fun q1 u H locs hu hH => ?_)
  obtain ⟨q1_0, q1_1, q1_2, rfl⟩ := len_3 hu
  have hH : Hw D A s ([(h0, .inr (0, [.int 0, .ref q0, .null])), (q0, .inr (5, [.int (mW0.1 0 0), .int (mW0.1 0 1), .int (mW0.1 0 2), .int (mW0.1 0 3), .int (mW0.1 0 4), .int (mW0.1 0 5), .int (mW0.1 0 6), .int (mW0.1 0 7), .ref q0_0, .ref q0_1, .ref q0_2, .ref q0_3, .ref q0_4, .ref q0_5, .ref q0_6, .ref q0_7])), (q0_0, .inl (dA 0, 4, .inl (mW0.1 1))), (q0_1, .inl (dA 0, 4, .inl (mW0.1 2))), (q0_2, .inl (dA 0, 4, .inl (mW0.1 3))), (q0_3, .inl (dA 0, 6, .inl (mW0.1 4))), (q0_4, .inl (dA 0, 6, .inl (mW0.1 5))), (q0_5, .inl (dA 0, 6, .inl (mW0.1 6))), (q0_6, .inl (dA 0, 6, .inl (mW0.1 7))), (q0_7, .inl (dA 0, 6, .inl (mW0.1 8))), (q1, .inr (2, [.int 0, .ref q1_0, .ref q1_1, .ref q1_2])), (q1_0, .inl (dA 0, 6, .inl (fun _ => 0))), (q1_1, .inl (dA 0, 6, .inl (fun _ => 0))), (q1_2, .inl (dA 0, 6, .inl (fun _ => 0)))]) H locs := hH
  refine mk_putF X hin hH (q0 := 0) (ci := 0) (k := 2) (ty := .object "ProofFine$Sightings") rfl (by decide) (by decide +kernel) (Nat.le_of_ble_eq_true rfl) (by decide +kernel) (by decide +kernel) (by decide +kernel) rfl rfl (wAt_mem (pl := 257) (by decide +kernel)) (show decode cX0_init 23 = .ok (.putfield 19, 3) by decide +kernel) (fun H locs hH => ?_)
  have hH : Hw D A s ([(h0, .inr (0, [.int 0, .ref q0, .ref q1])), (q0, .inr (5, [.int (mW0.1 0 0), .int (mW0.1 0 1), .int (mW0.1 0 2), .int (mW0.1 0 3), .int (mW0.1 0 4), .int (mW0.1 0 5), .int (mW0.1 0 6), .int (mW0.1 0 7), .ref q0_0, .ref q0_1, .ref q0_2, .ref q0_3, .ref q0_4, .ref q0_5, .ref q0_6, .ref q0_7])), (q0_0, .inl (dA 0, 4, .inl (mW0.1 1))), (q0_1, .inl (dA 0, 4, .inl (mW0.1 2))), (q0_2, .inl (dA 0, 4, .inl (mW0.1 3))), (q0_3, .inl (dA 0, 6, .inl (mW0.1 4))), (q0_4, .inl (dA 0, 6, .inl (mW0.1 5))), (q0_5, .inl (dA 0, 6, .inl (mW0.1 6))), (q0_6, .inl (dA 0, 6, .inl (mW0.1 7))), (q0_7, .inl (dA 0, 6, .inl (mW0.1 8))), (q1, .inr (2, [.int 0, .ref q1_0, .ref q1_1, .ref q1_2])), (q1_0, .inl (dA 0, 6, .inl (fun _ => 0))), (q1_1, .inl (dA 0, 6, .inl (fun _ => 0))), (q1_2, .inl (dA 0, 6, .inl (fun _ => 0)))]) H locs := hH
  have hP9 : va_P D clsT (gOf imgE0 dA mI0 (h0 :: [q0, q0_0, q0_1, q0_2, q0_3, q0_4, q0_5, q0_6, q0_7, q1, q1_0, q1_1, q1_2])) H := hH.1
  have hD9 : va_D A (gOf imgE0 dA mI0 (h0 :: [q0, q0_0, q0_1, q0_2, q0_3, q0_4, q0_5, q0_6, q0_7, q1, q1_0, q1_1, q1_2])) := hH.2.1
  exact W.vret hx hb hr (fun t ht hW => by
    unfold QcI
    rw [hAe]
    exact ⟨⟨[q0, q0_0, q0_1, q0_2, q0_3, q0_4, q0_5, q0_6, q0_7, q1, q1_0, q1_1, q1_2], rfl, rfl, by rw [ht]; exact hP9, hD9⟩, hH.2.2.F ht⟩) hH.2.2.2.2 (show decode cX0_init 26 = .ok (.return_, 1) by decide +kernel)
end
section
/-! THE CONSTRUCTORS, walked: written by wip/gen/init.py -/
set_option maxHeartbeats 4000000 in
set_option maxRecDepth 100000 in
theorem i_X7 (l : Launch) (aS : Nat → Nat) (dA : Nat → ClassId) (D : va_G) : MetI l aS dA D yX7_init cX7_init 2 ({ frames := 2, cells := 12, slots := 812, locals := 60 }) 7 fsX7 12 (gOf (modelE 0) dA mM0) := by
  intro h0 sz
  refine Met.ofW (cc := cX7_init) (maxL := 2) (ret := none) (by decide) rfl ?_
  intro p e s m args below meth c s₁ B hml hv
  obtain ⟨rfl, hsz, hP, hK, hD0, hNs, hSF⟩ := hv
  subst hsz
  have hx := B.exec
  have hb := B.bytes
  have hr := B.returns
  have hlocks := B.notSynchronized
  have hts0 := atoms_spec (ws := .code yX7_init cX7_init 2 none :: tblG) B.pre
  have hts : ∀ w ∈ tblG, w.before ([Value.ref h0] : List Value).toArray s = true := fun w hw => hts0 w (List.mem_cons_of_mem _ hw)
  have hown : s.vm.findClass (clsN 7) = some m.cls := findClass_of_methodNamed B.named
  have hin : meth.name = "<init>" := (name_of_methodNamed B.named B.method).1
  have hD := hD0.self (sz := s.heap.size)
  generalize hAe : va_A [(h0, .inr (7, fsX7))] s.heap.size = A at hD hSF ⊢
  have hA : ∀ q : Nat, s.heap.size ≤ q → A q := fun q h => by rw [← hAe]; exact Or.inr h
  have X : Ci aS dA D A 7 2 cX7_init p s m ([Value.ref h0] : List Value).toArray c := ⟨hx, hb, hml, hown, hts, hK, hA, hNs, hSF⟩
  have hl := lv_entry ([.ref h0]) (n := 2) (Nat.le_of_ble_eq_true rfl)
  rw [lg_entry_eq]
  generalize (lg_sl ([.ref h0]) ++ List.replicate (2 - (lg_sl ([.ref h0])).length) Slot.unset).toArray = ls at hl ⊢
  have hl : lv_has ls 2 [(0, .ref h0)] := hl
  have hH : Hw D A s [(h0, .inr (7, fsX7))] s.heap [] := ⟨hP, hD, va_S.rf⟩
  refine lv_aload_n hx hb (show decode cX7_init 0 = .ok (.aload_n 0, 1) by decide +kernel) rfl (lv_at hl 0 rfl) ?_
  refine W.objInit hx hb hown (hts (.methodLink (clsN 7) 1 objectInit) (wAt_mem (pl := 793) (by decide +kernel))) (hts _ objI_in.1) (hts _ objI_in.2) rfl (by rw [hml]; exact hl.1) rfl (show decode cX7_init 1 = .ok (.invokespecial 1, 3) by decide +kernel) (Nat.le_of_ble_eq_true rfl) (Nat.le_of_ble_eq_true rfl) ?_
  refine W.eq (g2 := F0 m 4 ls []) rfl ?_
  refine lv_aload_n hx hb (show decode cX7_init 4 = .ok (.aload_n 0, 1) by decide +kernel) rfl (lv_at hl 0 rfl) ?_
  refine lv_sipush (v := 189) hx hb (show decode cX7_init 5 = .ok (.sipush 189, 3) by decide +kernel) (by decide +kernel) ?_
  refine mk_arr X hH (n := 189) (N := 189) (by decide) (by decide +kernel) (by omega) (Nat.le_of_ble_eq_true rfl) (Nat.le_of_ble_eq_true rfl) (show decode cX7_init 8 = .ok (.newarray .int, 2) by decide +kernel) (fun q0 H hH => ?_)
  have hH : Hw D A s ([(h0, .inr (7, [.null, .null, .null, .int 0, .null, .int 0, .int 0, .int 0, .null, .int 0, .int 0, .int 0, .int 0, .int 0, .int 0, .int 0, .null, .int 0, .int 0, .long 0, .long 0, .long 0, .null, .null, .null, .null, .null, .int 0, .null])), (q0, .inl (dA 0, 189, .inl (fun _ => 0)))]) H [] := hH
  refine mk_putF X hin hH (q0 := 0) (ci := 7) (k := 0) (ty := .array .int) rfl (by decide) (by decide +kernel) (Nat.le_of_ble_eq_true rfl) (by decide +kernel) (by decide +kernel) (by decide +kernel) rfl rfl (wAt_mem (pl := 802) (by decide +kernel)) (show decode cX7_init 10 = .ok (.putfield 7, 3) by decide +kernel) (fun H locs hH => ?_)
  have hH : Hw D A s ([(h0, .inr (7, [.ref q0, .null, .null, .int 0, .null, .int 0, .int 0, .int 0, .null, .int 0, .int 0, .int 0, .int 0, .int 0, .int 0, .int 0, .null, .int 0, .int 0, .long 0, .long 0, .long 0, .null, .null, .null, .null, .null, .int 0, .null])), (q0, .inl (dA 0, 189, .inl (fun _ => 0)))]) H locs := hH
  refine lv_aload_n hx hb (show decode cX7_init 13 = .ok (.aload_n 0, 1) by decide +kernel) rfl (lv_at hl 0 rfl) ?_
  refine lv_bipush (v := 63) hx hb (show decode cX7_init 14 = .ok (.bipush 63, 2) by decide +kernel) (by decide +kernel) ?_
  refine mk_arr X hH (n := 63) (N := 63) (by decide) (by decide +kernel) (by omega) (Nat.le_of_ble_eq_true rfl) (Nat.le_of_ble_eq_true rfl) (show decode cX7_init 16 = .ok (.newarray .int, 2) by decide +kernel) (fun q1 H hH => ?_)
  have hH : Hw D A s ([(h0, .inr (7, [.ref q0, .null, .null, .int 0, .null, .int 0, .int 0, .int 0, .null, .int 0, .int 0, .int 0, .int 0, .int 0, .int 0, .int 0, .null, .int 0, .int 0, .long 0, .long 0, .long 0, .null, .null, .null, .null, .null, .int 0, .null])), (q0, .inl (dA 0, 189, .inl (fun _ => 0))), (q1, .inl (dA 0, 63, .inl (fun _ => 0)))]) H locs := hH
  refine mk_putF X hin hH (q0 := 0) (ci := 7) (k := 1) (ty := .array .int) rfl (by decide) (by decide +kernel) (Nat.le_of_ble_eq_true rfl) (by decide +kernel) (by decide +kernel) (by decide +kernel) rfl rfl (wAt_mem (pl := 803) (by decide +kernel)) (show decode cX7_init 18 = .ok (.putfield 13, 3) by decide +kernel) (fun H locs hH => ?_)
  have hH : Hw D A s ([(h0, .inr (7, [.ref q0, .ref q1, .null, .int 0, .null, .int 0, .int 0, .int 0, .null, .int 0, .int 0, .int 0, .int 0, .int 0, .int 0, .int 0, .null, .int 0, .int 0, .long 0, .long 0, .long 0, .null, .null, .null, .null, .null, .int 0, .null])), (q0, .inl (dA 0, 189, .inl (fun _ => 0))), (q1, .inl (dA 0, 63, .inl (fun _ => 0)))]) H locs := hH
  refine lv_aload_n hx hb (show decode cX7_init 21 = .ok (.aload_n 0, 1) by decide +kernel) rfl (lv_at hl 0 rfl) ?_
  refine lv_iconst (v := 2) hx hb (show decode cX7_init 22 = .ok (.iconst 2, 1) by decide +kernel) (by decide +kernel) ?_
  refine mk_arz X hH (n := 2) (N := 2) (by decide) (by decide +kernel) (by omega) (Nat.le_of_ble_eq_true rfl) (Nat.le_of_ble_eq_true rfl) (show decode cX7_init 23 = .ok (.newarray .boolean, 2) by decide +kernel) (fun q2 H hH => ?_)
  have hH : Hw D A s ([(h0, .inr (7, [.ref q0, .ref q1, .null, .int 0, .null, .int 0, .int 0, .int 0, .null, .int 0, .int 0, .int 0, .int 0, .int 0, .int 0, .int 0, .null, .int 0, .int 0, .long 0, .long 0, .long 0, .null, .null, .null, .null, .null, .int 0, .null])), (q0, .inl (dA 0, 189, .inl (fun _ => 0))), (q1, .inl (dA 0, 63, .inl (fun _ => 0))), (q2, .inl (dA 1, 2, .inl (fun _ => 0)))]) H locs := hH
  refine mk_putF X hin hH (q0 := 0) (ci := 7) (k := 2) (ty := .array .boolean) rfl (by decide) (by decide +kernel) (Nat.le_of_ble_eq_true rfl) (by decide +kernel) (by decide +kernel) (by decide +kernel) rfl rfl (wAt_mem (pl := 804) (by decide +kernel)) (show decode cX7_init 25 = .ok (.putfield 16, 3) by decide +kernel) (fun H locs hH => ?_)
  have hH : Hw D A s ([(h0, .inr (7, [.ref q0, .ref q1, .ref q2, .int 0, .null, .int 0, .int 0, .int 0, .null, .int 0, .int 0, .int 0, .int 0, .int 0, .int 0, .int 0, .null, .int 0, .int 0, .long 0, .long 0, .long 0, .null, .null, .null, .null, .null, .int 0, .null])), (q0, .inl (dA 0, 189, .inl (fun _ => 0))), (q1, .inl (dA 0, 63, .inl (fun _ => 0))), (q2, .inl (dA 1, 2, .inl (fun _ => 0)))]) H locs := hH
  refine lv_aload_n hx hb (show decode cX7_init 28 = .ok (.aload_n 0, 1) by decide +kernel) rfl (lv_at hl 0 rfl) ?_
  refine lv_bipush (v := 63) hx hb (show decode cX7_init 29 = .ok (.bipush 63, 2) by decide +kernel) (by decide +kernel) ?_
  refine mk_arr X hH (n := 63) (N := 63) (by decide) (by decide +kernel) (by omega) (Nat.le_of_ble_eq_true rfl) (Nat.le_of_ble_eq_true rfl) (show decode cX7_init 31 = .ok (.newarray .int, 2) by decide +kernel) (fun q3 H hH => ?_)
  have hH : Hw D A s ([(h0, .inr (7, [.ref q0, .ref q1, .ref q2, .int 0, .null, .int 0, .int 0, .int 0, .null, .int 0, .int 0, .int 0, .int 0, .int 0, .int 0, .int 0, .null, .int 0, .int 0, .long 0, .long 0, .long 0, .null, .null, .null, .null, .null, .int 0, .null])), (q0, .inl (dA 0, 189, .inl (fun _ => 0))), (q1, .inl (dA 0, 63, .inl (fun _ => 0))), (q2, .inl (dA 1, 2, .inl (fun _ => 0))), (q3, .inl (dA 0, 63, .inl (fun _ => 0)))]) H locs := hH
  refine mk_putF X hin hH (q0 := 0) (ci := 7) (k := 4) (ty := .array .int) rfl (by decide) (by decide +kernel) (Nat.le_of_ble_eq_true rfl) (by decide +kernel) (by decide +kernel) (by decide +kernel) rfl rfl (wAt_mem (pl := 806) (by decide +kernel)) (show decode cX7_init 33 = .ok (.putfield 20, 3) by decide +kernel) (fun H locs hH => ?_)
  have hH : Hw D A s ([(h0, .inr (7, [.ref q0, .ref q1, .ref q2, .int 0, .ref q3, .int 0, .int 0, .int 0, .null, .int 0, .int 0, .int 0, .int 0, .int 0, .int 0, .int 0, .null, .int 0, .int 0, .long 0, .long 0, .long 0, .null, .null, .null, .null, .null, .int 0, .null])), (q0, .inl (dA 0, 189, .inl (fun _ => 0))), (q1, .inl (dA 0, 63, .inl (fun _ => 0))), (q2, .inl (dA 1, 2, .inl (fun _ => 0))), (q3, .inl (dA 0, 63, .inl (fun _ => 0)))]) H locs := hH
  refine lv_aload_n hx hb (show decode cX7_init 36 = .ok (.aload_n 0, 1) by decide +kernel) rfl (lv_at hl 0 rfl) ?_
  refine lv_sipush (v := 160) hx hb (show decode cX7_init 37 = .ok (.sipush 160, 3) by decide +kernel) (by decide +kernel) ?_
  refine mk_arr X hH (n := 160) (N := 160) (by decide) (by decide +kernel) (by omega) (Nat.le_of_ble_eq_true rfl) (Nat.le_of_ble_eq_true rfl) (show decode cX7_init 40 = .ok (.newarray .int, 2) by decide +kernel) (fun q4 H hH => ?_)
  have hH : Hw D A s ([(h0, .inr (7, [.ref q0, .ref q1, .ref q2, .int 0, .ref q3, .int 0, .int 0, .int 0, .null, .int 0, .int 0, .int 0, .int 0, .int 0, .int 0, .int 0, .null, .int 0, .int 0, .long 0, .long 0, .long 0, .null, .null, .null, .null, .null, .int 0, .null])), (q0, .inl (dA 0, 189, .inl (fun _ => 0))), (q1, .inl (dA 0, 63, .inl (fun _ => 0))), (q2, .inl (dA 1, 2, .inl (fun _ => 0))), (q3, .inl (dA 0, 63, .inl (fun _ => 0))), (q4, .inl (dA 0, 160, .inl (fun _ => 0)))]) H locs := hH
  refine mk_putF X hin hH (q0 := 0) (ci := 7) (k := 8) (ty := .array .int) rfl (by decide) (by decide +kernel) (Nat.le_of_ble_eq_true rfl) (by decide +kernel) (by decide +kernel) (by decide +kernel) rfl rfl (wAt_mem (pl := 810) (by decide +kernel)) (show decode cX7_init 42 = .ok (.putfield 23, 3) by decide +kernel) (fun H locs hH => ?_)
  have hH : Hw D A s ([(h0, .inr (7, [.ref q0, .ref q1, .ref q2, .int 0, .ref q3, .int 0, .int 0, .int 0, .ref q4, .int 0, .int 0, .int 0, .int 0, .int 0, .int 0, .int 0, .null, .int 0, .int 0, .long 0, .long 0, .long 0, .null, .null, .null, .null, .null, .int 0, .null])), (q0, .inl (dA 0, 189, .inl (fun _ => 0))), (q1, .inl (dA 0, 63, .inl (fun _ => 0))), (q2, .inl (dA 1, 2, .inl (fun _ => 0))), (q3, .inl (dA 0, 63, .inl (fun _ => 0))), (q4, .inl (dA 0, 160, .inl (fun _ => 0)))]) H locs := hH
  refine lv_aload_n hx hb (show decode cX7_init 45 = .ok (.aload_n 0, 1) by decide +kernel) rfl (lv_at hl 0 rfl) ?_
  refine lv_iconst (v := 4) hx hb (show decode cX7_init 46 = .ok (.iconst 4, 1) by decide +kernel) (by decide +kernel) ?_
  refine mk_arr X hH (n := 4) (N := 4) (by decide) (by decide +kernel) (by omega) (Nat.le_of_ble_eq_true rfl) (Nat.le_of_ble_eq_true rfl) (show decode cX7_init 47 = .ok (.newarray .int, 2) by decide +kernel) (fun q5 H hH => ?_)
  have hH : Hw D A s ([(h0, .inr (7, [.ref q0, .ref q1, .ref q2, .int 0, .ref q3, .int 0, .int 0, .int 0, .ref q4, .int 0, .int 0, .int 0, .int 0, .int 0, .int 0, .int 0, .null, .int 0, .int 0, .long 0, .long 0, .long 0, .null, .null, .null, .null, .null, .int 0, .null])), (q0, .inl (dA 0, 189, .inl (fun _ => 0))), (q1, .inl (dA 0, 63, .inl (fun _ => 0))), (q2, .inl (dA 1, 2, .inl (fun _ => 0))), (q3, .inl (dA 0, 63, .inl (fun _ => 0))), (q4, .inl (dA 0, 160, .inl (fun _ => 0))), (q5, .inl (dA 0, 4, .inl (fun _ => 0)))]) H locs := hH
  refine mk_putF X hin hH (q0 := 0) (ci := 7) (k := 16) (ty := .array .int) rfl (by decide) (by decide +kernel) (Nat.le_of_ble_eq_true rfl) (by decide +kernel) (by decide +kernel) (by decide +kernel) rfl rfl (wAt_mem (pl := 818) (by decide +kernel)) (show decode cX7_init 49 = .ok (.putfield 26, 3) by decide +kernel) (fun H locs hH => ?_)
  have hH : Hw D A s ([(h0, .inr (7, [.ref q0, .ref q1, .ref q2, .int 0, .ref q3, .int 0, .int 0, .int 0, .ref q4, .int 0, .int 0, .int 0, .int 0, .int 0, .int 0, .int 0, .ref q5, .int 0, .int 0, .long 0, .long 0, .long 0, .null, .null, .null, .null, .null, .int 0, .null])), (q0, .inl (dA 0, 189, .inl (fun _ => 0))), (q1, .inl (dA 0, 63, .inl (fun _ => 0))), (q2, .inl (dA 1, 2, .inl (fun _ => 0))), (q3, .inl (dA 0, 63, .inl (fun _ => 0))), (q4, .inl (dA 0, 160, .inl (fun _ => 0))), (q5, .inl (dA 0, 4, .inl (fun _ => 0)))]) H locs := hH
  refine lv_aload_n hx hb (show decode cX7_init 52 = .ok (.aload_n 0, 1) by decide +kernel) rfl (lv_at hl 0 rfl) ?_
  refine lv_bipush (v := 60) hx hb (show decode cX7_init 53 = .ok (.bipush 60, 2) by decide +kernel) (by decide +kernel) ?_
  refine mk_arr X hH (n := 60) (N := 60) (by decide) (by decide +kernel) (by omega) (Nat.le_of_ble_eq_true rfl) (Nat.le_of_ble_eq_true rfl) (show decode cX7_init 55 = .ok (.newarray .int, 2) by decide +kernel) (fun q6 H hH => ?_)
  have hH : Hw D A s ([(h0, .inr (7, [.ref q0, .ref q1, .ref q2, .int 0, .ref q3, .int 0, .int 0, .int 0, .ref q4, .int 0, .int 0, .int 0, .int 0, .int 0, .int 0, .int 0, .ref q5, .int 0, .int 0, .long 0, .long 0, .long 0, .null, .null, .null, .null, .null, .int 0, .null])), (q0, .inl (dA 0, 189, .inl (fun _ => 0))), (q1, .inl (dA 0, 63, .inl (fun _ => 0))), (q2, .inl (dA 1, 2, .inl (fun _ => 0))), (q3, .inl (dA 0, 63, .inl (fun _ => 0))), (q4, .inl (dA 0, 160, .inl (fun _ => 0))), (q5, .inl (dA 0, 4, .inl (fun _ => 0))), (q6, .inl (dA 0, 60, .inl (fun _ => 0)))]) H locs := hH
  refine mk_putF X hin hH (q0 := 0) (ci := 7) (k := 22) (ty := .array .int) rfl (by decide) (by decide +kernel) (Nat.le_of_ble_eq_true rfl) (by decide +kernel) (by decide +kernel) (by decide +kernel) rfl rfl (wAt_mem (pl := 824) (by decide +kernel)) (show decode cX7_init 57 = .ok (.putfield 29, 3) by decide +kernel) (fun H locs hH => ?_)
  have hH : Hw D A s ([(h0, .inr (7, [.ref q0, .ref q1, .ref q2, .int 0, .ref q3, .int 0, .int 0, .int 0, .ref q4, .int 0, .int 0, .int 0, .int 0, .int 0, .int 0, .int 0, .ref q5, .int 0, .int 0, .long 0, .long 0, .long 0, .ref q6, .null, .null, .null, .null, .int 0, .null])), (q0, .inl (dA 0, 189, .inl (fun _ => 0))), (q1, .inl (dA 0, 63, .inl (fun _ => 0))), (q2, .inl (dA 1, 2, .inl (fun _ => 0))), (q3, .inl (dA 0, 63, .inl (fun _ => 0))), (q4, .inl (dA 0, 160, .inl (fun _ => 0))), (q5, .inl (dA 0, 4, .inl (fun _ => 0))), (q6, .inl (dA 0, 60, .inl (fun _ => 0)))]) H locs := hH
  refine lv_aload_n hx hb (show decode cX7_init 60 = .ok (.aload_n 0, 1) by decide +kernel) rfl (lv_at hl 0 rfl) ?_
  refine lv_bipush (v := 40) hx hb (show decode cX7_init 61 = .ok (.bipush 40, 2) by decide +kernel) (by decide +kernel) ?_
  refine mk_arr X hH (n := 40) (N := 40) (by decide) (by decide +kernel) (by omega) (Nat.le_of_ble_eq_true rfl) (Nat.le_of_ble_eq_true rfl) (show decode cX7_init 63 = .ok (.newarray .int, 2) by decide +kernel) (fun q7 H hH => ?_)
  have hH : Hw D A s ([(h0, .inr (7, [.ref q0, .ref q1, .ref q2, .int 0, .ref q3, .int 0, .int 0, .int 0, .ref q4, .int 0, .int 0, .int 0, .int 0, .int 0, .int 0, .int 0, .ref q5, .int 0, .int 0, .long 0, .long 0, .long 0, .ref q6, .null, .null, .null, .null, .int 0, .null])), (q0, .inl (dA 0, 189, .inl (fun _ => 0))), (q1, .inl (dA 0, 63, .inl (fun _ => 0))), (q2, .inl (dA 1, 2, .inl (fun _ => 0))), (q3, .inl (dA 0, 63, .inl (fun _ => 0))), (q4, .inl (dA 0, 160, .inl (fun _ => 0))), (q5, .inl (dA 0, 4, .inl (fun _ => 0))), (q6, .inl (dA 0, 60, .inl (fun _ => 0))), (q7, .inl (dA 0, 40, .inl (fun _ => 0)))]) H locs := hH
  refine mk_putF X hin hH (q0 := 0) (ci := 7) (k := 23) (ty := .array .int) rfl (by decide) (by decide +kernel) (Nat.le_of_ble_eq_true rfl) (by decide +kernel) (by decide +kernel) (by decide +kernel) rfl rfl (wAt_mem (pl := 825) (by decide +kernel)) (show decode cX7_init 65 = .ok (.putfield 32, 3) by decide +kernel) (fun H locs hH => ?_)
  have hH : Hw D A s ([(h0, .inr (7, [.ref q0, .ref q1, .ref q2, .int 0, .ref q3, .int 0, .int 0, .int 0, .ref q4, .int 0, .int 0, .int 0, .int 0, .int 0, .int 0, .int 0, .ref q5, .int 0, .int 0, .long 0, .long 0, .long 0, .ref q6, .ref q7, .null, .null, .null, .int 0, .null])), (q0, .inl (dA 0, 189, .inl (fun _ => 0))), (q1, .inl (dA 0, 63, .inl (fun _ => 0))), (q2, .inl (dA 1, 2, .inl (fun _ => 0))), (q3, .inl (dA 0, 63, .inl (fun _ => 0))), (q4, .inl (dA 0, 160, .inl (fun _ => 0))), (q5, .inl (dA 0, 4, .inl (fun _ => 0))), (q6, .inl (dA 0, 60, .inl (fun _ => 0))), (q7, .inl (dA 0, 40, .inl (fun _ => 0)))]) H locs := hH
  refine lv_aload_n hx hb (show decode cX7_init 68 = .ok (.aload_n 0, 1) by decide +kernel) rfl (lv_at hl 0 rfl) ?_
  refine lv_iconst (v := 4) hx hb (show decode cX7_init 69 = .ok (.iconst 4, 1) by decide +kernel) (by decide +kernel) ?_
  refine mk_arr X hH (n := 4) (N := 4) (by decide) (by decide +kernel) (by omega) (Nat.le_of_ble_eq_true rfl) (Nat.le_of_ble_eq_true rfl) (show decode cX7_init 70 = .ok (.newarray .int, 2) by decide +kernel) (fun q8 H hH => ?_)
  have hH : Hw D A s ([(h0, .inr (7, [.ref q0, .ref q1, .ref q2, .int 0, .ref q3, .int 0, .int 0, .int 0, .ref q4, .int 0, .int 0, .int 0, .int 0, .int 0, .int 0, .int 0, .ref q5, .int 0, .int 0, .long 0, .long 0, .long 0, .ref q6, .ref q7, .null, .null, .null, .int 0, .null])), (q0, .inl (dA 0, 189, .inl (fun _ => 0))), (q1, .inl (dA 0, 63, .inl (fun _ => 0))), (q2, .inl (dA 1, 2, .inl (fun _ => 0))), (q3, .inl (dA 0, 63, .inl (fun _ => 0))), (q4, .inl (dA 0, 160, .inl (fun _ => 0))), (q5, .inl (dA 0, 4, .inl (fun _ => 0))), (q6, .inl (dA 0, 60, .inl (fun _ => 0))), (q7, .inl (dA 0, 40, .inl (fun _ => 0))), (q8, .inl (dA 0, 4, .inl (fun _ => 0)))]) H locs := hH
  refine mk_putF X hin hH (q0 := 0) (ci := 7) (k := 24) (ty := .array .int) rfl (by decide) (by decide +kernel) (Nat.le_of_ble_eq_true rfl) (by decide +kernel) (by decide +kernel) (by decide +kernel) rfl rfl (wAt_mem (pl := 826) (by decide +kernel)) (show decode cX7_init 72 = .ok (.putfield 35, 3) by decide +kernel) (fun H locs hH => ?_)
  have hH : Hw D A s ([(h0, .inr (7, [.ref q0, .ref q1, .ref q2, .int 0, .ref q3, .int 0, .int 0, .int 0, .ref q4, .int 0, .int 0, .int 0, .int 0, .int 0, .int 0, .int 0, .ref q5, .int 0, .int 0, .long 0, .long 0, .long 0, .ref q6, .ref q7, .ref q8, .null, .null, .int 0, .null])), (q0, .inl (dA 0, 189, .inl (fun _ => 0))), (q1, .inl (dA 0, 63, .inl (fun _ => 0))), (q2, .inl (dA 1, 2, .inl (fun _ => 0))), (q3, .inl (dA 0, 63, .inl (fun _ => 0))), (q4, .inl (dA 0, 160, .inl (fun _ => 0))), (q5, .inl (dA 0, 4, .inl (fun _ => 0))), (q6, .inl (dA 0, 60, .inl (fun _ => 0))), (q7, .inl (dA 0, 40, .inl (fun _ => 0))), (q8, .inl (dA 0, 4, .inl (fun _ => 0)))]) H locs := hH
  refine lv_aload_n hx hb (show decode cX7_init 75 = .ok (.aload_n 0, 1) by decide +kernel) rfl (lv_at hl 0 rfl) ?_
  refine lv_iconst (v := 4) hx hb (show decode cX7_init 76 = .ok (.iconst 4, 1) by decide +kernel) (by decide +kernel) ?_
  refine mk_arr X hH (n := 4) (N := 4) (by decide) (by decide +kernel) (by omega) (Nat.le_of_ble_eq_true rfl) (Nat.le_of_ble_eq_true rfl) (show decode cX7_init 77 = .ok (.newarray .int, 2) by decide +kernel) (fun q9 H hH => ?_)
  have hH : Hw D A s ([(h0, .inr (7, [.ref q0, .ref q1, .ref q2, .int 0, .ref q3, .int 0, .int 0, .int 0, .ref q4, .int 0, .int 0, .int 0, .int 0, .int 0, .int 0, .int 0, .ref q5, .int 0, .int 0, .long 0, .long 0, .long 0, .ref q6, .ref q7, .ref q8, .null, .null, .int 0, .null])), (q0, .inl (dA 0, 189, .inl (fun _ => 0))), (q1, .inl (dA 0, 63, .inl (fun _ => 0))), (q2, .inl (dA 1, 2, .inl (fun _ => 0))), (q3, .inl (dA 0, 63, .inl (fun _ => 0))), (q4, .inl (dA 0, 160, .inl (fun _ => 0))), (q5, .inl (dA 0, 4, .inl (fun _ => 0))), (q6, .inl (dA 0, 60, .inl (fun _ => 0))), (q7, .inl (dA 0, 40, .inl (fun _ => 0))), (q8, .inl (dA 0, 4, .inl (fun _ => 0))), (q9, .inl (dA 0, 4, .inl (fun _ => 0)))]) H locs := hH
  refine mk_putF X hin hH (q0 := 0) (ci := 7) (k := 25) (ty := .array .int) rfl (by decide) (by decide +kernel) (Nat.le_of_ble_eq_true rfl) (by decide +kernel) (by decide +kernel) (by decide +kernel) rfl rfl (wAt_mem (pl := 827) (by decide +kernel)) (show decode cX7_init 79 = .ok (.putfield 38, 3) by decide +kernel) (fun H locs hH => ?_)
  have hH : Hw D A s ([(h0, .inr (7, [.ref q0, .ref q1, .ref q2, .int 0, .ref q3, .int 0, .int 0, .int 0, .ref q4, .int 0, .int 0, .int 0, .int 0, .int 0, .int 0, .int 0, .ref q5, .int 0, .int 0, .long 0, .long 0, .long 0, .ref q6, .ref q7, .ref q8, .ref q9, .null, .int 0, .null])), (q0, .inl (dA 0, 189, .inl (fun _ => 0))), (q1, .inl (dA 0, 63, .inl (fun _ => 0))), (q2, .inl (dA 1, 2, .inl (fun _ => 0))), (q3, .inl (dA 0, 63, .inl (fun _ => 0))), (q4, .inl (dA 0, 160, .inl (fun _ => 0))), (q5, .inl (dA 0, 4, .inl (fun _ => 0))), (q6, .inl (dA 0, 60, .inl (fun _ => 0))), (q7, .inl (dA 0, 40, .inl (fun _ => 0))), (q8, .inl (dA 0, 4, .inl (fun _ => 0))), (q9, .inl (dA 0, 4, .inl (fun _ => 0)))]) H locs := hH
  refine lv_aload_n hx hb (show decode cX7_init 82 = .ok (.aload_n 0, 1) by decide +kernel) rfl (lv_at hl 0 rfl) ?_
  refine lv_sipush (v := 160) hx hb (show decode cX7_init 83 = .ok (.sipush 160, 3) by decide +kernel) (by decide +kernel) ?_
  refine mk_arr X hH (n := 160) (N := 160) (by decide) (by decide +kernel) (by omega) (Nat.le_of_ble_eq_true rfl) (Nat.le_of_ble_eq_true rfl) (show decode cX7_init 86 = .ok (.newarray .int, 2) by decide +kernel) (fun q10 H hH => ?_)
  have hH : Hw D A s ([(h0, .inr (7, [.ref q0, .ref q1, .ref q2, .int 0, .ref q3, .int 0, .int 0, .int 0, .ref q4, .int 0, .int 0, .int 0, .int 0, .int 0, .int 0, .int 0, .ref q5, .int 0, .int 0, .long 0, .long 0, .long 0, .ref q6, .ref q7, .ref q8, .ref q9, .null, .int 0, .null])), (q0, .inl (dA 0, 189, .inl (fun _ => 0))), (q1, .inl (dA 0, 63, .inl (fun _ => 0))), (q2, .inl (dA 1, 2, .inl (fun _ => 0))), (q3, .inl (dA 0, 63, .inl (fun _ => 0))), (q4, .inl (dA 0, 160, .inl (fun _ => 0))), (q5, .inl (dA 0, 4, .inl (fun _ => 0))), (q6, .inl (dA 0, 60, .inl (fun _ => 0))), (q7, .inl (dA 0, 40, .inl (fun _ => 0))), (q8, .inl (dA 0, 4, .inl (fun _ => 0))), (q9, .inl (dA 0, 4, .inl (fun _ => 0))), (q10, .inl (dA 0, 160, .inl (fun _ => 0)))]) H locs := hH
  refine mk_putF X hin hH (q0 := 0) (ci := 7) (k := 26) (ty := .array .int) rfl (by decide) (by decide +kernel) (Nat.le_of_ble_eq_true rfl) (by decide +kernel) (by decide +kernel) (by decide +kernel) rfl rfl (wAt_mem (pl := 828) (by decide +kernel)) (show decode cX7_init 88 = .ok (.putfield 41, 3) by decide +kernel) (fun H locs hH => ?_)
  have hH : Hw D A s ([(h0, .inr (7, [.ref q0, .ref q1, .ref q2, .int 0, .ref q3, .int 0, .int 0, .int 0, .ref q4, .int 0, .int 0, .int 0, .int 0, .int 0, .int 0, .int 0, .ref q5, .int 0, .int 0, .long 0, .long 0, .long 0, .ref q6, .ref q7, .ref q8, .ref q9, .ref q10, .int 0, .null])), (q0, .inl (dA 0, 189, .inl (fun _ => 0))), (q1, .inl (dA 0, 63, .inl (fun _ => 0))), (q2, .inl (dA 1, 2, .inl (fun _ => 0))), (q3, .inl (dA 0, 63, .inl (fun _ => 0))), (q4, .inl (dA 0, 160, .inl (fun _ => 0))), (q5, .inl (dA 0, 4, .inl (fun _ => 0))), (q6, .inl (dA 0, 60, .inl (fun _ => 0))), (q7, .inl (dA 0, 40, .inl (fun _ => 0))), (q8, .inl (dA 0, 4, .inl (fun _ => 0))), (q9, .inl (dA 0, 4, .inl (fun _ => 0))), (q10, .inl (dA 0, 160, .inl (fun _ => 0)))]) H locs := hH
  refine lv_aload_n hx hb (show decode cX7_init 91 = .ok (.aload_n 0, 1) by decide +kernel) rfl (lv_at hl 0 rfl) ?_
  refine lv_bipush (v := 63) hx hb (show decode cX7_init 92 = .ok (.bipush 63, 2) by decide +kernel) (by decide +kernel) ?_
  refine mk_arr X hH (n := 63) (N := 63) (by decide) (by decide +kernel) (by omega) (Nat.le_of_ble_eq_true rfl) (Nat.le_of_ble_eq_true rfl) (show decode cX7_init 94 = .ok (.newarray .int, 2) by decide +kernel) (fun q11 H hH => ?_)
  have hH : Hw D A s ([(h0, .inr (7, [.ref q0, .ref q1, .ref q2, .int 0, .ref q3, .int 0, .int 0, .int 0, .ref q4, .int 0, .int 0, .int 0, .int 0, .int 0, .int 0, .int 0, .ref q5, .int 0, .int 0, .long 0, .long 0, .long 0, .ref q6, .ref q7, .ref q8, .ref q9, .ref q10, .int 0, .null])), (q0, .inl (dA 0, 189, .inl (fun _ => 0))), (q1, .inl (dA 0, 63, .inl (fun _ => 0))), (q2, .inl (dA 1, 2, .inl (fun _ => 0))), (q3, .inl (dA 0, 63, .inl (fun _ => 0))), (q4, .inl (dA 0, 160, .inl (fun _ => 0))), (q5, .inl (dA 0, 4, .inl (fun _ => 0))), (q6, .inl (dA 0, 60, .inl (fun _ => 0))), (q7, .inl (dA 0, 40, .inl (fun _ => 0))), (q8, .inl (dA 0, 4, .inl (fun _ => 0))), (q9, .inl (dA 0, 4, .inl (fun _ => 0))), (q10, .inl (dA 0, 160, .inl (fun _ => 0))), (q11, .inl (dA 0, 63, .inl (fun _ => 0)))]) H locs := hH
  refine mk_putF X hin hH (q0 := 0) (ci := 7) (k := 28) (ty := .array .int) rfl (by decide) (by decide +kernel) (Nat.le_of_ble_eq_true rfl) (by decide +kernel) (by decide +kernel) (by decide +kernel) rfl rfl (wAt_mem (pl := 830) (by decide +kernel)) (show decode cX7_init 96 = .ok (.putfield 44, 3) by decide +kernel) (fun H locs hH => ?_)
  have hH : Hw D A s ([(h0, .inr (7, [.ref q0, .ref q1, .ref q2, .int 0, .ref q3, .int 0, .int 0, .int 0, .ref q4, .int 0, .int 0, .int 0, .int 0, .int 0, .int 0, .int 0, .ref q5, .int 0, .int 0, .long 0, .long 0, .long 0, .ref q6, .ref q7, .ref q8, .ref q9, .ref q10, .int 0, .ref q11])), (q0, .inl (dA 0, 189, .inl (fun _ => 0))), (q1, .inl (dA 0, 63, .inl (fun _ => 0))), (q2, .inl (dA 1, 2, .inl (fun _ => 0))), (q3, .inl (dA 0, 63, .inl (fun _ => 0))), (q4, .inl (dA 0, 160, .inl (fun _ => 0))), (q5, .inl (dA 0, 4, .inl (fun _ => 0))), (q6, .inl (dA 0, 60, .inl (fun _ => 0))), (q7, .inl (dA 0, 40, .inl (fun _ => 0))), (q8, .inl (dA 0, 4, .inl (fun _ => 0))), (q9, .inl (dA 0, 4, .inl (fun _ => 0))), (q10, .inl (dA 0, 160, .inl (fun _ => 0))), (q11, .inl (dA 0, 63, .inl (fun _ => 0)))]) H locs := hH
  refine lv_iconst (v := 0) hx hb (show decode cX7_init 99 = .ok (.iconst 0, 1) by decide +kernel) (by decide +kernel) ?_
  refine lv_istore_n (lv' := [(1, .int 0), (0, .ref h0)]) hx hb (show decode cX7_init 100 = .ok (.istore_n 1, 1) by decide +kernel) rfl hl (by decide) rfl (fun ls hl => ?_)
  refine lv_iload_n hx hb (show decode cX7_init 101 = .ok (.iload_n 1, 1) by decide +kernel) rfl (lv_at hl 0 rfl) ?_
  refine lv_iconst (v := 4) hx hb (show decode cX7_init 102 = .ok (.iconst 4, 1) by decide +kernel) (by decide +kernel) ?_
  refine lv_icmp_ge (tgt := 120) hx hb (show decode cX7_init 103 = .ok (.if_icmp .ge 17, 3) by decide +kernel) (by decide) (fun z => absurd z (by decide)) (fun _ => ?_)
  refine lv_aload_n hx hb (show decode cX7_init 106 = .ok (.aload_n 0, 1) by decide +kernel) rfl (lv_at hl 1 rfl) ?_
  refine va_get (D := D) (cl := clsT) (ci := 7) (v := .ref q8) (C := (clE 7).1) (T := (clE 7).2.1) (N := (clE 7).2.2) hx hb hts (lay_ok (by decide)) hown hK hH.1 0 rfl rfl 24 (by decide +kernel) (hts _ (wAt_mem (w := .fieldLink (clsN 7) 35 ((clE 7).2.1 24).1 ((clE 7).2.1 24).2.1 ((clE 7).2.1 24).2.2.1) (pl := 826) (by decide +kernel))) (fun _ h9 => h9) rfl (show decode cX7_init 107 = .ok (.getfield 35, 3) by decide +kernel) ?_
  refine lv_iload_n hx hb (show decode cX7_init 110 = .ok (.iload_n 1, 1) by decide +kernel) rfl (lv_at hl 0 rfl) ?_
  refine lv_bipush (v := (-4)) hx hb (show decode cX7_init 111 = .ok (.bipush (-4), 2) by decide +kernel) (by decide +kernel) ?_
  refine va_iast (D := D) (cl := clsT) hx hb hK hH.1 hH.2.1 hH.2.2 9 0 rfl rfl (i := 0) (vp_inR (by decide +kernel)) (show decode cX7_init 113 = .ok (.iastore, 1) by decide +kernel) (fun H locs h1 h2 h3 => ?_)
  have hH : Hw D A s ([(h0, .inr (7, [.ref q0, .ref q1, .ref q2, .int 0, .ref q3, .int 0, .int 0, .int 0, .ref q4, .int 0, .int 0, .int 0, .int 0, .int 0, .int 0, .int 0, .ref q5, .int 0, .int 0, .long 0, .long 0, .long 0, .ref q6, .ref q7, .ref q8, .ref q9, .ref q10, .int 0, .ref q11])), (q0, .inl (dA 0, 189, .inl (fun _ => 0))), (q1, .inl (dA 0, 63, .inl (fun _ => 0))), (q2, .inl (dA 1, 2, .inl (fun _ => 0))), (q3, .inl (dA 0, 63, .inl (fun _ => 0))), (q4, .inl (dA 0, 160, .inl (fun _ => 0))), (q5, .inl (dA 0, 4, .inl (fun _ => 0))), (q6, .inl (dA 0, 60, .inl (fun _ => 0))), (q7, .inl (dA 0, 40, .inl (fun _ => 0))), (q8, .inl (dA 0, 4, .inl (upd (fun _ => 0) 0 (-4)))), (q9, .inl (dA 0, 4, .inl (fun _ => 0))), (q10, .inl (dA 0, 160, .inl (fun _ => 0))), (q11, .inl (dA 0, 63, .inl (fun _ => 0)))]) H locs := ⟨h1, h2, h3⟩
  refine lv_iinc (v := 1) (lv' := [(1, .int 1), (0, .ref h0)]) hx hb (show decode cX7_init 114 = .ok (.iinc 1 1, 3) by decide +kernel) hl (k := 0) rfl (by decide +kernel) (by decide) rfl (fun ls hl => ?_)
  refine lv_goto (tgt := 101) hx hb (show decode cX7_init 117 = .ok (.goto (-16), 3) by decide +kernel) (by decide) ?_
  refine lv_iload_n hx hb (show decode cX7_init 101 = .ok (.iload_n 1, 1) by decide +kernel) rfl (lv_at hl 0 rfl) ?_
  refine lv_iconst (v := 4) hx hb (show decode cX7_init 102 = .ok (.iconst 4, 1) by decide +kernel) (by decide +kernel) ?_
  refine lv_icmp_ge (tgt := 120) hx hb (show decode cX7_init 103 = .ok (.if_icmp .ge 17, 3) by decide +kernel) (by decide) (fun z => absurd z (by decide)) (fun _ => ?_)
  refine lv_aload_n hx hb (show decode cX7_init 106 = .ok (.aload_n 0, 1) by decide +kernel) rfl (lv_at hl 1 rfl) ?_
  refine va_get (D := D) (cl := clsT) (ci := 7) (v := .ref q8) (C := (clE 7).1) (T := (clE 7).2.1) (N := (clE 7).2.2) hx hb hts (lay_ok (by decide)) hown hK hH.1 0 rfl rfl 24 (by decide +kernel) (hts _ (wAt_mem (w := .fieldLink (clsN 7) 35 ((clE 7).2.1 24).1 ((clE 7).2.1 24).2.1 ((clE 7).2.1 24).2.2.1) (pl := 826) (by decide +kernel))) (fun _ h9 => h9) rfl (show decode cX7_init 107 = .ok (.getfield 35, 3) by decide +kernel) ?_
  refine lv_iload_n hx hb (show decode cX7_init 110 = .ok (.iload_n 1, 1) by decide +kernel) rfl (lv_at hl 0 rfl) ?_
  refine lv_bipush (v := (-4)) hx hb (show decode cX7_init 111 = .ok (.bipush (-4), 2) by decide +kernel) (by decide +kernel) ?_
  refine va_iast (D := D) (cl := clsT) hx hb hK hH.1 hH.2.1 hH.2.2 9 0 rfl rfl (i := 1) (vp_inR (by decide +kernel)) (show decode cX7_init 113 = .ok (.iastore, 1) by decide +kernel) (fun H locs h1 h2 h3 => ?_)
  have hH : Hw D A s ([(h0, .inr (7, [.ref q0, .ref q1, .ref q2, .int 0, .ref q3, .int 0, .int 0, .int 0, .ref q4, .int 0, .int 0, .int 0, .int 0, .int 0, .int 0, .int 0, .ref q5, .int 0, .int 0, .long 0, .long 0, .long 0, .ref q6, .ref q7, .ref q8, .ref q9, .ref q10, .int 0, .ref q11])), (q0, .inl (dA 0, 189, .inl (fun _ => 0))), (q1, .inl (dA 0, 63, .inl (fun _ => 0))), (q2, .inl (dA 1, 2, .inl (fun _ => 0))), (q3, .inl (dA 0, 63, .inl (fun _ => 0))), (q4, .inl (dA 0, 160, .inl (fun _ => 0))), (q5, .inl (dA 0, 4, .inl (fun _ => 0))), (q6, .inl (dA 0, 60, .inl (fun _ => 0))), (q7, .inl (dA 0, 40, .inl (fun _ => 0))), (q8, .inl (dA 0, 4, .inl (upd (upd (fun _ => 0) 0 (-4)) 1 (-4)))), (q9, .inl (dA 0, 4, .inl (fun _ => 0))), (q10, .inl (dA 0, 160, .inl (fun _ => 0))), (q11, .inl (dA 0, 63, .inl (fun _ => 0)))]) H locs := ⟨h1, h2, h3⟩
  refine lv_iinc (v := 2) (lv' := [(1, .int 2), (0, .ref h0)]) hx hb (show decode cX7_init 114 = .ok (.iinc 1 1, 3) by decide +kernel) hl (k := 0) rfl (by decide +kernel) (by decide) rfl (fun ls hl => ?_)
  refine lv_goto (tgt := 101) hx hb (show decode cX7_init 117 = .ok (.goto (-16), 3) by decide +kernel) (by decide) ?_
  refine lv_iload_n hx hb (show decode cX7_init 101 = .ok (.iload_n 1, 1) by decide +kernel) rfl (lv_at hl 0 rfl) ?_
  refine lv_iconst (v := 4) hx hb (show decode cX7_init 102 = .ok (.iconst 4, 1) by decide +kernel) (by decide +kernel) ?_
  refine lv_icmp_ge (tgt := 120) hx hb (show decode cX7_init 103 = .ok (.if_icmp .ge 17, 3) by decide +kernel) (by decide) (fun z => absurd z (by decide)) (fun _ => ?_)
  refine lv_aload_n hx hb (show decode cX7_init 106 = .ok (.aload_n 0, 1) by decide +kernel) rfl (lv_at hl 1 rfl) ?_
  refine va_get (D := D) (cl := clsT) (ci := 7) (v := .ref q8) (C := (clE 7).1) (T := (clE 7).2.1) (N := (clE 7).2.2) hx hb hts (lay_ok (by decide)) hown hK hH.1 0 rfl rfl 24 (by decide +kernel) (hts _ (wAt_mem (w := .fieldLink (clsN 7) 35 ((clE 7).2.1 24).1 ((clE 7).2.1 24).2.1 ((clE 7).2.1 24).2.2.1) (pl := 826) (by decide +kernel))) (fun _ h9 => h9) rfl (show decode cX7_init 107 = .ok (.getfield 35, 3) by decide +kernel) ?_
  refine lv_iload_n hx hb (show decode cX7_init 110 = .ok (.iload_n 1, 1) by decide +kernel) rfl (lv_at hl 0 rfl) ?_
  refine lv_bipush (v := (-4)) hx hb (show decode cX7_init 111 = .ok (.bipush (-4), 2) by decide +kernel) (by decide +kernel) ?_
  refine va_iast (D := D) (cl := clsT) hx hb hK hH.1 hH.2.1 hH.2.2 9 0 rfl rfl (i := 2) (vp_inR (by decide +kernel)) (show decode cX7_init 113 = .ok (.iastore, 1) by decide +kernel) (fun H locs h1 h2 h3 => ?_)
  have hH : Hw D A s ([(h0, .inr (7, [.ref q0, .ref q1, .ref q2, .int 0, .ref q3, .int 0, .int 0, .int 0, .ref q4, .int 0, .int 0, .int 0, .int 0, .int 0, .int 0, .int 0, .ref q5, .int 0, .int 0, .long 0, .long 0, .long 0, .ref q6, .ref q7, .ref q8, .ref q9, .ref q10, .int 0, .ref q11])), (q0, .inl (dA 0, 189, .inl (fun _ => 0))), (q1, .inl (dA 0, 63, .inl (fun _ => 0))), (q2, .inl (dA 1, 2, .inl (fun _ => 0))), (q3, .inl (dA 0, 63, .inl (fun _ => 0))), (q4, .inl (dA 0, 160, .inl (fun _ => 0))), (q5, .inl (dA 0, 4, .inl (fun _ => 0))), (q6, .inl (dA 0, 60, .inl (fun _ => 0))), (q7, .inl (dA 0, 40, .inl (fun _ => 0))), (q8, .inl (dA 0, 4, .inl (upd (upd (upd (fun _ => 0) 0 (-4)) 1 (-4)) 2 (-4)))), (q9, .inl (dA 0, 4, .inl (fun _ => 0))), (q10, .inl (dA 0, 160, .inl (fun _ => 0))), (q11, .inl (dA 0, 63, .inl (fun _ => 0)))]) H locs := ⟨h1, h2, h3⟩
  refine lv_iinc (v := 3) (lv' := [(1, .int 3), (0, .ref h0)]) hx hb (show decode cX7_init 114 = .ok (.iinc 1 1, 3) by decide +kernel) hl (k := 0) rfl (by decide +kernel) (by decide) rfl (fun ls hl => ?_)
  refine lv_goto (tgt := 101) hx hb (show decode cX7_init 117 = .ok (.goto (-16), 3) by decide +kernel) (by decide) ?_
  refine lv_iload_n hx hb (show decode cX7_init 101 = .ok (.iload_n 1, 1) by decide +kernel) rfl (lv_at hl 0 rfl) ?_
  refine lv_iconst (v := 4) hx hb (show decode cX7_init 102 = .ok (.iconst 4, 1) by decide +kernel) (by decide +kernel) ?_
  refine lv_icmp_ge (tgt := 120) hx hb (show decode cX7_init 103 = .ok (.if_icmp .ge 17, 3) by decide +kernel) (by decide) (fun z => absurd z (by decide)) (fun _ => ?_)
  refine lv_aload_n hx hb (show decode cX7_init 106 = .ok (.aload_n 0, 1) by decide +kernel) rfl (lv_at hl 1 rfl) ?_
  refine va_get (D := D) (cl := clsT) (ci := 7) (v := .ref q8) (C := (clE 7).1) (T := (clE 7).2.1) (N := (clE 7).2.2) hx hb hts (lay_ok (by decide)) hown hK hH.1 0 rfl rfl 24 (by decide +kernel) (hts _ (wAt_mem (w := .fieldLink (clsN 7) 35 ((clE 7).2.1 24).1 ((clE 7).2.1 24).2.1 ((clE 7).2.1 24).2.2.1) (pl := 826) (by decide +kernel))) (fun _ h9 => h9) rfl (show decode cX7_init 107 = .ok (.getfield 35, 3) by decide +kernel) ?_
  refine lv_iload_n hx hb (show decode cX7_init 110 = .ok (.iload_n 1, 1) by decide +kernel) rfl (lv_at hl 0 rfl) ?_
  refine lv_bipush (v := (-4)) hx hb (show decode cX7_init 111 = .ok (.bipush (-4), 2) by decide +kernel) (by decide +kernel) ?_
  refine va_iast (D := D) (cl := clsT) hx hb hK hH.1 hH.2.1 hH.2.2 9 0 rfl rfl (i := 3) (vp_inR (by decide +kernel)) (show decode cX7_init 113 = .ok (.iastore, 1) by decide +kernel) (fun H locs h1 h2 h3 => ?_)
  have hH : Hw D A s ([(h0, .inr (7, [.ref q0, .ref q1, .ref q2, .int 0, .ref q3, .int 0, .int 0, .int 0, .ref q4, .int 0, .int 0, .int 0, .int 0, .int 0, .int 0, .int 0, .ref q5, .int 0, .int 0, .long 0, .long 0, .long 0, .ref q6, .ref q7, .ref q8, .ref q9, .ref q10, .int 0, .ref q11])), (q0, .inl (dA 0, 189, .inl (fun _ => 0))), (q1, .inl (dA 0, 63, .inl (fun _ => 0))), (q2, .inl (dA 1, 2, .inl (fun _ => 0))), (q3, .inl (dA 0, 63, .inl (fun _ => 0))), (q4, .inl (dA 0, 160, .inl (fun _ => 0))), (q5, .inl (dA 0, 4, .inl (fun _ => 0))), (q6, .inl (dA 0, 60, .inl (fun _ => 0))), (q7, .inl (dA 0, 40, .inl (fun _ => 0))), (q8, .inl (dA 0, 4, .inl (upd (upd (upd (upd (fun _ => 0) 0 (-4)) 1 (-4)) 2 (-4)) 3 (-4)))), (q9, .inl (dA 0, 4, .inl (fun _ => 0))), (q10, .inl (dA 0, 160, .inl (fun _ => 0))), (q11, .inl (dA 0, 63, .inl (fun _ => 0)))]) H locs := ⟨h1, h2, h3⟩
  refine lv_iinc (v := 4) (lv' := [(1, .int 4), (0, .ref h0)]) hx hb (show decode cX7_init 114 = .ok (.iinc 1 1, 3) by decide +kernel) hl (k := 0) rfl (by decide +kernel) (by decide) rfl (fun ls hl => ?_)
  refine lv_goto (tgt := 101) hx hb (show decode cX7_init 117 = .ok (.goto (-16), 3) by decide +kernel) (by decide) ?_
  refine lv_iload_n hx hb (show decode cX7_init 101 = .ok (.iload_n 1, 1) by decide +kernel) rfl (lv_at hl 0 rfl) ?_
  refine lv_iconst (v := 4) hx hb (show decode cX7_init 102 = .ok (.iconst 4, 1) by decide +kernel) (by decide +kernel) ?_
  refine lv_icmp_ge (tgt := 120) hx hb (show decode cX7_init 103 = .ok (.if_icmp .ge 17, 3) by decide +kernel) (by decide) (fun _ => ?_) (fun z => absurd (by decide) z)
  refine lv_aload_n hx hb (show decode cX7_init 120 = .ok (.aload_n 0, 1) by decide +kernel) rfl (lv_at hl 1 rfl) ?_
  have hsh : shOK (modelE 0) = true := by decide +kernel
  have hms : MSh (modelE 0) 0 := ⟨rfl, rfl, rfl, rfl, rfl, rfl, rfl, rfl, rfl, rfl, rfl, rfl, rfl⟩
  have hsem1 : semZ (modelE 0) (fun _ _ => none) 1 103 [.ref 0] mM1 = some (none, mM2) := t_firstDraft (sh := modelE 0) (w := 0) (fun _ _ => none) 0 hms mM1
  have hsem2 : semZ (modelE 0) (fun _ _ => none) 1 104 [.ref 0] mM2 = some (none, mM0) := t_keepDraft (sh := modelE 0) (w := 0) (fun _ _ => none) 0 hms mM2
  have hmet1 := met_all (l := l) (sh := modelE 0) (ad := (fun k => if k < 1000 then ([h0, q0, q1, q2, q3, q4, q5, q6, q7, q8, q9, q10, q11] : List Nat).getD k 0 else aS k)) (dA := dA) (D := D) hsh ck_all (wS := fun _ _ => none) (fun _ _ _ h => by cases h) 1 103 [.ref 0] mM1 (none, mM2) hsem1
  have hmet2 := met_all (l := l) (sh := modelE 0) (ad := (fun k => if k < 1000 then ([h0, q0, q1, q2, q3, q4, q5, q6, q7, q8, q9, q10, q11] : List Nat).getD k 0 else aS k)) (dA := dA) (D := D) hsh ck_all (wS := fun _ _ => none) (fun _ _ _ h => by cases h) 1 104 [.ref 0] mM2 (none, mM0) hsem2
  have hHp : Hp (modelE 0) (fun k => if k < 1000 then ([h0, q0, q1, q2, q3, q4, q5, q6, q7, q8, q9, q10, q11] : List Nat).getD k 0 else aS k) dA D A s mM1 H locs := hH
  have X2 : Cx (modelE 0) tb0 (fun k => if k < 1000 then ([h0, q0, q1, q2, q3, q4, q5, q6, q7, q8, q9, q10, q11] : List Nat).getD k 0 else aS k) dA D A 7 2 cX7_init p s m ([Value.ref h0] : List Value).toArray c := ⟨hx, hb, hml, hown, hts, hK, hsh, hSF.O (fun o h => if_neg (by omega)), fun q hq => by
    rcases hq with ⟨k, hk, rfl⟩ | hq
    · obtain ⟨e9, he⟩ : ∃ e9, (modelE 0)[k]? = some e9 := ⟨_, List.getElem?_eq_getElem hk⟩
      exact hHp.2.1.2 k _ (cells_get (sh := modelE 0) (ad := (fun k => if k < 1000 then ([h0, q0, q1, q2, q3, q4, q5, q6, q7, q8, q9, q10, q11] : List Nat).getD k 0 else aS k)) (dA := dA) (m := mM1) he)
    · exact hA q hq⟩
  have hLR : LR (fun k => if k < 1000 then ([h0, q0, q1, q2, q3, q4, q5, q6, q7, q8, q9, q10, q11] : List Nat).getD k 0 else aS k) ls 2 [.ref 0, noV] := ⟨hl.1, hl.2.1, rfl, fun i v hi hv => by
    match i, hi with
    | 0, hi =>
      cases hi
      exact lv_at hl 1 rfl
    | 1, hi => cases hi; cases hv
    | i + 2, hi => cases hi⟩
  refine go_V (L := [.ref 0, noV]) (rest := []) (As := []) (o := 0) (fun o T h => h) X2 hmet1 (by decide) (by decide +kernel) (wAt_mem (pl := 794) (by decide +kernel)) (by decide +kernel) (by decide +kernel) (by decide +kernel) rfl (by decide) (show decode cX7_init 121 = .ok (.invokevirtual 47, 3) by decide +kernel) (Nat.le_of_ble_eq_true rfl) (Nat.le_of_ble_eq_true rfl) (fun ls H locs hl hH => ?_) ls H locs hLR hHp
  refine lv_aload_n hx hb (show decode cX7_init 124 = .ok (.aload_n 0, 1) by decide +kernel) rfl (hl.at (i := 0) (v := .ref 0) rfl rfl) ?_
  refine go_V (L := [.ref 0, noV]) (rest := []) (As := []) (o := 0) (fun o T h => h) X2 hmet2 (by decide) (by decide +kernel) (wAt_mem (pl := 798) (by decide +kernel)) (by decide +kernel) (by decide +kernel) (by decide +kernel) rfl (by decide) (show decode cX7_init 125 = .ok (.invokevirtual 50, 3) by decide +kernel) (Nat.le_of_ble_eq_true rfl) (Nat.le_of_ble_eq_true rfl) (fun ls H locs hl hH => ?_) ls H locs hl hH
  have hP9 : va_P D clsT (gOf (modelE 0) dA mM0 (h0 :: [q0, q1, q2, q3, q4, q5, q6, q7, q8, q9, q10, q11])) H := hH.1
  have hD9 : va_D A (gOf (modelE 0) dA mM0 (h0 :: [q0, q1, q2, q3, q4, q5, q6, q7, q8, q9, q10, q11])) := hH.2.1
  exact W.vret hx hb hr (fun t ht hW => by
    unfold QcI
    rw [hAe]
    exact ⟨⟨[q0, q1, q2, q3, q4, q5, q6, q7, q8, q9, q10, q11], rfl, rfl, by rw [ht]; exact hP9, hD9⟩, hH.2.2.F ht⟩) hH.2.2.2.2 (show decode cX7_init 128 = .ok (.return_, 1) by decide +kernel)
end
