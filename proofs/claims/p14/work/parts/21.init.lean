/-! THE CONSTRUCTORS, walked: written by wip/gen/init.py -/
def m00 : Mm := (fun _ _ => 0, fun _ _ => 0)
def mW0 : Mm := setR (setR m00 0 (newF (m00.1 0))) (0 + 3) (fillR nI (m00.1 (0 + 3)) 4)
def tapeE0 : List ShE := [.inl (3, [0, 0, 0, 4]), .inr (0, 160, [])]
def tellE0 : List ShE := [.inl (4, [4, 0, 0, 6, 0]), .inl (3, [0, 0, 0, 5]), .inr (0, 160, []), .inr (0, 3, [])]
def imgE0 : List ShE := .inl (0, [2, 4, 13]) :: (worldE 1 ++ seenE 10)
def proofE0 : List ShE := shP.take 68
def gOf (sh : List ShE) (dA : Nat → ClassId) (m : Mm) (u : List Nat) : va_W := cellsW sh (fun k => u.getD k 0) dA m
theorem objI_in : Cond.instanceMethod objectInit ∈ tblG ∧ Cond.code objectInit ⟨#[0xb1]⟩ 1 none ∈ tblG := ⟨wAt_mem (pl := 84) (by decide +kernel), wAt_mem (pl := 85) (by decide +kernel)⟩
theorem len_1 {u : List Nat} (h : u.length = 1) : ∃ a0 : Nat, u = [a0] := by
  match u, h with
  | [a0], _ => exact ⟨a0, rfl⟩
theorem len_3 {u : List Nat} (h : u.length = 3) : ∃ a0 a1 a2 : Nat, u = [a0, a1, a2] := by
  match u, h with
  | [a0, a1, a2], _ => exact ⟨a0, a1, a2, rfl⟩
theorem len_8 {u : List Nat} (h : u.length = 8) : ∃ a0 a1 a2 a3 a4 a5 a6 a7 : Nat, u = [a0, a1, a2, a3, a4, a5, a6, a7] := by
  match u, h with
  | [a0, a1, a2, a3, a4, a5, a6, a7], _ => exact ⟨a0, a1, a2, a3, a4, a5, a6, a7, rfl⟩
theorem len_13 {u : List Nat} (h : u.length = 13) : ∃ a0 a1 a2 a3 a4 a5 a6 a7 a8 a9 a10 a11 a12 : Nat, u = [a0, a1, a2, a3, a4, a5, a6, a7, a8, a9, a10, a11, a12] := by
  match u, h with
  | [a0, a1, a2, a3, a4, a5, a6, a7, a8, a9, a10, a11, a12], _ => exact ⟨a0, a1, a2, a3, a4, a5, a6, a7, a8, a9, a10, a11, a12, rfl⟩
abbrev fsX0 : List Value := [.int 0, .null, .null]
theorem fsX0_ok : ∀ j, j < (clE 0).2.2 → defaultValue (tyT 0 j) = vp_V fsX0 j := by decide +kernel
set_option maxRecDepth 100000 in
theorem cwiX0 : Cond.code yX0_init cX0_init 1 none ∈ tblG := List.mem_filter.mpr ⟨List.mem_of_getElem? (i := 248) rfl, rfl⟩
theorem iwX0 : Cond.instantiable (clE 0).1 (clE 0).2.2 ∈ tblG ∧ Cond.initialized (clE 0).1 ∈ tblG ∧ Cond.instanceMethod yX0_init ∈ tblG := ⟨wAt_mem (pl := 245) (by decide +kernel), wAt_mem (pl := 69) (by decide +kernel), wAt_mem (pl := 247) (by decide +kernel)⟩
abbrev fsX1 : List Value := [.int 0, .int 0, .null, .int 0]
theorem fsX1_ok : ∀ j, j < (clE 1).2.2 → defaultValue (tyT 1 j) = vp_V fsX1 j := by decide +kernel
set_option maxRecDepth 100000 in
theorem cwiX1 : Cond.code yX1_init cX1_init 1 none ∈ tblG := List.mem_filter.mpr ⟨List.mem_of_getElem? (i := 269) rfl, rfl⟩
theorem iwX1 : Cond.instantiable (clE 1).1 (clE 1).2.2 ∈ tblG ∧ Cond.initialized (clE 1).1 ∈ tblG ∧ Cond.instanceMethod yX1_init ∈ tblG := ⟨wAt_mem (pl := 266) (by decide +kernel), wAt_mem (pl := 70) (by decide +kernel), wAt_mem (pl := 268) (by decide +kernel)⟩
abbrev fsX2 : List Value := [.int 0, .null, .null, .null]
theorem fsX2_ok : ∀ j, j < (clE 2).2.2 → defaultValue (tyT 2 j) = vp_V fsX2 j := by decide +kernel
set_option maxRecDepth 100000 in
theorem cwiX2 : Cond.code yX2_init cX2_init 1 none ∈ tblG := List.mem_filter.mpr ⟨List.mem_of_getElem? (i := 177) rfl, rfl⟩
theorem iwX2 : Cond.instantiable (clE 2).1 (clE 2).2.2 ∈ tblG ∧ Cond.initialized (clE 2).1 ∈ tblG ∧ Cond.instanceMethod yX2_init ∈ tblG := ⟨wAt_mem (pl := 174) (by decide +kernel), wAt_mem (pl := 66) (by decide +kernel), wAt_mem (pl := 176) (by decide +kernel)⟩
abbrev fsX3 : List Value := [.int 0, .int 0, .int 0, .null]
theorem fsX3_ok : ∀ j, j < (clE 3).2.2 → defaultValue (tyT 3 j) = vp_V fsX3 j := by decide +kernel
set_option maxRecDepth 100000 in
theorem cwiX3 : Cond.code yX3_init cX3_init 1 none ∈ tblG := List.mem_filter.mpr ⟨List.mem_of_getElem? (i := 203) rfl, rfl⟩
theorem iwX3 : Cond.instantiable (clE 3).1 (clE 3).2.2 ∈ tblG ∧ Cond.initialized (clE 3).1 ∈ tblG ∧ Cond.instanceMethod yX3_init ∈ tblG := ⟨wAt_mem (pl := 200) (by decide +kernel), wAt_mem (pl := 68) (by decide +kernel), wAt_mem (pl := 202) (by decide +kernel)⟩
abbrev fsX4 : List Value := [.null, .int 0, .int 0, .null, .int 0]
theorem fsX4_ok : ∀ j, j < (clE 4).2.2 → defaultValue (tyT 4 j) = vp_V fsX4 j := by decide +kernel
set_option maxRecDepth 100000 in
theorem cwiX4 : Cond.code yX4_init cX4_init 1 none ∈ tblG := List.mem_filter.mpr ⟨List.mem_of_getElem? (i := 197) rfl, rfl⟩
theorem iwX4 : Cond.instantiable (clE 4).1 (clE 4).2.2 ∈ tblG ∧ Cond.initialized (clE 4).1 ∈ tblG ∧ Cond.instanceMethod yX4_init ∈ tblG := ⟨wAt_mem (pl := 194) (by decide +kernel), wAt_mem (pl := 67) (by decide +kernel), wAt_mem (pl := 196) (by decide +kernel)⟩
abbrev fsX5 : List Value := [.int 0, .int 0, .int 0, .int 0, .int 0, .int 0, .int 0, .int 0, .null, .null, .null, .null, .null, .null, .null, .null]
theorem fsX5_ok : ∀ j, j < (clE 5).2.2 → defaultValue (tyT 5 j) = vp_V fsX5 j := by decide +kernel
set_option maxRecDepth 100000 in
theorem cwiX5 : Cond.code yX5_init cX5_init 1 none ∈ tblG := List.mem_filter.mpr ⟨List.mem_of_getElem? (i := 90) rfl, rfl⟩
theorem iwX5 : Cond.instantiable (clE 5).1 (clE 5).2.2 ∈ tblG ∧ Cond.initialized (clE 5).1 ∈ tblG ∧ Cond.instanceMethod yX5_init ∈ tblG := ⟨wAt_mem (pl := 87) (by decide +kernel), wAt_mem (pl := 65) (by decide +kernel), wAt_mem (pl := 89) (by decide +kernel)⟩
abbrev fsX6 : List Value := [.null, .null, .null, .null, .null, .null, .null, .null, .null, .int 0]
theorem fsX6_ok : ∀ j, j < (clE 6).2.2 → defaultValue (tyT 6 j) = vp_V fsX6 j := by decide +kernel
set_option maxRecDepth 100000 in
theorem cwiX6 : Cond.code yX6_init cX6_init 2 none ∈ tblG := List.mem_filter.mpr ⟨List.mem_of_getElem? (i := 82) rfl, rfl⟩
theorem iwX6 : Cond.instantiable (clE 6).1 (clE 6).2.2 ∈ tblG ∧ Cond.initialized (clE 6).1 ∈ tblG ∧ Cond.instanceMethod yX6_init ∈ tblG := ⟨wAt_mem (pl := 79) (by decide +kernel), wAt_mem (pl := 64) (by decide +kernel), wAt_mem (pl := 81) (by decide +kernel)⟩
abbrev fsX7 : List Value := [.null, .null, .null, .int 0, .null, .int 0, .int 0, .int 0, .null, .int 0, .int 0, .int 0, .int 0, .int 0, .int 0, .int 0, .null, .int 0, .int 0, .long 0, .long 0, .long 0, .null, .null, .null, .null, .null, .int 0, .null]
theorem fsX7_ok : ∀ j, j < (clE 7).2.2 → defaultValue (tyT 7 j) = vp_V fsX7 j := by decide +kernel
set_option maxRecDepth 100000 in
theorem cwiX7 : Cond.code yX7_init cX7_init 2 none ∈ tblG := List.mem_filter.mpr ⟨List.mem_of_getElem? (i := 792) rfl, rfl⟩
theorem iwX7 : Cond.instantiable (clE 7).1 (clE 7).2.2 ∈ tblG ∧ Cond.initialized (clE 7).1 ∈ tblG ∧ Cond.instanceMethod yX7_init ∈ tblG := ⟨wAt_mem (pl := 789) (by decide +kernel), wAt_mem (pl := 71) (by decide +kernel), wAt_mem (pl := 791) (by decide +kernel)⟩
/-- a ProofFineModel when its rows are made, behind firstDraft, behind keepDraft -/
def mM1 : Mm := (fun o => if o = 9 then upd (upd (upd (upd (fun _ => 0) 0 (-4)) 1 (-4)) 2 (-4)) 3 (-4) else fun _ => 0, fun _ _ => 0)
def mM2 : Mm := setR (setR mM1 (0 + 4) (dr0 (mM1.1 (0 + 4)))) 0 (upd (upd (upd (mM1.1 0) 5 0) 6 0) 7 (-4))
def mM0 : Mm := setR (setR (setR mM2 (0 + 1) (fillR (mM2.1 (0 + 4)) (mM2.1 (0 + 1)) 63)) 0 (upd (mM2.1 0) 3 (mM2.1 0 5))) (0 + 3) (upd (upd (mM2.1 (0 + 3)) 0 0) 1 0)
def mI0 : Mm := (fun o => if o = 0 then fun _ => 0 else if o < 10 then mW0.1 (o - 1) else fun _ => 0, fun _ _ => 0)
def mP0 : Mm := (fun o => if 1 ≤ o ∧ o < 10 then mW0.1 (o - 1) else if 10 ≤ o ∧ o < 19 then mW0.1 (o - 10) else if 33 ≤ o ∧ o < 42 then mW0.1 (o - 33) else if 47 ≤ o ∧ o < 56 then mW0.1 (o - 47) else fun _ => 0, fun _ _ => 0)
set_option maxHeartbeats 4000000 in
set_option maxRecDepth 100000 in
theorem i_X2 (l : Launch) (aS : Nat → Nat) (dA : Nat → ClassId) (D : va_G) : MetI l aS dA D yX2_init cX2_init 1 ({ frames := 1, cells := 3, slots := 18, locals := 20 }) 2 fsX2 3 (gOf (seenE 0) dA m00) := by
  intro h0 sz
  refine Met.ofW (cc := cX2_init) (maxL := 1) (ret := none) (by decide) rfl ?_
  intro p e s m args below meth c s₁ B hml hv
  obtain ⟨rfl, hsz, hP, hK, hD0, hNs, hSF⟩ := hv
  subst hsz
  have hx := B.exec
  have hb := B.bytes
  have hr := B.returns
  have hlocks := B.notSynchronized
  have hts0 := atoms_spec (ws := .code yX2_init cX2_init 1 none :: tblG) B.pre
  have hts : ∀ w ∈ tblG, w.before ([Value.ref h0] : List Value).toArray s = true := fun w hw => hts0 w (List.mem_cons_of_mem _ hw)
  have hown : s.vm.findClass (clsN 2) = some m.cls := findClass_of_methodNamed B.named
  have hin : meth.name = "<init>" := (name_of_methodNamed B.named B.method).1
  have hD := hD0.self (sz := s.heap.size)
  generalize hAe : va_A [(h0, .inr (2, fsX2))] s.heap.size = A at hD hSF ⊢
  have hA : ∀ q : Nat, s.heap.size ≤ q → A q := fun q h => by rw [← hAe]; exact Or.inr h
  have X : Ci aS dA D A 2 1 cX2_init p s m ([Value.ref h0] : List Value).toArray c := ⟨hx, hb, hml, hown, hts, hK, hA, hNs, hSF⟩
  have hl := lv_entry ([.ref h0]) (n := 1) (Nat.le_of_ble_eq_true rfl)
  rw [lg_entry_eq]
  generalize (lg_sl ([.ref h0]) ++ List.replicate (1 - (lg_sl ([.ref h0])).length) Slot.unset).toArray = ls at hl ⊢
  have hl : lv_has ls 1 [(0, .ref h0)] := hl
  have hH : Hw D A s [(h0, .inr (2, fsX2))] s.heap [] := ⟨hP, hD, va_S.rf⟩
  refine lv_aload_n hx hb (show decode cX2_init 0 = .ok (.aload_n 0, 1) by decide +kernel) rfl (lv_at hl 0 rfl) ?_
  refine W.objInit hx hb hown (hts (.methodLink (clsN 2) 3 objectInit) (wAt_mem (pl := 178) (by decide +kernel))) (hts _ objI_in.1) (hts _ objI_in.2) rfl (by rw [hml]; exact hl.1) rfl (show decode cX2_init 1 = .ok (.invokespecial 3, 3) by decide +kernel) (Nat.le_of_ble_eq_true rfl) (Nat.le_of_ble_eq_true rfl) ?_
  refine W.eq (g2 := F0 m 4 ls []) rfl ?_
  refine lv_aload_n hx hb (show decode cX2_init 4 = .ok (.aload_n 0, 1) by decide +kernel) rfl (lv_at hl 0 rfl) ?_
  refine lv_bipush (v := 6) hx hb (show decode cX2_init 5 = .ok (.bipush 6, 2) by decide +kernel) (by decide +kernel) ?_
  refine mk_arr X hH (n := 6) (N := 6) (by decide) (by decide +kernel) (by omega) (Nat.le_of_ble_eq_true rfl) (Nat.le_of_ble_eq_true rfl) (show decode cX2_init 7 = .ok (.newarray .int, 2) by decide +kernel) (fun q0 H hH => ?_)
  have hH : Hw D A s ([(h0, .inr (2, [.int 0, .null, .null, .null])), (q0, .inl (dA 0, 6, .inl (fun _ => 0)))]) H [] := hH
  refine mk_putF X hin hH (q0 := 0) (ci := 2) (k := 1) (ty := .array .int) rfl (by decide) (by decide +kernel) (Nat.le_of_ble_eq_true rfl) (by decide +kernel) (by decide +kernel) (by decide +kernel) rfl rfl (wAt_mem (pl := 181) (by decide +kernel)) (show decode cX2_init 9 = .ok (.putfield 9, 3) by decide +kernel) (fun H locs hH => ?_)
  have hH : Hw D A s ([(h0, .inr (2, [.int 0, .ref q0, .null, .null])), (q0, .inl (dA 0, 6, .inl (fun _ => 0)))]) H locs := hH
  refine lv_aload_n hx hb (show decode cX2_init 12 = .ok (.aload_n 0, 1) by decide +kernel) rfl (lv_at hl 0 rfl) ?_
  refine lv_bipush (v := 6) hx hb (show decode cX2_init 13 = .ok (.bipush 6, 2) by decide +kernel) (by decide +kernel) ?_
  refine mk_arr X hH (n := 6) (N := 6) (by decide) (by decide +kernel) (by omega) (Nat.le_of_ble_eq_true rfl) (Nat.le_of_ble_eq_true rfl) (show decode cX2_init 15 = .ok (.newarray .int, 2) by decide +kernel) (fun q1 H hH => ?_)
  have hH : Hw D A s ([(h0, .inr (2, [.int 0, .ref q0, .null, .null])), (q0, .inl (dA 0, 6, .inl (fun _ => 0))), (q1, .inl (dA 0, 6, .inl (fun _ => 0)))]) H locs := hH
  refine mk_putF X hin hH (q0 := 0) (ci := 2) (k := 2) (ty := .array .int) rfl (by decide) (by decide +kernel) (Nat.le_of_ble_eq_true rfl) (by decide +kernel) (by decide +kernel) (by decide +kernel) rfl rfl (wAt_mem (pl := 182) (by decide +kernel)) (show decode cX2_init 17 = .ok (.putfield 15, 3) by decide +kernel) (fun H locs hH => ?_)
  have hH : Hw D A s ([(h0, .inr (2, [.int 0, .ref q0, .ref q1, .null])), (q0, .inl (dA 0, 6, .inl (fun _ => 0))), (q1, .inl (dA 0, 6, .inl (fun _ => 0)))]) H locs := hH
  refine lv_aload_n hx hb (show decode cX2_init 20 = .ok (.aload_n 0, 1) by decide +kernel) rfl (lv_at hl 0 rfl) ?_
  refine lv_bipush (v := 6) hx hb (show decode cX2_init 21 = .ok (.bipush 6, 2) by decide +kernel) (by decide +kernel) ?_
  refine mk_arr X hH (n := 6) (N := 6) (by decide) (by decide +kernel) (by omega) (Nat.le_of_ble_eq_true rfl) (Nat.le_of_ble_eq_true rfl) (show decode cX2_init 23 = .ok (.newarray .int, 2) by decide +kernel) (fun q2 H hH => ?_)
  have hH : Hw D A s ([(h0, .inr (2, [.int 0, .ref q0, .ref q1, .null])), (q0, .inl (dA 0, 6, .inl (fun _ => 0))), (q1, .inl (dA 0, 6, .inl (fun _ => 0))), (q2, .inl (dA 0, 6, .inl (fun _ => 0)))]) H locs := hH
  refine mk_putF X hin hH (q0 := 0) (ci := 2) (k := 3) (ty := .array .int) rfl (by decide) (by decide +kernel) (Nat.le_of_ble_eq_true rfl) (by decide +kernel) (by decide +kernel) (by decide +kernel) rfl rfl (wAt_mem (pl := 183) (by decide +kernel)) (show decode cX2_init 25 = .ok (.putfield 18, 3) by decide +kernel) (fun H locs hH => ?_)
  have hH : Hw D A s ([(h0, .inr (2, [.int 0, .ref q0, .ref q1, .ref q2])), (q0, .inl (dA 0, 6, .inl (fun _ => 0))), (q1, .inl (dA 0, 6, .inl (fun _ => 0))), (q2, .inl (dA 0, 6, .inl (fun _ => 0)))]) H locs := hH
  have hP9 : va_P D clsT (gOf (seenE 0) dA m00 (h0 :: [q0, q1, q2])) H := hH.1
  have hD9 : va_D A (gOf (seenE 0) dA m00 (h0 :: [q0, q1, q2])) := hH.2.1
  exact W.vret hx hb hr (fun t ht hW => by
    unfold QcI
    rw [hAe]
    exact ⟨⟨[q0, q1, q2], rfl, rfl, by rw [ht]; exact hP9, hD9⟩, hH.2.2.F ht⟩) hH.2.2.2.2 (show decode cX2_init 28 = .ok (.return_, 1) by decide +kernel)
set_option maxHeartbeats 4000000 in
set_option maxRecDepth 100000 in
theorem i_X3 (l : Launch) (aS : Nat → Nat) (dA : Nat → ClassId) (D : va_G) : MetI l aS dA D yX3_init cX3_init 1 ({ frames := 1, cells := 1, slots := 160, locals := 20 }) 3 fsX3 1 (gOf tapeE0 dA m00) := by
  intro h0 sz
  refine Met.ofW (cc := cX3_init) (maxL := 1) (ret := none) (by decide) rfl ?_
  intro p e s m args below meth c s₁ B hml hv
  obtain ⟨rfl, hsz, hP, hK, hD0, hNs, hSF⟩ := hv
  subst hsz
  have hx := B.exec
  have hb := B.bytes
  have hr := B.returns
  have hlocks := B.notSynchronized
  have hts0 := atoms_spec (ws := .code yX3_init cX3_init 1 none :: tblG) B.pre
  have hts : ∀ w ∈ tblG, w.before ([Value.ref h0] : List Value).toArray s = true := fun w hw => hts0 w (List.mem_cons_of_mem _ hw)
  have hown : s.vm.findClass (clsN 3) = some m.cls := findClass_of_methodNamed B.named
  have hin : meth.name = "<init>" := (name_of_methodNamed B.named B.method).1
  have hD := hD0.self (sz := s.heap.size)
  generalize hAe : va_A [(h0, .inr (3, fsX3))] s.heap.size = A at hD hSF ⊢
  have hA : ∀ q : Nat, s.heap.size ≤ q → A q := fun q h => by rw [← hAe]; exact Or.inr h
  have X : Ci aS dA D A 3 1 cX3_init p s m ([Value.ref h0] : List Value).toArray c := ⟨hx, hb, hml, hown, hts, hK, hA, hNs, hSF⟩
  have hl := lv_entry ([.ref h0]) (n := 1) (Nat.le_of_ble_eq_true rfl)
  rw [lg_entry_eq]
  generalize (lg_sl ([.ref h0]) ++ List.replicate (1 - (lg_sl ([.ref h0])).length) Slot.unset).toArray = ls at hl ⊢
  have hl : lv_has ls 1 [(0, .ref h0)] := hl
  have hH : Hw D A s [(h0, .inr (3, fsX3))] s.heap [] := ⟨hP, hD, va_S.rf⟩
  refine lv_aload_n hx hb (show decode cX3_init 0 = .ok (.aload_n 0, 1) by decide +kernel) rfl (lv_at hl 0 rfl) ?_
  refine W.objInit hx hb hown (hts (.methodLink (clsN 3) 1 objectInit) (wAt_mem (pl := 204) (by decide +kernel))) (hts _ objI_in.1) (hts _ objI_in.2) rfl (by rw [hml]; exact hl.1) rfl (show decode cX3_init 1 = .ok (.invokespecial 1, 3) by decide +kernel) (Nat.le_of_ble_eq_true rfl) (Nat.le_of_ble_eq_true rfl) ?_
  refine W.eq (g2 := F0 m 4 ls []) rfl ?_
  refine lv_aload_n hx hb (show decode cX3_init 4 = .ok (.aload_n 0, 1) by decide +kernel) rfl (lv_at hl 0 rfl) ?_
  refine lv_sipush (v := 160) hx hb (show decode cX3_init 5 = .ok (.sipush 160, 3) by decide +kernel) (by decide +kernel) ?_
  refine mk_arr X hH (n := 160) (N := 160) (by decide) (by decide +kernel) (by omega) (Nat.le_of_ble_eq_true rfl) (Nat.le_of_ble_eq_true rfl) (show decode cX3_init 8 = .ok (.newarray .int, 2) by decide +kernel) (fun q0 H hH => ?_)
  have hH : Hw D A s ([(h0, .inr (3, [.int 0, .int 0, .int 0, .null])), (q0, .inl (dA 0, 160, .inl (fun _ => 0)))]) H [] := hH
  refine mk_putF X hin hH (q0 := 0) (ci := 3) (k := 3) (ty := .array .int) rfl (by decide) (by decide +kernel) (Nat.le_of_ble_eq_true rfl) (by decide +kernel) (by decide +kernel) (by decide +kernel) rfl rfl (wAt_mem (pl := 212) (by decide +kernel)) (show decode cX3_init 10 = .ok (.putfield 9, 3) by decide +kernel) (fun H locs hH => ?_)
  have hH : Hw D A s ([(h0, .inr (3, [.int 0, .int 0, .int 0, .ref q0])), (q0, .inl (dA 0, 160, .inl (fun _ => 0)))]) H locs := hH
  have hP9 : va_P D clsT (gOf tapeE0 dA m00 (h0 :: [q0])) H := hH.1
  have hD9 : va_D A (gOf tapeE0 dA m00 (h0 :: [q0])) := hH.2.1
  exact W.vret hx hb hr (fun t ht hW => by
    unfold QcI
    rw [hAe]
    exact ⟨⟨[q0], rfl, rfl, by rw [ht]; exact hP9, hD9⟩, hH.2.2.F ht⟩) hH.2.2.2.2 (show decode cX3_init 13 = .ok (.return_, 1) by decide +kernel)
set_option maxHeartbeats 4000000 in
set_option maxRecDepth 100000 in
theorem i_X1 (l : Launch) (aS : Nat → Nat) (dA : Nat → ClassId) (D : va_G) : MetI l aS dA D yX1_init cX1_init 1 ({ frames := 1, cells := 1, slots := 40, locals := 20 }) 1 fsX1 1 (gOf (sheetE 0) dA m00) := by
  intro h0 sz
  refine Met.ofW (cc := cX1_init) (maxL := 1) (ret := none) (by decide) rfl ?_
  intro p e s m args below meth c s₁ B hml hv
  obtain ⟨rfl, hsz, hP, hK, hD0, hNs, hSF⟩ := hv
  subst hsz
  have hx := B.exec
  have hb := B.bytes
  have hr := B.returns
  have hlocks := B.notSynchronized
  have hts0 := atoms_spec (ws := .code yX1_init cX1_init 1 none :: tblG) B.pre
  have hts : ∀ w ∈ tblG, w.before ([Value.ref h0] : List Value).toArray s = true := fun w hw => hts0 w (List.mem_cons_of_mem _ hw)
  have hown : s.vm.findClass (clsN 1) = some m.cls := findClass_of_methodNamed B.named
  have hin : meth.name = "<init>" := (name_of_methodNamed B.named B.method).1
  have hD := hD0.self (sz := s.heap.size)
  generalize hAe : va_A [(h0, .inr (1, fsX1))] s.heap.size = A at hD hSF ⊢
  have hA : ∀ q : Nat, s.heap.size ≤ q → A q := fun q h => by rw [← hAe]; exact Or.inr h
  have X : Ci aS dA D A 1 1 cX1_init p s m ([Value.ref h0] : List Value).toArray c := ⟨hx, hb, hml, hown, hts, hK, hA, hNs, hSF⟩
  have hl := lv_entry ([.ref h0]) (n := 1) (Nat.le_of_ble_eq_true rfl)
  rw [lg_entry_eq]
  generalize (lg_sl ([.ref h0]) ++ List.replicate (1 - (lg_sl ([.ref h0])).length) Slot.unset).toArray = ls at hl ⊢
  have hl : lv_has ls 1 [(0, .ref h0)] := hl
  have hH : Hw D A s [(h0, .inr (1, fsX1))] s.heap [] := ⟨hP, hD, va_S.rf⟩
  refine lv_aload_n hx hb (show decode cX1_init 0 = .ok (.aload_n 0, 1) by decide +kernel) rfl (lv_at hl 0 rfl) ?_
  refine W.objInit hx hb hown (hts (.methodLink (clsN 1) 3 objectInit) (wAt_mem (pl := 270) (by decide +kernel))) (hts _ objI_in.1) (hts _ objI_in.2) rfl (by rw [hml]; exact hl.1) rfl (show decode cX1_init 1 = .ok (.invokespecial 3, 3) by decide +kernel) (Nat.le_of_ble_eq_true rfl) (Nat.le_of_ble_eq_true rfl) ?_
  refine W.eq (g2 := F0 m 4 ls []) rfl ?_
  refine lv_aload_n hx hb (show decode cX1_init 4 = .ok (.aload_n 0, 1) by decide +kernel) rfl (lv_at hl 0 rfl) ?_
  refine lv_bipush (v := 40) hx hb (show decode cX1_init 5 = .ok (.bipush 40, 2) by decide +kernel) (by decide +kernel) ?_
  refine mk_arr X hH (n := 40) (N := 40) (by decide) (by decide +kernel) (by omega) (Nat.le_of_ble_eq_true rfl) (Nat.le_of_ble_eq_true rfl) (show decode cX1_init 7 = .ok (.newarray .int, 2) by decide +kernel) (fun q0 H hH => ?_)
  have hH : Hw D A s ([(h0, .inr (1, [.int 0, .int 0, .null, .int 0])), (q0, .inl (dA 0, 40, .inl (fun _ => 0)))]) H [] := hH
  refine mk_putF X hin hH (q0 := 0) (ci := 1) (k := 2) (ty := .array .int) rfl (by decide) (by decide +kernel) (Nat.le_of_ble_eq_true rfl) (by decide +kernel) (by decide +kernel) (by decide +kernel) rfl rfl (wAt_mem (pl := 275) (by decide +kernel)) (show decode cX1_init 9 = .ok (.putfield 9, 3) by decide +kernel) (fun H locs hH => ?_)
  have hH : Hw D A s ([(h0, .inr (1, [.int 0, .int 0, .ref q0, .int 0])), (q0, .inl (dA 0, 40, .inl (fun _ => 0)))]) H locs := hH
  have hP9 : va_P D clsT (gOf (sheetE 0) dA m00 (h0 :: [q0])) H := hH.1
  have hD9 : va_D A (gOf (sheetE 0) dA m00 (h0 :: [q0])) := hH.2.1
  exact W.vret hx hb hr (fun t ht hW => by
    unfold QcI
    rw [hAe]
    exact ⟨⟨[q0], rfl, rfl, by rw [ht]; exact hP9, hD9⟩, hH.2.2.F ht⟩) hH.2.2.2.2 (show decode cX1_init 12 = .ok (.return_, 1) by decide +kernel)
set_option maxHeartbeats 4000000 in
set_option maxRecDepth 100000 in
theorem i_X4 (l : Launch) (aS : Nat → Nat) (dA : Nat → ClassId) (D : va_G) : MetI l aS dA D yX4_init cX4_init 1 ({ frames := 2, cells := 3, slots := 167, locals := 60 }) 4 fsX4 3 (gOf tellE0 dA m00) := by
  intro h0 sz
  refine Met.ofW (cc := cX4_init) (maxL := 1) (ret := none) (by decide) rfl ?_
  intro p e s m args below meth c s₁ B hml hv
  obtain ⟨rfl, hsz, hP, hK, hD0, hNs, hSF⟩ := hv
  subst hsz
  have hx := B.exec
  have hb := B.bytes
  have hr := B.returns
  have hlocks := B.notSynchronized
  have hts0 := atoms_spec (ws := .code yX4_init cX4_init 1 none :: tblG) B.pre
  have hts : ∀ w ∈ tblG, w.before ([Value.ref h0] : List Value).toArray s = true := fun w hw => hts0 w (List.mem_cons_of_mem _ hw)
  have hown : s.vm.findClass (clsN 4) = some m.cls := findClass_of_methodNamed B.named
  have hin : meth.name = "<init>" := (name_of_methodNamed B.named B.method).1
  have hD := hD0.self (sz := s.heap.size)
  generalize hAe : va_A [(h0, .inr (4, fsX4))] s.heap.size = A at hD hSF ⊢
  have hA : ∀ q : Nat, s.heap.size ≤ q → A q := fun q h => by rw [← hAe]; exact Or.inr h
  have X : Ci aS dA D A 4 1 cX4_init p s m ([Value.ref h0] : List Value).toArray c := ⟨hx, hb, hml, hown, hts, hK, hA, hNs, hSF⟩
  have hl := lv_entry ([.ref h0]) (n := 1) (Nat.le_of_ble_eq_true rfl)
  rw [lg_entry_eq]
  generalize (lg_sl ([.ref h0]) ++ List.replicate (1 - (lg_sl ([.ref h0])).length) Slot.unset).toArray = ls at hl ⊢
  have hl : lv_has ls 1 [(0, .ref h0)] := hl
  have hH : Hw D A s [(h0, .inr (4, fsX4))] s.heap [] := ⟨hP, hD, va_S.rf⟩
  refine lv_aload_n hx hb (show decode cX4_init 0 = .ok (.aload_n 0, 1) by decide +kernel) rfl (lv_at hl 0 rfl) ?_
  refine W.objInit hx hb hown (hts (.methodLink (clsN 4) 3 objectInit) (wAt_mem (pl := 198) (by decide +kernel))) (hts _ objI_in.1) (hts _ objI_in.2) rfl (by rw [hml]; exact hl.1) rfl (show decode cX4_init 1 = .ok (.invokespecial 3, 3) by decide +kernel) (Nat.le_of_ble_eq_true rfl) (Nat.le_of_ble_eq_true rfl) ?_
  refine W.eq (g2 := F0 m 4 ls []) rfl ?_
  refine lv_aload_n hx hb (show decode cX4_init 4 = .ok (.aload_n 0, 1) by decide +kernel) rfl (lv_at hl 0 rfl) ?_
  refine mk_new X hl.1 hH (i_X3 l aS dA D) (by decide) ⟨by decide +kernel, by decide +kernel, by decide +kernel⟩ (wAt_mem (pl := 199) (by decide +kernel)) iwX3.1 iwX3.2.1 cwiX3 iwX3.2.2 (Or.inr (hNs.1 _ (List.mem_of_getElem? (i := 2) rfl))) fsX3_ok ⟨by decide +kernel, by decide +kernel⟩ (Nat.le_of_ble_eq_true rfl) (Nat.le_of_ble_eq_true rfl) (Nat.le_of_ble_eq_true rfl) (Nat.le_of_ble_eq_true rfl) (Nat.le_of_ble_eq_true rfl) (show decode cX4_init 5 = .ok (.new 9, 3) by decide +kernel) (show decode cX4_init 8 = .ok (.dup, 1) by decide +kernel) (show decode cX4_init 9 = .ok (.invokespecial 11, 3) by decide +kernel) (fun q0 u H locs hu hH => ?_)
  obtain ⟨q0_0, rfl⟩ := len_1 hu
  have hH : Hw D A s ([(h0, .inr (4, [.null, .int 0, .int 0, .null, .int 0])), (q0, .inr (3, [.int 0, .int 0, .int 0, .ref q0_0])), (q0_0, .inl (dA 0, 160, .inl (fun _ => 0)))]) H locs := hH
  refine mk_putF X hin hH (q0 := 0) (ci := 4) (k := 0) (ty := .object "ProofFine$Tape") rfl (by decide) (by decide +kernel) (Nat.le_of_ble_eq_true rfl) (by decide +kernel) (by decide +kernel) (by decide +kernel) rfl rfl (wAt_mem (pl := 222) (by decide +kernel)) (show decode cX4_init 12 = .ok (.putfield 12, 3) by decide +kernel) (fun H locs hH => ?_)
  have hH : Hw D A s ([(h0, .inr (4, [.ref q0, .int 0, .int 0, .null, .int 0])), (q0, .inr (3, [.int 0, .int 0, .int 0, .ref q0_0])), (q0_0, .inl (dA 0, 160, .inl (fun _ => 0)))]) H locs := hH
  refine lv_aload_n hx hb (show decode cX4_init 15 = .ok (.aload_n 0, 1) by decide +kernel) rfl (lv_at hl 0 rfl) ?_
  refine lv_iconst (v := 3) hx hb (show decode cX4_init 16 = .ok (.iconst 3, 1) by decide +kernel) (by decide +kernel) ?_
  refine mk_arr X hH (n := 3) (N := 3) (by decide) (by decide +kernel) (by omega) (Nat.le_of_ble_eq_true rfl) (Nat.le_of_ble_eq_true rfl) (show decode cX4_init 17 = .ok (.newarray .int, 2) by decide +kernel) (fun q1 H hH => ?_)
  have hH : Hw D A s ([(h0, .inr (4, [.ref q0, .int 0, .int 0, .null, .int 0])), (q0, .inr (3, [.int 0, .int 0, .int 0, .ref q0_0])), (q0_0, .inl (dA 0, 160, .inl (fun _ => 0))), (q1, .inl (dA 0, 3, .inl (fun _ => 0)))]) H locs := hH
  refine mk_putF X hin hH (q0 := 0) (ci := 4) (k := 3) (ty := .array .int) rfl (by decide) (by decide +kernel) (Nat.le_of_ble_eq_true rfl) (by decide +kernel) (by decide +kernel) (by decide +kernel) rfl rfl (wAt_mem (pl := 228) (by decide +kernel)) (show decode cX4_init 19 = .ok (.putfield 18, 3) by decide +kernel) (fun H locs hH => ?_)
  have hH : Hw D A s ([(h0, .inr (4, [.ref q0, .int 0, .int 0, .ref q1, .int 0])), (q0, .inr (3, [.int 0, .int 0, .int 0, .ref q0_0])), (q0_0, .inl (dA 0, 160, .inl (fun _ => 0))), (q1, .inl (dA 0, 3, .inl (fun _ => 0)))]) H locs := hH
  have hP9 : va_P D clsT (gOf tellE0 dA m00 (h0 :: [q0, q0_0, q1])) H := hH.1
  have hD9 : va_D A (gOf tellE0 dA m00 (h0 :: [q0, q0_0, q1])) := hH.2.1
  exact W.vret hx hb hr (fun t ht hW => by
    unfold QcI
    rw [hAe]
    exact ⟨⟨[q0, q0_0, q1], rfl, rfl, by rw [ht]; exact hP9, hD9⟩, hH.2.2.F ht⟩) hH.2.2.2.2 (show decode cX4_init 22 = .ok (.return_, 1) by decide +kernel)
