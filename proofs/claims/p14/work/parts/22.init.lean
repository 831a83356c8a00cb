/-! THE CONSTRUCTORS, walked: written by wip/gen/init.py -/
set_option maxHeartbeats 4000000 in
set_option maxRecDepth 100000 in
theorem i_X5 (l : Launch) (aS : Nat → Nat) (dA : Nat → ClassId) (D : va_G) : MetI l aS dA D yX5_init cX5_init 1 ({ frames := 4, cells := 8, slots := 42, locals := 120 }) 5 fsX5 8 (gOf (worldE 0) dA mW0) := by
  intro h0 sz
  refine Met.ofW (cc := cX5_init) (maxL := 1) (ret := none) (by decide) rfl ?_
  intro p e s m args below meth c s₁ B hml hv
  obtain ⟨rfl, hsz, hP, hK, hD0, hNs, hSF⟩ := hv
  subst hsz
  have hx := B.exec
  have hb := B.bytes
  have hr := B.returns
  have hlocks := B.notSynchronized
  have hts0 := atoms_spec (ws := .code yX5_init cX5_init 1 none :: tblG) B.pre
  have hts : ∀ w ∈ tblG, w.before ([Value.ref h0] : List Value).toArray s = true := fun w hw => hts0 w (List.mem_cons_of_mem _ hw)
  have hown : s.vm.findClass (clsN 5) = some m.cls := findClass_of_methodNamed B.named
  have hin : meth.name = "<init>" := (name_of_methodNamed B.named B.method).1
  have hD := hD0.self (sz := s.heap.size)
  generalize hAe : va_A [(h0, .inr (5, fsX5))] s.heap.size = A at hD hSF ⊢
  have hA : ∀ q : Nat, s.heap.size ≤ q → A q := fun q h => by rw [← hAe]; exact Or.inr h
  have X : Ci aS dA D A 5 1 cX5_init p s m ([Value.ref h0] : List Value).toArray c := ⟨hx, hb, hml, hown, hts, hK, hA, hNs, hSF⟩
  have hl := lv_entry ([.ref h0]) (n := 1) (Nat.le_of_ble_eq_true rfl)
  rw [lg_entry_eq]
  generalize (lg_sl ([.ref h0]) ++ List.replicate (1 - (lg_sl ([.ref h0])).length) Slot.unset).toArray = ls at hl ⊢
  have hl : lv_has ls 1 [(0, .ref h0)] := hl
  have hH : Hw D A s [(h0, .inr (5, fsX5))] s.heap [] := ⟨hP, hD, va_S.rf⟩
  refine lv_aload_n hx hb (show decode cX5_init 0 = .ok (.aload_n 0, 1) by decide +kernel) rfl (lv_at hl 0 rfl) ?_
  refine W.objInit hx hb hown (hts (.methodLink (clsN 5) 3 objectInit) (wAt_mem (pl := 91) (by decide +kernel))) (hts _ objI_in.1) (hts _ objI_in.2) rfl (by rw [hml]; exact hl.1) rfl (show decode cX5_init 1 = .ok (.invokespecial 3, 3) by decide +kernel) (Nat.le_of_ble_eq_true rfl) (Nat.le_of_ble_eq_true rfl) ?_
  refine W.eq (g2 := F0 m 4 ls []) rfl ?_
  refine lv_aload_n hx hb (show decode cX5_init 4 = .ok (.aload_n 0, 1) by decide +kernel) rfl (lv_at hl 0 rfl) ?_
  refine lv_iconst (v := 4) hx hb (show decode cX5_init 5 = .ok (.iconst 4, 1) by decide +kernel) (by decide +kernel) ?_
  refine mk_arr X hH (n := 4) (N := 4) (by decide) (by decide +kernel) (by omega) (Nat.le_of_ble_eq_true rfl) (Nat.le_of_ble_eq_true rfl) (show decode cX5_init 6 = .ok (.newarray .int, 2) by decide +kernel) (fun q0 H hH => ?_)
  have hH : Hw D A s ([(h0, .inr (5, [.int 0, .int 0, .int 0, .int 0, .int 0, .int 0, .int 0, .int 0, .null, .null, .null, .null, .null, .null, .null, .null])), (q0, .inl (dA 0, 4, .inl (fun _ => 0)))]) H [] := hH
  refine mk_putF X hin hH (q0 := 0) (ci := 5) (k := 8) (ty := .array .int) rfl (by decide) (by decide +kernel) (Nat.le_of_ble_eq_true rfl) (by decide +kernel) (by decide +kernel) (by decide +kernel) rfl rfl (wAt_mem (pl := 121) (by decide +kernel)) (show decode cX5_init 8 = .ok (.putfield 9, 3) by decide +kernel) (fun H locs hH => ?_)
  have hH : Hw D A s ([(h0, .inr (5, [.int 0, .int 0, .int 0, .int 0, .int 0, .int 0, .int 0, .int 0, .ref q0, .null, .null, .null, .null, .null, .null, .null])), (q0, .inl (dA 0, 4, .inl (fun _ => 0)))]) H locs := hH
  refine lv_aload_n hx hb (show decode cX5_init 11 = .ok (.aload_n 0, 1) by decide +kernel) rfl (lv_at hl 0 rfl) ?_
  refine lv_iconst (v := 4) hx hb (show decode cX5_init 12 = .ok (.iconst 4, 1) by decide +kernel) (by decide +kernel) ?_
  refine mk_arr X hH (n := 4) (N := 4) (by decide) (by decide +kernel) (by omega) (Nat.le_of_ble_eq_true rfl) (Nat.le_of_ble_eq_true rfl) (show decode cX5_init 13 = .ok (.newarray .int, 2) by decide +kernel) (fun q1 H hH => ?_)
  have hH : Hw D A s ([(h0, .inr (5, [.int 0, .int 0, .int 0, .int 0, .int 0, .int 0, .int 0, .int 0, .ref q0, .null, .null, .null, .null, .null, .null, .null])), (q0, .inl (dA 0, 4, .inl (fun _ => 0))), (q1, .inl (dA 0, 4, .inl (fun _ => 0)))]) H locs := hH
  refine mk_putF X hin hH (q0 := 0) (ci := 5) (k := 9) (ty := .array .int) rfl (by decide) (by decide +kernel) (Nat.le_of_ble_eq_true rfl) (by decide +kernel) (by decide +kernel) (by decide +kernel) rfl rfl (wAt_mem (pl := 123) (by decide +kernel)) (show decode cX5_init 15 = .ok (.putfield 15, 3) by decide +kernel) (fun H locs hH => ?_)
  have hH : Hw D A s ([(h0, .inr (5, [.int 0, .int 0, .int 0, .int 0, .int 0, .int 0, .int 0, .int 0, .ref q0, .ref q1, .null, .null, .null, .null, .null, .null])), (q0, .inl (dA 0, 4, .inl (fun _ => 0))), (q1, .inl (dA 0, 4, .inl (fun _ => 0)))]) H locs := hH
  refine lv_aload_n hx hb (show decode cX5_init 18 = .ok (.aload_n 0, 1) by decide +kernel) rfl (lv_at hl 0 rfl) ?_
  refine lv_iconst (v := 4) hx hb (show decode cX5_init 19 = .ok (.iconst 4, 1) by decide +kernel) (by decide +kernel) ?_
  refine mk_arr X hH (n := 4) (N := 4) (by decide) (by decide +kernel) (by omega) (Nat.le_of_ble_eq_true rfl) (Nat.le_of_ble_eq_true rfl) (show decode cX5_init 20 = .ok (.newarray .int, 2) by decide +kernel) (fun q2 H hH => ?_)
  have hH : Hw D A s ([(h0, .inr (5, [.int 0, .int 0, .int 0, .int 0, .int 0, .int 0, .int 0, .int 0, .ref q0, .ref q1, .null, .null, .null, .null, .null, .null])), (q0, .inl (dA 0, 4, .inl (fun _ => 0))), (q1, .inl (dA 0, 4, .inl (fun _ => 0))), (q2, .inl (dA 0, 4, .inl (fun _ => 0)))]) H locs := hH
  refine mk_putF X hin hH (q0 := 0) (ci := 5) (k := 10) (ty := .array .int) rfl (by decide) (by decide +kernel) (Nat.le_of_ble_eq_true rfl) (by decide +kernel) (by decide +kernel) (by decide +kernel) rfl rfl (wAt_mem (pl := 125) (by decide +kernel)) (show decode cX5_init 22 = .ok (.putfield 18, 3) by decide +kernel) (fun H locs hH => ?_)
  have hH : Hw D A s ([(h0, .inr (5, [.int 0, .int 0, .int 0, .int 0, .int 0, .int 0, .int 0, .int 0, .ref q0, .ref q1, .ref q2, .null, .null, .null, .null, .null])), (q0, .inl (dA 0, 4, .inl (fun _ => 0))), (q1, .inl (dA 0, 4, .inl (fun _ => 0))), (q2, .inl (dA 0, 4, .inl (fun _ => 0)))]) H locs := hH
  refine lv_aload_n hx hb (show decode cX5_init 25 = .ok (.aload_n 0, 1) by decide +kernel) rfl (lv_at hl 0 rfl) ?_
  refine lv_bipush (v := 6) hx hb (show decode cX5_init 26 = .ok (.bipush 6, 2) by decide +kernel) (by decide +kernel) ?_
  refine mk_arr X hH (n := 6) (N := 6) (by decide) (by decide +kernel) (by omega) (Nat.le_of_ble_eq_true rfl) (Nat.le_of_ble_eq_true rfl) (show decode cX5_init 28 = .ok (.newarray .int, 2) by decide +kernel) (fun q3 H hH => ?_)
  have hH : Hw D A s ([(h0, .inr (5, [.int 0, .int 0, .int 0, .int 0, .int 0, .int 0, .int 0, .int 0, .ref q0, .ref q1, .ref q2, .null, .null, .null, .null, .null])), (q0, .inl (dA 0, 4, .inl (fun _ => 0))), (q1, .inl (dA 0, 4, .inl (fun _ => 0))), (q2, .inl (dA 0, 4, .inl (fun _ => 0))), (q3, .inl (dA 0, 6, .inl (fun _ => 0)))]) H locs := hH
  refine mk_putF X hin hH (q0 := 0) (ci := 5) (k := 11) (ty := .array .int) rfl (by decide) (by decide +kernel) (Nat.le_of_ble_eq_true rfl) (by decide +kernel) (by decide +kernel) (by decide +kernel) rfl rfl (wAt_mem (pl := 127) (by decide +kernel)) (show decode cX5_init 30 = .ok (.putfield 21, 3) by decide +kernel) (fun H locs hH => ?_)
  have hH : Hw D A s ([(h0, .inr (5, [.int 0, .int 0, .int 0, .int 0, .int 0, .int 0, .int 0, .int 0, .ref q0, .ref q1, .ref q2, .ref q3, .null, .null, .null, .null])), (q0, .inl (dA 0, 4, .inl (fun _ => 0))), (q1, .inl (dA 0, 4, .inl (fun _ => 0))), (q2, .inl (dA 0, 4, .inl (fun _ => 0))), (q3, .inl (dA 0, 6, .inl (fun _ => 0)))]) H locs := hH
  refine lv_aload_n hx hb (show decode cX5_init 33 = .ok (.aload_n 0, 1) by decide +kernel) rfl (lv_at hl 0 rfl) ?_
  refine lv_bipush (v := 6) hx hb (show decode cX5_init 34 = .ok (.bipush 6, 2) by decide +kernel) (by decide +kernel) ?_
  refine mk_arr X hH (n := 6) (N := 6) (by decide) (by decide +kernel) (by omega) (Nat.le_of_ble_eq_true rfl) (Nat.le_of_ble_eq_true rfl) (show decode cX5_init 36 = .ok (.newarray .int, 2) by decide +kernel) (fun q4 H hH => ?_)
  have hH : Hw D A s ([(h0, .inr (5, [.int 0, .int 0, .int 0, .int 0, .int 0, .int 0, .int 0, .int 0, .ref q0, .ref q1, .ref q2, .ref q3, .null, .null, .null, .null])), (q0, .inl (dA 0, 4, .inl (fun _ => 0))), (q1, .inl (dA 0, 4, .inl (fun _ => 0))), (q2, .inl (dA 0, 4, .inl (fun _ => 0))), (q3, .inl (dA 0, 6, .inl (fun _ => 0))), (q4, .inl (dA 0, 6, .inl (fun _ => 0)))]) H locs := hH
  refine mk_putF X hin hH (q0 := 0) (ci := 5) (k := 12) (ty := .array .int) rfl (by decide) (by decide +kernel) (Nat.le_of_ble_eq_true rfl) (by decide +kernel) (by decide +kernel) (by decide +kernel) rfl rfl (wAt_mem (pl := 129) (by decide +kernel)) (show decode cX5_init 38 = .ok (.putfield 24, 3) by decide +kernel) (fun H locs hH => ?_)
  have hH : Hw D A s ([(h0, .inr (5, [.int 0, .int 0, .int 0, .int 0, .int 0, .int 0, .int 0, .int 0, .ref q0, .ref q1, .ref q2, .ref q3, .ref q4, .null, .null, .null])), (q0, .inl (dA 0, 4, .inl (fun _ => 0))), (q1, .inl (dA 0, 4, .inl (fun _ => 0))), (q2, .inl (dA 0, 4, .inl (fun _ => 0))), (q3, .inl (dA 0, 6, .inl (fun _ => 0))), (q4, .inl (dA 0, 6, .inl (fun _ => 0)))]) H locs := hH
  refine lv_aload_n hx hb (show decode cX5_init 41 = .ok (.aload_n 0, 1) by decide +kernel) rfl (lv_at hl 0 rfl) ?_
  refine lv_bipush (v := 6) hx hb (show decode cX5_init 42 = .ok (.bipush 6, 2) by decide +kernel) (by decide +kernel) ?_
  refine mk_arr X hH (n := 6) (N := 6) (by decide) (by decide +kernel) (by omega) (Nat.le_of_ble_eq_true rfl) (Nat.le_of_ble_eq_true rfl) (show decode cX5_init 44 = .ok (.newarray .int, 2) by decide +kernel) (fun q5 H hH => ?_)
  have hH : Hw D A s ([(h0, .inr (5, [.int 0, .int 0, .int 0, .int 0, .int 0, .int 0, .int 0, .int 0, .ref q0, .ref q1, .ref q2, .ref q3, .ref q4, .null, .null, .null])), (q0, .inl (dA 0, 4, .inl (fun _ => 0))), (q1, .inl (dA 0, 4, .inl (fun _ => 0))), (q2, .inl (dA 0, 4, .inl (fun _ => 0))), (q3, .inl (dA 0, 6, .inl (fun _ => 0))), (q4, .inl (dA 0, 6, .inl (fun _ => 0))), (q5, .inl (dA 0, 6, .inl (fun _ => 0)))]) H locs := hH
  refine mk_putF X hin hH (q0 := 0) (ci := 5) (k := 13) (ty := .array .int) rfl (by decide) (by decide +kernel) (Nat.le_of_ble_eq_true rfl) (by decide +kernel) (by decide +kernel) (by decide +kernel) rfl rfl (wAt_mem (pl := 133) (by decide +kernel)) (show decode cX5_init 46 = .ok (.putfield 27, 3) by decide +kernel) (fun H locs hH => ?_)
  have hH : Hw D A s ([(h0, .inr (5, [.int 0, .int 0, .int 0, .int 0, .int 0, .int 0, .int 0, .int 0, .ref q0, .ref q1, .ref q2, .ref q3, .ref q4, .ref q5, .null, .null])), (q0, .inl (dA 0, 4, .inl (fun _ => 0))), (q1, .inl (dA 0, 4, .inl (fun _ => 0))), (q2, .inl (dA 0, 4, .inl (fun _ => 0))), (q3, .inl (dA 0, 6, .inl (fun _ => 0))), (q4, .inl (dA 0, 6, .inl (fun _ => 0))), (q5, .inl (dA 0, 6, .inl (fun _ => 0)))]) H locs := hH
  refine lv_aload_n hx hb (show decode cX5_init 49 = .ok (.aload_n 0, 1) by decide +kernel) rfl (lv_at hl 0 rfl) ?_
  refine lv_bipush (v := 6) hx hb (show decode cX5_init 50 = .ok (.bipush 6, 2) by decide +kernel) (by decide +kernel) ?_
  refine mk_arr X hH (n := 6) (N := 6) (by decide) (by decide +kernel) (by omega) (Nat.le_of_ble_eq_true rfl) (Nat.le_of_ble_eq_true rfl) (show decode cX5_init 52 = .ok (.newarray .int, 2) by decide +kernel) (fun q6 H hH => ?_)
  have hH : Hw D A s ([(h0, .inr (5, [.int 0, .int 0, .int 0, .int 0, .int 0, .int 0, .int 0, .int 0, .ref q0, .ref q1, .ref q2, .ref q3, .ref q4, .ref q5, .null, .null])), (q0, .inl (dA 0, 4, .inl (fun _ => 0))), (q1, .inl (dA 0, 4, .inl (fun _ => 0))), (q2, .inl (dA 0, 4, .inl (fun _ => 0))), (q3, .inl (dA 0, 6, .inl (fun _ => 0))), (q4, .inl (dA 0, 6, .inl (fun _ => 0))), (q5, .inl (dA 0, 6, .inl (fun _ => 0))), (q6, .inl (dA 0, 6, .inl (fun _ => 0)))]) H locs := hH
  refine mk_putF X hin hH (q0 := 0) (ci := 5) (k := 14) (ty := .array .int) rfl (by decide) (by decide +kernel) (Nat.le_of_ble_eq_true rfl) (by decide +kernel) (by decide +kernel) (by decide +kernel) rfl rfl (wAt_mem (pl := 135) (by decide +kernel)) (show decode cX5_init 54 = .ok (.putfield 30, 3) by decide +kernel) (fun H locs hH => ?_)
  have hH : Hw D A s ([(h0, .inr (5, [.int 0, .int 0, .int 0, .int 0, .int 0, .int 0, .int 0, .int 0, .ref q0, .ref q1, .ref q2, .ref q3, .ref q4, .ref q5, .ref q6, .null])), (q0, .inl (dA 0, 4, .inl (fun _ => 0))), (q1, .inl (dA 0, 4, .inl (fun _ => 0))), (q2, .inl (dA 0, 4, .inl (fun _ => 0))), (q3, .inl (dA 0, 6, .inl (fun _ => 0))), (q4, .inl (dA 0, 6, .inl (fun _ => 0))), (q5, .inl (dA 0, 6, .inl (fun _ => 0))), (q6, .inl (dA 0, 6, .inl (fun _ => 0)))]) H locs := hH
  refine lv_aload_n hx hb (show decode cX5_init 57 = .ok (.aload_n 0, 1) by decide +kernel) rfl (lv_at hl 0 rfl) ?_
  refine lv_bipush (v := 6) hx hb (show decode cX5_init 58 = .ok (.bipush 6, 2) by decide +kernel) (by decide +kernel) ?_
  refine mk_arr X hH (n := 6) (N := 6) (by decide) (by decide +kernel) (by omega) (Nat.le_of_ble_eq_true rfl) (Nat.le_of_ble_eq_true rfl) (show decode cX5_init 60 = .ok (.newarray .int, 2) by decide +kernel) (fun q7 H hH => ?_)
  have hH : Hw D A s ([(h0, .inr (5, [.int 0, .int 0, .int 0, .int 0, .int 0, .int 0, .int 0, .int 0, .ref q0, .ref q1, .ref q2, .ref q3, .ref q4, .ref q5, .ref q6, .null])), (q0, .inl (dA 0, 4, .inl (fun _ => 0))), (q1, .inl (dA 0, 4, .inl (fun _ => 0))), (q2, .inl (dA 0, 4, .inl (fun _ => 0))), (q3, .inl (dA 0, 6, .inl (fun _ => 0))), (q4, .inl (dA 0, 6, .inl (fun _ => 0))), (q5, .inl (dA 0, 6, .inl (fun _ => 0))), (q6, .inl (dA 0, 6, .inl (fun _ => 0))), (q7, .inl (dA 0, 6, .inl (fun _ => 0)))]) H locs := hH
  refine mk_putF X hin hH (q0 := 0) (ci := 5) (k := 15) (ty := .array .int) rfl (by decide) (by decide +kernel) (Nat.le_of_ble_eq_true rfl) (by decide +kernel) (by decide +kernel) (by decide +kernel) rfl rfl (wAt_mem (pl := 137) (by decide +kernel)) (show decode cX5_init 62 = .ok (.putfield 33, 3) by decide +kernel) (fun H locs hH => ?_)
  have hH : Hw D A s ([(h0, .inr (5, [.int 0, .int 0, .int 0, .int 0, .int 0, .int 0, .int 0, .int 0, .ref q0, .ref q1, .ref q2, .ref q3, .ref q4, .ref q5, .ref q6, .ref q7])), (q0, .inl (dA 0, 4, .inl (fun _ => 0))), (q1, .inl (dA 0, 4, .inl (fun _ => 0))), (q2, .inl (dA 0, 4, .inl (fun _ => 0))), (q3, .inl (dA 0, 6, .inl (fun _ => 0))), (q4, .inl (dA 0, 6, .inl (fun _ => 0))), (q5, .inl (dA 0, 6, .inl (fun _ => 0))), (q6, .inl (dA 0, 6, .inl (fun _ => 0))), (q7, .inl (dA 0, 6, .inl (fun _ => 0)))]) H locs := hH
  refine lv_aload_n hx hb (show decode cX5_init 65 = .ok (.aload_n 0, 1) by decide +kernel) rfl (lv_at hl 0 rfl) ?_
  have hsh : shOK (worldE 0) = true := by decide +kernel
  have hsem : semZ (worldE 0) (fun _ _ => none) 2 23 [.ref 0] m00 = some (none, mW0) := t_clear (sh := worldE 0) (w := 0) (fun _ _ => none) 0 ⟨rfl, rfl, rfl, rfl, rfl, rfl, rfl, rfl, rfl⟩ m00
  have hmet := met_all (l := l) (sh := worldE 0) (ad := fun k => if k < 1000 then ([h0, q0, q1, q2, q3, q4, q5, q6, q7] : List Nat).getD k 0 else aS k) (dA := dA) (D := D) hsh ck_all (wS := fun _ _ => none) (fun _ _ _ h => by cases h) 2 23 [.ref 0] m00 (none, mW0) hsem
  have hHp : Hp (worldE 0) (fun k => if k < 1000 then ([h0, q0, q1, q2, q3, q4, q5, q6, q7] : List Nat).getD k 0 else aS k) dA D A s m00 H locs := hH
  have X2 : Cx (worldE 0) tb0 (fun k => if k < 1000 then ([h0, q0, q1, q2, q3, q4, q5, q6, q7] : List Nat).getD k 0 else aS k) dA D A 5 1 cX5_init p s m ([Value.ref h0] : List Value).toArray c := ⟨hx, hb, hml, hown, hts, hK, hsh, hSF.O (fun o h => if_neg (by omega)), fun q hq => by
    rcases hq with ⟨k, hk, rfl⟩ | hq
    · obtain ⟨e9, he⟩ : ∃ e9, (worldE 0)[k]? = some e9 := ⟨_, List.getElem?_eq_getElem hk⟩
      exact hHp.2.1.2 k _ (cells_get (sh := worldE 0) (ad := fun k => if k < 1000 then ([h0, q0, q1, q2, q3, q4, q5, q6, q7] : List Nat).getD k 0 else aS k) (dA := dA) (m := m00) he)
    · exact hA q hq⟩
  refine go_V (L := [.ref 0]) (rest := []) (As := []) (o := 0) (fun o T h => h) X2 hmet (by decide) (by decide +kernel) (wAt_mem (pl := 92) (by decide +kernel)) (by decide +kernel) (by decide +kernel) (by decide +kernel) rfl (by decide) (show decode cX5_init 66 = .ok (.invokevirtual 36, 3) by decide +kernel) (Nat.le_of_ble_eq_true rfl) (Nat.le_of_ble_eq_true rfl) (fun ls H locs hl hH => ?_) ls H locs ⟨hl.1, hl.2.1, rfl, fun i v hi hv => ?_⟩ hHp
  · have hP9 : va_P D clsT (gOf (worldE 0) dA mW0 (h0 :: [q0, q1, q2, q3, q4, q5, q6, q7])) H := hH.1
    have hD9 : va_D A (gOf (worldE 0) dA mW0 (h0 :: [q0, q1, q2, q3, q4, q5, q6, q7])) := hH.2.1
    exact W.vret hx hb hr (fun t ht hW => by
      unfold QcI
      rw [hAe]
      exact ⟨⟨[q0, q1, q2, q3, q4, q5, q6, q7], rfl, rfl, by rw [ht]; exact hP9, hD9⟩, hH.2.2.F ht⟩) hH.2.2.2.2 (show decode cX5_init 69 = .ok (.return_, 1) by decide +kernel)
  · match i, hi with
    | 0, hi =>
      cases hi
      exact lv_at hl 0 rfl
    | i + 1, hi => cases hi
set_option maxHeartbeats 4000000 in
set_option maxRecDepth 100000 in
theorem i_X0 (l : Launch) (aS : Nat → Nat) (dA : Nat → ClassId) (D : va_G) : MetI l aS dA D yX0_init cX0_init 1 ({ frames := 5, cells := 13, slots := 80, locals := 160 }) 0 fsX0 13 (gOf imgE0 dA mI0) := by
  intro h0 sz
  refine Met.ofW (cc := cX0_init) (maxL := 1) (ret := none) (by decide) rfl ?_
  intro p e s m args below meth c s₁ B hml hv
  obtain ⟨rfl, hsz, hP, hK, hD0, hNs, hSF⟩ := hv
  subst hsz
  have hx := B.exec
  have hb := B.bytes
  have hr := B.returns
  have hlocks := B.notSynchronized
  have hts0 := atoms_spec (ws := .code yX0_init cX0_init 1 none :: tblG) B.pre
  have hts : ∀ w ∈ tblG, w.before ([Value.ref h0] : List Value).toArray s = true := fun w hw => hts0 w (List.mem_cons_of_mem _ hw)
  have hown : s.vm.findClass (clsN 0) = some m.cls := findClass_of_methodNamed B.named
  have hin : meth.name = "<init>" := (name_of_methodNamed B.named B.method).1
  have hD := hD0.self (sz := s.heap.size)
  generalize hAe : va_A [(h0, .inr (0, fsX0))] s.heap.size = A at hD hSF ⊢
  have hA : ∀ q : Nat, s.heap.size ≤ q → A q := fun q h => by rw [← hAe]; exact Or.inr h
  have X : Ci aS dA D A 0 1 cX0_init p s m ([Value.ref h0] : List Value).toArray c := ⟨hx, hb, hml, hown, hts, hK, hA, hNs, hSF⟩
  have hl := lv_entry ([.ref h0]) (n := 1) (Nat.le_of_ble_eq_true rfl)
  rw [lg_entry_eq]
  generalize (lg_sl ([.ref h0]) ++ List.replicate (1 - (lg_sl ([.ref h0])).length) Slot.unset).toArray = ls at hl ⊢
  have hl : lv_has ls 1 [(0, .ref h0)] := hl
  have hH : Hw D A s [(h0, .inr (0, fsX0))] s.heap [] := ⟨hP, hD, va_S.rf⟩
  refine lv_aload_n hx hb (show decode cX0_init 0 = .ok (.aload_n 0, 1) by decide +kernel) rfl (lv_at hl 0 rfl) ?_
  refine W.objInit hx hb hown (hts (.methodLink (clsN 0) 1 objectInit) (wAt_mem (pl := 249) (by decide +kernel))) (hts _ objI_in.1) (hts _ objI_in.2) rfl (by rw [hml]; exact hl.1) rfl (show decode cX0_init 1 = .ok (.invokespecial 1, 3) by decide +kernel) (Nat.le_of_ble_eq_true rfl) (Nat.le_of_ble_eq_true rfl) ?_
  refine W.eq (g2 := F0 m 4 ls []) rfl ?_
  refine lv_aload_n hx hb (show decode cX0_init 4 = .ok (.aload_n 0, 1) by decide +kernel) rfl (lv_at hl 0 rfl) ?_
  refine mk_new X hl.1 hH (i_X5 l aS dA D) (by decide) ⟨by decide +kernel, by decide +kernel, by decide +kernel⟩ (wAt_mem (pl := 250) (by decide +kernel)) iwX5.1 iwX5.2.1 cwiX5 iwX5.2.2 (Or.inl (wAt_mem (pl := 251) (by decide +kernel))) fsX5_ok ⟨by decide +kernel, by decide +kernel⟩ (Nat.le_of_ble_eq_true rfl) (Nat.le_of_ble_eq_true rfl) (Nat.le_of_ble_eq_true rfl) (Nat.le_of_ble_eq_true rfl) (Nat.le_of_ble_eq_true rfl) (show decode cX0_init 5 = .ok (.new 7, 3) by decide +kernel) (show decode cX0_init 8 = .ok (.dup, 1) by decide +kernel) (show decode cX0_init 9 = .ok (.invokespecial 9, 3) by decide +kernel) (fun q0 u H locs hu hH => ?_)
  obtain ⟨q0_0, q0_1, q0_2, q0_3, q0_4, q0_5, q0_6, q0_7, rfl⟩ := len_8 hu
  have hH : Hw D A s ([(h0, .inr (0, [.int 0, .null, .null])), (q0, .inr (5, [.int (mW0.1 0 0), .int (mW0.1 0 1), .int (mW0.1 0 2), .int (mW0.1 0 3), .int (mW0.1 0 4), .int (mW0.1 0 5), .int (mW0.1 0 6), .int (mW0.1 0 7), .ref q0_0, .ref q0_1, .ref q0_2, .ref q0_3, .ref q0_4, .ref q0_5, .ref q0_6, .ref q0_7])), (q0_0, .inl (dA 0, 4, .inl (mW0.1 1))), (q0_1, .inl (dA 0, 4, .inl (mW0.1 2))), (q0_2, .inl (dA 0, 4, .inl (mW0.1 3))), (q0_3, .inl (dA 0, 6, .inl (mW0.1 4))), (q0_4, .inl (dA 0, 6, .inl (mW0.1 5))), (q0_5, .inl (dA 0, 6, .inl (mW0.1 6))), (q0_6, .inl (dA 0, 6, .inl (mW0.1 7))), (q0_7, .inl (dA 0, 6, .inl (mW0.1 8)))]) H locs := hH
  refine mk_putF X hin hH (q0 := 0) (ci := 0) (k := 1) (ty := .object "ProofFine$World") rfl (by decide) (by decide +kernel) (Nat.le_of_ble_eq_true rfl) (by decide +kernel) (by decide +kernel) (by decide +kernel) rfl rfl (wAt_mem (pl := 255) (by decide +kernel)) (show decode cX0_init 12 = .ok (.putfield 10, 3) by decide +kernel) (fun H locs hH => ?_)
  have hH : Hw D A s ([(h0, .inr (0, [.int 0, .ref q0, .null])), (q0, .inr (5, [.int (mW0.1 0 0), .int (mW0.1 0 1), .int (mW0.1 0 2), .int (mW0.1 0 3), .int (mW0.1 0 4), .int (mW0.1 0 5), .int (mW0.1 0 6), .int (mW0.1 0 7), .ref q0_0, .ref q0_1, .ref q0_2, .ref q0_3, .ref q0_4, .ref q0_5, .ref q0_6, .ref q0_7])), (q0_0, .inl (dA 0, 4, .inl (mW0.1 1))), (q0_1, .inl (dA 0, 4, .inl (mW0.1 2))), (q0_2, .inl (dA 0, 4, .inl (mW0.1 3))), (q0_3, .inl (dA 0, 6, .inl (mW0.1 4))), (q0_4, .inl (dA 0, 6, .inl (mW0.1 5))), (q0_5, .inl (dA 0, 6, .inl (mW0.1 6))), (q0_6, .inl (dA 0, 6, .inl (mW0.1 7))), (q0_7, .inl (dA 0, 6, .inl (mW0.1 8)))]) H locs := hH
  refine lv_aload_n hx hb (show decode cX0_init 15 = .ok (.aload_n 0, 1) by decide +kernel) rfl (lv_at hl 0 rfl) ?_
  refine mk_new X hl.1 hH (i_X2 l aS dA D) (by decide) ⟨by decide +kernel, by decide +kernel, by decide +kernel⟩ (wAt_mem (pl := 252) (by decide +kernel)) iwX2.1 iwX2.2.1 cwiX2 iwX2.2.2 (Or.inr (hNs.1 _ (List.mem_of_getElem? (i := 4) rfl))) fsX2_ok ⟨by decide +kernel, by decide +kernel⟩ (Nat.le_of_ble_eq_true rfl) (Nat.le_of_ble_eq_true rfl) (Nat.le_of_ble_eq_true rfl) (Nat.le_of_ble_eq_true rfl) (Nat.le_of_ble_eq_true rfl) (show decode cX0_init 16 = .ok (.new 16, 3) by decide +kernel) (show decode cX0_init 19 = .ok (.dup, 1) by decide +kernel) (show decode cX0_init 20 = .ok (.invokespecial 18, 3) by decide +kernel) (fun q1 u H locs hu hH => ?_)
  obtain ⟨q1_0, q1_1, q1_2, rfl⟩ := len_3 hu
  have hH : Hw D A s ([(h0, .inr (0, [.int 0, .ref q0, .null])), (q0, .inr (5, [.int (mW0.1 0 0), .int (mW0.1 0 1), .int (mW0.1 0 2), .int (mW0.1 0 3), .int (mW0.1 0 4), .int (mW0.1 0 5), .int (mW0.1 0 6), .int (mW0.1 0 7), .ref q0_0, .ref q0_1, .ref q0_2, .ref q0_3, .ref q0_4, .ref q0_5, .ref q0_6, .ref q0_7])), (q0_0, .inl (dA 0, 4, .inl (mW0.1 1))), (q0_1, .inl (dA 0, 4, .inl (mW0.1 2))), (q0_2, .inl (dA 0, 4, .inl (mW0.1 3))), (q0_3, .inl (dA 0, 6, .inl (mW0.1 4))), (q0_4, .inl (dA 0, 6, .inl (mW0.1 5))), (q0_5, .inl (dA 0, 6, .inl (mW0.1 6))), (q0_6, .inl (dA 0, 6, .inl (mW0.1 7))), (q0_7, .inl (dA 0, 6, .inl (mW0.1 8))), (q1, .inr (2, [.int 0, .ref q1_0, .ref q1_1, .ref q1_2])), (q1_0, .inl (dA 0, 6, .inl (fun _ => 0))), (q1_1, .inl (dA 0, 6, .inl (fun _ => 0))), (q1_2, .inl (dA 0, 6, .inl (fun _ => 0)))]) H locs := hH
  refine mk_putF X hin hH (q0 := 0) (ci := 0) (k := 2) (ty := .object "ProofFine$Sightings") rfl (by decide) (by decide +kernel) (Nat.le_of_ble_eq_true rfl) (by decide +kernel) (by decide +kernel) (by decide +kernel) rfl rfl (wAt_mem (pl := 257) (by decide +kernel)) (show decode cX0_init 23 = .ok (.putfield 19, 3) by decide +kernel) (fun H locs hH => ?_)
  have hH : Hw D A s ([(h0, .inr (0, [.int 0, .ref q0, .ref q1])), (q0, .inr (5, [.int (mW0.1 0 0), .int (mW0.1 0 1), .int (mW0.1 0 2), .int (mW0.1 0 3), .int (mW0.1 0 4), .int (mW0.1 0 5), .int (mW0.1 0 6), .int (mW0.1 0 7), .ref q0_0, .ref q0_1, .ref q0_2, .ref q0_3, .ref q0_4, .ref q0_5, .ref q0_6, .ref q0_7])), (q0_0, .inl (dA 0, 4, .inl (mW0.1 1))), (q0_1, .inl (dA 0, 4, .inl (mW0.1 2))), (q0_2, .inl (dA 0, 4, .inl (mW0.1 3))), (q0_3, .inl (dA 0, 6, .inl (mW0.1 4))), (q0_4, .inl (dA 0, 6, .inl (mW0.1 5))), (q0_5, .inl (dA 0, 6, .inl (mW0.1 6))), (q0_6, .inl (dA 0, 6, .inl (mW0.1 7))), (q0_7, .inl (dA 0, 6, .inl (mW0.1 8))), (q1, .inr (2, [.int 0, .ref q1_0, .ref q1_1, .ref q1_2])), (q1_0, .inl (dA 0, 6, .inl (fun _ => 0))), (q1_1, .inl (dA 0, 6, .inl (fun _ => 0))), (q1_2, .inl (dA 0, 6, .inl (fun _ => 0)))]) H locs := hH
  have hP9 : va_P D clsT (gOf imgE0 dA mI0 (h0 :: [q0, q0_0, q0_1, q0_2, q0_3, q0_4, q0_5, q0_6, q0_7, q1, q1_0, q1_1, q1_2])) H := hH.1
  have hD9 : va_D A (gOf imgE0 dA mI0 (h0 :: [q0, q0_0, q0_1, q0_2, q0_3, q0_4, q0_5, q0_6, q0_7, q1, q1_0, q1_1, q1_2])) := hH.2.1
  exact W.vret hx hb hr (fun t ht hW => by
    unfold QcI
    rw [hAe]
    exact ⟨⟨[q0, q0_0, q0_1, q0_2, q0_3, q0_4, q0_5, q0_6, q0_7, q1, q1_0, q1_1, q1_2], rfl, rfl, by rw [ht]; exact hP9, hD9⟩, hH.2.2.F ht⟩) hH.2.2.2.2 (show decode cX0_init 26 = .ok (.return_, 1) by decide +kernel)
