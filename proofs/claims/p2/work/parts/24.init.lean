/-! THE CONSTRUCTORS, walked: written by wip/gen/init.py -/
set_option maxHeartbeats 40000000 in
set_option maxRecDepth 100000 in
theorem i_X6 (l : Launch) (aS : Nat → Nat) (dA : Nat → ClassId) (D : va_G) : MetI l aS dA D yX6_init cX6_init 2 ({ frames := 6, cells := 67, slots := 706, locals := 200 }) 6 fsX6 67 (gOf proofE0 dA mP0) := by
  intro h0 sz
  refine Met.ofW (cc := cX6_init) (maxL := 2) (ret := none) (by decide) rfl ?_
  intro p e s m args below meth c s₁ B hml hv
  obtain ⟨rfl, hsz, hP, hK, hD0, hNs, hSF⟩ := hv
  subst hsz
  have hx := B.exec
  have hb := B.bytes
  have hr := B.returns
  have hlocks := B.notSynchronized
  have hts0 := atoms_spec (ws := .code yX6_init cX6_init 2 none :: tblG) B.pre
  have hts : ∀ w ∈ tblG, w.before ([Value.ref h0] : List Value).toArray s = true := fun w hw => hts0 w (List.mem_cons_of_mem _ hw)
  have hown : s.vm.findClass (clsN 6) = some m.cls := findClass_of_methodNamed B.named
  have hin : meth.name = "<init>" := (name_of_methodNamed B.named B.method).1
  have hD := hD0.self (sz := s.heap.size)
  generalize hAe : va_A [(h0, .inr (6, fsX6))] s.heap.size = A at hD hSF ⊢
  have hA : ∀ q : Nat, s.heap.size ≤ q → A q := fun q h => by rw [← hAe]; exact Or.inr h
  have X : Ci aS dA D A 6 2 cX6_init p s m ([Value.ref h0] : List Value).toArray c := ⟨hx, hb, hml, hown, hts, hK, hA, hNs, hSF⟩
  have hl := lv_entry ([.ref h0]) (n := 2) (Nat.le_of_ble_eq_true rfl)
  rw [lg_entry_eq]
  generalize (lg_sl ([.ref h0]) ++ List.replicate (2 - (lg_sl ([.ref h0])).length) Slot.unset).toArray = ls at hl ⊢
  have hl : lv_has ls 2 [(0, .ref h0)] := hl
  have hH : Hw D A s [(h0, .inr (6, fsX6))] s.heap [] := ⟨hP, hD, va_S.rf⟩
  refine lv_aload_n hx hb (show decode cX6_init 0 = .ok (.aload_n 0, 1) by decide +kernel) rfl (lv_at hl 0 rfl) ?_
  refine W.objInit hx hb hown (hts (.methodLink (clsN 6) 1 objectInit) (wAt_mem (pl := 83) (by decide +kernel))) (hts _ objI_in.1) (hts _ objI_in.2) rfl (by rw [hml]; exact hl.1) rfl (show decode cX6_init 1 = .ok (.invokespecial 1, 3) by decide +kernel) (Nat.le_of_ble_eq_true rfl) (Nat.le_of_ble_eq_true rfl) ?_
  refine W.eq (g2 := F0 m 4 ls []) rfl ?_
  refine lv_aload_n hx hb (show decode cX6_init 4 = .ok (.aload_n 0, 1) by decide +kernel) rfl (lv_at hl 0 rfl) ?_
  refine mk_new X hl.1 hH (i_X5 l aS dA D) (by decide) ⟨by decide +kernel, by decide +kernel, by decide +kernel⟩ (wAt_mem (pl := 86) (by decide +kernel)) iwX5.1 iwX5.2.1 cwiX5 iwX5.2.2 (Or.inl (wAt_mem (pl := 88) (by decide +kernel))) fsX5_ok ⟨by decide +kernel, by decide +kernel⟩ (Nat.le_of_ble_eq_true rfl) (Nat.le_of_ble_eq_true rfl) (Nat.le_of_ble_eq_true rfl) (Nat.le_of_ble_eq_true rfl) (Nat.le_of_ble_eq_true rfl) (show decode cX6_init 5 = .ok (.new 7, 3) by decide +kernel) (show decode cX6_init 8 = .ok (.dup, 1) by decide +kernel) (show decode cX6_init 9 = .ok (.invokespecial 9, 3) by decide +kernel) (fun q0 u H locs hu hH => ?_)
  obtain ⟨q0_0, q0_1, q0_2, q0_3, q0_4, q0_5, q0_6, q0_7, rfl⟩ := len_8 hu
  refine mk_putF X hin hH (q0 := 0) (ci := 6) (k := 0) (ty := .object "ProofFine$World") rfl (by decide) (by decide +kernel) (Nat.le_of_ble_eq_true rfl) (by decide +kernel) (by decide +kernel) (by decide +kernel) rfl rfl (wAt_mem (pl := 287) (by decide +kernel)) (show decode cX6_init 12 = .ok (.putfield 10, 3) by decide +kernel) (fun H locs hH => ?_)
  refine lv_aload_n hx hb (show decode cX6_init 15 = .ok (.aload_n 0, 1) by decide +kernel) rfl (lv_at hl 0 rfl) ?_
  refine mk_new X hl.1 hH (i_X5 l aS dA D) (by decide) ⟨by decide +kernel, by decide +kernel, by decide +kernel⟩ (wAt_mem (pl := 86) (by decide +kernel)) iwX5.1 iwX5.2.1 cwiX5 iwX5.2.2 (Or.inl (wAt_mem (pl := 88) (by decide +kernel))) fsX5_ok ⟨by decide +kernel, by decide +kernel⟩ (Nat.le_of_ble_eq_true rfl) (Nat.le_of_ble_eq_true rfl) (Nat.le_of_ble_eq_true rfl) (Nat.le_of_ble_eq_true rfl) (Nat.le_of_ble_eq_true rfl) (show decode cX6_init 16 = .ok (.new 7, 3) by decide +kernel) (show decode cX6_init 19 = .ok (.dup, 1) by decide +kernel) (show decode cX6_init 20 = .ok (.invokespecial 9, 3) by decide +kernel) (fun q1 u H locs hu hH => ?_)
  obtain ⟨q1_0, q1_1, q1_2, q1_3, q1_4, q1_5, q1_6, q1_7, rfl⟩ := len_8 hu
  refine mk_putF X hin hH (q0 := 0) (ci := 6) (k := 1) (ty := .object "ProofFine$World") rfl (by decide) (by decide +kernel) (Nat.le_of_ble_eq_true rfl) (by decide +kernel) (by decide +kernel) (by decide +kernel) rfl rfl (wAt_mem (pl := 288) (by decide +kernel)) (show decode cX6_init 23 = .ok (.putfield 16, 3) by decide +kernel) (fun H locs hH => ?_)
  refine lv_aload_n hx hb (show decode cX6_init 26 = .ok (.aload_n 0, 1) by decide +kernel) rfl (lv_at hl 0 rfl) ?_
  refine mk_new X hl.1 hH (i_X2 l aS dA D) (by decide) ⟨by decide +kernel, by decide +kernel, by decide +kernel⟩ (wAt_mem (pl := 173) (by decide +kernel)) iwX2.1 iwX2.2.1 cwiX2 iwX2.2.2 (Or.inr (hNs.1 _ (List.mem_of_getElem? (i := 0) rfl))) fsX2_ok ⟨by decide +kernel, by decide +kernel⟩ (Nat.le_of_ble_eq_true rfl) (Nat.le_of_ble_eq_true rfl) (Nat.le_of_ble_eq_true rfl) (Nat.le_of_ble_eq_true rfl) (Nat.le_of_ble_eq_true rfl) (show decode cX6_init 27 = .ok (.new 19, 3) by decide +kernel) (show decode cX6_init 30 = .ok (.dup, 1) by decide +kernel) (show decode cX6_init 31 = .ok (.invokespecial 21, 3) by decide +kernel) (fun q2 u H locs hu hH => ?_)
  obtain ⟨q2_0, q2_1, q2_2, rfl⟩ := len_3 hu
  refine mk_putF X hin hH (q0 := 0) (ci := 6) (k := 2) (ty := .object "ProofFine$Sightings") rfl (by decide) (by decide +kernel) (Nat.le_of_ble_eq_true rfl) (by decide +kernel) (by decide +kernel) (by decide +kernel) rfl rfl (wAt_mem (pl := 289) (by decide +kernel)) (show decode cX6_init 34 = .ok (.putfield 22, 3) by decide +kernel) (fun H locs hH => ?_)
  refine lv_aload_n hx hb (show decode cX6_init 37 = .ok (.aload_n 0, 1) by decide +kernel) rfl (lv_at hl 0 rfl) ?_
  refine mk_new X hl.1 hH (i_X4 l aS dA D) (by decide) ⟨by decide +kernel, by decide +kernel, by decide +kernel⟩ (wAt_mem (pl := 193) (by decide +kernel)) iwX4.1 iwX4.2.1 cwiX4 iwX4.2.2 (Or.inr (hNs.1 _ (List.mem_of_getElem? (i := 1) rfl))) fsX4_ok ⟨by decide +kernel, by decide +kernel⟩ (Nat.le_of_ble_eq_true rfl) (Nat.le_of_ble_eq_true rfl) (Nat.le_of_ble_eq_true rfl) (Nat.le_of_ble_eq_true rfl) (Nat.le_of_ble_eq_true rfl) (show decode cX6_init 38 = .ok (.new 26, 3) by decide +kernel) (show decode cX6_init 41 = .ok (.dup, 1) by decide +kernel) (show decode cX6_init 42 = .ok (.invokespecial 28, 3) by decide +kernel) (fun q3 u H locs hu hH => ?_)
  obtain ⟨q3_0, q3_1, q3_2, rfl⟩ := len_3 hu
  refine mk_putF X hin hH (q0 := 0) (ci := 6) (k := 3) (ty := .object "ProofFine$Teller") rfl (by decide) (by decide +kernel) (Nat.le_of_ble_eq_true rfl) (by decide +kernel) (by decide +kernel) (by decide +kernel) rfl rfl (wAt_mem (pl := 290) (by decide +kernel)) (show decode cX6_init 45 = .ok (.putfield 29, 3) by decide +kernel) (fun H locs hH => ?_)
  refine lv_aload_n hx hb (show decode cX6_init 48 = .ok (.aload_n 0, 1) by decide +kernel) rfl (lv_at hl 0 rfl) ?_
  refine lv_iconst (v := 2) hx hb (show decode cX6_init 49 = .ok (.iconst 2, 1) by decide +kernel) (by decide +kernel) ?_
  refine mk_arq X hH (k := 2) (C := RX0) (Or.inl ⟨rfl, rfl⟩) (wAt_mem (pl := 241) (by decide +kernel)) (n := 2) (N := 2) (by decide) (by decide +kernel) (by omega) (Nat.le_of_ble_eq_true rfl) (Nat.le_of_ble_eq_true rfl) (show decode cX6_init 50 = .ok (.anewarray 33, 3) by decide +kernel) (fun q4 H hH => ?_)
  refine mk_putF X hin hH (q0 := 0) (ci := 6) (k := 4) (ty := .array (.object "ProofFine$Image")) rfl (by decide) (by decide +kernel) (Nat.le_of_ble_eq_true rfl) (by decide +kernel) (by decide +kernel) (by decide +kernel) rfl rfl (wAt_mem (pl := 291) (by decide +kernel)) (show decode cX6_init 53 = .ok (.putfield 35, 3) by decide +kernel) (fun H locs hH => ?_)
  refine lv_aload_n hx hb (show decode cX6_init 56 = .ok (.aload_n 0, 1) by decide +kernel) rfl (lv_at hl 0 rfl) ?_
  refine lv_iconst (v := 4) hx hb (show decode cX6_init 57 = .ok (.iconst 4, 1) by decide +kernel) (by decide +kernel) ?_
  refine mk_arq X hH (k := 3) (C := RX1) (Or.inr ⟨rfl, rfl⟩) (wAt_mem (pl := 243) (by decide +kernel)) (n := 4) (N := 4) (by decide) (by decide +kernel) (by omega) (Nat.le_of_ble_eq_true rfl) (Nat.le_of_ble_eq_true rfl) (show decode cX6_init 58 = .ok (.anewarray 39, 3) by decide +kernel) (fun q5 H hH => ?_)
  refine mk_putF X hin hH (q0 := 0) (ci := 6) (k := 5) (ty := .array (.object "ProofFine$Sheet")) rfl (by decide) (by decide +kernel) (Nat.le_of_ble_eq_true rfl) (by decide +kernel) (by decide +kernel) (by decide +kernel) rfl rfl (wAt_mem (pl := 292) (by decide +kernel)) (show decode cX6_init 61 = .ok (.putfield 41, 3) by decide +kernel) (fun H locs hH => ?_)
  refine lv_aload_n hx hb (show decode cX6_init 64 = .ok (.aload_n 0, 1) by decide +kernel) rfl (lv_at hl 0 rfl) ?_
  refine lv_iconst (v := 4) hx hb (show decode cX6_init 65 = .ok (.iconst 4, 1) by decide +kernel) (by decide +kernel) ?_
  refine mk_arr X hH (n := 4) (N := 4) (by decide) (by decide +kernel) (by omega) (Nat.le_of_ble_eq_true rfl) (Nat.le_of_ble_eq_true rfl) (show decode cX6_init 66 = .ok (.newarray .int, 2) by decide +kernel) (fun q6 H hH => ?_)
  refine mk_putF X hin hH (q0 := 0) (ci := 6) (k := 6) (ty := .array .int) rfl (by decide) (by decide +kernel) (Nat.le_of_ble_eq_true rfl) (by decide +kernel) (by decide +kernel) (by decide +kernel) rfl rfl (wAt_mem (pl := 293) (by decide +kernel)) (show decode cX6_init 68 = .ok (.putfield 45, 3) by decide +kernel) (fun H locs hH => ?_)
  refine lv_aload_n hx hb (show decode cX6_init 71 = .ok (.aload_n 0, 1) by decide +kernel) rfl (lv_at hl 0 rfl) ?_
  refine lv_iconst (v := 4) hx hb (show decode cX6_init 72 = .ok (.iconst 4, 1) by decide +kernel) (by decide +kernel) ?_
  refine mk_arr X hH (n := 4) (N := 4) (by decide) (by decide +kernel) (by omega) (Nat.le_of_ble_eq_true rfl) (Nat.le_of_ble_eq_true rfl) (show decode cX6_init 73 = .ok (.newarray .int, 2) by decide +kernel) (fun q7 H hH => ?_)
  refine mk_putF X hin hH (q0 := 0) (ci := 6) (k := 7) (ty := .array .int) rfl (by decide) (by decide +kernel) (Nat.le_of_ble_eq_true rfl) (by decide +kernel) (by decide +kernel) (by decide +kernel) rfl rfl (wAt_mem (pl := 294) (by decide +kernel)) (show decode cX6_init 75 = .ok (.putfield 49, 3) by decide +kernel) (fun H locs hH => ?_)
  refine lv_aload_n hx hb (show decode cX6_init 78 = .ok (.aload_n 0, 1) by decide +kernel) rfl (lv_at hl 0 rfl) ?_
  refine lv_bipush (v := 40) hx hb (show decode cX6_init 79 = .ok (.bipush 40, 2) by decide +kernel) (by decide +kernel) ?_
  refine mk_arr X hH (n := 40) (N := 40) (by decide) (by decide +kernel) (by omega) (Nat.le_of_ble_eq_true rfl) (Nat.le_of_ble_eq_true rfl) (show decode cX6_init 81 = .ok (.newarray .int, 2) by decide +kernel) (fun q8 H hH => ?_)
  refine mk_putF X hin hH (q0 := 0) (ci := 6) (k := 8) (ty := .array .int) rfl (by decide) (by decide +kernel) (Nat.le_of_ble_eq_true rfl) (by decide +kernel) (by decide +kernel) (by decide +kernel) rfl rfl (wAt_mem (pl := 295) (by decide +kernel)) (show decode cX6_init 83 = .ok (.putfield 52, 3) by decide +kernel) (fun H locs hH => ?_)
  refine lv_iconst (v := 0) hx hb (show decode cX6_init 86 = .ok (.iconst 0, 1) by decide +kernel) (by decide +kernel) ?_
  refine lv_istore_n (lv' := [(1, .int 0), (0, .ref h0)]) hx hb (show decode cX6_init 87 = .ok (.istore_n 1, 1) by decide +kernel) rfl hl (by decide) rfl (fun ls hl => ?_)
  refine lv_iload_n hx hb (show decode cX6_init 88 = .ok (.iload_n 1, 1) by decide +kernel) rfl (lv_at hl 0 rfl) ?_
  refine lv_iconst (v := 2) hx hb (show decode cX6_init 89 = .ok (.iconst 2, 1) by decide +kernel) (by decide +kernel) ?_
  refine lv_icmp_ge (tgt := 112) hx hb (show decode cX6_init 90 = .ok (.if_icmp .ge 22, 3) by decide +kernel) (by decide) (fun z => absurd z (by decide)) (fun _ => ?_)
  refine lv_aload_n hx hb (show decode cX6_init 93 = .ok (.aload_n 0, 1) by decide +kernel) rfl (lv_at hl 1 rfl) ?_
  refine va_get (D := D) (cl := clsT) (ci := 6) (v := .ref q4) (C := (clE 6).1) (T := (clE 6).2.1) (N := (clE 6).2.2) hx hb hts (lay_ok (by decide)) hown hK hH.1 0 rfl rfl 4 (by decide +kernel) (hts _ (wAt_mem (w := .fieldLink (clsN 6) 35 ((clE 6).2.1 4).1 ((clE 6).2.1 4).2.1 ((clE 6).2.1 4).2.2.1) (pl := 291) (by decide +kernel))) (fun _ h9 => h9) rfl (show decode cX6_init 94 = .ok (.getfield 35, 3) by decide +kernel) ?_
  refine lv_iload_n hx hb (show decode cX6_init 97 = .ok (.iload_n 1, 1) by decide +kernel) rfl (lv_at hl 0 rfl) ?_
  refine mk_new X hl.1 hH (i_X0 l aS dA D) (by decide) ⟨by decide +kernel, by decide +kernel, by decide +kernel⟩ (wAt_mem (pl := 241) (by decide +kernel)) iwX0.1 iwX0.2.1 cwiX0 iwX0.2.2 (Or.inr (hNs.1 _ (List.mem_of_getElem? (i := 3) rfl))) fsX0_ok ⟨by decide +kernel, by decide +kernel⟩ (Nat.le_of_ble_eq_true rfl) (Nat.le_of_ble_eq_true rfl) (Nat.le_of_ble_eq_true rfl) (Nat.le_of_ble_eq_true rfl) (Nat.le_of_ble_eq_true rfl) (show decode cX6_init 98 = .ok (.new 33, 3) by decide +kernel) (show decode cX6_init 101 = .ok (.dup, 1) by decide +kernel) (show decode cX6_init 102 = .ok (.invokespecial 55, 3) by decide +kernel) (fun q9 u H locs hu hH => ?_)
  obtain ⟨q9_0, q9_1, q9_2, q9_3, q9_4, q9_5, q9_6, q9_7, q9_8, q9_9, q9_10, q9_11, q9_12, rfl⟩ := len_13 hu
  refine va_astq (D := D) (cl := clsT) (r := clE 0) hx hb hK hH.1 hH.2.1 hH.2.2 27 2 32 0 rfl rfl rfl rfl (i := 0) (vp_inR (by decide +kernel)) (show decode cX6_init 105 = .ok (.aastore, 1) by decide +kernel) (fun H locs h1 h2 h3 => ?_)
  have hH : Hw D A s (_) H locs := ⟨h1, h2, h3⟩
  refine lv_iinc (v := 1) (lv' := [(1, .int 1), (0, .ref h0)]) hx hb (show decode cX6_init 106 = .ok (.iinc 1 1, 3) by decide +kernel) hl (k := 0) rfl (by decide +kernel) (by decide) rfl (fun ls hl => ?_)
  refine lv_goto (tgt := 88) hx hb (show decode cX6_init 109 = .ok (.goto (-21), 3) by decide +kernel) (by decide) ?_
  refine lv_iload_n hx hb (show decode cX6_init 88 = .ok (.iload_n 1, 1) by decide +kernel) rfl (lv_at hl 0 rfl) ?_
  refine lv_iconst (v := 2) hx hb (show decode cX6_init 89 = .ok (.iconst 2, 1) by decide +kernel) (by decide +kernel) ?_
  refine lv_icmp_ge (tgt := 112) hx hb (show decode cX6_init 90 = .ok (.if_icmp .ge 22, 3) by decide +kernel) (by decide) (fun z => absurd z (by decide)) (fun _ => ?_)
  refine lv_aload_n hx hb (show decode cX6_init 93 = .ok (.aload_n 0, 1) by decide +kernel) rfl (lv_at hl 1 rfl) ?_
  refine va_get (D := D) (cl := clsT) (ci := 6) (v := .ref q4) (C := (clE 6).1) (T := (clE 6).2.1) (N := (clE 6).2.2) hx hb hts (lay_ok (by decide)) hown hK hH.1 0 rfl rfl 4 (by decide +kernel) (hts _ (wAt_mem (w := .fieldLink (clsN 6) 35 ((clE 6).2.1 4).1 ((clE 6).2.1 4).2.1 ((clE 6).2.1 4).2.2.1) (pl := 291) (by decide +kernel))) (fun _ h9 => h9) rfl (show decode cX6_init 94 = .ok (.getfield 35, 3) by decide +kernel) ?_
  refine lv_iload_n hx hb (show decode cX6_init 97 = .ok (.iload_n 1, 1) by decide +kernel) rfl (lv_at hl 0 rfl) ?_
  refine mk_new X hl.1 hH (i_X0 l aS dA D) (by decide) ⟨by decide +kernel, by decide +kernel, by decide +kernel⟩ (wAt_mem (pl := 241) (by decide +kernel)) iwX0.1 iwX0.2.1 cwiX0 iwX0.2.2 (Or.inr (hNs.1 _ (List.mem_of_getElem? (i := 3) rfl))) fsX0_ok ⟨by decide +kernel, by decide +kernel⟩ (Nat.le_of_ble_eq_true rfl) (Nat.le_of_ble_eq_true rfl) (Nat.le_of_ble_eq_true rfl) (Nat.le_of_ble_eq_true rfl) (Nat.le_of_ble_eq_true rfl) (show decode cX6_init 98 = .ok (.new 33, 3) by decide +kernel) (show decode cX6_init 101 = .ok (.dup, 1) by decide +kernel) (show decode cX6_init 102 = .ok (.invokespecial 55, 3) by decide +kernel) (fun q10 u H locs hu hH => ?_)
  obtain ⟨q10_0, q10_1, q10_2, q10_3, q10_4, q10_5, q10_6, q10_7, q10_8, q10_9, q10_10, q10_11, q10_12, rfl⟩ := len_13 hu
  refine va_astq (D := D) (cl := clsT) (r := clE 0) hx hb hK hH.1 hH.2.1 hH.2.2 27 2 46 0 rfl rfl rfl rfl (i := 1) (vp_inR (by decide +kernel)) (show decode cX6_init 105 = .ok (.aastore, 1) by decide +kernel) (fun H locs h1 h2 h3 => ?_)
  have hH : Hw D A s (_) H locs := ⟨h1, h2, h3⟩
  refine lv_iinc (v := 2) (lv' := [(1, .int 2), (0, .ref h0)]) hx hb (show decode cX6_init 106 = .ok (.iinc 1 1, 3) by decide +kernel) hl (k := 0) rfl (by decide +kernel) (by decide) rfl (fun ls hl => ?_)
  refine lv_goto (tgt := 88) hx hb (show decode cX6_init 109 = .ok (.goto (-21), 3) by decide +kernel) (by decide) ?_
  refine lv_iload_n hx hb (show decode cX6_init 88 = .ok (.iload_n 1, 1) by decide +kernel) rfl (lv_at hl 0 rfl) ?_
  refine lv_iconst (v := 2) hx hb (show decode cX6_init 89 = .ok (.iconst 2, 1) by decide +kernel) (by decide +kernel) ?_
  refine lv_icmp_ge (tgt := 112) hx hb (show decode cX6_init 90 = .ok (.if_icmp .ge 22, 3) by decide +kernel) (by decide) (fun _ => ?_) (fun z => absurd (by decide) z)
  refine lv_iconst (v := 0) hx hb (show decode cX6_init 112 = .ok (.iconst 0, 1) by decide +kernel) (by decide +kernel) ?_
  refine lv_istore_n (lv' := [(1, .int 0), (0, .ref h0)]) hx hb (show decode cX6_init 113 = .ok (.istore_n 1, 1) by decide +kernel) rfl hl (by decide) rfl (fun ls hl => ?_)
  refine lv_iload_n hx hb (show decode cX6_init 114 = .ok (.iload_n 1, 1) by decide +kernel) rfl (lv_at hl 0 rfl) ?_
  refine lv_iconst (v := 4) hx hb (show decode cX6_init 115 = .ok (.iconst 4, 1) by decide +kernel) (by decide +kernel) ?_
  refine lv_icmp_ge (tgt := 138) hx hb (show decode cX6_init 116 = .ok (.if_icmp .ge 22, 3) by decide +kernel) (by decide) (fun z => absurd z (by decide)) (fun _ => ?_)
  refine lv_aload_n hx hb (show decode cX6_init 119 = .ok (.aload_n 0, 1) by decide +kernel) rfl (lv_at hl 1 rfl) ?_
  refine va_get (D := D) (cl := clsT) (ci := 6) (v := .ref q5) (C := (clE 6).1) (T := (clE 6).2.1) (N := (clE 6).2.2) hx hb hts (lay_ok (by decide)) hown hK hH.1 0 rfl rfl 5 (by decide +kernel) (hts _ (wAt_mem (w := .fieldLink (clsN 6) 41 ((clE 6).2.1 5).1 ((clE 6).2.1 5).2.1 ((clE 6).2.1 5).2.2.1) (pl := 292) (by decide +kernel))) (fun _ h9 => h9) rfl (show decode cX6_init 120 = .ok (.getfield 41, 3) by decide +kernel) ?_
  refine lv_iload_n hx hb (show decode cX6_init 123 = .ok (.iload_n 1, 1) by decide +kernel) rfl (lv_at hl 0 rfl) ?_
  refine mk_new X hl.1 hH (i_X1 l aS dA D) (by decide) ⟨by decide +kernel, by decide +kernel, by decide +kernel⟩ (wAt_mem (pl := 243) (by decide +kernel)) iwX1.1 iwX1.2.1 cwiX1 iwX1.2.2 (Or.inr (hNs.1 _ (List.mem_of_getElem? (i := 5) rfl))) fsX1_ok ⟨by decide +kernel, by decide +kernel⟩ (Nat.le_of_ble_eq_true rfl) (Nat.le_of_ble_eq_true rfl) (Nat.le_of_ble_eq_true rfl) (Nat.le_of_ble_eq_true rfl) (Nat.le_of_ble_eq_true rfl) (show decode cX6_init 124 = .ok (.new 39, 3) by decide +kernel) (show decode cX6_init 127 = .ok (.dup, 1) by decide +kernel) (show decode cX6_init 128 = .ok (.invokespecial 56, 3) by decide +kernel) (fun q11 u H locs hu hH => ?_)
  obtain ⟨q11_0, rfl⟩ := len_1 hu
  refine va_astq (D := D) (cl := clsT) (r := clE 1) hx hb hK hH.1 hH.2.1 hH.2.2 28 3 60 1 rfl rfl rfl rfl (i := 0) (vp_inR (by decide +kernel)) (show decode cX6_init 131 = .ok (.aastore, 1) by decide +kernel) (fun H locs h1 h2 h3 => ?_)
  have hH : Hw D A s (_) H locs := ⟨h1, h2, h3⟩
  refine lv_iinc (v := 1) (lv' := [(1, .int 1), (0, .ref h0)]) hx hb (show decode cX6_init 132 = .ok (.iinc 1 1, 3) by decide +kernel) hl (k := 0) rfl (by decide +kernel) (by decide) rfl (fun ls hl => ?_)
  refine lv_goto (tgt := 114) hx hb (show decode cX6_init 135 = .ok (.goto (-21), 3) by decide +kernel) (by decide) ?_
  refine lv_iload_n hx hb (show decode cX6_init 114 = .ok (.iload_n 1, 1) by decide +kernel) rfl (lv_at hl 0 rfl) ?_
  refine lv_iconst (v := 4) hx hb (show decode cX6_init 115 = .ok (.iconst 4, 1) by decide +kernel) (by decide +kernel) ?_
  refine lv_icmp_ge (tgt := 138) hx hb (show decode cX6_init 116 = .ok (.if_icmp .ge 22, 3) by decide +kernel) (by decide) (fun z => absurd z (by decide)) (fun _ => ?_)
  refine lv_aload_n hx hb (show decode cX6_init 119 = .ok (.aload_n 0, 1) by decide +kernel) rfl (lv_at hl 1 rfl) ?_
  refine va_get (D := D) (cl := clsT) (ci := 6) (v := .ref q5) (C := (clE 6).1) (T := (clE 6).2.1) (N := (clE 6).2.2) hx hb hts (lay_ok (by decide)) hown hK hH.1 0 rfl rfl 5 (by decide +kernel) (hts _ (wAt_mem (w := .fieldLink (clsN 6) 41 ((clE 6).2.1 5).1 ((clE 6).2.1 5).2.1 ((clE 6).2.1 5).2.2.1) (pl := 292) (by decide +kernel))) (fun _ h9 => h9) rfl (show decode cX6_init 120 = .ok (.getfield 41, 3) by decide +kernel) ?_
  refine lv_iload_n hx hb (show decode cX6_init 123 = .ok (.iload_n 1, 1) by decide +kernel) rfl (lv_at hl 0 rfl) ?_
  refine mk_new X hl.1 hH (i_X1 l aS dA D) (by decide) ⟨by decide +kernel, by decide +kernel, by decide +kernel⟩ (wAt_mem (pl := 243) (by decide +kernel)) iwX1.1 iwX1.2.1 cwiX1 iwX1.2.2 (Or.inr (hNs.1 _ (List.mem_of_getElem? (i := 5) rfl))) fsX1_ok ⟨by decide +kernel, by decide +kernel⟩ (Nat.le_of_ble_eq_true rfl) (Nat.le_of_ble_eq_true rfl) (Nat.le_of_ble_eq_true rfl) (Nat.le_of_ble_eq_true rfl) (Nat.le_of_ble_eq_true rfl) (show decode cX6_init 124 = .ok (.new 39, 3) by decide +kernel) (show decode cX6_init 127 = .ok (.dup, 1) by decide +kernel) (show decode cX6_init 128 = .ok (.invokespecial 56, 3) by decide +kernel) (fun q12 u H locs hu hH => ?_)
  obtain ⟨q12_0, rfl⟩ := len_1 hu
  refine va_astq (D := D) (cl := clsT) (r := clE 1) hx hb hK hH.1 hH.2.1 hH.2.2 28 3 62 1 rfl rfl rfl rfl (i := 1) (vp_inR (by decide +kernel)) (show decode cX6_init 131 = .ok (.aastore, 1) by decide +kernel) (fun H locs h1 h2 h3 => ?_)
  have hH : Hw D A s (_) H locs := ⟨h1, h2, h3⟩
  refine lv_iinc (v := 2) (lv' := [(1, .int 2), (0, .ref h0)]) hx hb (show decode cX6_init 132 = .ok (.iinc 1 1, 3) by decide +kernel) hl (k := 0) rfl (by decide +kernel) (by decide) rfl (fun ls hl => ?_)
  refine lv_goto (tgt := 114) hx hb (show decode cX6_init 135 = .ok (.goto (-21), 3) by decide +kernel) (by decide) ?_
  refine lv_iload_n hx hb (show decode cX6_init 114 = .ok (.iload_n 1, 1) by decide +kernel) rfl (lv_at hl 0 rfl) ?_
  refine lv_iconst (v := 4) hx hb (show decode cX6_init 115 = .ok (.iconst 4, 1) by decide +kernel) (by decide +kernel) ?_
  refine lv_icmp_ge (tgt := 138) hx hb (show decode cX6_init 116 = .ok (.if_icmp .ge 22, 3) by decide +kernel) (by decide) (fun z => absurd z (by decide)) (fun _ => ?_)
  refine lv_aload_n hx hb (show decode cX6_init 119 = .ok (.aload_n 0, 1) by decide +kernel) rfl (lv_at hl 1 rfl) ?_
  refine va_get (D := D) (cl := clsT) (ci := 6) (v := .ref q5) (C := (clE 6).1) (T := (clE 6).2.1) (N := (clE 6).2.2) hx hb hts (lay_ok (by decide)) hown hK hH.1 0 rfl rfl 5 (by decide +kernel) (hts _ (wAt_mem (w := .fieldLink (clsN 6) 41 ((clE 6).2.1 5).1 ((clE 6).2.1 5).2.1 ((clE 6).2.1 5).2.2.1) (pl := 292) (by decide +kernel))) (fun _ h9 => h9) rfl (show decode cX6_init 120 = .ok (.getfield 41, 3) by decide +kernel) ?_
  refine lv_iload_n hx hb (show decode cX6_init 123 = .ok (.iload_n 1, 1) by decide +kernel) rfl (lv_at hl 0 rfl) ?_
  refine mk_new X hl.1 hH (i_X1 l aS dA D) (by decide) ⟨by decide +kernel, by decide +kernel, by decide +kernel⟩ (wAt_mem (pl := 243) (by decide +kernel)) iwX1.1 iwX1.2.1 cwiX1 iwX1.2.2 (Or.inr (hNs.1 _ (List.mem_of_getElem? (i := 5) rfl))) fsX1_ok ⟨by decide +kernel, by decide +kernel⟩ (Nat.le_of_ble_eq_true rfl) (Nat.le_of_ble_eq_true rfl) (Nat.le_of_ble_eq_true rfl) (Nat.le_of_ble_eq_true rfl) (Nat.le_of_ble_eq_true rfl) (show decode cX6_init 124 = .ok (.new 39, 3) by decide +kernel) (show decode cX6_init 127 = .ok (.dup, 1) by decide +kernel) (show decode cX6_init 128 = .ok (.invokespecial 56, 3) by decide +kernel) (fun q13 u H locs hu hH => ?_)
  obtain ⟨q13_0, rfl⟩ := len_1 hu
  refine va_astq (D := D) (cl := clsT) (r := clE 1) hx hb hK hH.1 hH.2.1 hH.2.2 28 3 64 1 rfl rfl rfl rfl (i := 2) (vp_inR (by decide +kernel)) (show decode cX6_init 131 = .ok (.aastore, 1) by decide +kernel) (fun H locs h1 h2 h3 => ?_)
  have hH : Hw D A s (_) H locs := ⟨h1, h2, h3⟩
  refine lv_iinc (v := 3) (lv' := [(1, .int 3), (0, .ref h0)]) hx hb (show decode cX6_init 132 = .ok (.iinc 1 1, 3) by decide +kernel) hl (k := 0) rfl (by decide +kernel) (by decide) rfl (fun ls hl => ?_)
  refine lv_goto (tgt := 114) hx hb (show decode cX6_init 135 = .ok (.goto (-21), 3) by decide +kernel) (by decide) ?_
  refine lv_iload_n hx hb (show decode cX6_init 114 = .ok (.iload_n 1, 1) by decide +kernel) rfl (lv_at hl 0 rfl) ?_
  refine lv_iconst (v := 4) hx hb (show decode cX6_init 115 = .ok (.iconst 4, 1) by decide +kernel) (by decide +kernel) ?_
  refine lv_icmp_ge (tgt := 138) hx hb (show decode cX6_init 116 = .ok (.if_icmp .ge 22, 3) by decide +kernel) (by decide) (fun z => absurd z (by decide)) (fun _ => ?_)
  refine lv_aload_n hx hb (show decode cX6_init 119 = .ok (.aload_n 0, 1) by decide +kernel) rfl (lv_at hl 1 rfl) ?_
  refine va_get (D := D) (cl := clsT) (ci := 6) (v := .ref q5) (C := (clE 6).1) (T := (clE 6).2.1) (N := (clE 6).2.2) hx hb hts (lay_ok (by decide)) hown hK hH.1 0 rfl rfl 5 (by decide +kernel) (hts _ (wAt_mem (w := .fieldLink (clsN 6) 41 ((clE 6).2.1 5).1 ((clE 6).2.1 5).2.1 ((clE 6).2.1 5).2.2.1) (pl := 292) (by decide +kernel))) (fun _ h9 => h9) rfl (show decode cX6_init 120 = .ok (.getfield 41, 3) by decide +kernel) ?_
  refine lv_iload_n hx hb (show decode cX6_init 123 = .ok (.iload_n 1, 1) by decide +kernel) rfl (lv_at hl 0 rfl) ?_
  refine mk_new X hl.1 hH (i_X1 l aS dA D) (by decide) ⟨by decide +kernel, by decide +kernel, by decide +kernel⟩ (wAt_mem (pl := 243) (by decide +kernel)) iwX1.1 iwX1.2.1 cwiX1 iwX1.2.2 (Or.inr (hNs.1 _ (List.mem_of_getElem? (i := 5) rfl))) fsX1_ok ⟨by decide +kernel, by decide +kernel⟩ (Nat.le_of_ble_eq_true rfl) (Nat.le_of_ble_eq_true rfl) (Nat.le_of_ble_eq_true rfl) (Nat.le_of_ble_eq_true rfl) (Nat.le_of_ble_eq_true rfl) (show decode cX6_init 124 = .ok (.new 39, 3) by decide +kernel) (show decode cX6_init 127 = .ok (.dup, 1) by decide +kernel) (show decode cX6_init 128 = .ok (.invokespecial 56, 3) by decide +kernel) (fun q14 u H locs hu hH => ?_)
  obtain ⟨q14_0, rfl⟩ := len_1 hu
  refine va_astq (D := D) (cl := clsT) (r := clE 1) hx hb hK hH.1 hH.2.1 hH.2.2 28 3 66 1 rfl rfl rfl rfl (i := 3) (vp_inR (by decide +kernel)) (show decode cX6_init 131 = .ok (.aastore, 1) by decide +kernel) (fun H locs h1 h2 h3 => ?_)
  have hH : Hw D A s (_) H locs := ⟨h1, h2, h3⟩
  refine lv_iinc (v := 4) (lv' := [(1, .int 4), (0, .ref h0)]) hx hb (show decode cX6_init 132 = .ok (.iinc 1 1, 3) by decide +kernel) hl (k := 0) rfl (by decide +kernel) (by decide) rfl (fun ls hl => ?_)
  refine lv_goto (tgt := 114) hx hb (show decode cX6_init 135 = .ok (.goto (-21), 3) by decide +kernel) (by decide) ?_
  refine lv_iload_n hx hb (show decode cX6_init 114 = .ok (.iload_n 1, 1) by decide +kernel) rfl (lv_at hl 0 rfl) ?_
  refine lv_iconst (v := 4) hx hb (show decode cX6_init 115 = .ok (.iconst 4, 1) by decide +kernel) (by decide +kernel) ?_
  refine lv_icmp_ge (tgt := 138) hx hb (show decode cX6_init 116 = .ok (.if_icmp .ge 22, 3) by decide +kernel) (by decide) (fun _ => ?_) (fun z => absurd (by decide) z)
  have hP9 : va_P D clsT (gOf proofE0 dA mP0 (h0 :: [q0, q0_0, q0_1, q0_2, q0_3, q0_4, q0_5, q0_6, q0_7, q1, q1_0, q1_1, q1_2, q1_3, q1_4, q1_5, q1_6, q1_7, q2, q2_0, q2_1, q2_2, q3, q3_0, q3_1, q3_2, q4, q5, q6, q7, q8, q9, q9_0, q9_1, q9_2, q9_3, q9_4, q9_5, q9_6, q9_7, q9_8, q9_9, q9_10, q9_11, q9_12, q10, q10_0, q10_1, q10_2, q10_3, q10_4, q10_5, q10_6, q10_7, q10_8, q10_9, q10_10, q10_11, q10_12, q11, q11_0, q12, q12_0, q13, q13_0, q14, q14_0])) H := hH.1
  have hD9 : va_D A (gOf proofE0 dA mP0 (h0 :: [q0, q0_0, q0_1, q0_2, q0_3, q0_4, q0_5, q0_6, q0_7, q1, q1_0, q1_1, q1_2, q1_3, q1_4, q1_5, q1_6, q1_7, q2, q2_0, q2_1, q2_2, q3, q3_0, q3_1, q3_2, q4, q5, q6, q7, q8, q9, q9_0, q9_1, q9_2, q9_3, q9_4, q9_5, q9_6, q9_7, q9_8, q9_9, q9_10, q9_11, q9_12, q10, q10_0, q10_1, q10_2, q10_3, q10_4, q10_5, q10_6, q10_7, q10_8, q10_9, q10_10, q10_11, q10_12, q11, q11_0, q12, q12_0, q13, q13_0, q14, q14_0])) := hH.2.1
  exact W.vret hx hb hr (fun t ht hW => by
    unfold QcI
    rw [hAe]
    exact ⟨⟨[q0, q0_0, q0_1, q0_2, q0_3, q0_4, q0_5, q0_6, q0_7, q1, q1_0, q1_1, q1_2, q1_3, q1_4, q1_5, q1_6, q1_7, q2, q2_0, q2_1, q2_2, q3, q3_0, q3_1, q3_2, q4, q5, q6, q7, q8, q9, q9_0, q9_1, q9_2, q9_3, q9_4, q9_5, q9_6, q9_7, q9_8, q9_9, q9_10, q9_11, q9_12, q10, q10_0, q10_1, q10_2, q10_3, q10_4, q10_5, q10_6, q10_7, q10_8, q10_9, q10_10, q10_11, q10_12, q11, q11_0, q12, q12_0, q13, q13_0, q14, q14_0], rfl, rfl, by rw [ht]; exact hP9, hD9⟩, hH.2.2.F ht⟩) hH.2.2.2.2 (show decode cX6_init 138 = .ok (.return_, 1) by decide +kernel)
