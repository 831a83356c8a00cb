/-! a run of instructions -/
section SimR
variable {l : Launch} {sh : List ShE} {ad : Nat → Nat} {dA : Nat → ClassId} {D : va_G}
variable {p : Program} {e : Env} {R : Room} {s : State} {m : MethodId} {args : Array Value} {below : List Frame} {meth : Method} {c : Code} {cells slots : Nat} {Q : State → Prop}
variable {tb : Nat → Option (List Int32)} {A : Nat → Prop} {own nL fr lo : Nat} {cc : ByteArray} {C : CallS}
theorem bin_ok {raw i : ClassFile.Instr} {len : Nat} (h : decide (raw = i ∧ len = 1) = true) : raw = i ∧ len = 1 := of_decide_eq_true h
set_option maxHeartbeats 4000000 in
theorem sim_step (hT : ∀ o T, tb0 o = some T → tb o = some T) (X : Cx sh tb ad dA D A own nL cc p s m args c) (hC : ∀ z As m0 r, C z As m0 = some r → MetZ l sh ad dA D z As m0 r) (hfr : fr ≤ R.frames) (hlo : lo ≤ R.locals) (hc : cells ≤ R.cells) (hsl : slots ≤ R.slots)
    {i raw : ClassFile.Instr} {len pc : Nat} {L st L' st' : List Value} {m0 m1 : Mm} (h : sI sh tb mN mO C i L st m0 = some (L', st', m1)) (ok : okI own fr lo pc i raw len = true) (hd : decode cc pc = .ok (raw, len)) (hni : ∀ t, i ≠ .goto t)
    (kk : Gd l sh ad dA D A nL p e R s m args below meth c cells slots Q (pc + len) L' st' m1) : Gd l sh ad dA D A nL p e R s m args below meth c cells slots Q pc L st m0 := by
  obtain ⟨hx, hb, hml, hown, hts, hK, hsh, hSt, hA⟩ := id X
  cases i
  case sipush n =>
    simp only [sI, Option.some.injEq, Prod.mk.injEq] at h
    obtain ⟨rfl, rfl, rfl⟩ := h
    simp only [okI] at ok
    intro ls H locs hl hH
    have k9 := kk ls H locs hl hH
    split at ok
    · obtain ⟨rfl, h2⟩ := of_decide_eq_true ok
      exact lv_iconst hx hb hd h2 k9
    · obtain ⟨rfl, h2⟩ := of_decide_eq_true ok
      exact lv_bipush hx hb hd h2 k9
    · obtain ⟨rfl, h2⟩ := of_decide_eq_true ok
      exact lv_sipush hx hb hd h2 k9
    · simp only [Bool.and_eq_true, decide_eq_true_eq] at ok
      obtain ⟨rfl, h2⟩ := ok
      obtain ⟨q, hq, h3⟩ := List.any_eq_true.mp h2
      obtain ⟨rfl, rfl, rfl⟩ := of_decide_eq_true h3
      exact lv_ldc hx hb hown (hts _ (wAt_mem (List.all_eq_true.mp iT_ok q hq))) hd k9
    · simp only [Bool.and_eq_true, decide_eq_true_eq] at ok
      obtain ⟨rfl, h2⟩ := ok
      obtain ⟨q, hq, h3⟩ := List.any_eq_true.mp h2
      obtain ⟨rfl, rfl, rfl⟩ := of_decide_eq_true h3
      exact lv_ldcw hx hb hown (hts _ (wAt_mem (List.all_eq_true.mp iT_ok q hq))) hd k9
    · cases ok
  case jsr n =>
    simp only [sI, Option.some.injEq, Prod.mk.injEq] at h
    obtain ⟨rfl, rfl, rfl⟩ := h
    simp only [okI] at ok
    intro ls H locs hl hH
    have k9 := kk ls H locs hl hH
    split at ok
    · obtain ⟨rfl, h2⟩ := of_decide_eq_true ok
      exact lv_lconst hx hb hd h2 k9
    · simp only [Bool.and_eq_true, decide_eq_true_eq] at ok
      obtain ⟨rfl, h2⟩ := ok
      obtain ⟨q, hq, h3⟩ := List.any_eq_true.mp h2
      obtain ⟨rfl, rfl, rfl⟩ := of_decide_eq_true h3
      exact lv_ldc2 hx hb hown (hts _ (wAt_mem (List.all_eq_true.mp lT_ok q hq))) hd k9
    · cases ok
  case getstatic o =>
    simp only [sI, Option.some.injEq, Prod.mk.injEq] at h
    obtain ⟨rfl, rfl, rfl⟩ := h
    simp only [okI] at ok
    intro ls H locs hl hH
    have k9 := kk ls H locs hl hH
    split at ok
    · simp only [Bool.and_eq_true, decide_eq_true_eq] at ok
      obtain ⟨rfl, h2⟩ := ok
      obtain ⟨q, hq, h3⟩ := List.any_eq_true.mp h2
      obtain ⟨rfl, rfl, rfl⟩ := of_decide_eq_true h3
      exact va_getsN hx hb (hSt.2.1 q hq).1 hH.2.2 hown ((hSt.2.1 q hq).2.use rfl) (fun _ h9 => h9) hd k9
    · simp only [Bool.and_eq_true, decide_eq_true_eq] at ok
      obtain ⟨rfl, h2⟩ := ok
      obtain ⟨q, hq, h3⟩ := List.any_eq_true.mp h2
      obtain ⟨rfl, rfl, rfl⟩ := of_decide_eq_true h3
      obtain ⟨tx, h4⟩ := hSt.2.2.1 q hq
      exact va_ldcS hx hb hown h4 hd k9
    · cases ok
  case iload j =>
    simp only [sI] at h
    split at h
    · rename_i x hj
      simp only [Option.some.injEq, Prod.mk.injEq] at h
      obtain ⟨rfl, rfl, rfl⟩ := h
      simp only [okI] at ok
      intro ls H locs hl hH
      have k9 := kk ls H locs hl hH
      split at ok
      · obtain ⟨rfl, h2⟩ := of_decide_eq_true ok
        exact lv_iload_n hx hb hd h2 (hl.at hj rfl) k9
      · obtain ⟨rfl, rfl⟩ := of_decide_eq_true ok
        exact lv_iload hx hb hd (hl.at hj rfl) k9
      · cases ok
    · cases h
  case lload j =>
    simp only [sI] at h
    split at h
    · rename_i x hj
      simp only [Option.some.injEq, Prod.mk.injEq] at h
      obtain ⟨rfl, rfl, rfl⟩ := h
      simp only [okI] at ok
      intro ls H locs hl hH
      have k9 := kk ls H locs hl hH
      split at ok
      · obtain ⟨rfl, h2⟩ := of_decide_eq_true ok
        exact lv_lload_n hx hb hd h2 (hl.at hj rfl) k9
      · obtain ⟨rfl, rfl⟩ := of_decide_eq_true ok
        exact lv_lload hx hb hd (hl.at hj rfl) k9
      · cases ok
    · cases h
  case aload j =>
    simp only [sI] at h
    split at h
    · rename_i x hj
      simp only [Option.some.injEq, Prod.mk.injEq] at h
      obtain ⟨rfl, rfl, rfl⟩ := h
      simp only [okI] at ok
      intro ls H locs hl hH
      have k9 := kk ls H locs hl hH
      split at ok
      · obtain ⟨rfl, h2⟩ := of_decide_eq_true ok
        exact lv_aload_n hx hb hd h2 (hl.at hj rfl) k9
      · obtain ⟨rfl, rfl⟩ := of_decide_eq_true ok
        exact lv_aload hx hb hd (hl.at hj rfl) k9
      · cases ok
    · cases h
  case istore j =>
    simp only [sI] at h
    split at h
    · rename_i x st
      split at h
      · rename_i hj
        simp only [Option.some.injEq, Prod.mk.injEq] at h
        obtain ⟨rfl, rfl, rfl⟩ := h
        simp only [okI] at ok
        intro ls H locs hl hH
        have hjn : j < nL := by rw [← hl.2.2.1]; exact hj
        split at ok
        · obtain ⟨rfl, h2⟩ := of_decide_eq_true ok
          exact lv_istore_n hx hb hd h2 hl.has hjn rfl (fun ls' hl' => kk ls' H locs (LR.put1 (v := .int x) hl.2.2.1 rfl hl') hH)
        · obtain ⟨rfl, rfl⟩ := of_decide_eq_true ok
          exact lv_istore hx hb hd hl.has hjn rfl (fun ls' hl' => kk ls' H locs (LR.put1 (v := .int x) hl.2.2.1 rfl hl') hH)
        · cases ok
      · cases h
    · cases h
  case astore j =>
    simp only [sI] at h
    split at h
    · rename_i x st
      split at h
      · rename_i hj
        simp only [Option.some.injEq, Prod.mk.injEq] at h
        obtain ⟨rfl, rfl, rfl⟩ := h
        simp only [okI] at ok
        intro ls H locs hl hH
        have hjn : j < nL := by rw [← hl.2.2.1]; exact hj
        split at ok
        · obtain ⟨rfl, h2⟩ := of_decide_eq_true ok
          exact lv_astore_n hx hb hd h2 hl.has hjn rfl (fun ls' hl' => kk ls' H locs (LR.put1 (v := .ref x) hl.2.2.1 rfl hl') hH)
        · obtain ⟨rfl, rfl⟩ := of_decide_eq_true ok
          exact lv_astore hx hb hd hl.has hjn rfl (fun ls' hl' => kk ls' H locs (LR.put1 (v := .ref x) hl.2.2.1 rfl hl') hH)
        · cases ok
      · cases h
    · cases h
  case lstore j =>
    simp only [sI] at h
    split at h
    · rename_i x st
      split at h
      · rename_i hj
        simp only [Option.some.injEq, Prod.mk.injEq] at h
        obtain ⟨rfl, rfl, rfl⟩ := h
        simp only [okI] at ok
        intro ls H locs hl hH
        have hjn : j + 1 < nL := by rw [← hl.2.2.1]; exact hj
        split at ok
        · obtain ⟨rfl, h2⟩ := of_decide_eq_true ok
          exact lv_lstore_n hx hb hd h2 hl.has hjn rfl (fun ls' hl' => kk ls' H locs (LR.put2 (v := .long x) hl.2.2.1 rfl hl') hH)
        · obtain ⟨rfl, rfl⟩ := of_decide_eq_true ok
          exact lv_lstore hx hb hd hl.has hjn rfl (fun ls' hl' => kk ls' H locs (LR.put2 (v := .long x) hl.2.2.1 rfl hl') hH)
        · cases ok
      · cases h
    · cases h
  case iinc j n =>
    simp only [sI] at h
    split at h
    · rename_i x hj
      split at h
      · rename_i hjl
        simp only [Option.some.injEq, Prod.mk.injEq] at h
        obtain ⟨rfl, rfl, rfl⟩ := h
        obtain ⟨rfl, rfl⟩ := of_decide_eq_true ok
        intro ls H locs hl hH
        have hjn : j < nL := by rw [← hl.2.2.1]; exact hjl
        have hm : (j, Value.int x) ∈ lvl ad L := lvl_mem.mpr ⟨.int x, ld_some hj rfl, rfl, rfl⟩
        obtain ⟨k, hk⟩ := List.getElem?_of_mem hm
        exact lv_iinc (v := x + Int32.ofInt n) hx hb hd hl.has hk rfl hjn rfl (fun ls' hl' => kk ls' H locs (LR.put1 (v := .int (x + Int32.ofInt n)) hl.2.2.1 rfl hl') hH)
      · cases h
    · cases h
  case iadd =>
    simp only [sI] at h
    split at h
    · simp only [Option.some.injEq, Prod.mk.injEq] at h
      obtain ⟨rfl, rfl, rfl⟩ := h
      obtain ⟨rfl, rfl⟩ := bin_ok ok
      exact fun ls H locs hl hH => lv_iadd hx hb hd (kk ls H locs hl hH)
    · cases h
  case isub =>
    simp only [sI] at h
    split at h
    · simp only [Option.some.injEq, Prod.mk.injEq] at h
      obtain ⟨rfl, rfl, rfl⟩ := h
      obtain ⟨rfl, rfl⟩ := bin_ok ok
      exact fun ls H locs hl hH => lv_isub hx hb hd (kk ls H locs hl hH)
    · cases h
  case imul =>
    simp only [sI] at h
    split at h
    · simp only [Option.some.injEq, Prod.mk.injEq] at h
      obtain ⟨rfl, rfl, rfl⟩ := h
      obtain ⟨rfl, rfl⟩ := bin_ok ok
      exact fun ls H locs hl hH => lv_imul hx hb hd (kk ls H locs hl hH)
    · cases h
  case idiv =>
    simp only [sI] at h
    split at h
    · split at h
      · cases h
      · rename_i hne
        simp only [Option.some.injEq, Prod.mk.injEq] at h
        obtain ⟨rfl, rfl, rfl⟩ := h
        obtain ⟨rfl, rfl⟩ := bin_ok ok
        exact fun ls H locs hl hH => lv_idiv hx hb hd hne (kk ls H locs hl hH)
    · cases h
  case irem =>
    simp only [sI] at h
    split at h
    · split at h
      · cases h
      · rename_i hne
        simp only [Option.some.injEq, Prod.mk.injEq] at h
        obtain ⟨rfl, rfl, rfl⟩ := h
        obtain ⟨rfl, rfl⟩ := bin_ok ok
        exact fun ls H locs hl hH => lv_irem hx hb hd hne (kk ls H locs hl hH)
    · cases h
  case iand =>
    simp only [sI] at h
    split at h
    · simp only [Option.some.injEq, Prod.mk.injEq] at h
      obtain ⟨rfl, rfl, rfl⟩ := h
      obtain ⟨rfl, rfl⟩ := bin_ok ok
      exact fun ls H locs hl hH => lv_iand hx hb hd (kk ls H locs hl hH)
    · cases h
  case ior =>
    simp only [sI] at h
    split at h
    · simp only [Option.some.injEq, Prod.mk.injEq] at h
      obtain ⟨rfl, rfl, rfl⟩ := h
      obtain ⟨rfl, rfl⟩ := bin_ok ok
      exact fun ls H locs hl hH => lv_ior hx hb hd (kk ls H locs hl hH)
    · cases h
  case ixor =>
    simp only [sI] at h
    split at h
    · simp only [Option.some.injEq, Prod.mk.injEq] at h
      obtain ⟨rfl, rfl, rfl⟩ := h
      obtain ⟨rfl, rfl⟩ := bin_ok ok
      exact fun ls H locs hl hH => lv_ixor hx hb hd (kk ls H locs hl hH)
    · cases h
  case ishl =>
    simp only [sI] at h
    split at h
    · simp only [Option.some.injEq, Prod.mk.injEq] at h
      obtain ⟨rfl, rfl, rfl⟩ := h
      obtain ⟨rfl, rfl⟩ := bin_ok ok
      exact fun ls H locs hl hH => lv_ishl hx hb hd (kk ls H locs hl hH)
    · cases h
  case ishr =>
    simp only [sI] at h
    split at h
    · simp only [Option.some.injEq, Prod.mk.injEq] at h
      obtain ⟨rfl, rfl, rfl⟩ := h
      obtain ⟨rfl, rfl⟩ := bin_ok ok
      exact fun ls H locs hl hH => lv_ishr hx hb hd (kk ls H locs hl hH)
    · cases h
  case iushr =>
    simp only [sI] at h
    split at h
    · simp only [Option.some.injEq, Prod.mk.injEq] at h
      obtain ⟨rfl, rfl, rfl⟩ := h
      obtain ⟨rfl, rfl⟩ := bin_ok ok
      exact fun ls H locs hl hH => lv_iushr hx hb hd rfl (kk ls H locs hl hH)
    · cases h
  case ladd =>
    simp only [sI] at h
    split at h
    · simp only [Option.some.injEq, Prod.mk.injEq] at h
      obtain ⟨rfl, rfl, rfl⟩ := h
      obtain ⟨rfl, rfl⟩ := bin_ok ok
      exact fun ls H locs hl hH => lv_ladd hx hb hd (kk ls H locs hl hH)
    · cases h
  case lsub =>
    simp only [sI] at h
    split at h
    · simp only [Option.some.injEq, Prod.mk.injEq] at h
      obtain ⟨rfl, rfl, rfl⟩ := h
      obtain ⟨rfl, rfl⟩ := bin_ok ok
      exact fun ls H locs hl hH => lv_lsub hx hb hd (kk ls H locs hl hH)
    · cases h
  case lmul =>
    simp only [sI] at h
    split at h
    · simp only [Option.some.injEq, Prod.mk.injEq] at h
      obtain ⟨rfl, rfl, rfl⟩ := h
      obtain ⟨rfl, rfl⟩ := bin_ok ok
      exact fun ls H locs hl hH => lv_lmul hx hb hd (kk ls H locs hl hH)
    · cases h
  case ldiv =>
    simp only [sI] at h
    split at h
    · split at h
      · cases h
      · rename_i hne
        simp only [Option.some.injEq, Prod.mk.injEq] at h
        obtain ⟨rfl, rfl, rfl⟩ := h
        obtain ⟨rfl, rfl⟩ := bin_ok ok
        exact fun ls H locs hl hH => lv_ldiv hx hb hd hne (kk ls H locs hl hH)
    · cases h
  case lrem =>
    simp only [sI] at h
    split at h
    · split at h
      · cases h
      · rename_i hne
        simp only [Option.some.injEq, Prod.mk.injEq] at h
        obtain ⟨rfl, rfl, rfl⟩ := h
        obtain ⟨rfl, rfl⟩ := bin_ok ok
        exact fun ls H locs hl hH => lv_lrem hx hb hd hne (kk ls H locs hl hH)
    · cases h
  case lcmp =>
    simp only [sI] at h
    split at h
    · simp only [Option.some.injEq, Prod.mk.injEq] at h
      obtain ⟨rfl, rfl, rfl⟩ := h
      obtain ⟨rfl, rfl⟩ := bin_ok ok
      exact fun ls H locs hl hH => W.lcmp hx hb hd (kk ls H locs hl hH)
    · cases h
  case i2l =>
    simp only [sI] at h
    split at h
    · simp only [Option.some.injEq, Prod.mk.injEq] at h
      obtain ⟨rfl, rfl, rfl⟩ := h
      obtain ⟨rfl, rfl⟩ := bin_ok ok
      exact fun ls H locs hl hH => lv_i2l hx hb hd rfl (kk ls H locs hl hH)
    · cases h
  case l2i =>
    simp only [sI] at h
    split at h
    · simp only [Option.some.injEq, Prod.mk.injEq] at h
      obtain ⟨rfl, rfl, rfl⟩ := h
      obtain ⟨rfl, rfl⟩ := bin_ok ok
      exact fun ls H locs hl hH => lv_l2i hx hb hd rfl (kk ls H locs hl hH)
    · cases h
  case i2b =>
    simp only [sI] at h
    split at h
    · simp only [Option.some.injEq, Prod.mk.injEq] at h
      obtain ⟨rfl, rfl, rfl⟩ := h
      obtain ⟨rfl, rfl⟩ := bin_ok ok
      exact fun ls H locs hl hH => lv_i2b hx hb hd rfl (kk ls H locs hl hH)
    · cases h
  case i2s =>
    simp only [sI] at h
    split at h
    · simp only [Option.some.injEq, Prod.mk.injEq] at h
      obtain ⟨rfl, rfl, rfl⟩ := h
      obtain ⟨rfl, rfl⟩ := bin_ok ok
      exact fun ls H locs hl hH => lv_i2s hx hb hd rfl (kk ls H locs hl hH)
    · cases h
  case dup =>
    simp only [sI] at h
    split at h
    · split at h
      · rename_i hcat
        simp only [Option.some.injEq, Prod.mk.injEq] at h
        obtain ⟨rfl, rfl, rfl⟩ := h
        obtain ⟨rfl, rfl⟩ := bin_ok ok
        exact fun ls H locs hl hH => lv_dup hx hb hd (by rw [cv_cat]; exact hcat) (kk ls H locs hl hH)
      · cases h
    · cases h
  case dup2 =>
    simp only [sI] at h
    split at h
    · split at h
      · rename_i hcat
        simp only [Option.some.injEq, Prod.mk.injEq] at h
        obtain ⟨rfl, rfl, rfl⟩ := h
        obtain ⟨rfl, rfl⟩ := bin_ok ok
        exact fun ls H locs hl hH => lv_dup2_11 hx hb hd (by rw [cv_cat]; exact hcat.1) (by rw [cv_cat]; exact hcat.2) (kk ls H locs hl hH)
      · cases h
    · cases h
  case pop =>
    simp only [sI] at h
    split at h
    · split at h
      · rename_i hcat
        simp only [Option.some.injEq, Prod.mk.injEq] at h
        obtain ⟨rfl, rfl, rfl⟩ := h
        obtain ⟨rfl, rfl⟩ := bin_ok ok
        exact fun ls H locs hl hH => lv_pop hx hb hd (by rw [cv_cat]; exact hcat) (kk ls H locs hl hH)
      · cases h
    · cases h
  case pop2 =>
    simp only [sI] at h
    split at h
    · split at h
      · rename_i hcat
        simp only [Option.some.injEq, Prod.mk.injEq] at h
        obtain ⟨rfl, rfl, rfl⟩ := h
        obtain ⟨rfl, rfl⟩ := bin_ok ok
        exact fun ls H locs hl hH => lv_pop2_2 hx hb hd (by rw [cv_cat]; exact hcat) (kk ls H locs hl hH)
      · cases h
    · cases h
  case getfield k =>
    simp only [sI] at h
    split at h
    · split at h
      · rename_i v hv
        simp only [Option.some.injEq, Prod.mk.injEq] at h
        obtain ⟨rfl, rfl, rfl⟩ := h
        simp only [okI] at ok
        split at ok
        · simp only [Bool.and_eq_true, decide_eq_true_eq] at ok
          obtain ⟨rfl, h2⟩ := ok
          exact go_get X hv h2 hd kk
        · cases ok
      · cases h
    · cases h
  case putfield k =>
    simp only [sI] at h
    split at h
    · split at h
      · rename_i v hv
        simp only [Option.some.injEq, Prod.mk.injEq] at h
        obtain ⟨rfl, rfl, rfl⟩ := h
        simp only [okI] at ok
        split at ok
        · simp only [Bool.and_eq_true, decide_eq_true_eq] at ok
          obtain ⟨rfl, h2⟩ := ok
          exact go_put X hv h2 hd kk
        · cases ok
      · cases h
    · cases h
  case iaload =>
    simp only [sI] at h
    split at h
    · split at h
      · rename_i v hv
        simp only [Option.some.injEq, Prod.mk.injEq] at h
        obtain ⟨rfl, rfl, rfl⟩ := h
        obtain ⟨rfl, rfl⟩ := bin_ok ok
        exact go_iald X hv hd kk
      · cases h
    · cases h
  case baload =>
    simp only [sI] at h
    split at h
    · split at h
      · rename_i v hv
        simp only [Option.some.injEq, Prod.mk.injEq] at h
        obtain ⟨rfl, rfl, rfl⟩ := h
        obtain ⟨rfl, rfl⟩ := bin_ok ok
        exact go_bald X hv hd kk
      · cases h
    · cases h
  case iastore =>
    simp only [sI] at h
    split at h
    · split at h
      · rename_i v hv
        simp only [Option.some.injEq, Prod.mk.injEq] at h
        obtain ⟨rfl, rfl, rfl⟩ := h
        obtain ⟨rfl, rfl⟩ := bin_ok ok
        exact go_iast X hv hd kk
      · cases h
    · cases h
  case bastore =>
    simp only [sI] at h
    split at h
    · split at h
      · rename_i v hv
        simp only [Option.some.injEq, Prod.mk.injEq] at h
        obtain ⟨rfl, rfl, rfl⟩ := h
        obtain ⟨rfl, rfl⟩ := bin_ok ok
        exact go_bast X hv hd kk
      · cases h
    · cases h
  case aaload =>
    simp only [sI] at h
    split at h
    · split at h
      · rename_i v hv
        simp only [Option.some.injEq, Prod.mk.injEq] at h
        obtain ⟨rfl, rfl, rfl⟩ := h
        obtain ⟨rfl, rfl⟩ := bin_ok ok
        exact go_aald X hv hd kk
      · cases h
    · cases h
  case arraylength =>
    simp only [sI] at h
    split at h
    · split at h
      · rename_i T ho ht
        simp only [Option.some.injEq, Prod.mk.injEq] at h
        obtain ⟨rfl, rfl, rfl⟩ := h
        obtain ⟨rfl, rfl⟩ := bin_ok ok
        exact fun ls H locs hl hH => va_tlen hx hb (hSt.1 _ T ho ht) hH.2.2 rfl hd (kk ls H locs hl hH)
      · cases h
    · cases h
  case monitorenter =>
    simp only [sI] at h
    split at h
    · split at h
      · rename_i hcat
        split at h
        · rename_i m' hv
          simp only [Option.some.injEq, Prod.mk.injEq] at h
          obtain ⟨rfl, rfl, rfl⟩ := h
          simp only [okI] at ok
          split at ok
          · simp only [Bool.and_eq_true, decide_eq_true_eq] at ok
            obtain ⟨⟨rfl, h1, h2⟩, h3⟩ := ok
            exact go_copy X (Nat.le_trans h1 hfr) (Nat.le_trans h2 hlo) hv h3 hcat hd kk
          · cases ok
        · cases h
      · cases h
    · cases h
  case invokestatic z =>
    simp only [sI] at h
    split at h
    · rename_i As rest hp
      split at h
      · rename_i hcat
        split at h
        · rename_i v m' hv
          simp only [Option.some.injEq, Prod.mk.injEq] at h
          obtain ⟨rfl, rfl, rfl⟩ := h
          simp only [okI] at ok
          split at ok
          · simp only [Bool.and_eq_true, decide_eq_true_eq] at ok
            obtain ⟨⟨rfl, h1, h2⟩, h3⟩ := ok
            obtain ⟨g1, g2, g3⟩ := meth_of h3
            obtain ⟨B, b1, b2, b3⟩ := popN_spec _ _ _ _ _ hp
            have e1 : st = As.reverse ++ rest := by rw [b1, b2]; simp
            have e2 : As.length = mN z := by rw [b1]; simp [b3]
            rw [e1]
            exact go_S hT X (hC z As m0 (v, m') hv) g1 g2 g3 (Nat.le_trans h1 hfr) (Nat.le_trans h2 hlo) e2 hcat hd hc hsl kk
          · cases ok
        · cases h
      · cases h
    · cases h
  case invokevirtual z =>
    simp only [sI] at h
    split at h
    · rename_i As o rest hp
      split at h
      · rename_i hcat
        split at h
        · rename_i v m' hv
          simp only [Option.some.injEq, Prod.mk.injEq] at h
          obtain ⟨rfl, rfl, rfl⟩ := h
          simp only [okI] at ok
          split at ok
          · simp only [Bool.and_eq_true, decide_eq_true_eq] at ok
            obtain ⟨⟨rfl, h1, h2⟩, h3⟩ := ok
            obtain ⟨g1, g2, g3⟩ := meth_of h3
            obtain ⟨B, b1, b2, b3⟩ := popN_spec _ _ _ _ _ hp
            have e1 : st = As.reverse ++ .ref o :: rest := by rw [b1, b2]; simp
            have e2 : As.length = mN z := by rw [b1]; simp [b3]
            rw [e1]
            exact go_V hT X (hC z (.ref o :: As) m0 (v, m') hv) g1 g2 g3 (Nat.le_trans h1 hfr) (Nat.le_trans h2 hlo) e2 hcat.2 hcat.1 hd hc hsl kk
          · cases ok
        · cases h
      · cases h
    · cases h
  all_goals (simp [sI] at h)
end SimR
