/-! isWord over the JVM -/
def wLp (f g : Nat → Int32) : Nat → Nat → Int32
  | 0, _ => 1
  | n + 1, k => if f k = g k then wLp f g n (k + 1) else 0
/-- the meaning of isWord -/
def wW (As : List Value) (m : Mm) : Option Rs := match As with
  | [.ref a, .ref s] => if a = 24 ∧ 2000 ≤ s ∧ s < 2008 ∧ 0 ≤ (m.1 24 1).toInt ∧ (m.1 24 1).toInt ≤ 160 ∧ 0 ≤ (m.1 24 2).toInt ∧ (m.1 24 2).toInt ≤ 160 then
      some (some (.int (if nI (lenS.getD (s - 2000) 0) = m.1 24 2 - m.1 24 1 then wLp (fun k => m.1 25 ((m.1 24 1).toNatClampNeg + k)) (chS (s - 2000)) (lenS.getD (s - 2000) 0) 0 else 0)), m)
    else none
  | _ => none
theorem wLp_b (f g : Nat → Int32) : ∀ n k, wLp f g n k = 0 ∨ wLp f g n k = 1
  | 0, _ => Or.inr rfl
  | n + 1, k => by
    unfold wLp
    split
    · exact wLp_b f g n (k + 1)
    · exact Or.inl rfl
theorem WOK_wW : WOK wW := by
  intro As m g hI hR
  obtain ⟨v1, vs, rfl, k1, g⟩ := gT_cons g
  obtain ⟨v2, vs, rfl, k2, g⟩ := gT_cons g
  cases gT_nil g
  obtain ⟨r1, rfl, hr1⟩ := k1
  have hr1 : r1 = 24 := List.mem_singleton.mp hr1
  subst hr1
  obtain ⟨r2, rfl, hr2⟩ := k2
  have h2 : 2000 ≤ r2 ∧ r2 < 2008 := by
    have : ∀ x ∈ [2000, 2001, 2002, 2003, 2004, 2005, 2006, 2007], 2000 ≤ x ∧ x < 2008 := by decide
    exact this _ hr2
  have a1 := hI 24 1
  have a2 := hI 24 2
  rw [iv_24.1] at a1
  rw [iv_24.2] at a2
  have hc : (24 : Nat) = 24 ∧ 2000 ≤ r2 ∧ r2 < 2008 ∧ 0 ≤ (m.1 24 1).toInt ∧ (m.1 24 1).toInt ≤ 160 ∧ 0 ≤ (m.1 24 2).toInt ∧ (m.1 24 2).toInt ≤ 160 := ⟨rfl, h2.1, h2.2, a1.1, a1.2, a2.1, a2.2⟩
  refine ⟨_, _, if_pos hc, ?_, hI, rho_nil, frm_rf, fun _ _ _ q hq => by cases hq⟩
  have hb : (if nI (lenS.getD (r2 - 2000) 0) = m.1 24 2 - m.1 24 1 then wLp (fun k => m.1 25 ((m.1 24 1).toNatClampNeg + k)) (chS (r2 - 2000)) (lenS.getD (r2 - 2000) 0) 0 else 0) = (0 : Int32) ∨ (if nI (lenS.getD (r2 - 2000) 0) = m.1 24 2 - m.1 24 1 then wLp (fun k => m.1 25 ((m.1 24 1).toNatClampNeg + k)) (chS (r2 - 2000)) (lenS.getD (r2 - 2000) 0) 0 else 0) = (1 : Int32) := by
    split
    · exact wLp_b _ _ _ _
    · exact Or.inl rfl
  rcases hb with h | h <;> rw [h] <;> exact ret_i (by decide) (by decide)
section Wrd
variable {l : Launch} {ad : Nat → Nat} {dA : Nat → ClassId} {D : va_G}
variable {p : Program} {e : Env} {R : Room} {s : State} {m : MethodId} {args : Array Value} {below : List Frame} {meth : Method} {c : Code} {Q : State → Prop} {A : Nat → Prop} {pc : Nat} {L rest : List Value} {m0 : Mm}
theorem iw_st (X : Cx shP tb0 ad dA D A 3 3 cX3_isWord p s m args c) (hfr : 4 ≤ R.frames) (hlo : 160 ≤ R.locals) {i raw : ClassFile.Instr} {len : Nat} {st L' st' : List Value} {m1 : Mm} (hd : decode cX3_isWord pc = .ok (raw, len)) (ok : okI 3 4 160 pc i raw len = true) (hni : ∀ t, i ≠ .goto t) (h : sI shP tb0 mN mO (fun _ _ _ => none) i L st m0 = some (L', st', m1)) (kk : Gd l shP ad dA D A 3 p e R s m args below meth c 0 0 Q (pc + len) L' st' m1) : Gd l shP ad dA D A 3 p e R s m args below meth c 0 0 Q pc L st m0 :=
  sim_step (fun _ _ h => h) X (fun _ _ _ _ h => by cases h) hfr hlo (Nat.zero_le _) (Nat.zero_le _) h ok hd hni kk
theorem Cj_of (X : Cx shP tb0 ad dA D A 3 3 cX3_isWord p s m args c) : ∃ adV, Cj (fun i => ad (2000 + i)) adV A RX3 3 cX3_isWord p s m args c := by
  obtain ⟨hx, hb, hml, hown, hts, hK, hsh, hSt, hA⟩ := X
  obtain ⟨-, -, -, ⟨adV, h5⟩, h6, h7⟩ := hSt
  exact ⟨adV, hx, hb, hml, hown, hts, ⟨h5, h6, h7⟩, fun q h => hA q (Or.inr h)⟩
theorem Hp_on {H H1 : Heap} {locs locs1 : List Loc} (hH : Hp shP ad dA D A s m0 H locs) (hS : va_S A s.heap H1 locs1) (hk : ∀ q : Nat, q < H.size → H1[q]? = H[q]?) : Hp shP ad dA D A s m0 H1 locs1 := ⟨hH.1.kept (fun k q hq => hk _ (hH.1 k q hq).lt), hH.2.1, hS⟩
theorem iw_len (X : Cx shP tb0 ad dA D A 3 3 cX3_isWord p s m args c) (hfr : 4 ≤ R.frames) (hlo : 160 ≤ R.locals) {i : Nat} (hi : i < 8) (hcat : (rest.map fun v => v.category).sum ≤ 8) (hd : decode cX3_isWord pc = .ok (.invokevirtual 27, 3)) (kk : Gd l shP ad dA D A 3 p e R s m args below meth c 0 0 Q (pc + 3) L (.int (nI (lenS.getD i 0)) :: rest) m0) : Gd l shP ad dA D A 3 p e R s m args below meth c 0 0 Q pc L (.ref (2000 + i) :: rest) m0 := by
  intro ls H locs hl hH
  obtain ⟨adV, Y⟩ := Cj_of X
  exact jV (As := []) (rest := rest.map (cv ad)) (i := i) Y hH.2.2 (c_length hi) hi rfl jw_ml_len jw_in_len jw_se_len jw_co_len (n := 0) (by decide +kernel) rfl rfl (by show 1 + 1 ≤ R.frames; omega) (by show 8 + (1 + 11) + 22 ≤ R.locals; omega) rfl hl.1 (by rw [cat_sum]; exact hcat) hd (Nat.zero_le _) (Nat.zero_le _) (fun H1 locs1 hS _ hk => kk ls H1 locs1 hl (Hp_on hH hS hk))
theorem iw_char (X : Cx shP tb0 ad dA D A 3 3 cX3_isWord p s m args c) (hfr : 4 ≤ R.frames) (hlo : 160 ≤ R.locals) {i k : Nat} (hi : i < 8) (hk0 : k < lenS.getD i 0) (hcat : (rest.map fun v => v.category).sum ≤ 8) (hd : decode cX3_isWord pc = .ok (.invokevirtual 32, 3)) (kk : Gd l shP ad dA D A 3 p e R s m args below meth c 0 0 Q (pc + 3) L (.int (chS i k) :: rest) m0) : Gd l shP ad dA D A 3 p e R s m args below meth c 0 0 Q pc L (.int (nI k) :: .ref (2000 + i) :: rest) m0 := by
  intro ls H locs hl hH
  obtain ⟨adV, Y⟩ := Cj_of X
  exact jV (As := [.int (nI k)]) (rest := rest.map (cv ad)) (i := i) Y hH.2.2 (c_char hi hk0) hi rfl jw_ml_chr jw_in_chr jw_se_chr jw_co_chr (n := 1) (by decide +kernel) rfl rfl (by show 3 + 1 ≤ R.frames; omega) (by show 8 + (2 + 11) + 64 ≤ R.locals; omega) rfl hl.1 (by rw [cat_sum]; exact hcat) hd (Nat.zero_le _) (Nat.zero_le _) (fun H1 locs1 hS _ hk => kk ls H1 locs1 hl (Hp_on hH hS hk))
theorem iw_eq (X : Cx shP tb0 ad dA D A 3 3 cX3_isWord p s m args c) {tgt : Nat} {off : Int} {x y : Int32} (hd : decode cX3_isWord pc = .ok (.if_icmp .eq off, 3)) (ht : (pc : Int) + off = (tgt : Int)) (kt : x = y → Gd l shP ad dA D A 3 p e R s m args below meth c 0 0 Q tgt L rest m0) (kf : ¬ x = y → Gd l shP ad dA D A 3 p e R s m args below meth c 0 0 Q (pc + 3) L rest m0) : Gd l shP ad dA D A 3 p e R s m args below meth c 0 0 Q pc L (.int y :: .int x :: rest) m0 :=
  fun ls H locs hl hH => lv_icmp_eq X.1 X.2.1 hd ht (fun h => kt h ls H locs hl hH) (fun h => kf h ls H locs hl hH)
theorem iw_ge (X : Cx shP tb0 ad dA D A 3 3 cX3_isWord p s m args c) {tgt : Nat} {off : Int} {x y : Int32} (hd : decode cX3_isWord pc = .ok (.if_icmp .ge off, 3)) (ht : (pc : Int) + off = (tgt : Int)) (kt : y ≤ x → Gd l shP ad dA D A 3 p e R s m args below meth c 0 0 Q tgt L rest m0) (kf : ¬ y ≤ x → Gd l shP ad dA D A 3 p e R s m args below meth c 0 0 Q (pc + 3) L rest m0) : Gd l shP ad dA D A 3 p e R s m args below meth c 0 0 Q pc L (.int y :: .int x :: rest) m0 :=
  fun ls H locs hl hH => lv_icmp_ge X.1 X.2.1 hd ht (fun h => kt h ls H locs hl hH) (fun h => kf h ls H locs hl hH)
theorem iw_ret (X : Cx shP tb0 ad dA D (AA shP ad s.heap.size) 3 3 cX3_isWord p s m args c) (hr : meth.sig.returnType = some .boolean) (hlk : meth.locks = false) {v : Int32} (hv : v = 0 ∨ v = 1) (hd : decode cX3_isWord pc = .ok (.ireturn, 1)) : Gd l shP ad dA D (AA shP ad s.heap.size) 3 p e R s m args below meth c 0 0 (MQ below (QcZ shP ad dA D (some (.int v), m0) s.heap.size) args s 0 0 (AA shP ad s.heap.size)) pc L [.int v] m0 :=
  fun ls H locs hl hH => W.zret X.1 X.2.1 hr (by rcases hv with rfl | rfl <;> decide +kernel) (fun t ht _ => ⟨⟨rfl, by rw [ht]; exact hH.1⟩, hH.2.2.F ht⟩) hH.2.2.2.2 hd (hlocks := hlk)
theorem S25w {i : Int32} (h : inR i 160 = true) (m : Mm) : alI shP tb0 0 25 i m = some (m.1 25 i.toNatClampNeg) := by
  show (if 0 = 0 ∧ inR i 160 = true then some (m.1 25 i.toNatClampNeg) else none) = _
  rw [if_pos ⟨rfl, h⟩]
theorem inR_w {n N : Nat} (h : n < N) (hN : N < 2 ^ 31) : inR (nI n) N = true := by
  unfold inR
  rw [Bool.and_eq_true, decide_eq_true_eq, decide_eq_true_eq, nI_clamp (by omega)]
  exact ⟨nI_pos' (by omega), h⟩
set_option maxHeartbeats 1000000 in
theorem iw_loop (X : Cx shP tb0 ad dA D (AA shP ad s.heap.size) 3 3 cX3_isWord p s m args c) (hfr : 4 ≤ R.frames) (hlo : 160 ≤ R.locals) (hr : meth.sig.returnType = some .boolean) (hlk : meth.locks = false) {i a : Nat} (hi : i < 8) (ha : m0.1 24 1 = nI a) (hb : a + lenS.getD i 0 ≤ 160) {v : Int32} : ∀ n k : Nat, k + n = lenS.getD i 0 → wLp (fun k => m0.1 25 (a + k)) (chS i) n k = v →
    Gd l shP ad dA D (AA shP ad s.heap.size) 3 p e R s m args below meth c 0 0 (MQ below (QcZ shP ad dA D (some (.int v), m0) s.heap.size) args s 0 0 (AA shP ad s.heap.size)) 20 [.ref 24, .ref (2000 + i), .int (nI k)] [] m0 := by
  have h8 := len_lt i hi
  intro n
  induction n with
  | zero =>
    intro k hk hv
    subst hv
    refine iw_st X hfr hlo (raw := .iload_n 2) (len := 1) (i := .iload 2) (by decide +kernel) (by decide) (fun _ h => by cases h) rfl ?_
    refine iw_st X hfr hlo (raw := .aload_n 1) (len := 1) (i := .aload 1) (by decide +kernel) (by decide) (fun _ h => by cases h) rfl ?_
    refine iw_len X hfr hlo hi (Nat.le_of_ble_eq_true rfl) (by decide +kernel) ?_
    refine iw_ge X (tgt := 55) (off := 30) (by decide +kernel) (by decide) (fun _ => ?_) (fun h => absurd (nI_le (by omega) (by omega)) h)
    refine iw_st X hfr hlo (raw := .iconst 1) (len := 1) (i := .sipush 1) (by decide +kernel) (by decide) (fun _ h => by cases h) rfl ?_
    exact iw_ret X hr hlk (v := 1) (Or.inr rfl) (by decide +kernel)
  | succ n ih =>
    intro k hk hv
    refine iw_st X hfr hlo (raw := .iload_n 2) (len := 1) (i := .iload 2) (by decide +kernel) (by decide) (fun _ h => by cases h) rfl ?_
    refine iw_st X hfr hlo (raw := .aload_n 1) (len := 1) (i := .aload 1) (by decide +kernel) (by decide) (fun _ h => by cases h) rfl ?_
    refine iw_len X hfr hlo hi (Nat.le_of_ble_eq_true rfl) (by decide +kernel) ?_
    refine iw_ge X (tgt := 55) (off := 30) (by decide +kernel) (by decide) (fun h => absurd h (nI_ge (by omega) (by omega))) (fun _ => ?_)
    refine iw_st X hfr hlo (raw := .aload_n 0) (len := 1) (i := .aload 0) (by decide +kernel) (by decide) (fun _ h => by cases h) rfl ?_
    refine iw_st X hfr hlo (raw := .getfield 9) (len := 3) (i := .getfield 303) (by decide +kernel) (by decide +kernel) (fun _ h => by cases h) (st' := [.ref 25]) rfl ?_
    refine iw_st X hfr hlo (raw := .aload_n 0) (len := 1) (i := .aload 0) (by decide +kernel) (by decide) (fun _ h => by cases h) rfl ?_
    refine iw_st X hfr hlo (raw := .getfield 20) (len := 3) (i := .getfield 301) (by decide +kernel) (by decide +kernel) (fun _ h => by cases h) (st' := [.int (m0.1 24 1), .ref 25]) rfl ?_
    refine iw_st X hfr hlo (raw := .iload_n 2) (len := 1) (i := .iload 2) (by decide +kernel) (by decide) (fun _ h => by cases h) rfl ?_
    refine iw_st X hfr hlo (raw := .iadd) (len := 1) (i := .iadd) (by decide +kernel) (by decide) (fun _ h => by cases h) (st' := [.int (m0.1 24 1 + nI k), .ref 25]) rfl ?_
    rw [ha, nI_add]
    refine iw_st X hfr hlo (raw := .iaload) (len := 1) (i := .iaload) (by decide +kernel) (by decide) (fun _ h => by cases h) (L' := [.ref 24, .ref (2000 + i), .int (nI k)]) (st' := [.int (m0.1 25 (a + k))]) (m1 := m0) ?_ ?_
    · have e := S25w (inR_w (n := a + k) (N := 160) (by omega) (by decide)) m0
      rw [nI_clamp (by omega)] at e
      show (match alI shP tb0 0 25 (nI (a + k)) m0 with
        | some y => some (([.ref 24, .ref (2000 + i), .int (nI k)], [.int y], m0) : Stt3)
        | none => none) = _
      rw [e]
    refine iw_st X hfr hlo (raw := .aload_n 1) (len := 1) (i := .aload 1) (by decide +kernel) (by decide) (fun _ h => by cases h) rfl ?_
    refine iw_st X hfr hlo (raw := .iload_n 2) (len := 1) (i := .iload 2) (by decide +kernel) (by decide) (fun _ h => by cases h) rfl ?_
    refine iw_char X hfr hlo hi (k := k) (by omega) (Nat.le_of_ble_eq_true rfl) (by decide +kernel) ?_
    unfold wLp at hv
    refine iw_eq X (tgt := 49) (off := 5) (by decide +kernel) (by decide) (fun h => ?_) (fun h => ?_)
    · rw [if_pos h] at hv
      refine iw_st X hfr hlo (raw := .iinc 2 1) (len := 3) (i := .iinc 2 1) (by decide +kernel) (by decide) (fun _ h => by cases h) (L' := [.ref 24, .ref (2000 + i), .int (nI k + 1)]) (st' := []) (m1 := m0) rfl ?_
      rw [nI_1]
      exact fun ls H locs hl hH => lv_goto (tgt := 20) (off := -32) X.1 X.2.1 (by decide +kernel) (by decide) (ih (k + 1) (by omega) hv ls H locs hl hH)
    · rw [if_neg h] at hv
      subst hv
      refine iw_st X hfr hlo (raw := .iconst 0) (len := 1) (i := .sipush 0) (by decide +kernel) (by decide) (fun _ h => by cases h) rfl ?_
      exact iw_ret X hr hlk (v := 0) (Or.inl rfl) (by decide +kernel)
theorem iw_z : mB zX3_isWord = cX3_isWord ∧ mX zX3_isWord = 3 ∧ mO zX3_isWord = 3 ∧ mT zX3_isWord = some .boolean ∧ zX3_isWord + 1 < nZ ∧ shOK shP = true := by decide +kernel
theorem nat_of {x : Int32} {N : Nat} (h0 : 0 ≤ x.toInt) (h1 : x.toInt ≤ N) : ∃ a : Nat, a ≤ N ∧ x = nI a ∧ x.toNatClampNeg = a := by
  refine ⟨x.toInt.toNat, by omega, ?_, rfl⟩
  have h2 : x.toInt < 2 ^ 31 := by
    have := Int32.toInt_lt x
    omega
  refine Int32.toInt_inj.mp ?_
  rw [nI_toInt (by omega)]
  omega
theorem wW_met (As : List Value) (m0 : Mm) (r : Rs) (h : wW As m0 = some r) : MetZ l shP ad dA D zX3_isWord As m0 r := by
  obtain ⟨k1, k2, k3, k4, hz, hsh⟩ := iw_z
  obtain ⟨i1, i2, i3, i4, i5, i6⟩ := z_st hz
  unfold wW at h
  split at h
  case h_2 => cases h
  rename_i a0 s0
  split at h
  case isFalse => cases h
  rename_i hc
  obtain ⟨rfl, hs1, hs2, ha0, ha1, hb0, hb1⟩ := hc
  cases h
  obtain ⟨i, rfl⟩ : ∃ i : Nat, s0 = 2000 + i := ⟨s0 - 2000, (Nat.add_sub_cancel' hs1).symm⟩
  have hi : i < 8 := Nat.lt_of_add_lt_add_left (show 2000 + i < 2000 + 8 from hs2)
  rw [show 2000 + i - 2000 = i from Nat.add_sub_cancel_left 2000 i]
  obtain ⟨a, ha, ea, ca⟩ := nat_of (N := 160) ha0 ha1
  obtain ⟨b, hb, eb, cb⟩ := nat_of (N := 160) hb0 hb1
  have h8 := len_lt i hi
  rw [ca]
  intro sz
  refine Met.ofW (cc := mB zX3_isWord) (maxL := mX zX3_isWord) (ret := mT zX3_isWord) i5 rfl ?_
  intro p e s m args below meth c s₁ B hml hv
  obtain ⟨rfl, hsz, hP, hK, hD0, hSt⟩ := hv
  subst hsz
  have hr := B.returns
  rw [k4] at hr
  have hts := atoms_spec (ws := mW zX3_isWord) B.pre
  have hown : s.vm.findClass (mY zX3_isWord).cls = some m.cls := findClass_of_methodNamed B.named
  have hlocks := B.notSynchronized
  rw [i6, k3] at hown
  have hbb := B.bytes
  rw [k1] at hbb
  rw [k2] at hml ⊢
  have X : Cx shP tb0 ad dA D (AA shP ad s.heap.size) 3 3 cX3_isWord p s m ([Value.ref 24, .ref (2000 + i)].map (cv ad)).toArray c := ⟨B.exec, hbb, hml, hown, fun w hw => hts w (List.mem_cons_of_mem _ hw), hK, hsh, hSt, fun q h => h⟩
  have hD : va_D (AA shP ad s.heap.size) (cellsW shP ad dA m0) := ⟨hD0.1, fun k q hk => Or.inl ⟨k, (cellsW_addr hk).1, (cellsW_addr hk).2⟩⟩
  have hfr : 4 ≤ (headSpec (mW zX3_isWord) (mR zX3_isWord)).room.frames := by decide +kernel
  have hlo : 160 ≤ (headSpec (mW zX3_isWord) (mR zX3_isWord)).room.locals := by decide +kernel
  rw [lg_entry_eq]
  have G : ∀ v : Value, Gd l shP ad dA D (AA shP ad s.heap.size) 3 p e (headSpec (mW zX3_isWord) (mR zX3_isWord)).room s m ([Value.ref 24, .ref (2000 + i)].map (cv ad)).toArray below meth c 0 0 (MQ below (QcZ shP ad dA D (some (.int (if nI (lenS.getD i 0) = m0.1 24 2 - m0.1 24 1 then wLp (fun k => m0.1 25 (a + k)) (chS i) (lenS.getD i 0) 0 else 0)), m0) s.heap.size) ([Value.ref 24, .ref (2000 + i)].map (cv ad)).toArray s 0 0 (AA shP ad s.heap.size)) 0 [.ref 24, .ref (2000 + i), v] [] m0 := by
    intro v
    refine iw_st X hfr hlo (raw := .aload_n 1) (len := 1) (i := .aload 1) (by decide +kernel) (by decide) (fun _ h => by cases h) rfl ?_
    refine iw_len X hfr hlo hi (Nat.le_of_ble_eq_true rfl) (by decide +kernel) ?_
    refine iw_st X hfr hlo (raw := .aload_n 0) (len := 1) (i := .aload 0) (by decide +kernel) (by decide) (fun _ h => by cases h) rfl ?_
    refine iw_st X hfr hlo (raw := .getfield 17) (len := 3) (i := .getfield 302) (by decide +kernel) (by decide +kernel) (fun _ h => by cases h) (st' := [.int (m0.1 24 2), .int (nI (lenS.getD i 0))]) rfl ?_
    refine iw_st X hfr hlo (raw := .aload_n 0) (len := 1) (i := .aload 0) (by decide +kernel) (by decide) (fun _ h => by cases h) rfl ?_
    refine iw_st X hfr hlo (raw := .getfield 20) (len := 3) (i := .getfield 301) (by decide +kernel) (by decide +kernel) (fun _ h => by cases h) (st' := [.int (m0.1 24 1), .int (m0.1 24 2), .int (nI (lenS.getD i 0))]) rfl ?_
    refine iw_st X hfr hlo (raw := .isub) (len := 1) (i := .isub) (by decide +kernel) (by decide) (fun _ h => by cases h) (st' := [.int (m0.1 24 2 - m0.1 24 1), .int (nI (lenS.getD i 0))]) rfl ?_
    refine iw_eq X (tgt := 18) (off := 5) (by decide +kernel) (by decide) (fun h => ?_) (fun h => ?_)
    · rw [if_pos h]
      refine iw_st X hfr hlo (raw := .iconst 0) (len := 1) (i := .sipush 0) (by decide +kernel) (by decide) (fun _ h => by cases h) rfl ?_
      refine iw_st X hfr hlo (raw := .istore_n 2) (len := 1) (i := .istore 2) (by decide +kernel) (by decide) (fun _ h => by cases h) (L' := [.ref 24, .ref (2000 + i), .int (nI 0)]) (st' := []) (m1 := m0) rfl ?_
      refine iw_loop X hfr hlo hr hlocks hi ea ?_ _ 0 (by omega) rfl
      have h9 := congrArg Int32.toInt h
      rw [ea, eb, nI_toInt (by omega), pk_sub_toInt (by omega) (by omega)] at h9
      omega
    · rw [if_neg h]
      refine iw_st X hfr hlo (raw := .iconst 0) (len := 1) (i := .sipush 0) (by decide +kernel) (by decide) (fun _ h => by cases h) rfl ?_
      exact iw_ret X hr hlocks (v := 0) (Or.inl rfl) (by decide +kernel)
  exact G _ _ s.heap [] (LR_entry ad [.ref 24, .ref (2000 + i)] (n := 3) (Nat.le_of_ble_eq_true rfl)) ⟨hP, hD, va_S.rf⟩
end Wrd
