/-! jumps, answers, whole methods -/
def retOK (cc : ByteArray) (rt : Option FieldType) (pc : Nat) (v : Option Value) : Prop := match v with
  | none => decode cc pc = .ok (.return_, 1) ∧ rt = none
  | some (.int x) => decode cc pc = .ok (.ireturn, 1) ∧ okZ rt x = true
  | some (.long _) => decode cc pc = .ok (.lreturn, 1) ∧ rt = some .long
  | some (.ref _) => decode cc pc = .ok (.areturn, 1) ∧ isRefT rt = true
  | _ => False
section SimX
variable {l : Launch} {sh : List ShE} {ad : Nat → Nat} {dA : Nat → ClassId} {D : va_G}
variable {p : Program} {e : Env} {R : Room} {s : State} {m : MethodId} {args : Array Value} {below : List Frame} {meth : Method} {c : Code} {cells slots : Nat} {Q : State → Prop}
variable {tb : Nat → Option (List Int32)} {A : Nat → Prop} {own nL fr lo : Nat} {cc : ByteArray} {C : CallS} {rt : Option FieldType}
theorem to_tgt {pc : Nat} {off t : Int} (h : (pc : Int) + off = t) (h0 : 0 ≤ t) : (pc : Int) + off = (t.toNat : Int) := by rw [h, Int.toNat_of_nonneg h0]
theorem osw_map {d : Int} {pc : Nat} {k : Int} : ∀ (ps : List (Int × Int)), Op.lookupswitch.offset (ps.map (fun x => (x.1, (pc : Int) + x.2))) ((pc : Int) + d) k = (pc : Int) + Op.lookupswitch.offset ps d k
  | [] => rfl
  | (a, o) :: r => by
    rw [List.map_cons, Op.lookupswitch.offset_cons, Op.lookupswitch.offset_cons]
    by_cases h : a = k
    · rw [if_pos h, if_pos h]
    · rw [if_neg h, if_neg h]
      exact osw_map r
theorem osw_nonneg {d : Int} {k : Int} (hd : 0 ≤ d) : ∀ (ps : List (Int × Int)), (∀ x ∈ ps, (0 : Int) ≤ x.2) → 0 ≤ Op.lookupswitch.offset ps d k
  | [], _ => hd
  | (a, o) :: r, h => by
    rw [Op.lookupswitch.offset_cons]
    by_cases e : a = k
    · rw [if_pos e]
      exact h (a, o) List.mem_cons_self
    · rw [if_neg e]
      exact osw_nonneg hd r (fun x hx => h x (List.mem_cons_of_mem _ hx))
set_option maxHeartbeats 4000000 in
theorem sim_exI (hT : ∀ o T, tb0 o = some T → tb o = some T) (X : Cx sh tb ad dA D A own nL cc p s m args c) (hC : ∀ z As m0 r, C z As m0 = some r → MetZ l sh ad dA D z As m0 r) (hfr : fr ≤ R.frames) (hlo : lo ≤ R.locals) (hc : cells ≤ R.cells) (hsl : slots ≤ R.slots) {K : KS} {r : Rs}
    (hJ : ∀ pc L st m0, K pc L st m0 = some r → Gd l sh ad dA D A nL p e R s m args below meth c cells slots Q pc L st m0)
    (hR : ∀ pc L, retOK cc rt pc r.1 → Gd l sh ad dA D A nL p e R s m args below meth c cells slots Q pc L r.1.toList r.2) :
    ∀ (is : List ClassFile.Instr) (pc : Nat) (L st : List Value) (m0 : Mm), okL own fr lo cc is pc = true → exI sh tb mN mO C rt K is L st m0 = some r → Gd l sh ad dA D A nL p e R s m args below meth c cells slots Q pc L st m0 := by
  obtain ⟨hx, hb, hml, hown, hts, hK, hsh, hSt, hA⟩ := id X
  intro is
  induction is with
  | nil => intro pc L st m0 _ h; simp [exI] at h
  | cons i is ih =>
    intro pc L st m0 ok h
    cases i
    case goto_w t =>
      simp only [exI] at h
      have e1 : t = (pc : Int) := of_decide_eq_true ok
      subst e1
      exact hJ _ _ _ _ h
    case goto t =>
      simp only [exI] at h
      simp only [okL] at ok
      split at ok
      · rename_i raw len hd
        simp only [Bool.and_eq_true] at ok
        have ok1 := ok.1
        simp only [okI] at ok1
        split at ok1
        · obtain ⟨rfl, h2, h3⟩ := of_decide_eq_true ok1
          exact fun ls H locs hl hH => lv_goto hx hb hd (to_tgt h2 h3) (hJ _ _ _ _ h ls H locs hl hH)
        · cases ok1
      · cases ok
    case ifCond cd t =>
      simp only [exI] at h
      simp only [okL] at ok
      split at ok
      · rename_i raw len hd
        simp only [Bool.and_eq_true] at ok
        obtain ⟨ok1, ok2⟩ := ok
        simp only [okI] at ok1
        split at ok1
        · rename_i cd1 off1
          obtain ⟨rfl, h1, h2, h3⟩ := of_decide_eq_true ok1
          rw [h1] at hd
          split at h
          · rename_i x st
            have ht := to_tgt h2 h3
            have jt : cmpB cd x 0 = true → Gd l sh ad dA D A nL p e R s m args below meth c cells slots Q t.toNat L st m0 := fun hc => by
              rw [if_pos hc] at h
              exact hJ _ _ _ _ h
            have jf : ¬ cmpB cd x 0 = true → Gd l sh ad dA D A nL p e R s m args below meth c cells slots Q (pc + 3) L st m0 := fun hc => by
              rw [if_neg hc] at h
              exact ih _ _ _ _ ok2 h
            intro ls H locs hl hH
            cases cd
            · exact lv_if_eq hx hb hd ht (fun z => jt (by simpa [cmpB] using z) ls H locs hl hH) (fun z => jf (by simpa [cmpB] using z) ls H locs hl hH)
            · exact lv_if_ne hx hb hd ht (fun z => jt (by simpa [cmpB] using z) ls H locs hl hH) (fun z => jf (by simpa [cmpB] using z) ls H locs hl hH)
            · exact lv_if_lt hx hb hd ht (fun z => jt (by simpa [cmpB] using z) ls H locs hl hH) (fun z => jf (by simpa [cmpB] using z) ls H locs hl hH)
            · exact lv_if_ge hx hb hd ht (fun z => jt (by simpa [cmpB] using z) ls H locs hl hH) (fun z => jf (by simpa [cmpB] using z) ls H locs hl hH)
            · exact lv_if_gt hx hb hd ht (fun z => jt (by simpa [cmpB] using z) ls H locs hl hH) (fun z => jf (by simpa [cmpB] using z) ls H locs hl hH)
            · exact lv_if_le hx hb hd ht (fun z => jt (by simpa [cmpB] using z) ls H locs hl hH) (fun z => jf (by simpa [cmpB] using z) ls H locs hl hH)
          · cases h
        · cases ok1
      · cases ok
    case if_icmp cd t =>
      simp only [exI] at h
      simp only [okL] at ok
      split at ok
      · rename_i raw len hd
        simp only [Bool.and_eq_true] at ok
        obtain ⟨ok1, ok2⟩ := ok
        simp only [okI] at ok1
        split at ok1
        · rename_i cd1 off1
          obtain ⟨rfl, h1, h2, h3⟩ := of_decide_eq_true ok1
          rw [h1] at hd
          split at h
          · rename_i y x st
            have ht := to_tgt h2 h3
            have jt : cmpB cd x y = true → Gd l sh ad dA D A nL p e R s m args below meth c cells slots Q t.toNat L st m0 := fun hc => by
              rw [if_pos hc] at h
              exact hJ _ _ _ _ h
            have jf : ¬ cmpB cd x y = true → Gd l sh ad dA D A nL p e R s m args below meth c cells slots Q (pc + 3) L st m0 := fun hc => by
              rw [if_neg hc] at h
              exact ih _ _ _ _ ok2 h
            intro ls H locs hl hH
            cases cd
            · exact lv_icmp_eq hx hb hd ht (fun z => jt (by simpa [cmpB] using z) ls H locs hl hH) (fun z => jf (by simpa [cmpB] using z) ls H locs hl hH)
            · exact lv_icmp_ne hx hb hd ht (fun z => jt (by simpa [cmpB] using z) ls H locs hl hH) (fun z => jf (by simpa [cmpB] using z) ls H locs hl hH)
            · exact lv_icmp_lt hx hb hd ht (fun z => jt (by simpa [cmpB] using z) ls H locs hl hH) (fun z => jf (by simpa [cmpB] using z) ls H locs hl hH)
            · exact lv_icmp_ge hx hb hd ht (fun z => jt (by simpa [cmpB] using z) ls H locs hl hH) (fun z => jf (by simpa [cmpB] using z) ls H locs hl hH)
            · exact lv_icmp_gt hx hb hd ht (fun z => jt (by simpa [cmpB] using z) ls H locs hl hH) (fun z => jf (by simpa [cmpB] using z) ls H locs hl hH)
            · exact lv_icmp_le hx hb hd ht (fun z => jt (by simpa [cmpB] using z) ls H locs hl hH) (fun z => jf (by simpa [cmpB] using z) ls H locs hl hH)
          · cases h
        · cases ok1
      · cases ok
    case tableswitch d lo' hi' offs =>
      simp only [exI] at h
      simp only [okL] at ok
      split at ok
      · rename_i raw len hd
        simp only [Bool.and_eq_true] at ok
        obtain ⟨ok1, ok2⟩ := ok
        simp only [okI] at ok1
        split at ok1
        · rename_i d1 lo1 hi1 offs1
          obtain ⟨rfl, rfl, h2, h3, h4, h5, h6⟩ := of_decide_eq_true ok1
          split at h
          · rename_i x st
            intro ls H locs hl hH
            have k9 := hJ _ _ _ _ h ls H locs hl hH
            by_cases hq : x.toInt < lo1 ∨ hi1 < x.toInt
            · unfold swT at k9
              rw [if_pos hq] at k9
              exact lv_tableOut hx hb hd hq (to_tgt h2 h3) k9
            · unfold swT at k9
              rw [if_neg hq] at k9
              have q1 : ¬ x.toInt < lo1 := fun z => hq (Or.inl z)
              have q2 : ¬ hi1 < x.toInt := fun z => hq (Or.inr z)
              have hlt : (x.toInt - lo1).toNat < offs1.size := by omega
              have e1 : offs1[(x.toInt - lo1).toNat]? = some (offs1[(x.toInt - lo1).toNat]) := Array.getElem?_eq_getElem hlt
              have e2 : offs[(x.toInt - lo1).toNat]? = some ((pc : Int) + offs1[(x.toInt - lo1).toNat]) := by
                rw [← Array.getElem?_toList, h4, List.getElem?_map, Array.getElem?_toList, e1]
                rfl
              have e3 : offs.getD (x.toInt - lo1).toNat d = (pc : Int) + offs1[(x.toInt - lo1).toNat] := by
                rw [Array.getD_eq_getD_getElem?, e2]
                rfl
              have e4 : (0 : Int) ≤ (pc : Int) + offs1[(x.toInt - lo1).toNat] := h6 _ (by
                rw [← Array.getElem?_toList] at e2
                exact List.mem_of_getElem? e2)
              rw [e3] at k9
              exact lv_tableIn hx hb hd q1 q2 e1 (to_tgt rfl e4) k9
          · cases h
        · cases ok1
      · cases ok
    case lookupswitch d ps =>
      simp only [exI] at h
      simp only [okL] at ok
      split at ok
      · rename_i raw len hd
        simp only [Bool.and_eq_true] at ok
        obtain ⟨ok1, ok2⟩ := ok
        simp only [okI] at ok1
        split at ok1
        · rename_i d1 ps1
          obtain ⟨h2, h3, h4, h5, h6⟩ := of_decide_eq_true ok1
          split at h
          · rename_i x st
            intro ls H locs hl hH
            have k9 := hJ _ _ _ _ h ls H locs hl hH
            unfold swL at k9
            have e1 : Op.lookupswitch.offset ps.toList d x.toInt = (pc : Int) + Op.lookupswitch.offset ps1.toList d1 x.toInt := by
              rw [h4, ← h2, osw_map]
            have e2 := osw_nonneg (k := x.toInt) h3 _ h6
            rw [e1] at k9 e2
            exact lv_lookup hx hb hd h5 rfl (to_tgt rfl e2) k9
          · cases h
        · cases ok1
      · cases ok
    case ireturn =>
      simp only [exI] at h
      split at h
      · rename_i x
        split at h
        · rename_i hz
          simp only [Option.some.injEq] at h
          subst h
          simp only [okL] at ok
          split at ok
          · rename_i raw len hd
            simp only [Bool.and_eq_true] at ok
            obtain ⟨rfl, rfl⟩ := bin_ok ok.1
            exact hR pc L ⟨hd, hz⟩
          · cases ok
        · cases h
      · cases h
    case lreturn =>
      simp only [exI] at h
      split at h
      · split at h
        · rename_i hz
          simp only [Option.some.injEq] at h
          subst h
          simp only [okL] at ok
          split at ok
          · rename_i raw len hd
            simp only [Bool.and_eq_true] at ok
            obtain ⟨rfl, rfl⟩ := bin_ok ok.1
            exact hR pc L ⟨hd, hz⟩
          · cases ok
        · cases h
      · cases h
    case areturn =>
      simp only [exI] at h
      split at h
      · split at h
        · rename_i hz
          simp only [Option.some.injEq] at h
          subst h
          simp only [okL] at ok
          split at ok
          · rename_i raw len hd
            simp only [Bool.and_eq_true] at ok
            obtain ⟨rfl, rfl⟩ := bin_ok ok.1
            exact hR pc L ⟨hd, hz⟩
          · cases ok
        · cases h
      · cases h
    case return_ =>
      simp only [exI] at h
      split at h
      · split at h
        · rename_i hz
          simp only [Option.some.injEq] at h
          subst h
          simp only [okL] at ok
          split at ok
          · rename_i raw len hd
            simp only [Bool.and_eq_true] at ok
            obtain ⟨rfl, rfl⟩ := bin_ok ok.1
            exact hR pc L ⟨hd, hz⟩
          · cases ok
        · cases h
      · cases h
    all_goals
      simp only [exI] at h
      split at h
      · rename_i L' st' m' hs
        simp only [okL] at ok
        split at ok
        · rename_i raw len hd
          simp only [Bool.and_eq_true] at ok
          exact sim_step hT X hC hfr hlo hc hsl hs ok.1 hd (fun t q => by cases q) (ih _ _ _ _ ok.2 h)
        · cases ok
      · cases h
/-- a run -/
theorem sim_rn (hT : ∀ o T, tb0 o = some T → tb o = some T) (X : Cx sh tb ad dA D A own nL cc p s m args c) (hC : ∀ z As m0 r, C z As m0 = some r → MetZ l sh ad dA D z As m0 r) (hfr : fr ≤ R.frames) (hlo : lo ≤ R.locals) (hc : cells ≤ R.cells) (hsl : slots ≤ R.slots) {code : Nat → List ClassFile.Instr} (hok : ∀ pc, okL own fr lo cc (code pc) pc = true) {r : Rs}
    (hR : ∀ pc L, retOK cc rt pc r.1 → Gd l sh ad dA D A nL p e R s m args below meth c cells slots Q pc L r.1.toList r.2) {pc : Nat} {L st : List Value} {m0 : Mm} (h : rn sh tb mN mO C rt code pc L st m0 = some r) : Gd l sh ad dA D A nL p e R s m args below meth c cells slots Q pc L st m0 := by
  obtain ⟨n, h1⟩ := (rn_iff sh tb mN mO C rt code).mp h
  clear h
  induction n generalizing pc L st m0 with
  | zero => cases h1
  | succ n ih => exact sim_exI hT X hC hfr hlo hc hsl (K := rnN sh tb mN mO C rt code n) (fun pc L st m0 h => ih h) hR _ _ _ _ _ (hok pc) h1
end SimX
/-- the meaning of each method, by the depth of calls; that of isWord is given -/
noncomputable def semZ (sh : List ShE) (wS : List Value → Mm → Option Rs) : Nat → CallS
  | 0, _, _, _ => none
  | d + 1, z, As, m0 => if z = zX3_isWord then wS As m0 else if (argL As).length ≤ mX z ∧ z + 1 < nZ then rn sh tb0 mN mO (semZ sh wS d) (mT z) (codeZ z) 0 (initL (mX z) As) [] m0 else none
def okZ1 (z : Nat) : Bool := okM (mO z) (mF z) (mL z) (mB z) (cdL.getD z [])
theorem okL_code {own fr lo z : Nat} {cc : ByteArray} (h : okM own fr lo cc (cdL.getD z []) = true) (pc : Nat) : okL own fr lo cc (codeZ z pc) pc = true := by
  unfold codeZ
  cases hl : (cdL.getD z []).lookup pc with
  | none => rfl
  | some is =>
    have hm : (pc, is) ∈ cdL.getD z [] := by
      generalize cdL.getD z [] = l at hl
      induction l with
      | nil => cases hl
      | cons a l ih =>
        rw [List.lookup_cons] at hl
        split at hl
        · rename_i e
          have : pc = a.1 := by simpa using e
          cases hl
          rw [this]
          exact List.mem_cons_self
        · exact List.mem_cons_of_mem _ (ih hl)
    exact List.all_eq_true.mp h _ hm
section SimM
variable {l : Launch} {sh : List ShE} {ad : Nat → Nat} {dA : Nat → ClassId} {D : va_G}
theorem met_all (hsh : shOK sh = true) (hok : ∀ z, z + 1 < nZ → okZ1 z = true) {wS : List Value → Mm → Option Rs} (hW : ∀ As m0 r, wS As m0 = some r → MetZ l sh ad dA D zX3_isWord As m0 r) : ∀ (d z : Nat) (As : List Value) (m0 : Mm) (r : Rs), semZ sh wS d z As m0 = some r → MetZ l sh ad dA D z As m0 r := by
  intro d
  induction d with
  | zero => intro z As m0 r h; cases h
  | succ d ih =>
    intro z As m0 r h
    unfold semZ at h
    split at h
    · rename_i hz
      rw [hz]
      exact hW As m0 r h
    · split at h
      · rename_i hz
        obtain ⟨hal, hz⟩ := hz
        obtain ⟨i1, i2, i3, i4, i5, i6⟩ := z_st hz
        intro sz
        refine Met.ofW (cc := mB z) (maxL := mX z) (ret := mT z) i5 rfl ?_
        intro p e s m args below meth c s₁ B hml hv
        obtain ⟨rfl, hsz, hP, hK, hD0, hSt⟩ := hv
        subst hsz
        have hr := B.returns
        have hts := atoms_spec (ws := mW z) B.pre
        have hown : s.vm.findClass (mY z).cls = some m.cls := findClass_of_methodNamed B.named
        have hlocks := B.notSynchronized
        rw [i6] at hown
        have X : Cx sh tb0 ad dA D (AA sh ad s.heap.size) (mO z) (mX z) (mB z) p s m (As.map (cv ad)).toArray c := ⟨B.exec, B.bytes, hml, hown, fun w hw => hts w (List.mem_cons_of_mem _ hw), hK, hsh, hSt, fun q h => h⟩
        have hD : va_D (AA sh ad s.heap.size) (cellsW sh ad dA m0) := ⟨hD0.1, fun k q hk => Or.inl ⟨k, (cellsW_addr hk).1, (cellsW_addr hk).2⟩⟩
        rw [lg_entry_eq]
        refine sim_rn (fr := mF z) (lo := mL z) (fun o T h => h) X ih (Nat.le_refl _) (Nat.le_refl _) (Nat.le_refl _) (Nat.le_refl _) (okL_code (hok z hz)) (fun pc L hret ls H locs hl hH => ?_) h _ s.heap [] (LR_entry ad As hal) ⟨hP, hD, va_S.rf⟩
        have hq : ∀ t : State, t.heap = H → s.WarmedH t.vm → QcZ sh ad dA D r s.heap.size (As.map (cv ad)).toArray s (.returned (r.1.map (cv ad))) t := fun t ht _ => ⟨⟨rfl, by rw [ht]; exact hH.1⟩, hH.2.2.F ht⟩
        obtain ⟨v, m1⟩ := r
        cases v with
        | none =>
          obtain ⟨h1, h2⟩ := hret
          rw [h2] at hr
          exact W.vret B.exec B.bytes hr hq hH.2.2.2.2 h1
        | some v =>
          cases v with
          | int x =>
            obtain ⟨h1, h2⟩ := hret
            unfold okZ at h2
            split at h2
            · rename_i h3
              rw [h3] at hr
              exact W.iret B.exec B.bytes hr hq hH.2.2.2.2 h1
            · rename_i h3
              rw [h3] at hr
              simp only [Bool.or_eq_true, decide_eq_true_eq] at h2
              exact W.zret B.exec B.bytes hr (by rcases h2 with rfl | rfl <;> decide +kernel) hq hH.2.2.2.2 h1
            · cases h2
          | long x =>
            obtain ⟨h1, h2⟩ := hret
            rw [h2] at hr
            exact W.lret B.exec B.bytes hr hq hH.2.2.2.2 h1
          | ref x =>
            obtain ⟨h1, h2⟩ := hret
            unfold isRefT at h2
            split at h2
            · rename_i n h3
              rw [h3] at hr
              exact W.aret (v := .ref (ad x)) B.exec B.bytes hr (Or.inl ⟨_, rfl⟩) (Or.inr ⟨_, rfl⟩) hq hH.2.2.2.2 h1
            · rename_i n h3
              rw [h3] at hr
              exact W.aret (v := .ref (ad x)) B.exec B.bytes hr (Or.inr ⟨_, rfl⟩) (Or.inr ⟨_, rfl⟩) hq hH.2.2.2.2 h1
            · cases h2
          | _ => exact hret.elim
      · cases h
end SimM
