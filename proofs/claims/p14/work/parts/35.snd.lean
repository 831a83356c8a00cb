/-! THE CHECKER IS SOUND: jumps, blocks, methods -/
def rel (c : ClassFile.Cond) (a b : Int) : Prop := match c with
  | .eq => a = b
  | .ne => a ≠ b
  | .lt => a < b
  | .ge => b ≤ a
  | .gt => b < a
  | .le => a ≤ b
theorem cmp_rel {c : ClassFile.Cond} {x y : Int32} (h : cmpB c x y = true) : rel c x.toInt y.toInt := by
  cases c <;> simp only [cmpB, decide_eq_true_eq] at h <;> simp only [rel]
  · rw [h]
  · exact fun z => h (Int32.toInt_inj.mp z)
  · exact Int32.lt_iff_toInt_lt.mp h
  · exact Int32.le_iff_toInt_le.mp h
  · exact Int32.lt_iff_toInt_lt.mp h
  · exact Int32.le_iff_toInt_le.mp h
theorem cmp_neg {c : ClassFile.Cond} {x y : Int32} (h : ¬ cmpB c x y = true) : cmpB (negC c) x y = true := by
  cases c <;> simp only [cmpB, decide_eq_true_eq, negC] at h ⊢
  · exact h
  · exact Decidable.not_not.mp h
  · exact Int32.not_lt.mp h
  · exact Int32.not_le.mp h
  · exact Int32.not_lt.mp h
  · exact Int32.not_le.mp h
theorem cmpI_ok {c : ClassFile.Cond} {a b : AI} {x y : Int} (h : rel c x y) (a1 : a.1 ≤ x) (a2 : x ≤ a.2.1) (b1 : b.1 ≤ y) (b2 : y ≤ b.2.1) : ((cmpI c a b).1.1 ≤ x ∧ x ≤ (cmpI c a b).1.2) ∧ ((cmpI c a b).2.1 ≤ y ∧ y ≤ (cmpI c a b).2.2) := by
  cases c <;> simp only [rel, cmpI] at h ⊢
  · omega
  · refine ⟨⟨?_, ?_⟩, ?_, ?_⟩ <;> split <;> omega
  · omega
  · omega
  · omega
  · omega
theorem neE_ok {c : ClassFile.Cond} {a b : AI} {e f : Option Int} {x y : Int} (h : c = .ne → x ≠ y) (ga : gN a e x) (gb : gN b f y) : gN a (neE c e b f) x := by
  unfold neE
  split
  · split
    · rename_i hc
      obtain ⟨h1, rfl, h3⟩ := hc
      have e1 := gN_1 gb h1
      rcases ga with ga | ga
      · rw [h3] at ga
        simp only [Option.some.injEq] at ga
        exact absurd (by omega) (h rfl)
      · exact Or.inr ga
    · exact ga
  · exact ga
theorem cutN_ok {a : AI} {e : Option Int} {lo hi x : Int} (g : gN a e x) (h1 : lo ≤ x) (h2 : x ≤ hi) : gN (cutN a e lo hi).1 (cutN a e lo hi).2 x := by
  rcases g with g | ⟨g1, g2, g3⟩
  · subst g
    refine Or.inl ?_
    simp only [cutN]
    rw [if_pos ⟨h1, h2⟩]
  · refine Or.inr ⟨?_, ?_, ?_⟩
    · simp only [cutN]
      split
      · split <;> omega
      · exact g1
    · simp only [cutN]
      split <;> omega
    · simp only [cutN]
      by_cases z : a.2.2 ≤ 1
      · simp only [if_pos z]
        have e : (if a.2.2 = 0 then 1 else a.2.2) = 1 := by split <;> omega
        rw [e]
        exact one_dv _
      · simp only [if_neg z]
        rw [if_neg (by omega)]
        exact g3
section Sl
variable {L0 L st : List Value} {m mE : Mm} {T : List (List (Int × Int))} {W : Wr} {sh : List ShE} {Tc : List CE} {C : CallS}
theorem cutS_ok {S : AS} {q : Nat × Int × Int} (g : gZ T W mE L0 S L st m) (h : q.1 ≠ 0 → srcB L m q) : gZ T W mE L0 (cutS T S q) L st m := by
  unfold cutS
  split
  · exact g
  · rename_i h0
    have hq := h h0
    obtain ⟨g1, g2, g3, g4, g5⟩ := g
    split
    · rename_i h1
      split
      · rename_i a ha
        rcases hq with ⟨q1, q2, y, q3, q4, q5⟩ | ⟨q1, -⟩
        · refine ⟨⟨by rw [List.length_set]; exact g1.1, fun j b hj => ?_⟩, g2, g3, g4, g5⟩
          rw [List.getElem?_set] at hj
          by_cases e : q.1 - 1 = j
          · rw [if_pos e] at hj
            split at hj
            · cases hj
              have k := g1.2 _ a ha
              subst e
              rw [q3] at k ⊢
              match a, k with
              | none, _ => trivial
              | some (.inl (ai, e, s, o, im)), ⟨x, hx, k1, k2, k3, k4⟩ =>
                cases hx
                exact ⟨y, rfl, cutN_ok k1 q4 q5, k2, k3, k4⟩
              | some (.inr (.inl rs)), k => exact k
              | some (.inr (.inr (lo, hi, s))), k => exact k
            · cases hj
          · rw [if_neg e] at hj
            exact g1.2 j b hj
        · omega
      · exact ⟨g1, g2, g3, g4, g5⟩
    · refine ⟨g1, g2, g3, ?_, g5⟩
      rcases hq with ⟨q1, q2, -⟩ | ⟨q1, q2, q3⟩
      · omega
      · intro p hp
        rcases List.mem_cons.mp hp with rfl | hp
        · have b := celI_ok g3 g4 (q.1 - 1000)
          refine ⟨?_, ?_⟩
          · show (if (celI T S.2.2 (q.1 - 1000)).1 < q.2.1 then q.2.1 else (celI T S.2.2 (q.1 - 1000)).1) ≤ cel m (q.1 - 1000)
            split <;> omega
          · show cel m (q.1 - 1000) ≤ (if q.2.2 < (celI T S.2.2 (q.1 - 1000)).2 then q.2.2 else (celI T S.2.2 (q.1 - 1000)).2)
            split <;> omega
        · exact g4 p hp
theorem cutO_ok {S : AS} {o : Nat × Int} {x lo hi : Int} (g : gZ T W mE L0 S L st m) (ho : orgV L0 o x) (h1 : lo ≤ x) (h2 : x ≤ hi) : gZ T W mE L0 (cutO T S o lo hi) L st m := by
  unfold cutO
  split
  · rename_i ai e s o2 im ha
    split
    · rename_i hc
      obtain ⟨c1, c2, c3, c4⟩ := hc
      refine cutS_ok g (fun _ => ?_)
      obtain ⟨y, hy, -, -, k3, -⟩ := g.1.2 _ _ ha
      rcases ho with ho | ⟨z, ho, hz⟩
      · exact absurd ho c1
      · rcases k3 with k3 | ⟨w, k3, k4⟩
        · omega
        · rw [c3, ho] at k3
          cases k3
          exact Or.inl ⟨by show 0 < o.1; omega, by show o.1 < 1000; omega, y, hy, by show lo - o.2 ≤ _; omega, by show _ ≤ hi - o.2; omega⟩
    · exact g
  · exact g
theorem src_B {s : Nat} {x lo hi : Int} (h : srcV L m s x) (h1 : lo ≤ x) (h2 : x ≤ hi) : s ≠ 0 → srcB L m (s, lo, hi) := by
  intro h0
  rcases h with h | ⟨a, b, y, c, d⟩ | ⟨a, b⟩
  · exact absurd h h0
  · exact Or.inl ⟨a, b, y, c, by show lo ≤ _; omega, by show _ ≤ hi; omega⟩
  · exact Or.inr ⟨a, by show lo ≤ cel m _; rw [b]; exact h1, by show cel m _ ≤ hi; rw [b]; exact h2⟩
theorem fold_ok {im : IM} {S : AS} (g : gZ T W mE L0 S L st m) (h : ∀ q ∈ im, srcB L m q) : gZ T W mE L0 (im.foldl (cutS T) S) L st m := by
  induction im generalizing S with
  | nil => exact g
  | cons q im ih => exact ih (cutS_ok g (fun _ => h q List.mem_cons_self)) (fun p hp => h p (List.mem_cons_of_mem _ hp))
theorem cmpS_ok {c : ClassFile.Cond} {a b : AV} {S : AS} {x y : Int32} (g : gZ T W mE L0 S L st m) (ga : gv L0 L m a (.int x)) (gb : gv L0 L m b (.int y)) (h : cmpB c x y = true) : ∃ S1, cmpS T c a b S = some S1 ∧ gZ T W mE L0 S1 L st m := by
  match a, b, ga, gb with
  | none, _, _, _ => exact ⟨S, rfl, g⟩
  | some (.inr _), _, _, _ => exact ⟨S, rfl, g⟩
  | some (.inl (ai, e, s, o, im)), none, _, _ => exact ⟨S, rfl, g⟩
  | some (.inl (ai, e, s, o, im)), some (.inr _), _, _ => exact ⟨S, rfl, g⟩
  | some (.inl (ai, e, s, o, im)), some (.inl (bi, f, t, o', im')), ⟨x', hx, a1, a2, a3, a4⟩, ⟨y', hy, b1, b2, b3, b4⟩ =>
    cases hx
    cases hy
    have r := cmp_rel h
    have A := gN_hul (neE_ok (c := c) (fun z => by rw [z] at r; exact r) a1 b1)
    have B := gN_hul (neE_ok (c := c) (fun z => by rw [z] at r; exact fun w => r w.symm) b1 a1)
    have k := cmpI_ok r A.1 A.2.1 B.1 B.2.1
    simp only [cmpS]
    rw [if_pos]
    · refine ⟨_, rfl, fold_ok (cutO_ok (cutO_ok (cutS_ok (cutS_ok g (src_B a2 k.1.1 k.1.2)) (src_B b2 k.2.1 k.2.2)) a3 k.1.1 k.1.2) b3 k.2.1 k.2.2) ?_⟩
      intro q hq
      cases c
      case ne =>
        simp only at hq
        split at hq
        · rename_i hz
          obtain ⟨z1, z2, rfl⟩ := hz
          refine a4 ?_ q hq
          have : y.toInt = 0 := by
            have := gN_1 b1 (by omega)
            omega
          have r2 : x.toInt ≠ y.toInt := r
          omega
        · cases hq
      all_goals cases hq
    · refine ⟨?_, ?_⟩
      · (repeat' split) <;> omega
      · (repeat' split) <;> omega
/-- what a run must come to -/
def PostR (T : List (List (Int × Int))) (mE : Mm) (c0 : CE) (r : Rs) : Prop := retG c0.2.2.2.1 r.1 ∧ InvT T r.2 ∧ rho r.2 c0.2.2.2.2.1 ∧ frm c0.2.2.2.2.2.1 mE r.2 ∧ c0.2.2.2.2.2.2 = []
theorem ret_ok {rt : Option FieldType} {c0 : CE} {a : AV} {S : AS} {v : Value} (h : retA T rt c0 a S = true) (ga : gv L0 L m a v) (hI : InvT T m) (hR : rho m S.2.2) (hf : frm c0.2.2.2.2.2.1 mE m) : PostR T mE c0 (some v, m) ∧ okRet rt a = true := by
  unfold retA at h
  simp only [Bool.and_eq_true] at h
  obtain ⟨⟨⟨⟨h1, h2⟩, h3⟩, h4⟩, h5⟩ := h
  refine ⟨⟨?_, hI, leR_ok h4 hI hR, hf, List.isEmpty_iff.mp h5⟩, h1⟩
  cases hc : c0.2.2.2.1 with
  | none => rw [hc] at h2; cases h2
  | some b =>
    rw [hc] at h3
    exact gv_cle (leV_ok h3 ga []) _ _ _
theorem ok_int {rt : Option FieldType} {a : AV} {x : Int32} (h : okRet rt a = true) (hi : isI a = true) (g : gv L0 L m a (.int x)) : okZ rt x = true := by
  unfold isI at hi
  split at hi
  · rename_i q
    obtain ⟨ai, e, s, o, im⟩ := q
    obtain ⟨x', hx, a1, -⟩ := g
    cases hx
    have A := gN_hul a1
    simp only [okRet] at h
    unfold okZ
    split at h
    · rfl
    · simp only [Bool.and_eq_true, decide_eq_true_eq] at h
      simp only [Bool.or_eq_true, decide_eq_true_eq]
      exact i01 (by omega) (by omega)
    · cases h
  · cases hi
theorem ok_lng {rt : Option FieldType} {a : AV} (h : okRet rt a = true) (hi : isJ a = true) : rt = some .long := by
  unfold isJ at hi
  split at hi
  · simp only [okRet] at h
    exact of_decide_eq_true h
  · cases hi
theorem absX_ok {rt : Option FieldType} {c0 : CE} (hC : ∀ c ∈ Tc, Hd T C c) {K : KS} : ∀ (is : List ClassFile.Instr) (S : AS) (L st : List Value) (m : Mm) (ex : List (Nat × AS)), absX sh T Tc c0.2.2.2.2.2.1 rt c0 is S = some ex → gZ T c0.2.2.2.2.2.1 mE L0 S L st m → (∀ q ∈ ex, ∀ L' st' m', gZ T c0.2.2.2.2.2.1 mE L0 q.2 L' st' m' → ∃ r, K q.1 L' st' m' = some r ∧ PostR T mE c0 r) → ∃ r, exI sh tb0 mN mO C rt K is L st m = some r ∧ PostR T mE c0 r := by
  intro is
  induction is with
  | nil => intro S L st m ex h; cases h
  | cons i is ih =>
    intro S L st m ex h g hK
    obtain ⟨g1, g2, g3, g4, g5⟩ := id g
    cases i
    case goto t =>
      simp only [absX] at h
      cases h
      exact hK (t.toNat, S) (List.mem_singleton.mpr rfl) L st m g
    case goto_w t =>
      simp only [absX] at h
      cases h
      exact hK (t.toNat, S) (List.mem_singleton.mpr rfl) L st m g
    case ifCond c t =>
      simp only [absX] at h
      split at h
      · rename_i a st1 hs
        rw [hs] at g2
        obtain ⟨v, vs, rfl, k1, k2⟩ := gT_cons g2
        split at h
        · rename_i hi
          obtain ⟨x, rfl⟩ := isI_v hi k1
          have g' : gZ T c0.2.2.2.2.2.1 mE L0 (S.1, st1, S.2.2) L vs m := ⟨g1, k2, g3, g4, g5⟩
          have k0 : gv L0 L m (cst 0) (.int (0 : Int32)) := gv_cst (n := 0) (by decide)
          split at h
          · rename_i l hl
            cases h
            simp only [exI]
            by_cases hb : cmpB c x 0 = true
            · rw [if_pos hb]
              obtain ⟨S1, e1, e2⟩ := cmpS_ok g' k1 k0 hb
              refine hK (t.toNat, S1) ?_ L vs m e2
              rw [e1]
              exact List.mem_append_left _ (List.mem_singleton.mpr rfl)
            · rw [if_neg hb]
              obtain ⟨S1, e1, e2⟩ := cmpS_ok g' k1 k0 (cmp_neg hb)
              rw [e1] at hl
              exact ih S1 L vs m l hl e2 (fun q hq => hK q (List.mem_append_right _ hq))
          · cases h
        · cases h
      · cases h
    case if_icmp c t =>
      simp only [absX] at h
      split at h
      · rename_i b a st1 hs
        rw [hs] at g2
        obtain ⟨w, vs, rfl, k0, kk⟩ := gT_cons g2
        obtain ⟨v, vs, rfl, k1, k2⟩ := gT_cons kk
        split at h
        · rename_i hi
          obtain ⟨x, rfl⟩ := isI_v hi.1 k1
          obtain ⟨y, rfl⟩ := isI_v hi.2 k0
          have g' : gZ T c0.2.2.2.2.2.1 mE L0 (S.1, st1, S.2.2) L vs m := ⟨g1, k2, g3, g4, g5⟩
          split at h
          · rename_i l hl
            cases h
            simp only [exI]
            by_cases hb : cmpB c x y = true
            · rw [if_pos hb]
              obtain ⟨S1, e1, e2⟩ := cmpS_ok g' k1 k0 hb
              refine hK (t.toNat, S1) ?_ L vs m e2
              rw [e1]
              exact List.mem_append_left _ (List.mem_singleton.mpr rfl)
            · rw [if_neg hb]
              obtain ⟨S1, e1, e2⟩ := cmpS_ok g' k1 k0 (cmp_neg hb)
              rw [e1] at hl
              exact ih S1 L vs m l hl e2 (fun q hq => hK q (List.mem_append_right _ hq))
          · cases h
        · cases h
      · cases h
    case tableswitch d lo hi offs =>
      simp only [absX] at h
      split at h
      · rename_i a st1 hs
        rw [hs] at g2
        obtain ⟨v, vs, rfl, k1, k2⟩ := gT_cons g2
        split at h
        · rename_i hc
          obtain ⟨hi1, hsz, hl32, hh32⟩ := hc
          obtain ⟨x, rfl⟩ := isI_v hi1 k1
          have g' : gZ T c0.2.2.2.2.2.1 mE L0 (S.1, st1, S.2.2) L vs m := ⟨g1, k2, g3, g4, g5⟩
          cases h
          simp only [exI]
          have rx := r32 x
          unfold swT
          by_cases hq : x.toInt < lo ∨ hi < x.toInt
          · rw [if_pos hq]
            rcases hq with hq | hq
            · have e : (Int32.ofInt lo).toInt = lo := by
                unfold in32 at hl32
                simp only [Bool.and_eq_true, decide_eq_true_eq] at hl32
                exact Int32.toInt_ofInt_of_le (by omega) (by omega)
              obtain ⟨S1, e1, e2⟩ := cmpS_ok (c := .lt) g' k1 (gv_cst hl32) (by simp only [cmpB, decide_eq_true_eq]; exact Int32.lt_iff_toInt_lt.mpr (by omega))
              refine hK (d.toNat, S1) ?_ L vs m e2
              rw [e1]
              exact List.mem_append_left _ (List.mem_singleton.mpr rfl)
            · have e : (Int32.ofInt hi).toInt = hi := by
                unfold in32 at hh32
                simp only [Bool.and_eq_true, decide_eq_true_eq] at hh32
                exact Int32.toInt_ofInt_of_le (by omega) (by omega)
              obtain ⟨S1, e1, e2⟩ := cmpS_ok (c := .gt) g' k1 (gv_cst hh32) (by simp only [cmpB, decide_eq_true_eq]; exact Int32.lt_iff_toInt_lt.mpr (by omega))
              refine hK (d.toNat, S1) ?_ L vs m e2
              rw [e1]
              exact List.mem_append_right _ (List.mem_append_left _ (List.mem_singleton.mpr rfl))
          · rw [if_neg hq]
            have hk : (x.toInt - lo).toNat < offs.size := by omega
            have ek : lo + ((x.toInt - lo).toNat : Int) = x.toInt := by omega
            have h32 : in32 (lo + ((x.toInt - lo).toNat : Int)) (lo + ((x.toInt - lo).toNat : Int)) = true := by
              rw [ek]
              unfold in32
              simp only [Bool.and_eq_true, decide_eq_true_eq]
              exact ⟨rx.1, rx.2⟩
            have e : (Int32.ofInt (lo + ((x.toInt - lo).toNat : Int))) = x := by
              rw [ek]
              exact Int32.ofInt_toInt x
            obtain ⟨S1, e1, e2⟩ := cmpS_ok (c := .eq) g' k1 (gv_cst h32) (by rw [e]; simp only [cmpB, decide_eq_true_eq])
            refine hK ((offs.getD (x.toInt - lo).toNat d).toNat, S1) ?_ L vs m e2
            refine List.mem_append_right _ (List.mem_append_right _ (List.mem_filterMap.mpr ⟨(x.toInt - lo).toNat, List.mem_range.mpr hk, ?_⟩))
            rw [e1]
            rfl
        · cases h
      · cases h
    case ireturn =>
      simp only [absX] at h
      split at h
      · rename_i a hs
        rw [hs] at g2
        obtain ⟨v, vs, rfl, k1, k2⟩ := gT_cons g2
        cases gT_nil k2
        split at h
        · rename_i hc
          obtain ⟨x, rfl⟩ := isI_v hc.1 k1
          obtain ⟨r1, r2⟩ := ret_ok hc.2 k1 g3 g4 g5
          refine ⟨_, ?_, r1⟩
          simp only [exI]
          rw [if_pos (ok_int r2 hc.1 k1)]
        · cases h
      · cases h
    case lreturn =>
      simp only [absX] at h
      split at h
      · rename_i a hs
        rw [hs] at g2
        obtain ⟨v, vs, rfl, k1, k2⟩ := gT_cons g2
        cases gT_nil k2
        split at h
        · rename_i hc
          obtain ⟨x, rfl⟩ := isJ_v hc.1 k1
          obtain ⟨r1, r2⟩ := ret_ok hc.2 k1 g3 g4 g5
          refine ⟨_, ?_, r1⟩
          simp only [exI]
          rw [if_pos (ok_lng r2 hc.1)]
        · cases h
      · cases h
    case areturn =>
      simp only [absX] at h
      split at h
      · rename_i rs hs
        rw [hs] at g2
        obtain ⟨v, vs, rfl, k1, k2⟩ := gT_cons g2
        cases gT_nil k2
        split at h
        · rename_i hc
          obtain ⟨x, rfl, hx⟩ := id k1
          obtain ⟨r1, r2⟩ := ret_ok hc k1 g3 g4 g5
          refine ⟨_, ?_, r1⟩
          simp only [exI]
          exact if_pos r2
        · cases h
      · cases h
    case return_ =>
      simp only [absX] at h
      split at h
      · rename_i hs
        rw [hs] at g2
        cases gT_nil g2
        split at h
        · rename_i hc
          obtain ⟨c1, c2, c3, c4⟩ := hc
          refine ⟨(none, m), by simp only [exI]; rw [if_pos c1], ?_, g3, leR_ok c3 g3 g4, g5, List.isEmpty_iff.mp c4⟩
          rw [c2]
          trivial
        · cases h
      · cases h
    case lookupswitch d ps =>
      simp only [absX, absI] at h
      cases h
    all_goals
      simp only [absX] at h
      split at h
      · rename_i S1 hS
        obtain ⟨L', st', m', e1, e2⟩ := absI_ok hC hS g
        simp only [exI]
        rw [e1]
        exact ih S1 L' st' m' ex h e2 hK
      · cases h
end Sl
