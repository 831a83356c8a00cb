/-! THE CHECKER IS SOUND: instructions -/
theorem leN_ok {a b : AI} {e f : Option Int} {x : Int} (h : leN a e b f = true) (g : gN a e x) : gN b f x := by
  unfold leN at h
  simp only [Bool.and_eq_true] at h
  obtain ⟨h1, h2⟩ := h
  rcases g with g | ⟨g1, g2, g3⟩
  · subst g
    simp only [Bool.or_eq_true, Bool.and_eq_true, beq_iff_eq, decide_eq_true_eq] at h1
    rcases h1 with h1 | ⟨⟨h3, h4⟩, h5⟩
    · exact Or.inl h1
    · refine Or.inr ⟨h3, h4, ?_⟩
      rw [h5]
      exact one_dv _
  · simp only [Bool.or_eq_true, Bool.and_eq_true, beq_iff_eq, decide_eq_true_eq] at h2
    rcases h2 with (⟨h3, h4⟩ | h3) | ⟨⟨h3, h4⟩, h5⟩
    · have : x = a.1 := by omega
      rw [this]
      exact Or.inl h4
    · omega
    · refine Or.inr ⟨by omega, by omega, ?_⟩
      rcases h5 with h5 | ⟨h5, h6⟩
      · rw [h5]
        exact one_dv _
      · have d1 : (b.2.2 : Int) ∣ a.1 - b.1 := Int.dvd_of_emod_eq_zero h6
        have d2 : (b.2.2 : Int) ∣ x - a.1 := by
          rcases h5 with h5 | h5
          · exact Int.dvd_trans (Int.ofNat_dvd.mpr (Nat.dvd_of_mod_eq_zero h5)) g3
          · have : x - a.1 = 0 := by omega
            rw [this]
            exact Int.dvd_zero _
        have e1 : x - b.1 = (x - a.1) + (a.1 - b.1) := by omega
        rw [e1]
        exact Int.dvd_add d2 d1
section Si
variable {L0 L : List Value} {m mE : Mm} {T : List (List (Int × Int))} {W : Wr}
theorem srcB_le {q q1 : Nat × Int × Int} (h : srcB L m q1) (h1 : q1.1 = q.1) (h2 : q.2.1 ≤ q1.2.1) (h3 : q1.2.2 ≤ q.2.2) : srcB L m q := by
  unfold srcB at h ⊢
  rw [h1] at h
  rcases h with ⟨a, b, y, c, d, e⟩ | ⟨a, b, c⟩
  · exact Or.inl ⟨a, b, y, c, by omega, by omega⟩
  · exact Or.inr ⟨a, by omega, by omega⟩
theorem leV_ok {a b : AV} {v : Value} (h : leV a b = true) (g : gv L0 L m a v) (L1 : List Value) : gv L1 L m b v := by
  unfold leV at h
  split at h
  · trivial
  · rename_i bi f s o im ai e s1 o1 im1
    obtain ⟨x, hx, g1, g2, g3, g4⟩ := g
    simp only [Bool.and_eq_true, Bool.or_eq_true, beq_iff_eq] at h
    obtain ⟨⟨⟨h1, h2⟩, h3⟩, h4⟩ := h
    refine ⟨x, hx, leN_ok h1 g1, ?_, Or.inl h3, fun hx0 q hq => ?_⟩
    · rcases h2 with h2 | h2
      · exact Or.inl h2
      · rw [h2]; exact g2
    · have k := List.all_eq_true.mp h4 q hq
      rw [List.any_eq_true] at k
      obtain ⟨q1, k1, k2⟩ := k
      simp only [Bool.and_eq_true, beq_iff_eq, decide_eq_true_eq] at k2
      exact srcB_le (g4 hx0 q1 k1) k2.1.1 k2.1.2 k2.2
  · rename_i rs rs1
    obtain ⟨r, hr, g1⟩ := g
    have k := List.all_eq_true.mp h r g1
    exact ⟨r, hr, List.contains_iff_mem.mp k⟩
  · rename_i lo hi s lo1 hi1 s1
    obtain ⟨x, hx, g1, g2, g3⟩ := g
    simp only [Bool.and_eq_true, Bool.or_eq_true, beq_iff_eq, decide_eq_true_eq] at h
    refine ⟨x, hx, by omega, by omega, ?_⟩
    rcases h.2 with h2 | h2
    · exact Or.inl h2
    · rw [h2]; exact g3
  · cases h
theorem leT_ok {as bs : List AV} {st : List Value} (h : leT as bs = true) (g : gT L0 L m as st) (L1 : List Value) : gT L1 L m bs st := by
  induction as generalizing bs st with
  | nil =>
    cases bs with
    | nil => rw [gT_nil g]; trivial
    | cons b bs => cases h
  | cons a as ih =>
    cases bs with
    | nil => cases h
    | cons b bs =>
      obtain ⟨v, vs, rfl, g1, g2⟩ := gT_cons g
      simp only [leT, Bool.and_eq_true] at h
      exact ⟨leV_ok h.1 g1 L1, ih h.2 g2⟩
theorem gT_cle {as : List AV} {st : List Value} (h : gT L0 L m as st) (L1 L' : List Value) (m' : Mm) : gT L1 L' m' (as.map cle) st := by
  induction as generalizing st with
  | nil => rw [gT_nil h]; trivial
  | cons a as ih =>
    obtain ⟨v, vs, rfl, g1, g2⟩ := gT_cons h
    exact ⟨gv_cle g1 _ _ _, ih g2⟩
theorem leR_ok {R Q : IM} (h : leR T R Q = true) (hI : InvT T m) (hR : rho m R) : rho m Q := by
  intro q hq
  unfold leR at h
  have k := List.all_eq_true.mp h q hq
  simp only [Bool.and_eq_true, decide_eq_true_eq] at k
  have b := celI_ok hI hR q.1
  omega
theorem gT_app {as bs : List AV} {st : List Value} (h : gT L0 L m (as ++ bs) st) : ∃ s1 s2, st = s1 ++ s2 ∧ gT L0 L m as s1 ∧ gT L0 L m bs s2 := by
  induction as generalizing st with
  | nil => exact ⟨[], st, rfl, trivial, h⟩
  | cons a as ih =>
    obtain ⟨v, vs, rfl, g1, g2⟩ := gT_cons h
    obtain ⟨s1, s2, rfl, g3, g4⟩ := ih g2
    exact ⟨v :: s1, s2, rfl, ⟨g1, g3⟩, g4⟩
theorem pop_ok {n : Nat} {st st' acc as : List AV} {vs va : List Value} (h : popA n st acc = some (as, st')) (g : gT L0 L m st vs) (ga : gT L0 L m acc va) : ∃ As vs', popN n vs va = some (As, vs') ∧ gT L0 L m as As ∧ gT L0 L m st' vs' := by
  induction n generalizing st acc vs va with
  | zero =>
    cases h
    exact ⟨va, vs, rfl, ga, g⟩
  | succ n ih =>
    cases st with
    | nil => cases h
    | cons a st =>
      obtain ⟨v, vs, rfl, g1, g2⟩ := gT_cons g
      exact ih h g2 ⟨g1, ga⟩
theorem gT_get {as : List AV} {st : List Value} (g : gT L0 L m as st) {i : Nat} {a : AV} (h : as[i]? = some a) : ∃ v, st[i]? = some v ∧ gv L0 L m a v := by
  induction as generalizing st i with
  | nil => cases h
  | cons b as ih =>
    obtain ⟨v, vs, rfl, g1, g2⟩ := gT_cons g
    cases i with
    | zero => cases h; exact ⟨v, rfl, g1⟩
    | succ i => exact ih g2 h
theorem imp_ok {as : List AV} {As : List Value} {V : Wr} {im : IM} {m' : Mm} {x : Int32} (g : gT L0 L m as As) (hf : frm V m m') (hi : impG im As (some (.int x)) m') (hx : x.toInt ≠ 0) : ∀ q ∈ impA as V im, srcB L m' q := by
  intro q hq
  unfold impA at hq
  rw [List.mem_filterMap] at hq
  obtain ⟨p, hp, h2⟩ := hq
  rcases hi x rfl hx p hp with ⟨hlt, w0, y, e1, e0, e2, e3⟩ | ⟨hge, e2, e3⟩
  case inr =>
    rw [if_pos hge] at h2
    cases h2
    exact Or.inr ⟨hge, e2, e3⟩
  rw [if_neg (by omega)] at h2
  split at h2
  · rename_i a ha
    split at h2
    · cases h2
    · rename_i hn
      simp only [Option.some.injEq] at h2
      subst h2
      obtain ⟨v, k1, k2⟩ := gT_get g ha
      rw [e1] at k1
      cases k1
      have key : srcV L m (srA a) y → srcB L m' (srA a, p.2) := fun g2 => by
        have hn1 : ¬ srA a = 0 := fun z => hn (Or.inl z)
        rcases g2 with g2 | ⟨g2, g5, w, g6, g7⟩ | ⟨g2, g5⟩
        · exact absurd g2 hn1
        · exact Or.inl ⟨g2, g5, w, g6, by show p.2.1 ≤ _; omega, by show _ ≤ p.2.2; omega⟩
        · have hv : inV V (srA a - 1000) = false := by
            cases hb : inV V (srA a - 1000) with
            | false => rfl
            | true => exact absurd (Or.inr ⟨g2, hb⟩) hn
          have e4 := frm_cel hf hv
          exact Or.inr ⟨g2, by show p.2.1 ≤ cel m' (srA a - 1000); omega, by show cel m' (srA a - 1000) ≤ p.2.2; omega⟩
      match a, k2, hn, key with
      | none, _, hn, _ => exact absurd (Or.inl rfl) hn
      | some (.inr (.inl _)), _, hn, _ => exact absurd (Or.inl rfl) hn
      | some (.inr (.inr (lo, hi, s))), ⟨z, hz, g1, g2, g3⟩, hn, key =>
        subst hz
        cases e0
        exact key g3
      | some (.inl (ai, e, s, o, im)), ⟨z, hz, g1, g2, g3, g4⟩, hn, key =>
        subst hz
        cases e0
        exact key g2
  · cases h2
theorem call_ok {Tc : List CE} {C : CallS} (hC : ∀ c ∈ Tc, Hd T C c) {z : Nat} {as st : List AV} {S S' : AS} {As vs : List Value} (h : calA T Tc W z as st S = some S') (hL : gL L0 L m S.1) (g : gT L0 L m as As) (gs : gT L0 L m st vs) (hI : InvT T m) (hR : rho m S.2.2) (hf : frm W mE m) : (vs.map fun v => v.category).sum ≤ 8 ∧ ∃ v m', C z As m = some (v, m') ∧ gZ T W mE L0 S' L (v.toList ++ vs) m' := by
  unfold calA at h
  split at h
  · rename_i c hc
    have hm := List.mem_of_find?_eq_some hc
    have hp := List.find?_some hc
    simp only [Bool.and_eq_true, beq_iff_eq] at hp
    obtain ⟨⟨rfl, p2⟩, p3⟩ := hp
    split at h
    · rename_i hs
      obtain ⟨hs, h8⟩ := hs
      refine ⟨Nat.le_trans (gT_cat gs) h8, ?_⟩
      obtain ⟨v, m', r1, r2, r3, r4, r5, r6⟩ := hC c hm As m (gT_cle (leT_ok p2 g []) _ _ _) hI (leR_ok p3 hI hR)
      refine ⟨v, m', r1, ?_⟩
      cases h
      refine ⟨gL_clr hL m', ?_, r3, rho_app r4 (rho_drop hR (fun q hq => frm_cel r5 hq)), frm_tr hf r5 hs⟩
      have gs' := gT_clr gs L m'
      show gT L0 L m' ((match c.2.2.2.1 with | none => [] | some b => [addIm (cle (some b)) (impA as c.2.2.2.2.2.1 c.2.2.2.2.2.2)]) ++ st.map clr) (v.toList ++ vs)
      generalize c.2.2.2.1 = ra at r2 ⊢
      cases ra with
      | none => cases v with
        | none => exact gs'
        | some v => exact r2.elim
      | some b => cases v with
        | none => exact r2.elim
        | some w =>
          refine ⟨?_, gs'⟩
          match b, r2 with
          | .inl (ai, e, s, o, im), ⟨x, hx, k1, k2, k3, k4⟩ =>
            subst hx
            exact ⟨x, rfl, k1, Or.inl rfl, Or.inl rfl, fun hx0 => imp_ok g r5 r6 hx0⟩
          | .inr (.inl rs), r2 => exact r2
          | .inr (.inr (lo, hi, s)), ⟨x, hx, k1, k2, k3⟩ => exact ⟨x, hx, k1, k2, Or.inl rfl⟩
    · cases h
  · cases h
theorem bop_ok {F : AV → AV → Option AV} {f : Int32 → Int32 → Int32} {P : Int32 → Prop} (hF : ∀ {a b c : AV} {v w : Value}, F a b = some c → gv L0 L m a v → gv L0 L m b w → ∃ x y : Int32, v = .int x ∧ w = .int y ∧ P y ∧ gv L0 L m c (.int (f x y))) {S S' : AS} {st : List Value} (h : bop F S = some S') (g : gZ T W mE L0 S L st m) : ∃ x y st0, st = .int y :: .int x :: st0 ∧ P y ∧ gZ T W mE L0 S' L (.int (f x y) :: st0) m := by
  obtain ⟨g1, g2, g3, g4, g5⟩ := g
  unfold bop at h
  split at h
  · rename_i b a st1 hs
    rw [hs] at g2
    obtain ⟨w, vs, rfl, k1, k2⟩ := gT_cons g2
    obtain ⟨v, vs, rfl, k3, k4⟩ := gT_cons k2
    split at h
    · rename_i c hc
      obtain ⟨x, y, rfl, rfl, hp, k5⟩ := hF hc k3 k1
      cases h
      exact ⟨x, y, vs, rfl, hp, g1, ⟨k5, k4⟩, g3, g4, g5⟩
    · cases h
  · cases h
end Si
section Sj
variable {L0 L st : List Value} {m mE : Mm} {T : List (List (Int × Int))} {W : Wr} {sh : List ShE}
theorem cpy_ok {S S' : AS} (h : cpyA sh T W S = some S') (g : gZ T W mE L0 S L st m) : ∃ n dp o1 sp o0 st0 m', st = .int n :: .int dp :: .ref o1 :: .int sp :: .ref o0 :: st0 ∧ (st0.map fun v => v.category).sum ≤ 8 ∧ cpI sh o0 o1 sp dp n m = some m' ∧ gZ T W mE L0 S' L st0 m' := by
  obtain ⟨g1, g2, g3, g4, g5⟩ := g
  unfold cpyA at h
  split at h
  · rename_i ni s1 o1' i1 di s2 o2' i2 o1 si s3 o3' i3 o0 st1 hs
    rw [hs] at g2
    obtain ⟨v1, vs, rfl, k1, ga2⟩ := gT_cons g2
    obtain ⟨v2, vs, rfl, k2, gb2⟩ := gT_cons ga2
    obtain ⟨v3, vs, rfl, k3, gc2⟩ := gT_cons gb2
    obtain ⟨v4, vs, rfl, k4, gd2⟩ := gT_cons gc2
    obtain ⟨v5, vs, rfl, k5, ge2⟩ := gT_cons gd2
    obtain ⟨n, rfl, n1, -⟩ := k1
    obtain ⟨dp, rfl, d1, -⟩ := k2
    obtain ⟨r1, rfl, e1⟩ := k3
    obtain ⟨sp, rfl, s1, -⟩ := k4
    obtain ⟨r0, rfl, e0⟩ := k5
    rw [List.mem_singleton] at e1 e0
    subst e1 e0
    split at h
    · rename_i hc
      unfold cpyC at hc
      simp only [Bool.and_eq_true, decide_eq_true_eq] at hc
      obtain ⟨⟨⟨⟨⟨⟨⟨⟨⟨⟨c1, c2⟩, c3⟩, c4⟩, c5⟩, c6⟩, c7⟩, c8⟩, c9⟩, c10⟩, c11⟩ := hc
      have en := gN_1 n1 c1
      have ed := gN_1 d1 (by omega)
      have es := gN_1 s1 (by omega)
      have qn := ix_nat (x := n) (by omega)
      have qd := ix_nat (x := dp) (by omega)
      have qs := ix_nat (x := sp) (by omega)
      split at c8
      · rename_i n0 l0 n1' l1 hs0 hs1
        simp only [Bool.and_eq_true, decide_eq_true_eq] at c8
        have z0 : ∀ x : Int32, 0 ≤ x.toInt → 0 ≤ x := fun x hx => Int32.le_iff_toInt_le.mpr (by simpa using hx)
        refine ⟨n, dp, r1, sp, r0, vs, (va_up m.1 r1 (va_cpy (m.1 r0) (m.1 r1) sp.toNatClampNeg dp.toNatClampNeg n.toNatClampNeg), m.2), rfl, Nat.le_trans (gT_cat ge2) c11, ?_, ?_⟩
        · unfold cpI
          rw [hs0, hs1]
          simp only
          rw [if_pos ⟨z0 _ (by omega), z0 _ (by omega), z0 _ (by omega), by omega, by omega, c7⟩]
        · cases h
          have eat : ∀ o j, (va_up m.1 r1 (va_cpy (m.1 r0) (m.1 r1) sp.toNatClampNeg dp.toNatClampNeg n.toNatClampNeg)) o j = if o = r1 ∧ j < n.toNatClampNeg then m.1 r0 j else m.1 o j := by
            intro o j
            simp only [va_up]
            by_cases ho : o = r1
            · subst ho
              rw [if_pos rfl]
              simp only [va_cpy]
              have zd : dp.toNatClampNeg = 0 := by omega
              have zs : sp.toNatClampNeg = 0 := by omega
              rw [zd, zs]
              by_cases hj : j < n.toNatClampNeg
              · rw [if_pos ⟨by omega, by omega⟩, if_pos ⟨trivial, hj⟩, Nat.sub_zero, Nat.zero_add]
              · rw [if_neg (fun z => hj (by omega)), if_neg (fun z => hj z.2)]
            · rw [if_neg ho, if_neg (fun z => ho z.1)]
          refine ⟨gL_clr g1 _, gT_clr ge2 _ _, ?_, (show rho _ (dropC S.2.2 (fun c => c / 200 == r1)) from rho_drop g4 ?_), ?_⟩
          · intro o j
            show (ivO T o j).1 ≤ ((va_up m.1 r1 (va_cpy (m.1 r0) (m.1 r1) sp.toNatClampNeg dp.toNatClampNeg n.toNatClampNeg)) o j).toInt ∧ ((va_up m.1 r1 (va_cpy (m.1 r0) (m.1 r1) sp.toNatClampNeg dp.toNatClampNeg n.toNatClampNeg)) o j).toInt ≤ _
            rw [eat]
            split
            · rename_i hz
              obtain ⟨rfl, hz⟩ := hz
              have k := List.all_eq_true.mp c9 j (List.mem_range.mpr (by omega))
              simp only [Bool.and_eq_true, decide_eq_true_eq] at k
              have b := g3 r0 j
              omega
            · exact g3 o j
          · intro c hc
            unfold cel
            show ((va_up m.1 r1 (va_cpy (m.1 r0) (m.1 r1) sp.toNatClampNeg dp.toNatClampNeg n.toNatClampNeg)) (c / 200) (c % 200)).toInt = _
            rw [eat, if_neg]
            rintro ⟨hz, -⟩
            rw [hz] at hc
            simp at hc
          · intro o j h1 h2 h3
            refine ⟨?_, (g5 o j h1 h2 h3).2⟩
            show (va_up m.1 r1 (va_cpy (m.1 r0) (m.1 r1) sp.toNatClampNeg dp.toNatClampNeg n.toNatClampNeg)) o j = _
            rw [eat, if_neg]
            · exact (g5 o j h1 h2 h3).1
            · rintro ⟨rfl, -⟩
              exact h2 (List.contains_iff_mem.mp c10)
      · cases c8
    · cases h
  · cases h
end Sj
