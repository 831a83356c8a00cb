/-! THE CHECKER IS SOUND: memory -/
section Sm
variable {T : List (List (Int × Int))} {m mE : Mm} {W : Wr}
theorem wI_at (m : Mm) (o j : Nat) (x : Int32) (o' j' : Nat) : (wI m o j x).1 o' j' = if o' = o ∧ j' = j then x else m.1 o' j' := by
  unfold wI
  simp only [va_up]
  by_cases h : o' = o
  · subst h
    rw [if_pos rfl]
    simp only [upd]
    by_cases h2 : j' = j
    · rw [if_pos h2, if_pos ⟨trivial, h2⟩]
    · rw [if_neg h2, if_neg (fun z => h2 z.2)]
  · rw [if_neg h, if_neg (fun z => h z.1)]
theorem wL_1 (m : Mm) (o j : Nat) (x : Int64) : (wL m o j x).1 = m.1 := rfl
theorem wL_at (m : Mm) (o j : Nat) (x : Int64) (o' j' : Nat) : (wL m o j x).2 o' j' = if o' = o ∧ j' = j then x else m.2 o' j' := by
  unfold wL
  simp only [va_up]
  by_cases h : o' = o
  · subst h
    rw [if_pos rfl]
    simp only [vp_updL]
    by_cases h2 : j' = j
    · rw [if_pos h2, if_pos ⟨trivial, h2⟩]
    · rw [if_neg h2, if_neg (fun z => h2 z.2)]
  · rw [if_neg h, if_neg (fun z => h z.1)]
theorem Inv_wI {o j : Nat} {x : Int32} (h : InvT T m) (h1 : (ivO T o j).1 ≤ x.toInt) (h2 : x.toInt ≤ (ivO T o j).2) : InvT T (wI m o j x) := by
  intro o' j'
  rw [wI_at]
  split
  · rename_i e
    rw [e.1, e.2]
    exact ⟨h1, h2⟩
  · exact h o' j'
theorem Inv_wL {o j : Nat} {x : Int64} (h : InvT T m) : InvT T (wL m o j x) := h
theorem cd_div {o j : Nat} (h : j < 200) : cd o j / 200 = o ∧ cd o j % 200 = j := by
  unfold cd
  omega
theorem cd_un (c : Nat) : cd (c / 200) (c % 200) = c := by
  unfold cd
  omega
theorem cel_cd (m : Mm) {o j : Nat} (h : j < 200) : cel m (cd o j) = (m.1 o j).toInt := by
  unfold cel
  rw [(cd_div h).1, (cd_div h).2]
theorem cel_wI {o j : Nat} {x : Int32} {c : Nat} (h : ¬ (c / 200 = o ∧ c % 200 = j)) : cel (wI m o j x) c = cel m c := by
  unfold cel
  rw [wI_at, if_neg h]
theorem lk_mem {c : Nat} {b : Int × Int} : ∀ {R : IM}, R.lookup c = some b → (c, b) ∈ R
  | [], h => by cases h
  | (k, a) :: R, h => by
    rw [List.lookup_cons] at h
    split at h
    · rename_i e
      have : c = k := by simpa using e
      cases h
      rw [this]
      exact List.mem_cons_self
    · exact List.mem_cons_of_mem _ (lk_mem h)
theorem celI_ok {R : IM} (hI : InvT T m) (hR : rho m R) (c : Nat) : (celI T R c).1 ≤ cel m c ∧ cel m c ≤ (celI T R c).2 := by
  unfold celI
  split
  · rename_i b hb
    exact hR _ (lk_mem hb)
  · exact hI _ _
theorem rho_drop {R : IM} {P : Nat → Bool} {m' : Mm} (hR : rho m R) (h : ∀ c, P c = false → cel m' c = cel m c) : rho m' (dropC R P) := by
  intro q hq
  unfold dropC at hq
  rw [List.mem_filter] at hq
  obtain ⟨h1, h2⟩ := hq
  rw [h q.1 (by simpa using h2)]
  exact hR q h1
theorem rho_app {R Q : IM} (h1 : rho m R) (h2 : rho m Q) : rho m (R ++ Q) := by
  intro q hq
  rcases List.mem_append.mp hq with h | h
  · exact h1 q h
  · exact h2 q h
theorem rho_nil : rho m [] := fun q hq => by cases hq
theorem rho_one {c : Nat} {lo hi : Int} (h1 : lo ≤ cel m c) (h2 : cel m c ≤ hi) : rho m [(c, lo, hi)] := fun q hq => by
  rw [List.mem_singleton] at hq
  subst hq
  exact ⟨h1, h2⟩
theorem frm_wI {o j : Nat} {x : Int32} (hj : j < 200) (h : frm W mE m) (hw : inW W o j = true) : frm W mE (wI m o j x) := by
  intro o' j' h1 h2 h3
  refine ⟨?_, (h o' j' h1 h2 h3).2⟩
  rw [wI_at, if_neg]
  · exact (h o' j' h1 h2 h3).1
  · rintro ⟨rfl, rfl⟩
    unfold inW at hw
    simp only [Bool.or_eq_true, List.contains_iff_mem] at hw
    rcases hw with hw | hw
    · exact h2 hw
    · exact h3 hw
theorem frm_wL {o j : Nat} {x : Int64} (hj : j < 200) (h : frm W mE m) (hw : inW W o j = true) : frm W mE (wL m o j x) := by
  intro o' j' h1 h2 h3
  refine ⟨(h o' j' h1 h2 h3).1, ?_⟩
  rw [wL_at, if_neg]
  · exact (h o' j' h1 h2 h3).2
  · rintro ⟨rfl, rfl⟩
    unfold inW at hw
    simp only [Bool.or_eq_true, List.contains_iff_mem] at hw
    rcases hw with hw | hw
    · exact h2 hw
    · exact h3 hw
theorem frm_tr {V : Wr} {m' : Mm} (h : frm W mE m) (hv : frm V m m') (hs : subW W V = true) : frm W mE m' := by
  intro o j h1 h2 h3
  unfold subW at hs
  simp only [Bool.and_eq_true, List.all_eq_true, Bool.or_eq_true, List.contains_iff_mem] at hs
  have k := hv o j h1 (fun z => h2 (hs.1 o z)) (fun z => by
    rcases hs.2 _ z with q | q
    · have e : (o * 200 + j) / 200 = o := by omega
      rw [e] at q
      exact h2 q
    · exact h3 q)
  exact ⟨k.1.trans (h o j h1 h2 h3).1, k.2.trans (h o j h1 h2 h3).2⟩
theorem frm_cel {V : Wr} {m' : Mm} (hv : frm V m m') {c : Nat} (h : inV V c = false) : cel m' c = cel m c := by
  unfold inV at h
  simp only [Bool.or_eq_false_iff] at h
  unfold cel
  rw [(hv (c / 200) (c % 200) (by omega) (fun z => by rw [← List.contains_iff_mem] at z; rw [z] at h; exact absurd h.1 (by decide)) (fun z => by
    have e : c / 200 * 200 + c % 200 = c := by omega
    rw [e, ← List.contains_iff_mem] at z
    rw [z] at h
    exact absurd h.2 (by decide))).1]
theorem cov_ok {b : Int × Int} {l : List (Int × Int)} (h : covB b l = true) {x : Int × Int} (hx : x ∈ l) : b.1 ≤ x.1 ∧ x.2 ≤ b.2 := by
  unfold covB at h
  have := List.all_eq_true.mp h x hx
  simpa using this
theorem iv_1 {o : Nat} (h : (T.getD o []).length = 1) (j : Nat) : ivO T o j = ivO T o 0 := by
  unfold ivO
  rw [h, Nat.mod_one, Nat.mod_one]
theorem ix_nat {x : Int32} (h : 0 ≤ x.toInt) : (x.toNatClampNeg : Int) = x.toInt := by
  have e : x.toInt.toNat = x.toNatClampNeg := Int32.toNat_toInt x
  omega
theorem inR_i {x : Int32} {n : Nat} (h1 : 0 ≤ x.toInt) (h2 : x.toInt < n) : inR x n = true := by
  unfold inR
  have e := ix_nat h1
  simp only [Bool.and_eq_true, decide_eq_true_eq]
  exact ⟨Int32.le_iff_toInt_le.mpr (by simpa using h1), by omega⟩
theorem pl_mem {a : AI} {x : Int32} (h0 : 0 ≤ a.1) (h1 : a.1 ≤ x.toInt) (h2 : x.toInt ≤ a.2.1) (h3 : (a.2.2 : Int) ∣ x.toInt - a.1) : x.toNatClampNeg ∈ plA a := by
  have e := ix_nat (x := x) (by omega)
  unfold plA
  obtain ⟨t, ht⟩ := h3
  split
  · rename_i hz
    rw [hz] at ht
    rw [List.mem_singleton]
    simp only [Int.natCast_zero, Int.zero_mul] at ht
    omega
  · rename_i hz
    have hs : (0 : Int) < (a.2.2 : Int) := by omega
    have ht0 : 0 ≤ t := by
      apply Int.not_lt.mp
      intro z
      have := Int.mul_neg_of_pos_of_neg hs z
      omega
    have et : ((a.2.2 * t.toNat : Nat) : Int) = x.toInt - a.1 := by
      rw [Int.natCast_mul, Int.toNat_of_nonneg ht0]
      exact ht.symm
    rw [List.mem_map]
    refine ⟨t.toNat, ?_, by omega⟩
    rw [List.mem_range]
    have : t.toNat ≤ (a.2.1 - a.1).toNat / a.2.2 := (Nat.le_div_iff_mul_le (by omega)).mpr (by rw [Nat.mul_comm]; omega)
    omega
variable {sh : List ShE}
theorem fk_get {k o t : Nat} (h : fk sh k o = some t) (m : Mm) : gfI sh k o m = some (fval m o (k % 100) t) := by
  unfold fk at h
  unfold gfI
  cases hs : sh[o]? with
  | none => rw [hs] at h; cases h
  | some e =>
    rw [hs] at h
    cases e with
    | inl p =>
      obtain ⟨ci, fs⟩ := p
      simp only at h ⊢
      split at h
      · rename_i hc
        rw [if_pos hc, h]
      · cases h
    | inr p => cases h
theorem get_ok {L0 L : List Value} {k : Nat} {rs : List Nat} {R : IM} {a : AV} (hI : InvT T m) (hR : rho m R) (h : getA sh T k rs R = some a) {r : Nat} (hr : r ∈ rs) : ∃ v, gfI sh k r m = some v ∧ gv L0 L m a v := by
  unfold getA at h
  have hj : k % 100 < 200 := by omega
  split at h
  · rename_i h1
    have h1 := List.all_eq_true.mp h1 r hr
    split at h
    · rename_i h2
      have c := cov_ok h2 (List.mem_map.mpr ⟨r, hr, rfl⟩)
      have b := celI_ok hI hR (cd r (k % 100))
      rw [cel_cd m hj] at b
      have ev : gfI sh k r m = some (.int (m.1 r (k % 100))) := by
        simp only [Bool.or_eq_true, beq_iff_eq] at h1
        rcases h1 with h1 | h1
        · exact fk_get h1 m
        · exact fk_get h1 m
      refine ⟨_, ev, ?_⟩
      cases h
      refine ⟨_, rfl, gN_i (by omega) (by omega), ?_, Or.inl rfl, fun _ q hq => by cases hq⟩
      split
      · rename_i o
        rw [List.mem_singleton] at hr
        subst hr
        exact Or.inr (Or.inr ⟨by omega, by rw [Nat.add_sub_cancel_left]; exact cel_cd m hj⟩)
      · exact Or.inl rfl
    · cases h
  · split at h
    · rename_i h1
      have h1 := List.all_eq_true.mp h1 r hr
      simp only [beq_iff_eq] at h1
      cases h
      exact ⟨_, fk_get h1 m, gv_tJ _⟩
    · split at h
      · rename_i h1
        have h1 := List.all_eq_true.mp h1 r hr
        cases h
        split at h1
        · rename_i t ht
          refine ⟨_, fk_get ht m, ?_⟩
          exact ⟨t, rfl, List.mem_map.mpr ⟨r, hr, by rw [ht]; rfl⟩⟩
        · cases h1
      · cases h
theorem pf_of {k o t : Nat} (h : fk sh k o = some t) (v : Value) (m : Mm) : pfI sh k o v m = (match t, v with
    | 0, .int x => some (wI m o (k % 100) x)
    | 1, .long x => some (wL m o (k % 100) x)
    | 2, .int x => if x = 0 ∨ x = 1 then some (wI m o (k % 100) x) else none
    | _, _ => none) := by
  unfold fk at h
  unfold pfI
  cases hs : sh[o]? with
  | none => rw [hs] at h; cases h
  | some e =>
    rw [hs] at h
    cases e with
    | inl p =>
      obtain ⟨ci, fs⟩ := p
      simp only at h ⊢
      split at h
      · rename_i hc
        rw [if_pos hc, h]
        rcases t with _ | _ | _ | t <;> cases v <;> rfl
      · cases h
    | inr p => cases h
theorem i01 {x : Int32} (h1 : 0 ≤ x.toInt) (h2 : x.toInt ≤ 1) : x = 0 ∨ x = 1 := by
  by_cases h : x.toInt = 0
  · exact Or.inl (Int32.toInt_inj.mp (by rw [h]; decide))
  · exact Or.inr (Int32.toInt_inj.mp (by have e : x.toInt = 1 := by omega
                                         rw [e]; decide))
theorem put_ok {L0 L : List Value} {k : Nat} {rs : List Nat} {R R' : IM} {a : AV} {v : Value} (hI : InvT T m) (hR : rho m R) (hf : frm W mE m) (h : putA sh T W k rs a R = some R') (ga : gv L0 L m a v) {r : Nat} (hr : r ∈ rs) : ∃ m', pfI sh k r v m = some m' ∧ InvT T m' ∧ rho m' R' ∧ frm W mE m' := by
  have hj : k % 100 < 200 := by omega
  match a, ga, h with
  | none, _, h => cases h
  | some (.inr (.inl _)), _, h => cases h
  | some (.inl (ai, e, s, o, im)), ⟨x, hx, a1, _⟩, h =>
    subst hx
    have A := gN_hul a1
    simp only [putA] at h
    split at h
    · rename_i h1
      have h1 := List.all_eq_true.mp h1 r hr
      simp only [Bool.and_eq_true, Bool.or_eq_true, beq_iff_eq, decide_eq_true_eq] at h1
      obtain ⟨⟨⟨h1, h2⟩, h3⟩, h4⟩ := h1
      have ev : pfI sh k r (.int x) m = some (wI m r (k % 100) x) := by
        rcases h1 with h1 | ⟨⟨h1, q1⟩, q2⟩
        · exact (pf_of h1 _ m).trans rfl
        · exact (pf_of h1 _ m).trans (if_pos (i01 (x := x) (by omega) (by omega)))
      refine ⟨_, ev, Inv_wI hI (by omega) (by omega), ?_, frm_wI hj hf h4⟩
      cases h
      apply rho_app
      · split
        · rename_i o
          rw [List.mem_singleton] at hr
          subst hr
          have e1 : cel (wI m r (k % 100) x) (cd r (k % 100)) = x.toInt := by
            rw [cel_cd _ hj, wI_at, if_pos ⟨rfl, rfl⟩]
          exact rho_one (by rw [e1]; omega) (by rw [e1]; omega)
        · exact rho_nil
      · apply rho_drop hR
        intro c hc
        apply cel_wI
        rintro ⟨e1, e2⟩
        have : c = cd r (k % 100) := by rw [← e1, ← e2]; exact (cd_un c).symm
        rw [List.any_eq_false] at hc
        exact hc r hr (by simpa using this)
    · cases h
  | some (.inr (.inr (lo, hi, s))), ⟨x, hx, _⟩, h =>
    subst hx
    simp only [putA] at h
    split at h
    · rename_i h1
      have h1 := List.all_eq_true.mp h1 r hr
      simp only [Bool.and_eq_true, beq_iff_eq] at h1
      refine ⟨_, pf_of h1.1 _ m, hI, ?_, frm_wL hj hf h1.2⟩
      cases h
      exact hR
    · cases h
theorem ald_ok {L0 L : List Value} {kd : Nat} {rs : List Nat} {R : IM} {a : AI} {c : AV} {x : Int32} (hI : InvT T m) (hR : rho m R) (h : aldA sh T kd rs a R = some c) (h1 : a.1 ≤ x.toInt) (h2 : x.toInt ≤ a.2.1) (h3 : (a.2.2 : Int) ∣ x.toInt - a.1) {r : Nat} (hr : r ∈ rs) : ∃ y, alI sh tb0 kd r x m = some y ∧ gv L0 L m c (.int y) := by
  unfold aldA at h
  split at h
  · rename_i ha
    have ha := List.all_eq_true.mp ha r hr
    simp only [Bool.and_eq_true] at ha
    obtain ⟨q1, q2⟩ := ha
    have key : ∃ y, alI sh tb0 kd r x m = some y ∧ (∃ b ∈ (arA sh T kd r a R).getD [], b.1 ≤ y.toInt ∧ y.toInt ≤ b.2) ∧ (r < 1000 → a.1 = a.2.1 → 0 ≤ a.1 ∧ a.1 < 200 ∧ y = m.1 r a.1.toNat ∨ tb0 r ≠ none) := by
      unfold arA at q1 ⊢
      unfold alI
      cases hs : sh[r]? with
      | none =>
        rw [hs] at q1
        simp only at q1 ⊢
        cases hq : tb0 r with
        | none => rw [hq] at q1; cases q1
        | some Q =>
          rw [hq] at q1
          simp only at q1 ⊢
          split at q1
          · rename_i hc
            obtain ⟨rfl, c1, c2⟩ := hc
            have hin : inR x Q.length = true := inR_i (by omega) (by omega)
            rw [if_pos ⟨rfl, hin⟩]
            refine ⟨_, rfl, ?_, fun _ _ => Or.inr (by simp)⟩
            have e := ix_nat (x := x) (by omega)
            have hl : x.toNatClampNeg < Q.length := by omega
            refine ⟨((Q.getD x.toNatClampNeg 0).toInt, (Q.getD x.toNatClampNeg 0).toInt), ?_, Int.le_refl _, Int.le_refl _⟩
            rw [if_pos ⟨rfl, c1, c2⟩]
            simp only [Option.getD_some]
            refine List.mem_map.mpr ⟨Q.getD x.toNatClampNeg 0, ?_, rfl⟩
            rw [List.getD_eq_getElem?_getD, List.getElem?_eq_getElem hl]
            exact List.getElem_mem hl
          · cases q1
      | some p =>
        rw [hs] at q1
        cases p with
        | inl p => cases q1
        | inr p =>
          obtain ⟨k, n, qs⟩ := p
          simp only at q1 ⊢
          split at q1
          · rename_i hc
            obtain ⟨rfl, c1, c2, c3⟩ := hc
            have hin : inR x n = true := inR_i (by omega) (by omega)
            have e := ix_nat (x := x) (by omega)
            rw [if_pos ⟨rfl, hin⟩]
            refine ⟨_, rfl, ?_, fun _ z => Or.inl ⟨c1, by omega, by
              have : x.toNatClampNeg = a.1.toNat := by omega
              rw [this]⟩⟩
            rw [if_pos ⟨rfl, c1, c2, c3⟩]
            simp only [Option.getD_some]
            split
            · rename_i hz
              refine ⟨_, List.mem_singleton.mpr rfl, ?_⟩
              have := hI r x.toNatClampNeg
              rw [iv_1 hz.1] at this
              exact this
            · refine ⟨_, List.mem_map.mpr ⟨_, pl_mem c1 h1 h2 h3, rfl⟩, ?_⟩
              have b := celI_ok hI hR (cd r x.toNatClampNeg)
              rw [cel_cd m (by omega)] at b
              exact b
          · cases q1
    obtain ⟨y, e1, ⟨b, hb, b1, b2⟩, e2⟩ := key
    refine ⟨y, e1, ?_⟩
    have cv := cov_ok q2 hb
    cases h
    refine ⟨_, rfl, gN_i (by omega) (by omega), ?_, Or.inl rfl, fun _ q hq => by cases hq⟩
    split
    · rename_i o
      rw [List.mem_singleton] at hr
      subst hr
      split
      · rename_i hz
        rcases e2 hz.2 hz.1 with ⟨z1, z2, z3⟩ | z
        · refine Or.inr (Or.inr ⟨by omega, ?_⟩)
          rw [Nat.add_sub_cancel_left, cel_cd m (by omega), z3]
        · exfalso
          apply z
          unfold tb0
          rw [if_neg (by omega), if_neg (by omega)]
      · exact Or.inl rfl
    · exact Or.inl rfl
  · cases h
theorem ast_ok {kd : Nat} {rs : List Nat} {R R' : IM} {a w : AI} {x y : Int32} (hI : InvT T m) (hR : rho m R) (hf : frm W mE m) (h : astA sh T W kd rs a w R = some R') (h1 : a.1 ≤ x.toInt) (h2 : x.toInt ≤ a.2.1) (h3 : (a.2.2 : Int) ∣ x.toInt - a.1) (w1 : w.1 ≤ y.toInt) (w2 : y.toInt ≤ w.2.1) {r : Nat} (hr : r ∈ rs) : ∃ m', asI sh kd r x y m = some m' ∧ InvT T m' ∧ rho m' R' ∧ frm W mE m' := by
  unfold astA at h
  split at h
  · rename_i ha
    have ha := List.all_eq_true.mp ha r hr
    simp only [Bool.and_eq_true] at ha
    obtain ⟨⟨⟨q1, q2⟩, q3⟩, q4⟩ := ha
    unfold asI
    cases hs : sh[r]? with
    | none => rw [hs] at q1; cases q1
    | some p =>
      rw [hs] at q1
      cases p with
      | inl p => cases q1
      | inr p =>
        obtain ⟨k, n, qs⟩ := p
        simp only [decide_eq_true_eq] at q1 ⊢
        obtain ⟨rfl, c1, c2, c3⟩ := q1
        have hin : inR x n = true := inR_i (by omega) (by omega)
        have e := ix_nat (x := x) (by omega)
        have hx : x.toNatClampNeg < 200 := by omega
        have hv : k = 0 ∨ y = 0 ∨ y = 1 := by
          simp only [Bool.or_eq_true, Bool.and_eq_true, beq_iff_eq, decide_eq_true_eq] at q3
          rcases q3 with q3 | q3
          · exact Or.inl q3
          · exact Or.inr (i01 (by omega) (by omega))
        rw [if_pos ⟨rfl, hin, hv⟩]
        have hb : (ivO T r x.toNatClampNeg).1 ≤ y.toInt ∧ y.toInt ≤ (ivO T r x.toNatClampNeg).2 := by
          split at q2
          · rename_i hz
            rw [iv_1 hz]
            simp only [Bool.and_eq_true, decide_eq_true_eq] at q2
            omega
          · have := List.all_eq_true.mp q2 _ (pl_mem c1 h1 h2 h3)
            simp only [Bool.and_eq_true, decide_eq_true_eq] at this
            omega
        have hin2 : inW W r x.toNatClampNeg = true := by
          unfold inW
          rw [Bool.or_eq_true] at q4 ⊢
          rcases q4 with q4 | q4
          · exact Or.inl q4
          · exact Or.inr (List.all_eq_true.mp q4 _ (pl_mem c1 h1 h2 h3))
        refine ⟨_, rfl, Inv_wI hI hb.1 hb.2, ?_, frm_wI hx hf hin2⟩
        cases h
        apply rho_app
        · split
          · rename_i o
            rw [List.mem_singleton] at hr
            subst hr
            split
            · rename_i hz
              have e2 : a.1.toNat = x.toNatClampNeg := by omega
              have e1 : cel (wI m r x.toNatClampNeg y) (cd r a.1.toNat) = y.toInt := by
                rw [e2, cel_cd _ hx, wI_at, if_pos ⟨rfl, rfl⟩]
              exact rho_one (by rw [e1]; omega) (by rw [e1]; omega)
            · exact rho_nil
          · exact rho_nil
        · apply rho_drop hR
          intro c hc
          apply cel_wI
          rintro ⟨e1, e2⟩
          rw [List.any_eq_false] at hc
          refine hc r hr ?_
          simp only [Bool.and_eq_true, beq_iff_eq, List.contains_iff_mem]
          exact ⟨e1, by rw [e2]; exact pl_mem c1 h1 h2 h3⟩
  · cases h
theorem alr_ok {L0 L : List Value} {rs : List Nat} {a : AI} {c : AV} {x : Int32} (h : alrA sh rs a = some c) (h1 : a.1 ≤ x.toInt) (h2 : x.toInt ≤ a.2.1) {r : Nat} (hr : r ∈ rs) : ∃ y, arI sh r x = some y ∧ gv L0 L m c (.ref y) := by
  unfold alrA at h
  split at h
  · rename_i o
    rw [List.mem_singleton] at hr
    subst hr
    unfold arI
    split at h
    · rename_i k n qs hs
      rw [hs]
      simp only
      split at h
      · rename_i hc
        obtain ⟨c0, c1, c2, c3⟩ := hc
        have hin : inR x n = true := inR_i (by omega) (by omega)
        have e := ix_nat (x := x) (by omega)
        rw [if_pos ⟨c0, hin⟩]
        have hl : x.toNatClampNeg < qs.length := by omega
        refine ⟨_, List.getElem?_eq_getElem hl, ?_⟩
        cases h
        refine ⟨_, rfl, ?_⟩
        split
        · rename_i hz
          have e2 : a.1.toNat = x.toNatClampNeg := by omega
          rw [List.mem_singleton, e2, List.getD_eq_getElem?_getD, List.getElem?_eq_getElem hl]
          rfl
        · exact List.getElem_mem hl
      · cases h
    · cases h
  · cases h
end Sm
