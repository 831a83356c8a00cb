/-! THE MODEL'S TEXT, whole -/
theorem pm_w10z (m : Mm) (ps fr : Nat) (so va fa wr : Int32) : wI (pm m ps fr so va fa wr) 68 10 0 = pm m 0 fr so va fa wr := pm_w10 m ps fr so va fa wr 0
theorem dr_bd : (List.range 63).all (fun j => (decide ((ivO TV 72 j).1 ≤ 0) && decide (0 ≤ (ivO TV 72 j).2))) = true := by decide +kernel
theorem t_text {wS : List Value → Mm → Option Rs} (hw : WOK wS) (d : Nat) (m : Mm) (hI : InvT TV m) : ∃ (x : Int32) (m' : Mm), semZ shP wS (d + 30) 118 [.ref 68] m = some (some (.int x), m') ∧ InvT TV m' ∧ frm wTx m m' ∧ m'.1 68 9 = 0 ∧ (JK m → JK m') := by
  have b10 := hI 68 10
  rw [iv_6s.1] at b10
  have b10a : 0 ≤ (m.1 68 10).toInt := b10.1
  have b11 := hI 68 11
  rw [iv_6s.2.1] at b11
  have b11a : 0 ≤ (m.1 68 11).toInt := b11.1
  have b11b : (m.1 68 11).toInt ≤ 160 := b11.2
  have b12 := hI 68 12
  rw [iv_6s.2.2.1] at b12
  have e0 := pm_id m (i_nI b10a) (i_nI b11a)
  have hfr : (m.1 68 11).toInt.toNat ≤ 160 := by omega
  generalize (m.1 68 10).toInt.toNat = ps0 at e0
  generalize (m.1 68 11).toInt.toNat = fr0 at e0 hfr
  generalize hso : m.1 68 12 = so0 at e0 b12
  generalize m.1 68 13 = va0 at e0
  generalize m.1 68 14 = fa0 at e0
  generalize m.1 68 15 = wr0 at e0
  have k0 : ok6 0 fr0 so0 0 := ⟨by omega, hfr, b12, by decide⟩
  -- the first draft
  have fd := t_firstDraft wS (d + 28) MP68 (pm m 0 fr0 so0 va0 0 wr0)
  generalize hM2 : setR (setR (pm m 0 fr0 so0 va0 0 wr0) (68 + 4) (dr0 ((pm m 0 fr0 so0 va0 0 wr0).1 (68 + 4)))) 68 (upd (upd (upd ((pm m 0 fr0 so0 va0 0 wr0).1 68) 5 0) 6 0) 7 (-4)) = M2 at fd
  have E2 : pm M2 0 fr0 so0 va0 0 wr0 = M2 := by
    have := pm_id M2 (ps := 0) (fr := fr0) (by rw [← hM2]; rfl) (by rw [← hM2]; rfl)
    have q12 : M2.1 68 12 = so0 := by rw [← hM2]; rfl
    have q13 : M2.1 68 13 = va0 := by rw [← hM2]; rfl
    have q14 : M2.1 68 14 = 0 := by rw [← hM2]; rfl
    have q15 : M2.1 68 15 = wr0 := by rw [← hM2]; rfl
    rw [q12, q13, q14, q15] at this
    exact this
  have I1 := Inv_pm hI k0 va0 wr0
  have I2 : InvT TV M2 := by
    rw [← hM2]
    refine Inv_setR (Inv_setR I1 (fun j => ?_)) (fun j => ?_)
    · show (ivO TV 72 j).1 ≤ (dr0 ((pm m 0 fr0 so0 va0 0 wr0).1 72) j).toInt ∧ (dr0 ((pm m 0 fr0 so0 va0 0 wr0).1 72) j).toInt ≤ (ivO TV 72 j).2
      unfold dr0 upd
      split
      · rename_i e; rw [e, iv_72c.2.2.2]; decide
      · split
        · rename_i e; rw [e, iv_72c.2.2.1]; decide
        · split
          · rename_i e; rw [e, iv_72c.2.1]; decide
          · unfold fillR
            split
            · rename_i hj
              have k := List.all_eq_true.mp dr_bd j (List.mem_range.mpr hj)
              simp only [Bool.and_eq_true, decide_eq_true_eq] at k
              exact k
            · exact I1 72 j
    · unfold upd
      split
      · rename_i e; rw [e, iv_68a.2.2.1]; decide
      · split
        · rename_i e; rw [e, iv_68a.2.1]; decide
        · split
          · rename_i e; rw [e, iv_68a.1]; decide
          · exact I1 68 j
  have F2 : frm wL6 m M2 := by
    rw [← hM2]
    intro o j hj h1 h2
    have q := pm_frm (m := m) (ps := 0) (fr := fr0) (so := so0) (va := va0) (fa := 0) (wr := wr0) o j hj h1 h2
    refine ⟨?_, q.2⟩
    rw [setR_at]
    split
    · rename_i e
      subst e
      have n5 : j ≠ 5 := fun z => h2 (by rw [z]; decide)
      have n6 : j ≠ 6 := fun z => h2 (by rw [z]; decide)
      have n7 : j ≠ 7 := fun z => h2 (by rw [z]; decide)
      unfold upd
      rw [if_neg n7, if_neg n6, if_neg n5]
      exact q.1
    · rw [setR_at, if_neg (fun e => h1 (by rw [e]; decide))]
      exact q.1
  have G2 : G41 M2 := by
    rw [← hM2]
    exact ⟨by show (1 : Int) ≤ (5 : Int32).toInt; decide, by show (5 : Int32).toInt ≤ (9 : Int); decide⟩
  obtain ⟨p1, f1, s1, a1, u1, x1, y1, o1, le1, fe1, pr1⟩ := t_tk wS (d + 27) M2 (hT_of I2) k0 va0 wr0
  rw [E2] at y1
  obtain ⟨M3, p2, f2, s2, a2, u2, x2, many, z1, I3, F3, o2, g3⟩ := tx_loop d hw 161 M2 p1 f1 s1 a1 u1 x1 0 (by omega) I2 o1 (fun _ => G2)
  have F3' : frm wL6 m M3 := frm_tr F2 F3 (by decide)
  have es : semZ shP wS (d + 30) 118 [.ref 68] m = rn shP tb0 mN mO (semZ shP wS (d + 29)) (some .int) (codeZ 118) 44 [.ref 68, .int many] [] (pm M3 p2 f2 s2 a2 u2 x2) := by
    rw [← z1, se_X7_text, rn_eq, b_X7_text_0]
    have fd : semZ shP wS (d + 29) 103 [.ref 68] (pm m 0 fr0 so0 va0 0 wr0) = some (none, M2) := fd
    have y1 : semZ shP wS (d + 29) 113 [.ref 68] M2 = some (none, pm M2 p1 f1 s1 a1 u1 x1) := y1
    have P1 : pfI shP 714 68 (.int 0) m = some (pm m ps0 fr0 so0 va0 0 wr0) := by
      have := (P68 m ps0 fr0 so0 va0 fa0 wr0).2.2.2.2.1 0
      rw [pm_w14, e0] at this
      exact this
    simp only [EV, LV, CB, OI, OL, NP, CZ, popN, CT, OZ, List.map_nil, List.map_cons, List.sum_nil, List.sum_cons, Option.toList, List.nil_append, List.cons_append, Int.reduceToNat, Nat.reduceAdd, Nat.reduceLT, Nat.reduceLeDiff, List.length_cons, List.length_nil, Nat.zero_add, if_true, if_false, reduceIte, and_self, and_true, true_and, eq_self, reduceCtorEq, C68, P1, P68, pm_w10z, fd, y1]
  rw [es]
  -- the end
  have e10 : ¬ (1 : Int32) = 0 := by decide
  have at73 : ∀ (u x : Int32), rn shP tb0 mN mO (semZ shP wS (d + 29)) (some .int) (codeZ 118) 73 [.ref 68, .int many] (if 73 = 44 then [] else []) (pm M3 p2 f2 s2 a2 u x) = if u ≤ 0 then rn shP tb0 mN mO (semZ shP wS (d + 29)) (some .int) (codeZ 118) 93 [.ref 68, .int many] [] (pm (wI M3 68 9 0) p2 f2 s2 a2 u x) else some (some (.int (-10 - x)), pm (wI M3 68 9 0) p2 f2 s2 a2 u x) := by
    intro u x
    have P9 : pfI shP 709 68 (.int 0) (pm M3 p2 f2 s2 a2 u x) = some (pm (wI M3 68 9 0) p2 f2 s2 a2 u x) := by
      rw [← pm_wo M3 p2 f2 s2 a2 u x 9 0 (by omega)]
      rfl
    show rn shP tb0 mN mO (semZ shP wS (d + 29)) (some .int) (codeZ 118) 73 [.ref 68, .int many] [] (pm M3 p2 f2 s2 a2 u x) = _
    rw [rn_eq, b_X7_text_73]
    simp only [EV, LV, CB, OI, OL, NP, CZ, popN, CT, OZ, List.map_nil, List.map_cons, List.sum_nil, List.sum_cons, Option.toList, List.nil_append, List.cons_append, Int.reduceToNat, Nat.reduceAdd, Nat.reduceLT, Nat.reduceLeDiff, List.length_cons, List.length_nil, Nat.zero_add, if_true, if_false, reduceIte, and_self, and_true, true_and, eq_self, reduceCtorEq, P9, G68]
  by_cases hu : u2 = 0
  · subst hu
    by_cases hh : M3.1 68 5 ≤ M3.1 68 7
    · have st : rn shP tb0 mN mO (semZ shP wS (d + 29)) (some .int) (codeZ 118) 44 [.ref 68, .int many] [] (pm M3 p2 f2 s2 a2 0 x2) = rn shP tb0 mN mO (semZ shP wS (d + 29)) (some .int) (codeZ 118) 73 [.ref 68, .int many] (if 73 = 44 then [] else []) (pm M3 p2 f2 s2 a2 6 (nI f2)) := by
        have P9 : pfI shP 709 68 (.int 0) (pm M3 p2 f2 s2 a2 6 (nI f2)) = some (pm (wI M3 68 9 0) p2 f2 s2 a2 6 (nI f2)) := by
          rw [← pm_wo M3 p2 f2 s2 a2 6 (nI f2) 9 0 (by omega)]
          rfl
        rw [at73, rn_eq, b_X7_text_44]
        simp only [EV, LV, CB, OI, OL, NP, CZ, popN, CT, OZ, List.map_nil, List.map_cons, List.sum_nil, List.sum_cons, Option.toList, List.nil_append, List.cons_append, Int.reduceToNat, Nat.reduceAdd, Nat.reduceLT, Nat.reduceLeDiff, List.length_cons, List.length_nil, Nat.zero_add, if_true, if_false, reduceIte, and_self, and_true, true_and, eq_self, reduceCtorEq, G68, hh, not_true_eq_false]
        rw [rn_eq, b_X7_text_67]
        simp only [EV, LV, CB, OI, OL, NP, CZ, popN, CT, OZ, List.map_nil, List.map_cons, List.sum_nil, List.sum_cons, Option.toList, List.nil_append, List.cons_append, Int.reduceToNat, Nat.reduceAdd, Nat.reduceLT, Nat.reduceLeDiff, List.length_cons, List.length_nil, Nat.zero_add, if_true, if_false, reduceIte, and_self, and_true, true_and, eq_self, reduceCtorEq, C68, t_needs wS (d + 28), P9, G68]
      rw [st]
      exact tx_end d m M3 I3 F3' (fa := 6) ⟨o2.1, o2.2.1, o2.2.2.1, by decide⟩ a2 (nI f2) many (fun z => absurd z (by decide)) 73 (at73 6 (nI f2))
    · have st : rn shP tb0 mN mO (semZ shP wS (d + 29)) (some .int) (codeZ 118) 44 [.ref 68, .int many] [] (pm M3 p2 f2 s2 a2 0 x2) = rn shP tb0 mN mO (semZ shP wS (d + 29)) (some .int) (codeZ 118) 73 [.ref 68, .int many] (if 73 = 44 then [] else []) (pm M3 p2 f2 s2 a2 0 x2) := by
        have P9 : pfI shP 709 68 (.int 0) (pm M3 p2 f2 s2 a2 0 x2) = some (pm (wI M3 68 9 0) p2 f2 s2 a2 0 x2) := by
          rw [← pm_wo M3 p2 f2 s2 a2 0 x2 9 0 (by omega)]
          rfl
        rw [at73, rn_eq, b_X7_text_44]
        simp only [EV, LV, CB, OI, OL, NP, CZ, popN, CT, OZ, List.map_nil, List.map_cons, List.sum_nil, List.sum_cons, Option.toList, List.nil_append, List.cons_append, Int.reduceToNat, Nat.reduceAdd, Nat.reduceLT, Nat.reduceLeDiff, List.length_cons, List.length_nil, Nat.zero_add, if_true, if_false, reduceIte, and_self, and_true, true_and, eq_self, reduceCtorEq, G68, hh, not_true_eq_false]
        rw [rn_eq, b_X7_text_68]
        simp only [EV, LV, CB, OI, OL, NP, CZ, popN, CT, OZ, List.map_nil, List.map_cons, List.sum_nil, List.sum_cons, Option.toList, List.nil_append, List.cons_append, Int.reduceToNat, Nat.reduceAdd, Nat.reduceLT, Nat.reduceLeDiff, List.length_cons, List.length_nil, Nat.zero_add, if_true, if_false, reduceIte, and_self, and_true, true_and, eq_self, reduceCtorEq, C68, t_needs wS (d + 28), e10, false_and, P9, G68]
      rw [st]
      exact tx_end d m M3 I3 F3' o2 a2 x2 many g3 73 (at73 0 x2)
  · have st : rn shP tb0 mN mO (semZ shP wS (d + 29)) (some .int) (codeZ 118) 44 [.ref 68, .int many] [] (pm M3 p2 f2 s2 a2 u2 x2) = rn shP tb0 mN mO (semZ shP wS (d + 29)) (some .int) (codeZ 118) 73 [.ref 68, .int many] (if 73 = 44 then [] else []) (pm M3 p2 f2 s2 a2 u2 x2) := by
      rw [rn_eq, b_X7_text_44]
      simp only [EV, LV, CB, OI, OL, NP, CZ, popN, CT, OZ, List.map_nil, List.map_cons, List.sum_nil, List.sum_cons, Option.toList, List.nil_append, List.cons_append, Int.reduceToNat, Nat.reduceAdd, Nat.reduceLT, Nat.reduceLeDiff, List.length_cons, List.length_nil, Nat.zero_add, if_true, if_false, reduceIte, and_self, and_true, true_and, eq_self, reduceCtorEq, G68, hu, not_false_eq_true]
      rfl
    rw [st]
    exact tx_end d m M3 I3 F3' o2 a2 x2 many g3 73 (at73 u2 x2)
