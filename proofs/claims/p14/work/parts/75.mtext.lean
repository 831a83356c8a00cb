/-! THE MODEL'S TEXT -/
def wL6 : Wr := ([72], [13605, 13606, 13607, 13610, 13611, 13612, 13613, 13614, 13615])
def wTx : Wr := ([69, 71, 72], [13603, 13605, 13606, 13607, 13609, 13610, 13611, 13612, 13613, 13614, 13615])
/-- an image that is kept can be given back -/
def JK (m : Mm) : Prop := (¬ m.1 71 0 = 0 → 1 ≤ (m.1 69 104).toInt ∧ (m.1 69 104).toInt ≤ 9) ∧ (¬ m.1 71 1 = 0 → 1 ≤ (m.1 69 167).toInt ∧ (m.1 69 167).toInt ≤ 9)
theorem JK_of {m m' : Mm} (h1 : m'.1 71 0 = m.1 71 0) (h2 : m'.1 71 1 = m.1 71 1) (h3 : m'.1 69 104 = m.1 69 104) (h4 : m'.1 69 167 = m.1 69 167) (h : JK m) : JK m' := by
  unfold JK
  rw [h1, h2, h3, h4]
  exact h
theorem JK_frm {W : Wr} {m m' : Mm} (h : frm W m m') (h1 : inW W 71 0 = false) (h2 : inW W 71 1 = false) (h3 : inW W 69 104 = false) (h4 : inW W 69 167 = false) (g : JK m) : JK m' := by
  have key : ∀ o j, j < 200 → inW W o j = false → m'.1 o j = m.1 o j := by
    intro o j hj hw
    unfold inW at hw
    simp only [Bool.or_eq_false_iff] at hw
    refine (h o j hj (fun z => ?_) (fun z => ?_)).1
    · rw [← List.contains_iff_mem] at z
      rw [z] at hw
      exact absurd hw.1 (by decide)
    · have z2 : W.2.contains (cd o j) = true := List.contains_iff_mem.mpr z
      rw [z2] at hw
      exact absurd hw.2 (by decide)
  exact JK_of (key 71 0 (by omega) h1) (key 71 1 (by omega) h2) (key 69 104 (by omega) h3) (key 69 167 (by omega) h4) g
theorem pm_frm {m : Mm} {ps fr : Nat} {so va fa wr : Int32} : frm wL6 m (pm m ps fr so va fa wr) := by
  intro o j hj h1 h2
  refine ⟨?_, rfl⟩
  show (setR m 68 (tk6 (m.1 68) ps fr so va fa wr)).1 o j = m.1 o j
  rw [setR_at]
  split
  · rename_i e
    subst e
    have n10 : j ≠ 10 := fun z => h2 (by rw [z]; decide)
    have n11 : j ≠ 11 := fun z => h2 (by rw [z]; decide)
    have n12 : j ≠ 12 := fun z => h2 (by rw [z]; decide)
    have n13 : j ≠ 13 := fun z => h2 (by rw [z]; decide)
    have n14 : j ≠ 14 := fun z => h2 (by rw [z]; decide)
    have n15 : j ≠ 15 := fun z => h2 (by rw [z]; decide)
    unfold tk6
    rw [if_neg n10, if_neg n11, if_neg n12, if_neg n13, if_neg n14, if_neg n15]
  · rfl
section Tx
variable {wS : List Value → Mm → Option Rs} (hw : WOK wS) (d : Nat)
theorem tx_out (C : CallS) (m : Mm) (ps fr : Nat) (so va fa wr many : Int32) (h : ¬ fa = 0 ∨ so = 0) : rn shP tb0 mN mO C (some .int) (codeZ 118) 20 [.ref 68, .int many] [] (pm m ps fr so va fa wr) = rn shP tb0 mN mO C (some .int) (codeZ 118) 44 [.ref 68, .int many] [] (pm m ps fr so va fa wr) := by
  rw [rn_eq, b_X7_text_20]
  by_cases hf : fa = 0
  · have hs : so = 0 := by
      rcases h with h | h
      · exact absurd hf h
      · exact h
    simp only [EV, LV, CB, OI, OL, NP, CZ, popN, CT, OZ, List.map_nil, List.map_cons, List.sum_nil, List.sum_cons, Option.toList, List.nil_append, List.cons_append, Int.reduceToNat, Nat.reduceAdd, Nat.reduceLT, Nat.reduceLeDiff, List.length_cons, List.length_nil, Nat.zero_add, if_true, if_false, reduceIte, and_self, and_true, true_and, eq_self, reduceCtorEq, G68, hf, hs, not_true_eq_false]
  · simp only [EV, LV, CB, OI, OL, NP, CZ, popN, CT, OZ, List.map_nil, List.map_cons, List.sum_nil, List.sum_cons, Option.toList, List.nil_append, List.cons_append, Int.reduceToNat, Nat.reduceAdd, Nat.reduceLT, Nat.reduceLeDiff, List.length_cons, List.length_nil, Nat.zero_add, if_true, if_false, reduceIte, and_self, and_true, true_and, eq_self, reduceCtorEq, G68, hf, not_false_eq_true]
theorem tx_loop (hw : WOK wS) : ∀ (n : Nat) (m : Mm) (ps fr : Nat) (so va fa wr many : Int32), 161 - ps ≤ n → InvT TV m → ok6 ps fr so fa → (fa = 0 → G41 m) → ∃ (m' : Mm) (ps' fr' : Nat) (so' va' fa' wr' many' : Int32), rn shP tb0 mN mO (semZ shP wS (d + 29)) (some .int) (codeZ 118) 20 [.ref 68, .int many] [] (pm m ps fr so va fa wr) = rn shP tb0 mN mO (semZ shP wS (d + 29)) (some .int) (codeZ 118) 44 [.ref 68, .int many'] [] (pm m' ps' fr' so' va' fa' wr') ∧ InvT TV m' ∧ frm wL6 m m' ∧ ok6 ps' fr' so' fa' ∧ (fa' = 0 → G41 m') := by
  intro n
  induction n with
  | zero =>
    intro m ps fr so va fa wr many hn hI h hg
    have := h.1
    omega
  | succ n ih =>
    intro m ps fr so va fa wr many hn hI h hg
    by_cases hf : fa = 0
    · by_cases hs : so = 0
      · exact ⟨m, ps, fr, so, va, fa, wr, many, tx_out _ m ps fr so va fa wr many (Or.inr hs), hI, frm_rf, h, hg⟩
      · subst hf
        obtain ⟨m1, p1, f1, s1, a1, u1, x1, z1, z2, z3, z4, z5, z6, z7⟩ := t_rl hw d m hI h va wr
        have z3 : frm wL6 m m1 := z3
        have st : rn shP tb0 mN mO (semZ shP wS (d + 29)) (some .int) (codeZ 118) 20 [.ref 68, .int many] [] (pm m ps fr so va 0 wr) = rn shP tb0 mN mO (semZ shP wS (d + 29)) (some .int) (codeZ 118) 20 [.ref 68, .int (many + 1)] [] (pm m1 p1 f1 s1 a1 u1 x1) := by
          rw [rn_eq, b_X7_text_20]
          simp only [EV, LV, CB, OI, OL, NP, CZ, popN, CT, OZ, List.map_nil, List.map_cons, List.sum_nil, List.sum_cons, Option.toList, List.nil_append, List.cons_append, Int.reduceToNat, Nat.reduceAdd, Nat.reduceLT, Nat.reduceLeDiff, List.length_cons, List.length_nil, Nat.zero_add, if_true, if_false, reduceIte, and_self, and_true, true_and, eq_self, reduceCtorEq, C68, G68, hs, not_true_eq_false, z1]
        rw [st]
        by_cases hu : u1 = 0
        · by_cases hs1 : s1 = 0
          · exact ⟨m1, p1, f1, s1, a1, u1, x1, many + 1, tx_out _ m1 p1 f1 s1 a1 u1 x1 (many + 1) (Or.inr hs1), z2, z3, z4, fun w => z6 w (hg rfl)⟩
          · have hlt := z7 hu hs1
            obtain ⟨m', ps', fr', so', va', fa', wr', many', y1, y2, y3, y4, y5⟩ := ih m1 p1 f1 s1 a1 u1 x1 (many + 1) (by omega) z2 z4 (fun w => z6 w (hg rfl))
            exact ⟨m', ps', fr', so', va', fa', wr', many', y1, y2, frm_tr z3 y3 (by decide), y4, y5⟩
        · exact ⟨m1, p1, f1, s1, a1, u1, x1, many + 1, tx_out _ m1 p1 f1 s1 a1 u1 x1 (many + 1) (Or.inl hu), z2, z3, z4, fun w => absurd w hu⟩
    · exact ⟨m, ps, fr, so, va, fa, wr, many, tx_out _ m ps fr so va fa wr many (Or.inl hf), hI, frm_rf, h, hg⟩
theorem tv_69d : (List.range 63).all (fun j => decide (j = 41) || (decide ((ivO TV 69 j).1 ≤ (ivO TV 72 j).1) && decide ((ivO TV 72 j).2 ≤ (ivO TV 69 j).2))) = true := by decide +kernel
theorem iv_683 : ivO TV 68 3 = (0, 4) ∧ ivO TV 71 0 = (0, 1) := by decide +kernel
/-- the end: the tape is empty; what was told counts, if there is no fault -/
theorem tx_end (m0 m : Mm) (hI : InvT TV m) (hF : frm wL6 m0 m) {ps fr : Nat} {so fa : Int32} (h : ok6 ps fr so fa) (va wr many : Int32) (hg : fa = 0 → G41 m) (pc : Nat) (hpc : rn shP tb0 mN mO (semZ shP wS (d + 29)) (some .int) (codeZ 118) pc [.ref 68, .int many] (if pc = 44 then [] else []) (pm m ps fr so va fa wr) = if fa ≤ 0 then rn shP tb0 mN mO (semZ shP wS (d + 29)) (some .int) (codeZ 118) 93 [.ref 68, .int many] [] (pm (wI m 68 9 0) ps fr so va fa wr) else some (some (.int (-10 - wr)), pm (wI m 68 9 0) ps fr so va fa wr)) : ∃ (x : Int32) (m' : Mm), rn shP tb0 mN mO (semZ shP wS (d + 29)) (some .int) (codeZ 118) pc [.ref 68, .int many] (if pc = 44 then [] else []) (pm m ps fr so va fa wr) = some (some (.int x), m') ∧ InvT TV m' ∧ frm wTx m0 m' ∧ m'.1 68 9 = 0 ∧ (JK m0 → JK m') := by
  rw [hpc]
  have I1 : InvT TV (wI m 68 9 0) := Inv_wI hI (by rw [iv_68a.2.2.2]; decide) (by rw [iv_68a.2.2.2]; decide)
  have F1 : frm wTx m0 (wI m 68 9 0) := frm_wI (by omega) (frm_w hF (by decide)) (by decide)
  have I2 := Inv_pm I1 h va wr
  have F2 : frm wTx m0 (pm (wI m 68 9 0) ps fr so va fa wr) := frm_tr F1 pm_frm (by decide)
  have z9 : (pm (wI m 68 9 0) ps fr so va fa wr).1 68 9 = 0 := rfl
  have J2 : JK m0 → JK (pm (wI m 68 9 0) ps fr so va fa wr) := fun g => by
    have a := JK_frm hF (by decide) (by decide) (by decide) (by decide) g
    exact JK_of (m := m) rfl rfl rfl rfl a
  by_cases hf : fa ≤ 0
  · rw [if_pos hf]
    have f0 : fa = 0 := by
      have q := Int32.le_iff_toInt_le.mp hf
      rw [show (0 : Int32).toInt = 0 from by decide] at q
      have q2 := h.2.2.2.1
      exact Int32.toInt_inj.mp (by rw [show (0 : Int32).toInt = 0 from by decide]; omega)
    have g41 := hg f0
    generalize hM : pm (wI m 68 9 0) ps fr so va fa wr = M at I2 F2 z9 J2
    have g41M : 1 ≤ (M.1 72 41).toInt ∧ (M.1 72 41).toInt ≤ 9 := by
      rw [← hM]
      exact g41
    have kd := t_keepDraft wS (d + 28) MP68 M
    refine ⟨many, setR (setR (setR M 69 (fillR (M.1 72) (M.1 69) 63)) 68 (upd (M.1 68) 3 (M.1 68 5))) 71 (upd (upd (M.1 71) 0 0) 1 0), ?_, ?_, ?_, ?_, fun _ => ?_⟩
    · rw [rn_eq, b_X7_text_93]
      have kd : semZ shP wS (d + 29) 104 [.ref 68] M = some (none, setR (setR (setR M 69 (fillR (M.1 72) (M.1 69) 63)) 68 (upd (M.1 68) 3 (M.1 68 5))) 71 (upd (upd (M.1 71) 0 0) 1 0)) := kd
      simp only [EV, LV, CB, OI, OL, NP, CZ, popN, CT, OZ, List.map_nil, List.map_cons, List.sum_nil, List.sum_cons, Option.toList, List.nil_append, List.cons_append, Int.reduceToNat, Nat.reduceAdd, Nat.reduceLT, Nat.reduceLeDiff, List.length_cons, List.length_nil, Nat.zero_add, if_true, if_false, reduceIte, and_self, and_true, true_and, eq_self, reduceCtorEq, C68, kd]
    · refine Inv_setR (Inv_setR (Inv_setR I2 (fun j => ?_)) (fun j => ?_)) (fun j => ?_)
      · unfold fillR
        split
        · rename_i hj
          have k := List.all_eq_true.mp tv_69d j (List.mem_range.mpr hj)
          simp only [Bool.and_eq_true, Bool.or_eq_true, decide_eq_true_eq] at k
          rcases k with k | k
          · subst k
            rw [iv_6941]
            exact g41M
          · have := I2 72 j
            omega
        · exact I2 69 j
      · unfold upd
        split
        · rename_i hj
          rw [hj, iv_683.1]
          have := I2 68 5
          rw [iv_68a.1] at this
          exact this
        · exact I2 68 j
      · have e71 : ∀ i, ivO TV 71 i = (0, 1) := fun i => by rw [iv_1 (by decide)]; exact iv_683.2
        unfold upd
        split
        · rw [e71]; decide
        · split
          · rw [e71]; decide
          · exact I2 71 j
    · refine frm_setR ?_ (by decide)
      intro o j hj h1 h2
      have q := F2 o j hj h1 h2
      refine ⟨?_, q.2⟩
      rw [setR_at]
      split
      · rename_i e
        subst e
        unfold upd
        rw [if_neg (fun z => h2 (by rw [z]; decide))]
        exact q.1
      · rw [setR_at, if_neg (fun e => h1 (by rw [e]; decide))]
        exact q.1
    · rw [setR_at, if_neg (by omega), setR_at, if_pos rfl]
      unfold upd
      rw [if_neg (by omega)]
      exact z9
    · unfold JK
      rw [setR_s]
      refine ⟨fun z => absurd ?_ z, fun z => absurd ?_ z⟩
      · simp [upd]
      · simp [upd]
  · rw [if_neg hf]
    exact ⟨_, _, rfl, I2, F2, z9, J2⟩
end Tx
