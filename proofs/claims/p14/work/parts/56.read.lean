/-! BY HAND: read of the class -/
def fAt (th sz : Int32) (i : Int64) : Int32 := if th = 0 then 1 else if i < 0 then 2 else if i < sz.toInt64 then 0 else 2
def fPr (th sz ln l : Int32) (i : Int64) : Int32 := if ¬ th = 0 ∧ ¬ ln = l then 3 else if fAt th sz i = 0 then fAt th sz (i + 1) else fAt th sz i
section H6
variable {sh : List ShE} {w : Nat} (wS : List Value → Mm → Option Rs) (d : Nat)
theorem t_fop (hw : HSh sh w) (l : Int32) (i : Int64) (m : Mm) : semZ sh wS (d + 2) 2 [.ref w, .int l, .long i] m = some (some (.int (fPr (m.1 w 0) (m.1 w 1) (m.1 w 3) l i)), m) := by
  rw [se_X1_faultOfPair, rn_eq, b_X1_faultOfPair_0]
  have key : rn sh tb0 mN mO (semZ sh wS (d + 1)) (some .int) (codeZ 2) 17 [.ref w, .int l, .long i, noV, noV] [] m = some (some (.int (if fAt (m.1 w 0) (m.1 w 1) i = 0 then fAt (m.1 w 0) (m.1 w 1) (i + 1) else fAt (m.1 w 0) (m.1 w 1) i)), m) := by
    have f1 := t_faultAt wS d hw i m
    have f2 := t_faultAt wS d hw (i + 1) m
    rw [rn_eq, b_X1_faultOfPair_17]
    by_cases h : fAt (m.1 w 0) (m.1 w 1) i = 0
    · have h' : (if m.1 w 0 = 0 then 1 else if i < 0 then 2 else if i < (m.1 w 1).toInt64 then 0 else 2 : Int32) = 0 := h
      rw [h'] at f1
      simp only [EV, LV, CB, OI, OL, NP, CZ, popN, CT, OZ, List.map_nil, List.map_cons, List.sum_nil, List.sum_cons, Option.toList, List.nil_append, List.cons_append, Int.reduceToNat, Nat.reduceAdd, Nat.reduceLT, Nat.reduceLeDiff, List.length_cons, List.length_nil, Nat.zero_add, if_true, if_false, reduceIte, and_self, and_true, true_and, eq_self, reduceCtorEq, gH hw, f1, h]
      rw [rn_eq, b_X1_faultOfPair_34]
      simp only [EV, LV, CB, OI, OL, NP, CZ, popN, CT, OZ, List.map_nil, List.map_cons, List.sum_nil, List.sum_cons, Option.toList, List.nil_append, List.cons_append, Int.reduceToNat, Nat.reduceAdd, Nat.reduceLT, Nat.reduceLeDiff, List.length_cons, List.length_nil, Nat.zero_add, if_true, if_false, reduceIte, and_self, and_true, true_and, eq_self, reduceCtorEq, gH hw, f2]
      rfl
    · have h' : ¬ (if m.1 w 0 = 0 then 1 else if i < 0 then 2 else if i < (m.1 w 1).toInt64 then 0 else 2 : Int32) = 0 := h
      simp only [EV, LV, CB, OI, OL, NP, CZ, popN, CT, OZ, List.map_nil, List.map_cons, List.sum_nil, List.sum_cons, Option.toList, List.nil_append, List.cons_append, Int.reduceToNat, Nat.reduceAdd, Nat.reduceLT, Nat.reduceLeDiff, List.length_cons, List.length_nil, Nat.zero_add, if_true, if_false, reduceIte, and_self, and_true, true_and, eq_self, reduceCtorEq, gH hw, f1, h, h']
      rw [rn_eq, b_X1_faultOfPair_41]
      simp only [EV, LV, CB, OI, OL, NP, CZ, popN, CT, OZ, List.map_nil, List.map_cons, List.sum_nil, List.sum_cons, Option.toList, List.nil_append, List.cons_append, Int.reduceToNat, Nat.reduceAdd, Nat.reduceLT, Nat.reduceLeDiff, List.length_cons, List.length_nil, Nat.zero_add, if_true, if_false, reduceIte, and_self, and_true, true_and, eq_self, reduceCtorEq]
      rfl
  unfold fPr
  by_cases h0 : m.1 w 0 = 0
  · simp only [EV, LV, CB, OI, OL, NP, CZ, popN, CT, OZ, List.map_nil, List.map_cons, List.sum_nil, List.sum_cons, Option.toList, List.nil_append, List.cons_append, Int.reduceToNat, Nat.reduceAdd, Nat.reduceLT, Nat.reduceLeDiff, List.length_cons, List.length_nil, Nat.zero_add, if_true, if_false, reduceIte, and_self, and_true, true_and, eq_self, reduceCtorEq, gH hw, h0, not_true_eq_false, false_and]
    rw [h0] at key
    exact key
  · by_cases h1 : m.1 w 3 = l
    · simp only [EV, LV, CB, OI, OL, NP, CZ, popN, CT, OZ, List.map_nil, List.map_cons, List.sum_nil, List.sum_cons, Option.toList, List.nil_append, List.cons_append, Int.reduceToNat, Nat.reduceAdd, Nat.reduceLT, Nat.reduceLeDiff, List.length_cons, List.length_nil, Nat.zero_add, if_true, if_false, reduceIte, and_self, and_true, true_and, eq_self, reduceCtorEq, gH hw, h0, h1, not_true_eq_false, not_false_eq_true, and_false]
      exact key
    · simp only [EV, LV, CB, OI, OL, NP, CZ, popN, CT, OZ, List.map_nil, List.map_cons, List.sum_nil, List.sum_cons, Option.toList, List.nil_append, List.cons_append, Int.reduceToNat, Nat.reduceAdd, Nat.reduceLT, Nat.reduceLeDiff, List.length_cons, List.length_nil, Nat.zero_add, if_true, if_false, reduceIte, and_self, and_true, true_and, eq_self, reduceCtorEq, gH hw, h0, h1, not_false_eq_true]
end H6
theorem fAt_0 {th sz : Int32} {i : Int64} (h : fAt th sz i = 0) : 0 ≤ i.toInt ∧ i.toInt < sz.toInt := by
  unfold fAt at h
  split at h
  · exact absurd h (by decide)
  · split at h
    · exact absurd h (by decide)
    · rename_i h1
      split at h
      · rename_i h2
        rw [Int64.lt_iff_toInt_lt] at h1 h2
        rw [Int32.toInt_toInt64] at h2
        have h0 : (0 : Int64).toInt = 0 := by decide
        omega
      · exact absurd h (by decide)
theorem bm64 {z : Int} (h1 : -9223372036854775808 ≤ z) (h2 : z ≤ 9223372036854775807) : z.bmod (2 ^ 64) = z := by
  show z.bmod 18446744073709551616 = z
  rw [Int.bmod_def]
  split <;> omega
theorem fPr_0 {th sz ln l : Int32} {i : Int64} (h : fPr th sz ln l i = 0) : 0 ≤ i.toInt ∧ i.toInt + 1 < sz.toInt := by
  unfold fPr at h
  split at h
  · exact absurd h (by decide)
  · split at h
    · rename_i h1
      have a := fAt_0 h1
      have b := fAt_0 h
      have r := r32 sz
      have e : (i + 1).toInt = i.toInt + 1 := by
        rw [Int64.toInt_add, show (1 : Int64).toInt = 1 from by decide]
        exact bm64 (by omega) (by omega)
      omega
    · rename_i h1
      exact absurd h h1
/-- the contract of read -/
def c_rd : CE := (96, [rF [0], tI, tI, tI, tI], [], tI, [], ([5, 6, 7, 8, 9], [201, 9]), [])
theorem ret_tI (x : Int32) : retG tI (some (.int x)) := ⟨x, rfl, gN_i (r32 x).1 (r32 x).2, Or.inl rfl, Or.inl rfl, fun _ q hq => by cases hq⟩
theorem af_mem : q_X6_addFound ∈ t_11 := by
  unfold q_X6_addFound t_11 t_10 t_9 t_8 t_7 t_6 t_5 t_4 t_3 t_2
  simp only [List.mem_append, List.mem_cons, true_or, or_true]
theorem l_i32 {i : Int64} {c : Nat} (h : i.toInt = c) (hc : c < 2 ^ 31) : i.toInt32 = nI c := by
  apply Int32.toInt_inj.mp
  rw [Int64.toInt_toInt32, nI_toInt hc, h]
  exact bm32 (by omega) (by omega)
theorem aR28 : ∀ k, k < 4 → arI shP 28 (nI k) = some (60 + 2 * k) := by decide +kernel
theorem rd_end (C : CallS) {mE m : Mm} (hI : InvT TV m) (hf : frm c_rd.2.2.2.2.2.1 mE m) (k l f n bf x cm i : Int32) (w : Nat) (v10 v11 v12 : Value) : ∃ r, rn shP tb0 mN mO C (some .int) (codeZ 96) 150 [.ref 0, .int k, .int l, .int f, .int n, .ref w, .int bf, .int x, .int cm, .int i, v10, v11, v12] [] m = some r ∧ PostR TV mE c_rd r := by
  refine ⟨(some (.int cm), wI m 0 9 x), ?_, ret_tI cm, Inv_wI hI (r32 x).1 (r32 x).2, rho_nil, frm_wI (by decide) hf (by decide), rfl⟩
  rw [rn_eq, b_X6_read_150]
  have e : pfI shP 609 0 (.int x) m = some (wI m 0 9 x) := rfl
  simp only [EV, LV, CB, OI, OL, NP, CZ, popN, CT, OZ, List.map_nil, List.map_cons, List.sum_nil, List.sum_cons, Option.toList, List.nil_append, List.cons_append, Int.reduceToNat, Nat.reduceAdd, Nat.reduceLT, Nat.reduceLeDiff, List.length_cons, List.length_nil, Nat.zero_add, if_true, if_false, reduceIte, and_self, and_true, true_and, eq_self, reduceCtorEq, e]
theorem rd_loop (wS : List Value → Mm → Option Rs) (d : Nat) {mE : Mm} {w : Nat} (hw : w ∈ ([60, 62, 64, 66] : List Nat)) (k l f : Int32) (N : Nat) (hN : N ≤ 20) (bf : Int32) (hb : 0 ≤ bf.toInt ∧ bf.toInt ≤ 6) : ∀ (q i : Nat), i + q = N → ∀ (m : Mm) (x cm : Int32) (v10 v11 v12 : Value), InvT TV m → frm c_rd.2.2.2.2.2.1 mE m → ((v10 = noV ∧ v11 = noV) ∨ ∃ y : Int64, v10 = .long y ∧ v11 = noV) → (v12 = noV ∨ ∃ y : Int32, v12 = .int y) → ∃ r, rn shP tb0 mN mO (semZ shP wS (d + 16)) (some .int) (codeZ 96) 57 [.ref 0, .int k, .int l, .int f, .int (nI N), .ref w, .int bf, .int x, .int cm, .int (nI i), v10, v11, v12] [] m = some r ∧ PostR TV mE c_rd r := by
  intro q
  induction q with
  | zero =>
    intro i hi m x cm v10 v11 v12 hI hf h10 h12
    have e0 : i = N := by omega
    subst e0
    have e1 : nI i ≤ nI i := Int32.le_refl _
    obtain ⟨r, h1, h2⟩ := rd_end (semZ shP wS (d + 16)) hI hf k l f (nI i) bf x cm (nI i) w v10 v11 v12
    refine ⟨r, ?_, h2⟩
    rw [rn_eq, b_X6_read_57]
    simp only [EV, LV, CB, OI, OL, NP, CZ, popN, CT, OZ, List.map_nil, List.map_cons, List.sum_nil, List.sum_cons, Option.toList, List.nil_append, List.cons_append, Int.reduceToNat, Nat.reduceAdd, Nat.reduceLT, Nat.reduceLeDiff, List.length_cons, List.length_nil, Nat.zero_add, if_true, if_false, reduceIte, and_self, and_true, true_and, eq_self, reduceCtorEq, e1]
    exact h1
  | succ q ih =>
    intro i hi m x cm v10 v11 v12 hI hf h10 h12
    have e1 : ¬ nI N ≤ nI i := nI_ge (by omega) (by omega)
    by_cases hx : x = 0
    · subst hx
      have hh := hs_of hw
      generalize hfi : f.toInt64 + ((2 : Int32) * nI i).toInt64 = fi
      have hfp := t_fop wS (d + 14) hh l fi m
      by_cases hp : fPr (m.1 w 0) (m.1 w 1) (m.1 w 3) l fi = 0
      · rw [hp] at hfp
        have pp := fPr_0 hp
        have bs := hI w 1
        rw [(iv_sz hw).2] at bs
        have bs2 : (m.1 w 1).toInt ≤ 40 := bs.2
        obtain ⟨c, hc⟩ : ∃ c : Nat, fi.toInt = c := ⟨fi.toInt.toNat, by omega⟩
        have ec := l_i32 hc (by omega)
        have e2 : inR (nI c) 40 = true := inR_nI (by omega) (by omega)
        have e3 : (nI c).toNatClampNeg = c := nI_clamp (by omega)
        have e4 : inR (nI (c + 1)) 40 = true := inR_nI (by omega) (by omega)
        have e5 : (nI (c + 1)).toNatClampNeg = c + 1 := nI_clamp (by omega)
        obtain ⟨v, m', a1, a2, a3, a4, a5, -⟩ := hall_11 wS d q_X6_addFound af_mem [.ref 0, .int (m.1 (w + 1) c), .int (m.1 (w + 1) (c + 1)), .int 0, .int 0] m ⟨gv_rf 0, gv_tI _, gv_tI _, gv_tI _, gv_tI _, trivial⟩ hI rho_nil
        cases v with
        | none => exact a2.elim
        | some v =>
          obtain ⟨y, hy, -⟩ := a2
          subst hy
          have a1 : semZ shP wS (d + 16) 55 [.ref 0, .int (m.1 (w + 1) c), .int (m.1 (w + 1) (c + 1)), .int 0, .int 0] m = some (some (.int y), m') := a1
          have hf' : frm c_rd.2.2.2.2.2.1 mE m' := frm_tr hf a5 (by decide)
          by_cases hy : 0 ≤ y
          · have hg : ∃ r, rn shP tb0 mN mO (semZ shP wS (d + 16)) (some .int) (codeZ 96) 141 [.ref 0, .int k, .int l, .int f, .int (nI N), .ref w, .int bf, .int 0, .int cm, .int (nI i), .long fi, noV, .int (nI c)] [] m' = some r ∧ PostR TV mE c_rd r := by
              obtain ⟨r, h1, h2⟩ := ih (i + 1) (by omega) m' 0 (cm + 1) (.long fi) noV (.int (nI c)) a3 hf' (Or.inr ⟨fi, rfl, rfl⟩) (Or.inr ⟨_, rfl⟩)
              refine ⟨r, ?_, h2⟩
              rw [rn_eq, b_X6_read_141]
              simp only [EV, LV, CB, OI, OL, NP, CZ, popN, CT, OZ, List.map_nil, List.map_cons, List.sum_nil, List.sum_cons, Option.toList, List.nil_append, List.cons_append, Int.reduceToNat, Nat.reduceAdd, Nat.reduceLT, Nat.reduceLeDiff, List.length_cons, List.length_nil, Nat.zero_add, if_true, if_false, reduceIte, and_self, and_true, true_and, eq_self, reduceCtorEq, nI_1]
              exact h1
            obtain ⟨r, h1, h2⟩ := hg
            refine ⟨r, ?_, h2⟩
            rw [rn_eq, b_X6_read_57]
            rcases h10 with ⟨rfl, rfl⟩ | ⟨y0, rfl, rfl⟩
            · rcases h12 with rfl | ⟨y1, rfl⟩
              · simp only [EV, LV, CB, OI, OL, NP, CZ, popN, CT, OZ, List.map_nil, List.map_cons, List.sum_nil, List.sum_cons, Option.toList, List.nil_append, List.cons_append, Int.reduceToNat, Nat.reduceAdd, Nat.reduceLT, Nat.reduceLeDiff, List.length_cons, List.length_nil, Nat.zero_add, if_true, if_false, reduceIte, and_self, and_true, true_and, eq_self, reduceCtorEq, e1, hfi, hfp, gP0, gH hh, aH hh, ec, e2, e3, nI_1, e4, e5, a1, hy, not_true_eq_false]
                exact h1
              · simp only [EV, LV, CB, OI, OL, NP, CZ, popN, CT, OZ, List.map_nil, List.map_cons, List.sum_nil, List.sum_cons, Option.toList, List.nil_append, List.cons_append, Int.reduceToNat, Nat.reduceAdd, Nat.reduceLT, Nat.reduceLeDiff, List.length_cons, List.length_nil, Nat.zero_add, if_true, if_false, reduceIte, and_self, and_true, true_and, eq_self, reduceCtorEq, e1, hfi, hfp, gP0, gH hh, aH hh, ec, e2, e3, nI_1, e4, e5, a1, hy, not_true_eq_false]
                exact h1
            · rcases h12 with rfl | ⟨y1, rfl⟩
              · simp only [EV, LV, CB, OI, OL, NP, CZ, popN, CT, OZ, List.map_nil, List.map_cons, List.sum_nil, List.sum_cons, Option.toList, List.nil_append, List.cons_append, Int.reduceToNat, Nat.reduceAdd, Nat.reduceLT, Nat.reduceLeDiff, List.length_cons, List.length_nil, Nat.zero_add, if_true, if_false, reduceIte, and_self, and_true, true_and, eq_self, reduceCtorEq, e1, hfi, hfp, gP0, gH hh, aH hh, ec, e2, e3, nI_1, e4, e5, a1, hy, not_true_eq_false]
                exact h1
              · simp only [EV, LV, CB, OI, OL, NP, CZ, popN, CT, OZ, List.map_nil, List.map_cons, List.sum_nil, List.sum_cons, Option.toList, List.nil_append, List.cons_append, Int.reduceToNat, Nat.reduceAdd, Nat.reduceLT, Nat.reduceLeDiff, List.length_cons, List.length_nil, Nat.zero_add, if_true, if_false, reduceIte, and_self, and_true, true_and, eq_self, reduceCtorEq, e1, hfi, hfp, gP0, gH hh, aH hh, ec, e2, e3, nI_1, e4, e5, a1, hy, not_true_eq_false]
                exact h1
          · have ep : pfI shP 501 1 (.int bf) m' = some (wI m' 1 1 bf) := rfl
            refine ⟨(some (.int (-20 - nI i)), wI m' 1 1 bf), ?_, ret_tI _, Inv_wI a3 ?_ ?_, rho_nil, frm_wI (by decide) hf' (by decide), rfl⟩
            · rw [rn_eq, b_X6_read_57]
              rcases h10 with ⟨rfl, rfl⟩ | ⟨y0, rfl, rfl⟩
              · rcases h12 with rfl | ⟨y1, rfl⟩
                · simp only [EV, LV, CB, OI, OL, NP, CZ, popN, CT, OZ, List.map_nil, List.map_cons, List.sum_nil, List.sum_cons, Option.toList, List.nil_append, List.cons_append, Int.reduceToNat, Nat.reduceAdd, Nat.reduceLT, Nat.reduceLeDiff, List.length_cons, List.length_nil, Nat.zero_add, if_true, if_false, reduceIte, and_self, and_true, true_and, eq_self, reduceCtorEq, e1, hfi, hfp, gP0, gH hh, aH hh, ec, e2, e3, nI_1, e4, e5, a1, hy, not_true_eq_false, ep]
                · simp only [EV, LV, CB, OI, OL, NP, CZ, popN, CT, OZ, List.map_nil, List.map_cons, List.sum_nil, List.sum_cons, Option.toList, List.nil_append, List.cons_append, Int.reduceToNat, Nat.reduceAdd, Nat.reduceLT, Nat.reduceLeDiff, List.length_cons, List.length_nil, Nat.zero_add, if_true, if_false, reduceIte, and_self, and_true, true_and, eq_self, reduceCtorEq, e1, hfi, hfp, gP0, gH hh, aH hh, ec, e2, e3, nI_1, e4, e5, a1, hy, not_true_eq_false, ep]
              · rcases h12 with rfl | ⟨y1, rfl⟩
                · simp only [EV, LV, CB, OI, OL, NP, CZ, popN, CT, OZ, List.map_nil, List.map_cons, List.sum_nil, List.sum_cons, Option.toList, List.nil_append, List.cons_append, Int.reduceToNat, Nat.reduceAdd, Nat.reduceLT, Nat.reduceLeDiff, List.length_cons, List.length_nil, Nat.zero_add, if_true, if_false, reduceIte, and_self, and_true, true_and, eq_self, reduceCtorEq, e1, hfi, hfp, gP0, gH hh, aH hh, ec, e2, e3, nI_1, e4, e5, a1, hy, not_true_eq_false, ep]
                · simp only [EV, LV, CB, OI, OL, NP, CZ, popN, CT, OZ, List.map_nil, List.map_cons, List.sum_nil, List.sum_cons, Option.toList, List.nil_append, List.cons_append, Int.reduceToNat, Nat.reduceAdd, Nat.reduceLT, Nat.reduceLeDiff, List.length_cons, List.length_nil, Nat.zero_add, if_true, if_false, reduceIte, and_self, and_true, true_and, eq_self, reduceCtorEq, e1, hfi, hfp, gP0, gH hh, aH hh, ec, e2, e3, nI_1, e4, e5, a1, hy, not_true_eq_false, ep]
            · rw [show ivO TV 1 1 = (0, 6) from by decide +kernel]; exact hb.1
            · rw [show ivO TV 1 1 = (0, 6) from by decide +kernel]; exact hb.2
      · have hg : ∃ r, rn shP tb0 mN mO (semZ shP wS (d + 16)) (some .int) (codeZ 96) 144 [.ref 0, .int k, .int l, .int f, .int (nI N), .ref w, .int bf, .int (fPr (m.1 w 0) (m.1 w 1) (m.1 w 3) l fi), .int cm, .int (nI i), .long fi, noV, v12] [] m = some r ∧ PostR TV mE c_rd r := by
          obtain ⟨r, h1, h2⟩ := ih (i + 1) (by omega) m (fPr (m.1 w 0) (m.1 w 1) (m.1 w 3) l fi) cm (.long fi) noV v12 hI hf (Or.inr ⟨fi, rfl, rfl⟩) h12
          refine ⟨r, ?_, h2⟩
          rw [rn_eq, b_X6_read_144]
          simp only [EV, LV, CB, OI, OL, NP, CZ, popN, CT, OZ, List.map_nil, List.map_cons, List.sum_nil, List.sum_cons, Option.toList, List.nil_append, List.cons_append, Int.reduceToNat, Nat.reduceAdd, Nat.reduceLT, Nat.reduceLeDiff, List.length_cons, List.length_nil, Nat.zero_add, if_true, if_false, reduceIte, and_self, and_true, true_and, eq_self, reduceCtorEq, nI_1]
          exact h1
        obtain ⟨r, h1, h2⟩ := hg
        refine ⟨r, ?_, h2⟩
        rw [rn_eq, b_X6_read_57]
        rcases h10 with ⟨rfl, rfl⟩ | ⟨y0, rfl, rfl⟩
        · simp only [EV, LV, CB, OI, OL, NP, CZ, popN, CT, OZ, List.map_nil, List.map_cons, List.sum_nil, List.sum_cons, Option.toList, List.nil_append, List.cons_append, Int.reduceToNat, Nat.reduceAdd, Nat.reduceLT, Nat.reduceLeDiff, List.length_cons, List.length_nil, Nat.zero_add, if_true, if_false, reduceIte, and_self, and_true, true_and, eq_self, reduceCtorEq, e1, hfi, hfp, gP0, gH hh, hp, not_true_eq_false, not_false_eq_true]
          exact h1
        · simp only [EV, LV, CB, OI, OL, NP, CZ, popN, CT, OZ, List.map_nil, List.map_cons, List.sum_nil, List.sum_cons, Option.toList, List.nil_append, List.cons_append, Int.reduceToNat, Nat.reduceAdd, Nat.reduceLT, Nat.reduceLeDiff, List.length_cons, List.length_nil, Nat.zero_add, if_true, if_false, reduceIte, and_self, and_true, true_and, eq_self, reduceCtorEq, e1, hfi, hfp, gP0, gH hh, hp, not_true_eq_false, not_false_eq_true]
          exact h1
    · obtain ⟨r, h1, h2⟩ := rd_end (semZ shP wS (d + 16)) hI hf k l f (nI N) bf x cm (nI i) w v10 v11 v12
      refine ⟨r, ?_, h2⟩
      rw [rn_eq, b_X6_read_57]
      simp only [EV, LV, CB, OI, OL, NP, CZ, popN, CT, OZ, List.map_nil, List.map_cons, List.sum_nil, List.sum_cons, Option.toList, List.nil_append, List.cons_append, Int.reduceToNat, Nat.reduceAdd, Nat.reduceLT, Nat.reduceLeDiff, List.length_cons, List.length_nil, Nat.zero_add, if_true, if_false, reduceIte, and_self, and_true, true_and, eq_self, reduceCtorEq, e1, hx, not_false_eq_true]
      exact h1
