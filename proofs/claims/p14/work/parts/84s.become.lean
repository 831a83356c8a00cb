/-! BECOME: written by wip/gen/become.py -/
theorem cp_of {sh : List ShE} {o0 o1 N k : Nat} {r0 r1 : List Nat} (h0 : sh[o0]? = some (.inr (0, N, r0))) (h1 : sh[o1]? = some (.inr (0, N, r1))) (hne : o0 ≠ o1) (hk : k ≤ N) (hN : N < 2 ^ 31) (m : Mm) : cpI sh o0 o1 0 0 (nI k) m = some (setR m o1 (fillR (m.1 o0) (m.1 o1) k)) := by
  have z : (0 : Int32).toNatClampNeg = 0 := by decide
  have c : (nI k).toNatClampNeg = k := nI_clamp (by omega)
  have p : (0 : Int32) ≤ nI k := nI_pos' (by omega)
  unfold cpI
  rw [h0, h1]
  simp only
  rw [if_pos ⟨by decide, by decide, p, by rw [z, c]; omega, by rw [z, c]; omega, hne⟩, z, c]
  unfold setR
  congr 3
  funext j
  unfold va_cpy fillR
  by_cases h : j < k
  · rw [if_pos (by omega), if_pos h, show 0 + (j - 0) = j by omega]
  · rw [if_neg (by omega), if_neg h]
theorem t_becomeW {sh : List ShE} {w v : Nat} (wS : List Value → Mm → Option Rs) (d : Nat) (hw : WSh sh w) (hv : WSh sh v) (hd : v + 8 < w ∨ w + 8 < v) (m : Mm) : ∃ m', semZ sh wS (d + 1) 25 [.ref w, .ref v] m = some (none, m') ∧ (∀ j, j < 8 → m'.1 w j = m.1 v j) ∧ (∀ j, j < 4 → m'.1 (w + 1) j = m.1 (v + 1) j) ∧ (∀ j, j < 4 → m'.1 (w + 2) j = m.1 (v + 2) j) ∧ (∀ j, j < 4 → m'.1 (w + 3) j = m.1 (v + 3) j) ∧ (∀ j, j < 6 → m'.1 (w + 4) j = m.1 (v + 4) j) ∧ (∀ j, j < 6 → m'.1 (w + 5) j = m.1 (v + 5) j) ∧ (∀ j, j < 6 → m'.1 (w + 6) j = m.1 (v + 6) j) ∧ (∀ j, j < 6 → m'.1 (w + 7) j = m.1 (v + 7) j) ∧ (∀ j, j < 6 → m'.1 (w + 8) j = m.1 (v + 8) j) ∧ (∀ q, q < w ∨ w + 8 < q → m'.1 q = m.1 q) := by
  have ne : v ≠ w := by omega
  have fr : ∀ (m : Mm) (j : Nat) (x : Int32) (i : Nat), (wI m w j x).1 v i = m.1 v i := fun m j x i => wI_o m w j x i ne
  have M0 : ∃ M, M = wI (wI (wI (wI (wI (wI (wI (wI m w 0 (m.1 v 0)) w 1 (m.1 v 1)) w 2 (m.1 v 2)) w 3 (m.1 v 3)) w 4 (m.1 v 4)) w 5 (m.1 v 5)) w 6 (m.1 v 6)) w 7 (m.1 v 7) := ⟨_, rfl⟩
  obtain ⟨M0, e0⟩ := M0
  obtain ⟨M1, e1⟩ : ∃ M, M = setR M0 (w + 1) (fillR (M0.1 (v + 1)) (M0.1 (w + 1)) 4) := ⟨_, rfl⟩
  obtain ⟨M2, e2⟩ : ∃ M, M = setR M1 (w + 2) (fillR (M1.1 (v + 2)) (M1.1 (w + 2)) 4) := ⟨_, rfl⟩
  obtain ⟨M3, e3⟩ : ∃ M, M = setR M2 (w + 3) (fillR (M2.1 (v + 3)) (M2.1 (w + 3)) 4) := ⟨_, rfl⟩
  obtain ⟨M4, e4⟩ : ∃ M, M = setR M3 (w + 4) (fillR (M3.1 (v + 4)) (M3.1 (w + 4)) 6) := ⟨_, rfl⟩
  obtain ⟨M5, e5⟩ : ∃ M, M = setR M4 (w + 5) (fillR (M4.1 (v + 5)) (M4.1 (w + 5)) 6) := ⟨_, rfl⟩
  obtain ⟨M6, e6⟩ : ∃ M, M = setR M5 (w + 6) (fillR (M5.1 (v + 6)) (M5.1 (w + 6)) 6) := ⟨_, rfl⟩
  obtain ⟨M7, e7⟩ : ∃ M, M = setR M6 (w + 7) (fillR (M6.1 (v + 7)) (M6.1 (w + 7)) 6) := ⟨_, rfl⟩
  obtain ⟨M8, e8⟩ : ∃ M, M = setR M7 (w + 8) (fillR (M7.1 (v + 8)) (M7.1 (w + 8)) 6) := ⟨_, rfl⟩
  have c1 : cpI sh (v + 1) (w + 1) 0 0 4 M0 = some M1 := by
    rw [e1]
    exact cp_of (k := 4) hv.2.1 hw.2.1 (by omega) (by omega) (by omega) M0
  have c2 : cpI sh (v + 2) (w + 2) 0 0 4 M1 = some M2 := by
    rw [e2]
    exact cp_of (k := 4) hv.2.2.1 hw.2.2.1 (by omega) (by omega) (by omega) M1
  have c3 : cpI sh (v + 3) (w + 3) 0 0 4 M2 = some M3 := by
    rw [e3]
    exact cp_of (k := 4) hv.2.2.2.1 hw.2.2.2.1 (by omega) (by omega) (by omega) M2
  have c4 : cpI sh (v + 4) (w + 4) 0 0 6 M3 = some M4 := by
    rw [e4]
    exact cp_of (k := 6) hv.2.2.2.2.1 hw.2.2.2.2.1 (by omega) (by omega) (by omega) M3
  have c5 : cpI sh (v + 5) (w + 5) 0 0 6 M4 = some M5 := by
    rw [e5]
    exact cp_of (k := 6) hv.2.2.2.2.2.1 hw.2.2.2.2.2.1 (by omega) (by omega) (by omega) M4
  have c6 : cpI sh (v + 6) (w + 6) 0 0 6 M5 = some M6 := by
    rw [e6]
    exact cp_of (k := 6) hv.2.2.2.2.2.2.1 hw.2.2.2.2.2.2.1 (by omega) (by omega) (by omega) M5
  have c7 : cpI sh (v + 7) (w + 7) 0 0 6 M6 = some M7 := by
    rw [e7]
    exact cp_of (k := 6) hv.2.2.2.2.2.2.2.1 hw.2.2.2.2.2.2.2.1 (by omega) (by omega) (by omega) M6
  have c8 : cpI sh (v + 8) (w + 8) 0 0 6 M7 = some M8 := by
    rw [e8]
    exact cp_of (k := 6) hv.2.2.2.2.2.2.2.2 hw.2.2.2.2.2.2.2.2 (by omega) (by omega) (by omega) M7
  have r0 : ∀ q, q ≠ w → M0.1 q = m.1 q := fun q h => by
    rw [e0]
    rw [wI_n _ _ _ _ h, wI_n _ _ _ _ h, wI_n _ _ _ _ h, wI_n _ _ _ _ h, wI_n _ _ _ _ h, wI_n _ _ _ _ h, wI_n _ _ _ _ h, wI_n _ _ _ _ h]
  have s1 : ∀ q, q ≠ w + 1 → M1.1 q = M0.1 q := fun q h => by
    rw [e1]
    exact setR_n _ _ h
  have s2 : ∀ q, q ≠ w + 2 → M2.1 q = M1.1 q := fun q h => by
    rw [e2]
    exact setR_n _ _ h
  have s3 : ∀ q, q ≠ w + 3 → M3.1 q = M2.1 q := fun q h => by
    rw [e3]
    exact setR_n _ _ h
  have s4 : ∀ q, q ≠ w + 4 → M4.1 q = M3.1 q := fun q h => by
    rw [e4]
    exact setR_n _ _ h
  have s5 : ∀ q, q ≠ w + 5 → M5.1 q = M4.1 q := fun q h => by
    rw [e5]
    exact setR_n _ _ h
  have s6 : ∀ q, q ≠ w + 6 → M6.1 q = M5.1 q := fun q h => by
    rw [e6]
    exact setR_n _ _ h
  have s7 : ∀ q, q ≠ w + 7 → M7.1 q = M6.1 q := fun q h => by
    rw [e7]
    exact setR_n _ _ h
  have s8 : ∀ q, q ≠ w + 8 → M8.1 q = M7.1 q := fun q h => by
    rw [e8]
    exact setR_n _ _ h
  refine ⟨M8, ?_, fun j hj => ?_, fun j hj => ?_, fun j hj => ?_, fun j hj => ?_, fun j hj => ?_, fun j hj => ?_, fun j hj => ?_, fun j hj => ?_, fun j hj => ?_, fun q hq => ?_⟩
  · rw [se_X5_become, r_X5_become_0]
    simp only [EV, LV, CB, OI, OL, NP, CZ, popN, CT, OZ, List.map_nil, List.map_cons, List.sum_nil, List.sum_cons, Option.toList, List.nil_append, List.cons_append, Int.reduceToNat, Nat.reduceAdd, Nat.reduceLT, Nat.reduceLeDiff, List.length_cons, List.length_nil, Nat.zero_add, if_true, if_false, reduceIte, and_self, and_true, true_and, eq_self, reduceCtorEq, gW hw, gW hv, pW hw, fr, ← e0, c1, c2, c3, c4, c5, c6, c7, c8]
  · rw [s8 _ (by omega), s7 _ (by omega), s6 _ (by omega), s5 _ (by omega), s4 _ (by omega), s3 _ (by omega), s2 _ (by omega), s1 _ (by omega), e0]
    match j, hj with
    | 0, _ => rw [wI_j _ _ _ _ _ (by omega), wI_j _ _ _ _ _ (by omega), wI_j _ _ _ _ _ (by omega), wI_j _ _ _ _ _ (by omega), wI_j _ _ _ _ _ (by omega), wI_j _ _ _ _ _ (by omega), wI_j _ _ _ _ _ (by omega), wI_s]
    | 1, _ => rw [wI_j _ _ _ _ _ (by omega), wI_j _ _ _ _ _ (by omega), wI_j _ _ _ _ _ (by omega), wI_j _ _ _ _ _ (by omega), wI_j _ _ _ _ _ (by omega), wI_j _ _ _ _ _ (by omega), wI_s]
    | 2, _ => rw [wI_j _ _ _ _ _ (by omega), wI_j _ _ _ _ _ (by omega), wI_j _ _ _ _ _ (by omega), wI_j _ _ _ _ _ (by omega), wI_j _ _ _ _ _ (by omega), wI_s]
    | 3, _ => rw [wI_j _ _ _ _ _ (by omega), wI_j _ _ _ _ _ (by omega), wI_j _ _ _ _ _ (by omega), wI_j _ _ _ _ _ (by omega), wI_s]
    | 4, _ => rw [wI_j _ _ _ _ _ (by omega), wI_j _ _ _ _ _ (by omega), wI_j _ _ _ _ _ (by omega), wI_s]
    | 5, _ => rw [wI_j _ _ _ _ _ (by omega), wI_j _ _ _ _ _ (by omega), wI_s]
    | 6, _ => rw [wI_j _ _ _ _ _ (by omega), wI_s]
    | 7, _ => rw [wI_s]
  · rw [s8 _ (by omega), s7 _ (by omega), s6 _ (by omega), s5 _ (by omega), s4 _ (by omega), s3 _ (by omega), s2 _ (by omega), e1, setR_s]
    unfold fillR
    rw [if_pos hj, r0 _ (by omega)]
  · rw [s8 _ (by omega), s7 _ (by omega), s6 _ (by omega), s5 _ (by omega), s4 _ (by omega), s3 _ (by omega), e2, setR_s]
    unfold fillR
    rw [if_pos hj, s1 _ (by omega), r0 _ (by omega)]
  · rw [s8 _ (by omega), s7 _ (by omega), s6 _ (by omega), s5 _ (by omega), s4 _ (by omega), e3, setR_s]
    unfold fillR
    rw [if_pos hj, s2 _ (by omega), s1 _ (by omega), r0 _ (by omega)]
  · rw [s8 _ (by omega), s7 _ (by omega), s6 _ (by omega), s5 _ (by omega), e4, setR_s]
    unfold fillR
    rw [if_pos hj, s3 _ (by omega), s2 _ (by omega), s1 _ (by omega), r0 _ (by omega)]
  · rw [s8 _ (by omega), s7 _ (by omega), s6 _ (by omega), e5, setR_s]
    unfold fillR
    rw [if_pos hj, s4 _ (by omega), s3 _ (by omega), s2 _ (by omega), s1 _ (by omega), r0 _ (by omega)]
  · rw [s8 _ (by omega), s7 _ (by omega), e6, setR_s]
    unfold fillR
    rw [if_pos hj, s5 _ (by omega), s4 _ (by omega), s3 _ (by omega), s2 _ (by omega), s1 _ (by omega), r0 _ (by omega)]
  · rw [s8 _ (by omega), e7, setR_s]
    unfold fillR
    rw [if_pos hj, s6 _ (by omega), s5 _ (by omega), s4 _ (by omega), s3 _ (by omega), s2 _ (by omega), s1 _ (by omega), r0 _ (by omega)]
  · rw [e8, setR_s]
    unfold fillR
    rw [if_pos hj, s7 _ (by omega), s6 _ (by omega), s5 _ (by omega), s4 _ (by omega), s3 _ (by omega), s2 _ (by omega), s1 _ (by omega), r0 _ (by omega)]
  · rw [s8 _ (by omega), s7 _ (by omega), s6 _ (by omega), s5 _ (by omega), s4 _ (by omega), s3 _ (by omega), s2 _ (by omega), s1 _ (by omega), r0 _ (by omega)]
theorem t_becomeS {sh : List ShE} {w v : Nat} (wS : List Value → Mm → Option Rs) (d : Nat) (hw : SSh sh w) (hv : SSh sh v) (hd : v + 3 < w ∨ w + 3 < v) (m : Mm) : ∃ m', semZ sh wS (d + 1) 6 [.ref w, .ref v] m = some (none, m') ∧ (∀ j, j < 1 → m'.1 w j = m.1 v j) ∧ (∀ j, j < 6 → m'.1 (w + 1) j = m.1 (v + 1) j) ∧ (∀ j, j < 6 → m'.1 (w + 2) j = m.1 (v + 2) j) ∧ (∀ j, j < 6 → m'.1 (w + 3) j = m.1 (v + 3) j) ∧ (∀ q, q < w ∨ w + 3 < q → m'.1 q = m.1 q) := by
  have ne : v ≠ w := by omega
  have fr : ∀ (m : Mm) (j : Nat) (x : Int32) (i : Nat), (wI m w j x).1 v i = m.1 v i := fun m j x i => wI_o m w j x i ne
  have M0 : ∃ M, M = wI m w 0 (m.1 v 0) := ⟨_, rfl⟩
  obtain ⟨M0, e0⟩ := M0
  obtain ⟨M1, e1⟩ : ∃ M, M = setR M0 (w + 1) (fillR (M0.1 (v + 1)) (M0.1 (w + 1)) 6) := ⟨_, rfl⟩
  obtain ⟨M2, e2⟩ : ∃ M, M = setR M1 (w + 2) (fillR (M1.1 (v + 2)) (M1.1 (w + 2)) 6) := ⟨_, rfl⟩
  obtain ⟨M3, e3⟩ : ∃ M, M = setR M2 (w + 3) (fillR (M2.1 (v + 3)) (M2.1 (w + 3)) 6) := ⟨_, rfl⟩
  have c1 : cpI sh (v + 1) (w + 1) 0 0 6 M0 = some M1 := by
    rw [e1]
    exact cp_of (k := 6) hv.2.1 hw.2.1 (by omega) (by omega) (by omega) M0
  have c2 : cpI sh (v + 2) (w + 2) 0 0 6 M1 = some M2 := by
    rw [e2]
    exact cp_of (k := 6) hv.2.2.1 hw.2.2.1 (by omega) (by omega) (by omega) M1
  have c3 : cpI sh (v + 3) (w + 3) 0 0 6 M2 = some M3 := by
    rw [e3]
    exact cp_of (k := 6) hv.2.2.2 hw.2.2.2 (by omega) (by omega) (by omega) M2
  have r0 : ∀ q, q ≠ w → M0.1 q = m.1 q := fun q h => by
    rw [e0]
    rw [wI_n _ _ _ _ h]
  have s1 : ∀ q, q ≠ w + 1 → M1.1 q = M0.1 q := fun q h => by
    rw [e1]
    exact setR_n _ _ h
  have s2 : ∀ q, q ≠ w + 2 → M2.1 q = M1.1 q := fun q h => by
    rw [e2]
    exact setR_n _ _ h
  have s3 : ∀ q, q ≠ w + 3 → M3.1 q = M2.1 q := fun q h => by
    rw [e3]
    exact setR_n _ _ h
  refine ⟨M3, ?_, fun j hj => ?_, fun j hj => ?_, fun j hj => ?_, fun j hj => ?_, fun q hq => ?_⟩
  · rw [se_X2_become, r_X2_become_0]
    simp only [EV, LV, CB, OI, OL, NP, CZ, popN, CT, OZ, List.map_nil, List.map_cons, List.sum_nil, List.sum_cons, Option.toList, List.nil_append, List.cons_append, Int.reduceToNat, Nat.reduceAdd, Nat.reduceLT, Nat.reduceLeDiff, List.length_cons, List.length_nil, Nat.zero_add, if_true, if_false, reduceIte, and_self, and_true, true_and, eq_self, reduceCtorEq, gS hw, gS hv, pS hw, fr, ← e0, c1, c2, c3]
  · rw [s3 _ (by omega), s2 _ (by omega), s1 _ (by omega), e0]
    match j, hj with
    | 0, _ => rw [wI_s]
  · rw [s3 _ (by omega), s2 _ (by omega), e1, setR_s]
    unfold fillR
    rw [if_pos hj, r0 _ (by omega)]
  · rw [s3 _ (by omega), e2, setR_s]
    unfold fillR
    rw [if_pos hj, s1 _ (by omega), r0 _ (by omega)]
  · rw [e3, setR_s]
    unfold fillR
    rw [if_pos hj, s2 _ (by omega), s1 _ (by omega), r0 _ (by omega)]
  · rw [s3 _ (by omega), s2 _ (by omega), s1 _ (by omega), r0 _ (by omega)]
