/-! BY HAND, then by the checker: alter of the model; reads -/
theorem Hd_run {T : List (List (Int × Int))} {C : CallS} {c0 : CE} (h : ∀ (As : List Value) (m : Mm), gT [] [] m (c0.2.1.map cle) As → InvT T m → rho m c0.2.2.1 → ∃ r, C c0.1 As m = some r ∧ PostR T m c0 r) : Hd T C c0 := by
  intro As m g hI hR
  obtain ⟨⟨v, m'⟩, h1, h2⟩ := h As m g hI hR
  refine ⟨v, m', h1, h2.1, h2.2.1, h2.2.2.1, h2.2.2.2.1, ?_⟩
  rw [h2.2.2.2.2]
  exact fun _ _ _ q hq => by cases hq
theorem gL_of {L0 L1 L : List Value} {m : Mm} {as : List AV} {vs : List Value} (h : gT L0 L m as vs) : as.length = vs.length ∧ ∀ i a, as[i]? = some a → gv L0 L m a (ldL vs i) := by
  induction as generalizing vs with
  | nil => rw [gT_nil h]; exact ⟨rfl, fun i a q => by cases q⟩
  | cons a as ih =>
    obtain ⟨v, vs, rfl, g1, g2⟩ := gT_cons h
    obtain ⟨h1, h2⟩ := ih g2
    refine ⟨by simp only [List.length_cons, h1], fun i b hb => ?_⟩
    cases i with
    | zero => cases hb; exact g1
    | succ i => exact h2 i b hb
theorem gv_c0 {L0 L : List Value} {m : Mm} : gv L0 L m (cst 0) (.int 0) := gv_cst (n := 0) (by decide)
theorem gv_c1 {L0 L : List Value} {m : Mm} : gv L0 L m (cst 1) (.int 1) := gv_cst (n := 1) (by decide)
theorem gv_rf {L0 L : List Value} {m : Mm} (k : Nat) : gv L0 L m (rF [k]) (.ref k) := ⟨k, rfl, List.mem_singleton.mpr rfl⟩
theorem hall_11 (wS : List Value → Mm → Option Rs) : Hall TV wS 16 t_11 := h_up11 (h_up10 (hall_9 wS))
theorem go_alt {C : CallS} (hC : ∀ c ∈ t_11, Hd TV C c) {c0 : CE} {a : List AnE} (hk : a.all (blkOK shP TV t_11 (mT 145) c0 (codeZ 145) a) = true) {e : AnE} (he : a[0]? = some e) (hpc : e.1 = 60) {L st : List Value} {m : Mm} (hI : InvT TV m) (hl : ∀ L1, gT L1 L m e.2.1.1 L) (hs : ∀ L1, gT L1 L m e.2.1.2.1 st) (hr : e.2.1.2.2 = []) : ∃ r, rn shP tb0 mN mO C (mT 145) (codeZ 145) 60 L st m = some r ∧ PostR TV m c0 r := by
  have k := run_ok (mE := m) hC hk _ e (List.mem_of_getElem? he) L st m (fun L1 => ⟨gL_of (L1 := L1) (hl L1), hs L1, hI, by rw [hr]; exact rho_nil, frm_rf⟩) (Nat.le_refl _)
  rw [hpc] at k
  exact k
theorem mT_145 : mT 145 = some .int := by decide +kernel
theorem hd_al0 (wS : List Value → Mm → Option Rs) (d : Nat) : Hd TV (semZ shP wS (d + 17)) h_al0t := by
  apply Hd_run
  intro As m g hI hR
  obtain ⟨v1, vs, rfl, k1, g⟩ := gT_cons g
  obtain ⟨v2, vs, rfl, k2, g⟩ := gT_cons g
  obtain ⟨v3, vs, rfl, k3, g⟩ := gT_cons g
  obtain ⟨v4, vs, rfl, k4, g⟩ := gT_cons g
  cases gT_nil g
  obtain ⟨r', rfl, hr⟩ := k1
  have hr : r' = 68 := List.mem_singleton.mp hr
  subst hr
  obtain ⟨b, rfl, -⟩ := k2
  obtain ⟨k, rfl, k1, -⟩ := k3
  obtain ⟨v, rfl, -⟩ := k4
  have ek := i_cst 0 k1 (by decide)
  subst ek
  have hC := hall_11 wS d
  have es : semZ shP wS (d + 17) 145 [.ref 68, .int b, .int 0, .int v] m = rn shP tb0 mN mO (semZ shP wS (d + 16)) (some .int) (codeZ 145) 60 [.ref 68, .int b, .int 0, .int v, noV] [.int (bI (decide (0 ≤ v.toInt64) && decide (v.toInt64 ≤ 3)))] m := by
    rw [se_X7_alter, rn_eq, b_X7_alter_0]
    simp only [EV, LV, CB, OI, OL, NP, CZ, popN, CT, OZ, List.map_nil, List.map_cons, List.sum_nil, List.sum_cons, Option.toList, List.nil_append, List.cons_append, Int.reduceToNat, Nat.reduceAdd, Nat.reduceLT, Nat.reduceLeDiff, List.length_cons, List.length_nil, Nat.zero_add, if_true, if_false, reduceIte, and_self, and_true, true_and, eq_self, reduceCtorEq, t_in wS (d + 15), not_true_eq_false]
  show ∃ r, semZ shP wS (d + 17) 145 [.ref 68, .int b, .int 0, .int v] m = some r ∧ _
  rw [es, ← mT_145]
  cases hq : (decide (0 ≤ v.toInt64) && decide (v.toInt64 ≤ 3)) with
  | true =>
    have hv := pm_n (n := 3) (N := 3) (by decide) hq
    exact go_alt hC k_al0t rfl rfl hI (fun L1 => ⟨gv_rf 68, gv_tI b, gv_c0, gv_i hv.1 hv.2, trivial, trivial⟩) (fun L1 => ⟨gv_c1, trivial⟩) rfl
  | false =>
    exact go_alt hC k_al0f rfl rfl hI (fun L1 => ⟨gv_rf 68, gv_tI b, gv_c0, gv_tI v, trivial, trivial⟩) (fun L1 => ⟨gv_c0, trivial⟩) rfl
theorem hd_al1 (wS : List Value → Mm → Option Rs) (d : Nat) : Hd TV (semZ shP wS (d + 17)) h_al1t := by
  apply Hd_run
  intro As m g hI hR
  obtain ⟨v1, vs, rfl, k1, g⟩ := gT_cons g
  obtain ⟨v2, vs, rfl, k2, g⟩ := gT_cons g
  obtain ⟨v3, vs, rfl, k3, g⟩ := gT_cons g
  obtain ⟨v4, vs, rfl, k4, g⟩ := gT_cons g
  cases gT_nil g
  obtain ⟨r', rfl, hr⟩ := k1
  have hr : r' = 68 := List.mem_singleton.mp hr
  subst hr
  obtain ⟨b, rfl, -⟩ := k2
  obtain ⟨k, rfl, k1, -⟩ := k3
  obtain ⟨v, rfl, -⟩ := k4
  have ek := i_cst 1 k1 (by decide)
  subst ek
  have hC := hall_11 wS d
  have es : semZ shP wS (d + 17) 145 [.ref 68, .int b, .int 1, .int v] m = rn shP tb0 mN mO (semZ shP wS (d + 16)) (some .int) (codeZ 145) 60 [.ref 68, .int b, .int 1, .int v, noV] [.int (bI (decide (0 ≤ v.toInt64) && decide (v.toInt64 ≤ (m.1 68 3 - 1).toInt64)))] m := by
    have e1 : ¬ (1 : Int32) = 0 := by decide
    rw [se_X7_alter, rn_eq, b_X7_alter_0]
    simp only [EV, LV, CB, OI, OL, NP, CZ, popN, CT, OZ, List.map_nil, List.map_cons, List.sum_nil, List.sum_cons, Option.toList, List.nil_append, List.cons_append, Int.reduceToNat, Nat.reduceAdd, Nat.reduceLT, Nat.reduceLeDiff, List.length_cons, List.length_nil, Nat.zero_add, if_true, if_false, reduceIte, and_self, and_true, true_and, eq_self, reduceCtorEq, e1, not_false_eq_true]
    rw [rn_eq, b_X7_alter_16]
    simp only [EV, LV, CB, OI, OL, NP, CZ, popN, CT, OZ, List.map_nil, List.map_cons, List.sum_nil, List.sum_cons, Option.toList, List.nil_append, List.cons_append, Int.reduceToNat, Nat.reduceAdd, Nat.reduceLT, Nat.reduceLeDiff, List.length_cons, List.length_nil, Nat.zero_add, if_true, if_false, reduceIte, and_self, and_true, true_and, eq_self, reduceCtorEq, gM MP68, t_isVillage wS (d + 14) MP68, not_true_eq_false]
  show ∃ r, semZ shP wS (d + 17) 145 [.ref 68, .int b, .int 1, .int v] m = some r ∧ _
  rw [es, ← mT_145]
  cases hq : (decide (0 ≤ v.toInt64) && decide (v.toInt64 ≤ (m.1 68 3 - 1).toInt64)) with
  | true =>
    have hv := pm_v hI hq
    exact go_alt hC k_al1t rfl rfl hI (fun L1 => ⟨gv_rf 68, gv_tI b, gv_c1, gv_i hv.1 hv.2, trivial, trivial⟩) (fun L1 => ⟨gv_c1, trivial⟩) rfl
  | false =>
    exact go_alt hC k_al1f rfl rfl hI (fun L1 => ⟨gv_rf 68, gv_tI b, gv_c1, gv_tI v, trivial, trivial⟩) (fun L1 => ⟨gv_c0, trivial⟩) rfl
