/-! THE CLAIM OUT OF ONE WALK OF THE LAW'S BODY. Your part is whole_start (and what it stands on); all else here is the same for every law, but numbers. -/
def R_law : String := "ProofFineLaw"
def lw_P (b : Addr) (xs : List Int32) (args : Array Value) (s : State) : Prop := args = #[.ref b] ∧ s.IntsAt b xs ∧ xs.length ≤ 2560 ∧ (Jvm.Cond.and given_1 narrow_1).before args s = true
def lw_Q (_ : Array Value) (s : State) (o : Outcome) (t : State) : Prop := o = .returned (some (.int 1)) ∧ Framed s o t [] 600000 7302250
def lw_Z (below : List Frame) (a : Array Value) (s : State) : State → Prop := fun t => ∃ o, t.status = .running ∧ Ended t below o ∧ lw_Q a s o t
/-- the law's own end, with 1 on the stack, nothing written that was there before, its room as the claim has it -/
theorem lw_ret {p : Program} {l : Launch} {e : Env} {s : State} {m : MethodId} {below : List Frame} {meth : Method} {c : Code} {b : Nat} (hx : p.tables.exec = Jvm.exec) (hb : c.code = code) (hr : meth.sig.returnType = ret) (hlocks : meth.locks = false) {pc : Nat} {H : Heap} {ls : Array Slot} (hdg : decode code pc = .ok (.ireturn, 1)) : W p l e room_1 s m #[Value.ref b] below meth c H [] 600000 7302250 (lw_Z below #[Value.ref b] s) (F0 m pc ls [.int 1]) := by
  intro T hT X
  obtain ⟨fs, hret, hrun, hended, hW, hframe⟩ := X.leave (v := some (.int 1)) (hlocks := hlocks) (fun h => by rw [hr] at h; cases h)
  have hmeth' : T.vm.method? m = some meth := X.method'
  refine ⟨T.setFrames fs, ?_, .returned (some (.int 1)), hrun, hended, rfl, ⟨_, rfl⟩, hW, hframe⟩
  jvm_step X.here [X.here.top, hx, hb, hdg, hmeth', hr, ret, narrow_b1]
  (try refine ⟨rfl, ?_⟩); (try refine ⟨rfl, ?_⟩)
  first | (intro acts; rw [hret _ acts rfl rfl rfl]) | rw [hret _ _ rfl rfl rfl]
  exact Steps.refl _
/-- what holds at the law's entry: the machine, the code, the tables' words (any of lw_tbl by 'hts w (by decide +kernel)'), the script of L ints xs at the cell b, what the Statement gives of the start (any of its parts by flat_of_before) -/
def lw_At (p : Program) (s : State) (m : MethodId) (meth : Method) (c : Code) (b L : Nat) (xs : Nat → Int32) : Prop :=
  p.tables.exec = Jvm.exec ∧ c.code = code ∧ meth.sig.returnType = ret ∧ c.maxLocals = 4 ∧ s.vm.findClass R_law = some m.cls ∧ (∀ w ∈ lw_tbl, w.before #[Value.ref b] s = true) ∧ va_X b L xs s s.heap ∧ b < s.heap.size ∧ meth.locks = false ∧ (Jvm.Cond.and given_1 narrow_1).before #[Value.ref b] s = true
theorem law_w : Cond.classLink (clsN 9) 7 (clE 6).1 ∈ tblG ∧ Cond.methodLink (clsN 9) 9 yX6_init ∈ tblG ∧ Cond.classLink (clsN 9) 10 (clE 7).1 ∈ tblG ∧ Cond.methodLink (clsN 9) 12 yX7_init ∈ tblG := ⟨wAt_mem (pl := 78) (by decide +kernel), wAt_mem (pl := 80) (by decide +kernel), wAt_mem (pl := 788) (by decide +kernel), wAt_mem (pl := 790) (by decide +kernel)⟩
/-- the addresses -/
def adf (aS : Nat → Nat) (u v : List Nat) (o : Nat) : Nat := if o < 68 then u.getD o 0 else if o < 81 then v.getD (o - 68) 0 else aS o
set_option maxHeartbeats 4000000 in
set_option maxRecDepth 100000 in
theorem law_sim {p : Program} {e : Env} {s : State} {m : MethodId} {below : List Frame} {meth : Method} {c : Code} (l : Launch) {b L : Nat} {xs : Nat → Int32} (hL : L ≤ 2560) (C0 : lw_At p s m meth c b L xs) {D : va_G} {dA : Nat → ClassId} {aS : Nat → Nat} (hb3 : aS 3000 = b) (hK : va_K D clsT (tysL dA) s) (hF : StF aS (fun q => s.heap.size ≤ q) s) {q0 q1 : Nat} {u v : List Nat} {H : Heap} {locs : List Loc} (hH : Hw D (fun q => s.heap.size ≤ q) s (gOf proofE0 dA mP0 (q0 :: u) ++ gOf (modelE 0) dA mM0 (q1 :: v)) H locs) {ls : Array Slot} (hl : lv_has ls 4 [(3, .int 0), (2, .ref q1), (1, .ref q0), (0, .ref b)]) : W p l e room_1 s m #[Value.ref b] below meth c H locs 81 1557 (lw_Z below #[Value.ref b] s) (F0 m 18 ls []) := by
  obtain ⟨hx, hb, hr, hml, hown, hts, hX, hbl, hlocks, hgv⟩ := id C0
  have hG : ∀ w ∈ tblG, w.before #[Value.ref b] s = true := fun w h => hts w (List.mem_filter.mp h).1
  have a0 : adf aS (q0 :: u) (q1 :: v) 0 = q0 := rfl
  have a68 : adf aS (q0 :: u) (q1 :: v) 68 = q1 := rfl
  have a3 : adf aS (q0 :: u) (q1 :: v) 3000 = b := hb3
  have had : ∀ o, 1000 ≤ o → adf aS (q0 :: u) (q1 :: v) o = aS o := fun o h => by
    unfold adf
    rw [if_neg (by omega), if_neg (by omega)]
  have hu : ∀ r, r < 68 → adf aS (q0 :: u) (q1 :: v) r = (q0 :: u).getD r 0 := fun r h => by
    unfold adf
    rw [if_pos h]
  have hv : ∀ r, r < 13 → adf aS (q0 :: u) (q1 :: v) (68 + r) = (q1 :: v).getD r 0 := fun r h => by
    unfold adf
    rw [if_neg (by omega), if_pos (by omega), Nat.add_sub_cancel_left]
  generalize adf aS (q0 :: u) (q1 :: v) = ad at a0 a68 a3 had hu hv
  have hc := cells_two (dA := dA) hu hv
  rw [← hc] at hH
  obtain ⟨hP, hD, hS⟩ := hH
  have hD := D_any (m1 := mS0) hD
  have hHp : Hp shP ad dA D (fun q => s.heap.size ≤ q) s mS0 H locs := ⟨P_two hP, hD, hS⟩
  have hlen : ((List.range L).map xs).length = L := by rw [List.length_map, List.length_range]
  have hSt : StO shP (tb1 ((List.range L).map xs)) ad (fun q => s.heap.size ≤ q) s := by
    obtain ⟨h1, h2⟩ := hF.O (sh := shP) had
    refine ⟨fun o T h3 h4 => ?_, h2⟩
    unfold tb1 at h4
    split at h4
    · rename_i ho
      cases h4
      subst ho
      obtain ⟨scr, g1, g2, g3, g4, g5⟩ := hX
      rw [a3, hlen]
      refine ⟨scr, g1, g2, g3, Nat.le_of_eq g4.symm, by rw [g4], fun j hj => ?_, Nat.not_le.mpr hbl⟩
      show scr.slots[j]? = some (Value.int (((List.range L).map xs).getD j 0))
      rw [g5 j hj, List.getD_eq_getElem?_getD, List.getElem?_map, List.getElem?_range hj]
      rfl
    · exact h1 o T h3 h4
  have hAA : ∀ q : Nat, AA shP ad s.heap.size q → s.heap.size ≤ q := by
    rintro q (⟨k, hk, rfl⟩ | h)
    · exact hD.2 k _ (cells_get (List.getElem?_eq_getElem hk))
    · exact h
  have X : Cx shP (tb1 ((List.range L).map xs)) ad dA D (fun q => s.heap.size ≤ q) 9 4 code p s m #[Value.ref b] c := ⟨hx, hb, hml, hown, hG, hK, shP_ok, hSt, hAA⟩
  obtain ⟨m', hrun⟩ := law_run (wS := wW) 0 ((List.range L).map xs) WOK_wW WX_wW (by rw [hlen]; exact hL) L 0 (by rw [hlen]; omega) (by omega) mS0 0 LI_S0
  have hLR : LR ad ls 4 [.ref 3000, .ref 0, .ref 68, .int (nI 0)] := by
    refine ⟨hl.1, hl.2.1, rfl, fun i w hi hw => ?_⟩
    match i, hi with
    | 0, hi =>
      cases hi
      show ls[0]? = some (.val (.ref (ad 3000)))
      rw [a3]
      exact hl.2.2 (0, .ref b) (by simp)
    | 1, hi =>
      cases hi
      show ls[1]? = some (.val (.ref (ad 0)))
      rw [a0]
      exact hl.2.2 (1, .ref q0) (by simp)
    | 2, hi =>
      cases hi
      show ls[2]? = some (.val (.ref (ad 68)))
      rw [a68]
      exact hl.2.2 (2, .ref q1) (by simp)
    | 3, hi =>
      cases hi
      exact hl.2.2 (3, .int 0) (by simp)
    | i + 4, hi => simp at hi
  refine sim_rn (tb := tb1 ((List.range L).map xs)) (own := 9) (nL := 4) (fr := 9) (lo := 271) (cc := code) (C := semZ shP wW (0 + 30)) (rt := some .boolean) (code := codeZ 186) (r := (some (.int 1), m')) (fun o T h => ?_) X (fun z As m0 r h => met_all shP_ok ck_all wW_met (0 + 30) z As m0 r h) (by decide) (by decide) (by decide) (by decide) (okL_code okLaw) (fun pc L hret ls H locs hl hH => ?_) hrun ls H locs hLR hHp
  · unfold tb1
    rw [if_neg (by
      intro ho
      subst ho
      cases h), h]
  · refine va_forget (fun q hq => hH.2.2.2.2 q hq) ?_
    refine W.widen (k := 600000) (n := 7302250) (by decide) (by decide) ?_
    exact lw_ret hx hb hr hlocks hret.1
set_option maxHeartbeats 4000000 in
set_option maxRecDepth 100000 in
theorem whole_start {p : Program} {e : Env} {s : State} {m : MethodId} {below : List Frame} {meth : Method} {c : Code} (l : Launch) {b L : Nat} {xs : Nat → Int32} (hL : L ≤ 2560) (C0 : lw_At p s m meth c b L xs) : W p l e room_1 s m #[Value.ref b] below meth c s.heap [] 0 0 (lw_Z below #[Value.ref b] s) (entryFrame m ([Value.ref b] : List Value).toArray 4) := by
  obtain ⟨hx, hb, hr, hml, hown, hts, hX, hbl, hlocks, hgv⟩ := id C0
  have hG : ∀ w ∈ tblG, w.before #[Value.ref b] s = true := fun w h => hts w (List.mem_filter.mp h).1
  have hN := st_N hts
  obtain ⟨D, dA, hK⟩ := st_K hG hN.2.1 hN.2.2
  obtain ⟨aS, hb3, hF⟩ := st_F hts (flat_of_before _ hgv) b
  have hA : ∀ q : Nat, s.heap.size ≤ q → (fun q : Nat => s.heap.size ≤ q) q := fun _ h => h
  have X : Ci aS dA D (fun q : Nat => s.heap.size ≤ q) 9 4 code p s m #[Value.ref b] c := ⟨hx, hb, hml, hown, hG, hK, hA, hN, hF⟩
  have hl := lv_entry ([.ref b]) (n := 4) (Nat.le_of_ble_eq_true rfl)
  rw [lg_entry_eq]
  generalize (lg_sl ([.ref b]) ++ List.replicate (4 - (lg_sl ([.ref b])).length) Slot.unset).toArray = ls at hl ⊢
  have hl : lv_has ls 4 [(0, .ref b)] := hl
  have hH : Hw D (fun q : Nat => s.heap.size ≤ q) s [] s.heap [] := ⟨fun k q h => by simp at h, ⟨fun i j p q h => by simp at h, fun k q h => by simp at h⟩, va_S.rf⟩
  refine mk_new X hl.1 hH (i_X6 l aS dA D) (by decide) ⟨by decide +kernel, by decide +kernel, by decide +kernel⟩ law_w.1 iwX6.1 iwX6.2.1 cwiX6 iwX6.2.2 (Or.inl law_w.2.1) fsX6_ok ⟨by decide +kernel, by decide +kernel⟩ (Nat.le_of_ble_eq_true rfl) (Nat.le_of_ble_eq_true rfl) (Nat.le_of_ble_eq_true rfl) (Nat.le_of_ble_eq_true rfl) (Nat.le_of_ble_eq_true rfl) (show decode code 0 = .ok (.new 7, 3) by decide +kernel) (show decode code 3 = .ok (.dup, 1) by decide +kernel) (show decode code 4 = .ok (.invokespecial 9, 3) by decide +kernel) (fun q0 u H locs hu hH => ?_)
  rw [List.nil_append] at hH
  refine lv_astore_n (lv' := [(1, .ref q0), (0, .ref b)]) hx hb (show decode code 7 = .ok (.astore_n 1, 1) by decide +kernel) rfl hl (by decide) rfl (fun ls hl => ?_)
  refine mk_new X hl.1 hH (i_X7 l aS dA D) (by decide) ⟨by decide +kernel, by decide +kernel, by decide +kernel⟩ law_w.2.2.1 iwX7.1 iwX7.2.1 cwiX7 iwX7.2.2 (Or.inl law_w.2.2.2) fsX7_ok ⟨by decide +kernel, by decide +kernel⟩ (Nat.le_of_ble_eq_true rfl) (Nat.le_of_ble_eq_true rfl) (Nat.le_of_ble_eq_true rfl) (Nat.le_of_ble_eq_true rfl) (Nat.le_of_ble_eq_true rfl) (show decode code 8 = .ok (.new 10, 3) by decide +kernel) (show decode code 11 = .ok (.dup, 1) by decide +kernel) (show decode code 12 = .ok (.invokespecial 12, 3) by decide +kernel) (fun q1 v H locs hv hH => ?_)
  refine lv_astore_n (lv' := [(2, .ref q1), (1, .ref q0), (0, .ref b)]) hx hb (show decode code 15 = .ok (.astore_n 2, 1) by decide +kernel) rfl hl (by decide) rfl (fun ls hl => ?_)
  refine lv_iconst (v := 0) hx hb (show decode code 16 = .ok (.iconst 0, 1) by decide +kernel) (by decide) ?_
  refine lv_istore_n (lv' := [(3, .int 0), (2, .ref q1), (1, .ref q0), (0, .ref b)]) hx hb (show decode code 17 = .ok (.istore_n 3, 1) by decide +kernel) rfl hl (by decide) rfl (fun ls hl => ?_)
  exact law_sim l hL C0 hb3 hK hF hH hl
