/-! the words of the JDK that isWord needs (printed by wip/gen/jdkw.py) -/
theorem jw_in_len : Cond.instanceMethod yJ0_length_8abf5 ∈ tblG := wAt_mem (pl := 390) (by decide +kernel)
theorem jw_se_len : Cond.selects RJ0 yJ0_length_8abf5 yJ0_length_8abf5 ∈ tblG := wAt_mem (pl := 391) (by decide +kernel)
theorem jw_in_chr : Cond.instanceMethod yJ0_charAt_5068e ∈ tblG := wAt_mem (pl := 400) (by decide +kernel)
theorem jw_se_chr : Cond.selects RJ0 yJ0_charAt_5068e yJ0_charAt_5068e ∈ tblG := wAt_mem (pl := 401) (by decide +kernel)
theorem jw_in_cod : Cond.instanceMethod yJ0_coder_7d493 ∈ tblG := wAt_mem (pl := 394) (by decide +kernel)
theorem jw_se_cod : Cond.selects RJ0 yJ0_coder_7d493 yJ0_coder_7d493 ∈ tblG := wAt_mem (pl := 395) (by decide +kernel)
theorem jw_in_lat : Cond.instanceMethod yJ0_isLatin1_aae02 ∈ tblG := wAt_mem (pl := 404) (by decide +kernel)
theorem jw_se_lat : Cond.selects RJ0 yJ0_isLatin1_aae02 yJ0_isLatin1_aae02 ∈ tblG := wAt_mem (pl := 405) (by decide +kernel)
theorem jw_st_chk : Cond.static yJ0_checkIndex_df160 ∈ tblG := wAt_mem (pl := 411) (by decide +kernel)
theorem jw_st_ch1 : Cond.static yJ1_charAt_3b067 ∈ tblG := wAt_mem (pl := 408) (by decide +kernel)
theorem jw_st_ck3 : Cond.static yJ3_checkIndex_8e157 ∈ tblG := wAt_mem (pl := 416) (by decide +kernel)
theorem jw_co_len : Cond.code yJ0_length_8abf5 cJ0_length_8abf5 1 (some .int) ∈ tblG := wAt_mem (pl := 392) (by decide +kernel)
theorem jw_co_chr : Cond.code yJ0_charAt_5068e cJ0_charAt_5068e 2 (some .char) ∈ tblG := wAt_mem (pl := 402) (by decide +kernel)
theorem jw_co_cod : Cond.code yJ0_coder_7d493 cJ0_coder_7d493 1 (some .byte) ∈ tblG := wAt_mem (pl := 396) (by decide +kernel)
theorem jw_co_lat : Cond.code yJ0_isLatin1_aae02 cJ0_isLatin1_aae02 1 (some .boolean) ∈ tblG := wAt_mem (pl := 406) (by decide +kernel)
theorem jw_co_chk : Cond.code yJ0_checkIndex_df160 cJ0_checkIndex_df160 2 none ∈ tblG := wAt_mem (pl := 412) (by decide +kernel)
theorem jw_co_ch1 : Cond.code yJ1_charAt_3b067 cJ1_charAt_3b067 2 (some .char) ∈ tblG := wAt_mem (pl := 409) (by decide +kernel)
theorem jw_co_ck3 : Cond.code yJ3_checkIndex_8e157 cJ3_checkIndex_8e157 3 (some .int) ∈ tblG := wAt_mem (pl := 417) (by decide +kernel)
theorem jw_ml_len : Cond.methodLink RX3 27 yJ0_length_8abf5 ∈ tblG := wAt_mem (pl := 389) (by decide +kernel)
theorem jw_ml_chr : Cond.methodLink RX3 32 yJ0_charAt_5068e ∈ tblG := wAt_mem (pl := 399) (by decide +kernel)
theorem jw_ml_cod : Cond.methodLink RJ0 335 yJ0_coder_7d493 ∈ tblG := wAt_mem (pl := 393) (by decide +kernel)
theorem jw_ml_lat : Cond.methodLink RJ0 492 yJ0_isLatin1_aae02 ∈ tblG := wAt_mem (pl := 403) (by decide +kernel)
theorem jw_ml_ch1 : Cond.methodLink RJ0 495 yJ1_charAt_3b067 ∈ tblG := wAt_mem (pl := 407) (by decide +kernel)
theorem jw_ml_chk : Cond.methodLink RJ1 9 yJ0_checkIndex_df160 ∈ tblG := wAt_mem (pl := 410) (by decide +kernel)
theorem jw_ml_ck3 : Cond.methodLink RJ0 1059 yJ3_checkIndex_8e157 ∈ tblG := wAt_mem (pl := 415) (by decide +kernel)
theorem jw_fl_val : Cond.fieldLink RJ0 9 "java/lang/String" "value" "[B" ∈ tblG := wAt_mem (pl := 1228) (by decide +kernel)
theorem jw_fl_com : Cond.fieldLink RJ0 38 "java/lang/String" "COMPACT_STRINGS" "Z" ∈ tblG := wAt_mem (pl := 397) (by decide +kernel)
theorem jw_fl_cdr : Cond.fieldLink RJ0 15 "java/lang/String" "coder" "B" ∈ tblG := wAt_mem (pl := 1229) (by decide +kernel)
theorem jw_fl_sio : Cond.fieldLink RJ0 1053 "jdk/internal/util/Preconditions" "SIOOBE_FORMATTER" "Ljava/util/function/BiFunction;" ∈ tblG := wAt_mem (pl := 413) (by decide +kernel)
theorem jw_ini_J0 : Cond.initialized RJ0 ∈ tblG := wAt_mem (pl := 72) (by decide +kernel)
theorem jw_ini_J1 : Cond.initialized RJ1 ∈ tblG := wAt_mem (pl := 73) (by decide +kernel)
theorem jw_ini_J3 : Cond.initialized RJ3 ∈ tblG := wAt_mem (pl := 74) (by decide +kernel)
/-- what the JDK's methods of a String constant read -/
def StJ (adK adV : Nat → Nat) (A : Nat → Prop) (U : State) : Prop := vk_S 8 lenS bytS adK adV A U U.heap ∧ va_Z "java/lang/String" "COMPACT_STRINGS" "Z" (.int 1) A U U.heap ∧ va_Zq "jdk/internal/util/Preconditions" "SIOOBE_FORMATTER" "Ljava/util/function/BiFunction;" A U U.heap
theorem StJ.go {adK adV : Nat → Nat} {A B : Nat → Prop} {s : State} {H : Heap} {locs : List Loc} (h : StJ adK adV A s) (hS : va_S A s.heap H locs) (hn : ∀ q, B q → A q) {U : State} (hU : U.heap = H) (hW : s.WarmedH U.vm) : StJ adK adV B U := by
  obtain ⟨h1, h2, h3⟩ := h
  refine ⟨?_, ?_, ?_⟩
  · rw [hU]
    exact ((h1.kept (H1 := H) hS.2.1).narrow hn).moved hW.alike
  · rw [hU]
    exact ((h2.kept (H1 := H) hS.2.1).narrow hn).moved hW.alike
  · rw [hU]
    exact ((h3.kept (H1 := H) hS.2.1).narrow hn).moved hW.alike
def PcJ (adK adV : Nat → Nat) (As : List Value) (sz : Nat) : Array Value → State → Prop := va_Pc As (fun U => U.heap.size = sz ∧ StJ adK adV (fun q => sz ≤ q) U)
def QcJ (v : Option Value) (sz : Nat) : Array Value → State → Outcome → State → Prop := fun _ st oc t => oc = .returned v ∧ va_F (fun q => sz ≤ q) st t
def MetJ (l : Launch) (adK adV : Nat → Nat) (y : MethodName) (cc : ByteArray) (mx : Nat) (rt : Option FieldType) (rm : Room) (As : List Value) (v : Option Value) : Prop := ∀ sz : Nat, Met l y (.code y cc mx rt :: tblG) rm (PcJ adK adV As sz) (QcJ v sz) 0 0 (fun q => sz ≤ q)
theorem PcJ_blind {adK adV : Nat → Nat} {As : List Value} {sz : Nat} : FrameBlind (PcJ adK adV As sz) := by
  intro a U g mk q
  obtain ⟨q0, q1, q2, q3, q4⟩ := q
  exact ⟨q0, q1, vk_S.moved (u := U) (U := U.calling g mk a) (Vm.Alike.refl U.vm) q2, va_Z.moved (u := U) (U := U.calling g mk a) (Vm.Alike.refl U.vm) q3, va_Zq.moved (u := U) (U := U.calling g mk a) (Vm.Alike.refl U.vm) q4⟩
section Jdk
variable {l : Launch} {adK adV : Nat → Nat}
variable {p : Program} {e : Env} {R : Room} {s : State} {m : MethodId} {args : Array Value} {below : List Frame} {meth : Method} {c : Code} {cells slots : Nat} {Q : State → Prop}
variable {A : Nat → Prop} {own : String} {nL : Nat} {cc : ByteArray} {H : Heap} {locs : List Loc} {ls : Array Slot} {rest : List Value} {pc : Nat}
/-- where such a method runs -/
def Cj (adK adV : Nat → Nat) (A : Nat → Prop) (own : String) (nL : Nat) (cc : ByteArray) (p : Program) (s : State) (m : MethodId) (args : Array Value) (c : Code) : Prop :=
  p.tables.exec = Jvm.exec ∧ c.code = cc ∧ c.maxLocals = nL ∧ s.vm.findClass own = some m.cls ∧ (∀ w ∈ tblG, w.before args s = true) ∧ StJ adK adV A s ∧ (∀ q : Nat, s.heap.size ≤ q → A q)
theorem callJ {st0 : List Value} {a : Array Value} {v : Option Value} (hA : ∀ q : Nat, s.heap.size ≤ q → A q) (hS : va_S A s.heap H locs)
    (hr : va_Run p l e R s m args below meth c H locs cells slots 0 0 (F0 m pc ls st0) rest (QcJ v H.size a) (fun q => H.size ≤ q))
    (kk : ∀ (H1 : Heap) (locs1 : List Loc), va_S A s.heap H1 locs1 → H.size ≤ H1.size → (∀ q : Nat, q < H.size → H1[q]? = H[q]?) → W p l e R s m args below meth c H1 locs1 cells slots Q (F0 m (pc + 3) ls (v.toList ++ rest))) : W p l e R s m args below meth c H locs cells slots Q (F0 m pc ls st0) := by
  intro T hT X
  obtain ⟨v1, st₀, t, T', L, h0, X', hL, e1, e2, ⟨hv, hz, hk⟩, st⟩ := hr T hT X
  simp only [Outcome.returned.injEq] at hv
  subst hv
  rw [h0] at hz hk
  have hk1 : ∀ q : Nat, q < H.size → T'.heap[q]? = H[q]? := fun q hq => by rw [e1]; exact hk q hq (by omega)
  have hz1 : H.size ≤ T'.heap.size := by rw [e1]; exact hz
  obtain ⟨t2, a1, b1⟩ := kk T'.heap (locs ++ L) ⟨Nat.le_trans hS.1 hz1, fun q h1 h2 => by rw [hk1 q (Nat.lt_of_lt_of_le h1 hS.1)]; exact hS.2.1 q h1 h2, fun q hq => by
      rcases List.mem_append.mp hq with h | h
      · exact hS.2.2 q h
      · exact hA _ (Nat.le_trans hS.1 (hL q h))⟩ hz1 hk1 T' rfl X'
  exact ⟨t2, st t2 a1, b1⟩
theorem MetJ_of {y : MethodName} {mx : Nat} {rt : Option FieldType} {rm : Room} {As : List Value} {v : Option Value} (hn : plainName y.cls = true) (hl : (lg_sl As).length ≤ mx)
    (kk : ∀ (p : Program) (e : Env) (s : State) (m : MethodId) (below : List Frame) (meth : Method) (c : Code) (ls : Array Slot), Cj adK adV (fun q => s.heap.size ≤ q) y.cls mx cc p s m As.toArray c → meth.sig.returnType = rt → meth.locks = false → lv_has ls mx (lv_args 0 As) → va_S (fun q => s.heap.size ≤ q) s.heap s.heap [] → W p l e rm s m As.toArray below meth c s.heap [] 0 0 (MQ below (QcJ v s.heap.size) As.toArray s 0 0 (fun q => s.heap.size ≤ q)) (F0 m 0 ls [])) : MetJ l adK adV y cc mx rt rm As v := by
  intro sz
  refine Met.ofW (cc := cc) (maxL := mx) (ret := rt) hn rfl ?_
  intro p e s m args below meth c s₁ B hml hv
  obtain ⟨rfl, hsz, hSt⟩ := hv
  subst hsz
  have hts := atoms_spec (ws := .code y cc mx rt :: tblG) B.pre
  have hown : s.vm.findClass y.cls = some m.cls := findClass_of_methodNamed B.named
  have h0 := lv_entry As (n := mx) hl
  rw [lg_entry_eq]
  exact kk p e s m below meth c _ ⟨B.exec, B.bytes, hml, hown, fun w hw => hts w (List.mem_cons_of_mem _ hw), hSt, fun q h => h⟩ B.returns B.notSynchronized h0 va_S.rf
/-- a virtual call of a String's method -/
theorem jV (X : Cj adK adV A own nL cc p s m args c) (hS : va_S A s.heap H locs) {y : MethodName} {yb : ByteArray} {mx n x i : Nat} {rt : Option FieldType} {rm : Room} {As : List Value} {v : Option Value} (hC : MetJ l adK adV y yb mx rt rm (.ref (adK i) :: As) v) (hi : i < 8) (hy : y.cls = RJ0) (h1 : Cond.methodLink own x y ∈ tblG) (h2 : Cond.instanceMethod y ∈ tblG) (h3 : Cond.selects RJ0 y y ∈ tblG) (h4 : Cond.code y yb mx rt ∈ tblG)
    (hd0 : (parseMethodDescriptor y.desc).map (fun d => d.parameters.length) = some n) (hrc : rm.cells = 0) (hrs : rm.slots = 0) (hfr : rm.frames + 1 ≤ R.frames) (hlo : 8 + (mx + 11) + rm.locals ≤ R.locals) (hn : As.length = n) (hls : ls.size = nL) (hcat : (rest.map fun v => v.category).sum ≤ 8) (hd : decode cc pc = .ok (.invokevirtual x, 3)) (hc : cells ≤ R.cells) (hsl : slots ≤ R.slots)
    (kk : ∀ (H1 : Heap) (locs1 : List Loc), va_S A s.heap H1 locs1 → H.size ≤ H1.size → (∀ q : Nat, q < H.size → H1[q]? = H[q]?) → W p l e R s m args below meth c H1 locs1 cells slots Q (F0 m (pc + 3) ls (v.toList ++ rest))) : W p l e R s m args below meth c H locs cells slots Q (F0 m pc ls (As.reverse ++ .ref (adK i) :: rest)) := by
  obtain ⟨hx, hb, hml, hown, hts, hSt, hA⟩ := X
  refine callJ hA hS (va_runV (C := RJ0) (As := As) (rest := rest) (b := adK i) (n := n) ⟨hx, hb, hml, hown, hts⟩ (hC H.size) (cwV (C := RJ0) (bytes := yb) (maxL := mx) (ret := rt) (ws' := tblG) n hts (goodG (fun w hw => ?_)) rfl hrc hrs ⟨hy, by rw [hy]; decide, by rw [hy]; decide, hd0⟩ ⟨hfr, hlo⟩) ⟨PcJ_blind, vk_recv hSt.1 hi hS, fun U hU hW => ⟨rfl, by rw [hU], hSt.go hS (fun q h => hA q (Nat.le_trans hS.1 h)) hU hW⟩⟩ rfl hn hls rfl (lv_room hcat) hd ⟨hc, hsl⟩) kk
  rcases List.mem_append.mp hw with h | h
  · simp only [List.mem_cons, List.not_mem_nil, or_false] at h
    rcases h with rfl | rfl | rfl | rfl
    · exact h1
    · exact h2
    · exact h3
    · exact jw_ini_J0
  · rcases List.mem_cons.mp h with rfl | h
    · exact h4
    · exact h
/-- a static call of the JDK's -/
theorem jS (X : Cj adK adV A own nL cc p s m args c) (hS : va_S A s.heap H locs) {y : MethodName} {yb : ByteArray} {mx n x : Nat} {rt : Option FieldType} {rm : Room} {As : List Value} {v : Option Value} (hC : MetJ l adK adV y yb mx rt rm As v) (hy : y.cls ≠ "java/lang/invoke/MethodHandle" ∧ y.cls ≠ "java/lang/invoke/VarHandle") (h1 : Cond.methodLink own x y ∈ tblG) (h2 : Cond.static y ∈ tblG) (h3 : Cond.initialized y.cls ∈ tblG) (h4 : Cond.code y yb mx rt ∈ tblG)
    (hd0 : (parseMethodDescriptor y.desc).map (fun d => d.parameters.length) = some n) (hrc : rm.cells = 0) (hrs : rm.slots = 0) (hfr : rm.frames + 1 ≤ R.frames) (hlo : 8 + (mx + 11) + rm.locals ≤ R.locals) (hn : As.length = n) (hls : ls.size = nL) (hcat : (rest.map fun v => v.category).sum ≤ 8) (hd : decode cc pc = .ok (.invokestatic x, 3)) (hc : cells ≤ R.cells) (hsl : slots ≤ R.slots)
    (kk : ∀ (H1 : Heap) (locs1 : List Loc), va_S A s.heap H1 locs1 → H.size ≤ H1.size → (∀ q : Nat, q < H.size → H1[q]? = H[q]?) → W p l e R s m args below meth c H1 locs1 cells slots Q (F0 m (pc + 3) ls (v.toList ++ rest))) : W p l e R s m args below meth c H locs cells slots Q (F0 m pc ls (As.reverse ++ rest)) := by
  obtain ⟨hx, hb, hml, hown, hts, hSt, hA⟩ := X
  refine callJ hA hS (va_runS (As := As) (rest := rest) (n := n) ⟨hx, hb, hml, hown, hts⟩ (hC H.size) (va_cwS (bytes := yb) (maxL := mx) (ret := rt) (ws' := tblG) n hts (goodG (fun w hw => ?_)) rfl hrc hrs ⟨hy.1, hy.2, hd0⟩ ⟨hfr, hlo⟩) ⟨PcJ_blind, fun U hU hW => ⟨rfl, by rw [hU], hSt.go hS (fun q h => hA q (Nat.le_trans hS.1 h)) hU hW⟩⟩ rfl hn hls rfl (lv_room hcat) hd ⟨hc, hsl⟩) kk
  rcases List.mem_append.mp hw with h | h
  · simp only [List.mem_cons, List.not_mem_nil, or_false] at h
    rcases h with rfl | rfl | rfl
    · exact h1
    · exact h2
    · exact h3
  · rcases List.mem_cons.mp h with rfl | h
    · exact h4
    · exact h
def rj0 : Room := { frames := 0, cells := 0, slots := 0, locals := 0 }
/-- coder() -/
theorem c_coder {i : Nat} (hi : i < 8) : MetJ l adK adV yJ0_coder_7d493 cJ0_coder_7d493 1 (some .byte) rj0 [.ref (adK i)] (some (.int 0)) := by
  refine MetJ_of (by decide +kernel) (show (lg_sl _).length ≤ 1 from Nat.le_refl 1) (fun p e s m below meth c ls X hr hlk hl hS => ?_)
  obtain ⟨hx, hb, hml, hown, hts, hSt, hA⟩ := X
  refine va_gets (C := "java/lang/String") (n := "COMPACT_STRINGS") (d := "Z") (v := .int 1) hx hb hSt.2.1 hS hown (hts _ jw_fl_com) (fun _ h9 => h9) (by decide +kernel) ?_
  refine lv_if_eq (tgt := 13) (off := 10) hx hb (by decide +kernel) (by decide) (fun h => absurd h (by decide)) (fun _ => ?_)
  refine lv_aload_n hx hb (pc := 6) (k := 0) (by decide +kernel) rfl (lv_at hl 0 rfl) ?_
  refine vk_getf (v := .int 0) hx hb (hSt.1.1 i hi).2.1 hS hown (hts _ jw_fl_cdr) (fun _ h9 => h9) (by decide +kernel) ?_
  refine lv_goto (tgt := 14) (off := 4) hx hb (by decide +kernel) (by decide) ?_
  exact W.zret hx hb hr (by decide +kernel) (fun t ht _ => ⟨rfl, hS.F ht⟩) hS.2.2 (by decide +kernel)
/-- isLatin1() -/
theorem c_latin {i : Nat} (hi : i < 8) : MetJ l adK adV yJ0_isLatin1_aae02 cJ0_isLatin1_aae02 1 (some .boolean) rj0 [.ref (adK i)] (some (.int 1)) := by
  refine MetJ_of (by decide +kernel) (show (lg_sl _).length ≤ 1 from Nat.le_refl 1) (fun p e s m below meth c ls X hr hlk hl hS => ?_)
  obtain ⟨hx, hb, hml, hown, hts, hSt, hA⟩ := X
  refine va_gets (C := "java/lang/String") (n := "COMPACT_STRINGS") (d := "Z") (v := .int 1) hx hb hSt.2.1 hS hown (hts _ jw_fl_com) (fun _ h9 => h9) (by decide +kernel) ?_
  refine lv_if_eq (tgt := 17) (off := 14) hx hb (by decide +kernel) (by decide) (fun h => absurd h (by decide)) (fun _ => ?_)
  refine lv_aload_n hx hb (pc := 6) (k := 0) (by decide +kernel) rfl (lv_at hl 0 rfl) ?_
  refine vk_getf (v := .int 0) hx hb (hSt.1.1 i hi).2.1 hS hown (hts _ jw_fl_cdr) (fun _ h9 => h9) (by decide +kernel) ?_
  refine lv_if_ne (tgt := 17) (off := 7) hx hb (by decide +kernel) (by decide) (fun h => absurd rfl h) (fun _ => ?_)
  refine lv_iconst (v := 1) hx hb (pc := 13) (n := 1) (by decide +kernel) (by decide) ?_
  refine lv_goto (tgt := 18) (off := 4) hx hb (by decide +kernel) (by decide) ?_
  exact W.zret hx hb hr (by decide +kernel) (fun t ht _ => ⟨rfl, hS.F ht⟩) hS.2.2 (by decide +kernel)
def rj1 : Room := { frames := 1, cells := 0, slots := 0, locals := 22 }
def rj2 : Room := { frames := 2, cells := 0, slots := 0, locals := 43 }
def rj3 : Room := { frames := 3, cells := 0, slots := 0, locals := 64 }
theorem sh0 {n : Nat} (h : n < 2 ^ 31) : nI n >>> ((0 : Int32) &&& 31) = nI n := by
  rw [pk_shrN h _ 0 (by decide)]
  simp
theorem len_lt : ∀ i, i < 8 → lenS.getD i 0 < 8 := by decide
/-- length() -/
theorem c_length {i : Nat} (hi : i < 8) : MetJ l adK adV yJ0_length_8abf5 cJ0_length_8abf5 1 (some .int) rj1 [.ref (adK i)] (some (.int (nI (lenS.getD i 0)))) := by
  refine MetJ_of (by decide +kernel) (show (lg_sl _).length ≤ 1 from Nat.le_refl 1) (fun p e s m below meth c ls X hr hlk hl hS => ?_)
  obtain ⟨hx, hb, hml, hown, hts, hSt, hA⟩ := id X
  refine lv_aload_n hx hb (pc := 0) (k := 0) (by decide +kernel) rfl (lv_at hl 0 rfl) ?_
  refine vk_getf (v := .ref (adV i)) hx hb (hSt.1.1 i hi).2.2.1 hS hown (hts _ jw_fl_val) (fun _ h9 => h9) (by decide +kernel) ?_
  refine va_tlen hx hb (hSt.1.1 i hi).2.2.2 hS (v := nI (lenS.getD i 0)) rfl (by decide +kernel) ?_
  refine lv_aload_n hx hb (pc := 5) (k := 0) (by decide +kernel) rfl (lv_at hl 0 rfl) ?_
  refine jV (As := []) X hS (c_coder hi) hi rfl jw_ml_cod jw_in_cod jw_se_cod jw_co_cod (n := 0) (by decide +kernel) rfl rfl (by decide) (by decide) rfl hl.1 (Nat.le_of_ble_eq_true rfl) (by decide +kernel) (Nat.zero_le _) (Nat.zero_le _) (fun H1 locs1 hS _ _ => ?_)
  refine lv_ishr hx hb (by decide +kernel) ?_
  rw [sh0 (by have := len_lt i hi; omega)]
  exact W.iret hx hb hr (fun t ht _ => ⟨rfl, hS.F ht⟩) hS.2.2 (by decide +kernel)
/-- Preconditions.checkIndex, the index in bounds -/
theorem c_check3 {k n : Nat} {w : Value} (hk : k < n) (hn : n < 2 ^ 31) (hw : w = .null ∨ ∃ a, w = .ref a) : MetJ l adK adV yJ3_checkIndex_8e157 cJ3_checkIndex_8e157 3 (some .int) rj0 [.int (nI k), .int (nI n), w] (some (.int (nI k))) := by
  refine MetJ_of (by decide +kernel) (by rcases hw with rfl | ⟨a, rfl⟩ <;> exact Nat.le_refl 3) (fun p e s m below meth c ls X hr hlk hl hS => ?_)
  obtain ⟨hx, hb, hml, hown, hts, hSt, hA⟩ := id X
  have hl0 : ls[0]? = some (.val (.int (nI k))) := lv_at hl 0 rfl
  have hl1 : ls[1]? = some (.val (.int (nI n))) := lv_at hl 1 rfl
  refine lv_iload_n hx hb (pc := 0) (k := 0) (by decide +kernel) rfl hl0 ?_
  refine lv_if_lt (tgt := 9) (off := 8) hx hb (by decide +kernel) (by decide) (fun h => absurd h (nI_pos (by omega))) (fun _ => ?_)
  refine lv_iload_n hx hb (pc := 4) (k := 0) (by decide +kernel) rfl hl0 ?_
  refine lv_iload_n hx hb (pc := 5) (k := 1) (by decide +kernel) rfl hl1 ?_
  refine lv_icmp_lt (tgt := 16) (off := 10) hx hb (by decide +kernel) (by decide) (fun _ => ?_) (fun h => absurd (nI_lt hk hn) h)
  refine lv_iload_n hx hb (pc := 16) (k := 0) (by decide +kernel) rfl hl0 ?_
  exact W.iret hx hb hr (fun t ht _ => ⟨rfl, hS.F ht⟩) hS.2.2 (by decide +kernel)
/-- String.checkIndex, the index in bounds -/
theorem c_check {k n : Nat} (hk : k < n) (hn : n < 2 ^ 31) : MetJ l adK adV yJ0_checkIndex_df160 cJ0_checkIndex_df160 2 none rj1 [.int (nI k), .int (nI n)] none := by
  refine MetJ_of (by decide +kernel) (by exact Nat.le_refl 2) (fun p e s m below meth c ls X hr hlk hl hS => ?_)
  obtain ⟨hx, hb, hml, hown, hts, hSt, hA⟩ := id X
  have hl0 : ls[0]? = some (.val (.int (nI k))) := lv_at hl 0 rfl
  have hl1 : ls[1]? = some (.val (.int (nI n))) := lv_at hl 1 rfl
  refine lv_iload_n hx hb (pc := 0) (k := 0) (by decide +kernel) rfl hl0 ?_
  refine lv_iload_n hx hb (pc := 1) (k := 1) (by decide +kernel) rfl hl1 ?_
  have hz : ∃ w : Value, (w = .null ∨ ∃ a, w = .ref a) ∧ va_Z "jdk/internal/util/Preconditions" "SIOOBE_FORMATTER" "Ljava/util/function/BiFunction;" w (fun q => s.heap.size ≤ q) s s.heap := by
    rcases hSt.2.2 with h | ⟨a, h⟩
    · exact ⟨_, Or.inl rfl, h⟩
    · exact ⟨_, Or.inr ⟨a, rfl⟩, h⟩
  obtain ⟨w, hw, hz⟩ := hz
  refine va_gets (v := w) hx hb hz hS hown (hts _ jw_fl_sio) (fun _ h9 => h9) (by decide +kernel) ?_
  refine jS (As := [.int (nI k), .int (nI n), w]) (rest := []) X hS (c_check3 hk hn hw) (by decide) jw_ml_ck3 jw_st_ck3 jw_ini_J3 jw_co_ck3 (n := 3) (by decide +kernel) rfl rfl (by decide) (by decide) rfl hl.1 (by decide) (by decide +kernel) (Nat.zero_le _) (Nat.zero_le _) (fun H1 locs1 hS _ _ => ?_)
  refine lv_pop hx hb (by decide +kernel) rfl ?_
  exact W.vret hx hb hr (fun t ht _ => ⟨rfl, hS.F ht⟩) hS.2.2 (by decide +kernel)
/-- the letter at k -/
def chS (i k : Nat) : Int32 := (bytS.getD i []).getD k 0
theorem ch_ok : ∀ i, i < 8 → ∀ k, k < 8 → (((chS i k) &&& 255).toUInt32 % 65536).toInt32 = chS i k ∧ narrow .char (.int (chS i k)) = .int (chS i k) := by decide +kernel
/-- StringLatin1.charAt -/
theorem c_char1 {i k : Nat} (hi : i < 8) (hk : k < lenS.getD i 0) : MetJ l adK adV yJ1_charAt_3b067 cJ1_charAt_3b067 2 (some .char) rj2 [.ref (adV i), .int (nI k)] (some (.int (chS i k))) := by
  have h8 := len_lt i hi
  refine MetJ_of (by decide +kernel) (by exact Nat.le_refl 2) (fun p e s m below meth c ls X hr hlk hl hS => ?_)
  obtain ⟨hx, hb, hml, hown, hts, hSt, hA⟩ := id X
  have hl0 : ls[0]? = some (.val (.ref (adV i))) := lv_at hl 0 rfl
  have hl1 : ls[1]? = some (.val (.int (nI k))) := lv_at hl 1 rfl
  refine lv_iload_n hx hb (pc := 0) (k := 1) (by decide +kernel) rfl hl1 ?_
  refine lv_aload_n hx hb (pc := 1) (k := 0) (by decide +kernel) rfl hl0 ?_
  refine va_tlen hx hb (hSt.1.1 i hi).2.2.2 hS (v := nI (lenS.getD i 0)) rfl (by decide +kernel) ?_
  refine jS (As := [.int (nI k), .int (nI (lenS.getD i 0))]) (rest := []) X hS (c_check hk (by omega)) (by decide) jw_ml_chk jw_st_chk jw_ini_J0 jw_co_chk (n := 2) (by decide +kernel) rfl rfl (by decide) (by decide) rfl hl.1 (by decide) (by decide +kernel) (Nat.zero_le _) (Nat.zero_le _) (fun H1 locs1 hS _ _ => ?_)
  refine lv_aload_n hx hb (pc := 6) (k := 0) (by decide +kernel) rfl hl0 ?_
  refine lv_iload_n hx hb (pc := 7) (k := 1) (by decide +kernel) rfl hl1 ?_
  refine va_tb (v := .int (chS i k)) hx hb (hSt.1.1 i hi).2.2.2 hS (vp_in_nI hk (by omega)) (by rw [nI_clamp (by omega)]; rfl) (by decide +kernel) ?_
  refine lv_sipush (v := 255) hx hb (pc := 9) (n := 255) (by decide +kernel) (by decide) ?_
  refine lv_iand hx hb (by decide +kernel) ?_
  obtain ⟨c1, c2⟩ := ch_ok i hi k (by omega)
  refine lv_i2c (v := chS i k) hx hb (by decide +kernel) c1 ?_
  exact W.zret hx hb hr c2 (fun t ht _ => ⟨rfl, hS.F ht⟩) hS.2.2 (by decide +kernel)
/-- charAt -/
theorem c_char {i k : Nat} (hi : i < 8) (hk : k < lenS.getD i 0) : MetJ l adK adV yJ0_charAt_5068e cJ0_charAt_5068e 2 (some .char) rj3 [.ref (adK i), .int (nI k)] (some (.int (chS i k))) := by
  have h8 := len_lt i hi
  refine MetJ_of (by decide +kernel) (by exact Nat.le_refl 2) (fun p e s m below meth c ls X hr hlk hl hS => ?_)
  obtain ⟨hx, hb, hml, hown, hts, hSt, hA⟩ := id X
  have hl0 : ls[0]? = some (.val (.ref (adK i))) := lv_at hl 0 rfl
  have hl1 : ls[1]? = some (.val (.int (nI k))) := lv_at hl 1 rfl
  refine lv_aload_n hx hb (pc := 0) (k := 0) (by decide +kernel) rfl hl0 ?_
  refine jV (As := []) X hS (c_latin hi) hi rfl jw_ml_lat jw_in_lat jw_se_lat jw_co_lat (n := 0) (by decide +kernel) rfl rfl (by decide) (by decide) rfl hl.1 (by decide) (by decide +kernel) (Nat.zero_le _) (Nat.zero_le _) (fun H1 locs1 hS _ _ => ?_)
  refine lv_if_eq (tgt := 16) (off := 12) hx hb (by decide +kernel) (by decide) (fun h => absurd h (by decide)) (fun _ => ?_)
  refine lv_aload_n hx hb (pc := 7) (k := 0) (by decide +kernel) rfl hl0 ?_
  refine vk_getf (v := .ref (adV i)) hx hb (hSt.1.1 i hi).2.2.1 hS hown (hts _ jw_fl_val) (fun _ h9 => h9) (by decide +kernel) ?_
  refine lv_iload_n hx hb (pc := 11) (k := 1) (by decide +kernel) rfl hl1 ?_
  refine jS (As := [.ref (adV i), .int (nI k)]) (rest := []) X hS (c_char1 hi hk) (by decide) jw_ml_ch1 jw_st_ch1 jw_ini_J1 jw_co_ch1 (n := 2) (by decide +kernel) rfl rfl (by decide) (by decide) rfl hl.1 (by decide) (by decide +kernel) (Nat.zero_le _) (Nat.zero_le _) (fun H1 locs1 hS _ _ => ?_)
  exact W.zret hx hb hr (ch_ok i hi k (by omega)).2 (fun t ht _ => ⟨rfl, hS.F ht⟩) hS.2.2 (by decide +kernel)
end Jdk
