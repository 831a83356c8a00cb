/-! THE SIMULATION: what the small machine does, the JVM does. -/
/-- is mini instruction i what stands at pc -/
def okI (own fr lo pc : Nat) (i raw : ClassFile.Instr) (len : Nat) : Bool := match i with
  | .sipush n => (match raw with
    | .iconst k => decide (len = 1 ∧ Int32.ofInt k = Int32.ofInt n)
    | .bipush k => decide (len = 2 ∧ (Int8.ofInt k).toInt32 = Int32.ofInt n)
    | .sipush k => decide (len = 3 ∧ (Int16.ofInt k).toInt32 = Int32.ofInt n)
    | .ldc k => decide (len = 2) && intTab.any (fun q => decide (q.1 = own ∧ q.2.1 = k ∧ q.2.2.1 = n))
    | .ldc_w k => decide (len = 3) && intTab.any (fun q => decide (q.1 = own ∧ q.2.1 = k ∧ q.2.2.1 = n))
    | _ => false)
  | .jsr n => (match raw with
    | .lconst k => decide (len = 1 ∧ Int64.ofNat (k : Nat) = Int64.ofInt n)
    | .ldc2_w k => decide (len = 3) && longTab.any (fun q => decide (q.1 = own ∧ q.2.1 = k ∧ q.2.2.1 = n))
    | _ => false)
  | .getstatic o => (match raw with
    | .getstatic k => decide (len = 3) && statTab.any (fun q => decide (q.1 = own ∧ q.2.1 = k ∧ q.2.2.1 = o))
    | .ldc k => decide (len = 2) && strTab.any (fun q => decide (q.1 = own ∧ q.2.1 = k ∧ q.2.2 = o))
    | _ => false)
  | .iload j => (match raw with
    | .iload_n k => decide (len = 1 ∧ (k : Nat) = j)
    | .iload k => decide (len = 2 ∧ k = j)
    | _ => false)
  | .lload j => (match raw with
    | .lload_n k => decide (len = 1 ∧ (k : Nat) = j)
    | .lload k => decide (len = 2 ∧ k = j)
    | _ => false)
  | .aload j => (match raw with
    | .aload_n k => decide (len = 1 ∧ (k : Nat) = j)
    | .aload k => decide (len = 2 ∧ k = j)
    | _ => false)
  | .istore j => (match raw with
    | .istore_n k => decide (len = 1 ∧ (k : Nat) = j)
    | .istore k => decide (len = 2 ∧ k = j)
    | _ => false)
  | .lstore j => (match raw with
    | .lstore_n k => decide (len = 1 ∧ (k : Nat) = j)
    | .lstore k => decide (len = 2 ∧ k = j)
    | _ => false)
  | .astore j => (match raw with
    | .astore_n k => decide (len = 1 ∧ (k : Nat) = j)
    | .astore k => decide (len = 2 ∧ k = j)
    | _ => false)
  | .iinc j n => decide (raw = .iinc j n ∧ len = 3)
  | .getfield k => (match raw with
    | .getfield x => decide (len = 3) && fieldTab.any (fun q => decide (q.1 = own ∧ q.2.1 = x ∧ q.2.2.1 = k))
    | _ => false)
  | .putfield k => (match raw with
    | .putfield x => decide (len = 3) && fieldTab.any (fun q => decide (q.1 = own ∧ q.2.1 = x ∧ q.2.2.1 = k))
    | _ => false)
  | .monitorenter => (match raw with
    | .invokestatic x => decide (len = 3 ∧ 1 ≤ fr ∧ 60 ≤ lo) && copyTab.any (fun q => decide (q.1 = own ∧ q.2.1 = x))
    | _ => false)
  | .invokestatic z => (match raw with
    | .invokestatic x => decide (len = 3 ∧ mF z + 1 ≤ fr ∧ 8 + (mX z + 11) + mL z ≤ lo) && methTab.any (fun q => decide (q.1 = own ∧ q.2.1 = x ∧ q.2.2.1 = z ∧ q.2.2.2.1 = true))
    | _ => false)
  | .invokevirtual z => (match raw with
    | .invokevirtual x => decide (len = 3 ∧ mF z + 1 ≤ fr ∧ 8 + (mX z + 11) + mL z ≤ lo) && methTab.any (fun q => decide (q.1 = own ∧ q.2.1 = x ∧ q.2.2.1 = z ∧ q.2.2.2.1 = false))
    | _ => false)
  | .goto t => (match raw with
    | .goto off => decide (len = 3 ∧ (pc : Int) + off = t ∧ 0 ≤ t)
    | _ => false)
  | .ifCond c t => (match raw with
    | .ifCond c' off => decide (len = 3 ∧ c' = c ∧ (pc : Int) + off = t ∧ 0 ≤ t)
    | _ => false)
  | .if_icmp c t => (match raw with
    | .if_icmp c' off => decide (len = 3 ∧ c' = c ∧ (pc : Int) + off = t ∧ 0 ≤ t)
    | _ => false)
  | .tableswitch d lo hi offs => (match raw with
    | .tableswitch d' lo' hi' offs' => decide (lo' = lo ∧ hi' = hi ∧ (pc : Int) + d' = d ∧ 0 ≤ d ∧ offs.toList = offs'.toList.map (fun x => (pc : Int) + x) ∧ hi - lo + 1 = offs'.size ∧ ∀ x ∈ offs.toList, (0 : Int) ≤ x)
    | _ => false)
  | .lookupswitch d ps => (match raw with
    | .lookupswitch d' ps' => decide ((pc : Int) + d' = d ∧ 0 ≤ d ∧ ps.toList = ps'.toList.map (fun x => (x.1, (pc : Int) + x.2)) ∧ (ps'.toList.zip (ps'.toList.drop 1)).all (fun (a, next) => a.1 < next.1) = true ∧ ∀ x ∈ ps.toList, (0 : Int) ≤ x.2)
    | _ => false)
  | i => decide (raw = i ∧ len = 1)
def okL (own fr lo : Nat) (cc : ByteArray) : List ClassFile.Instr → Nat → Bool
  | [], _ => true
  | i :: is, pc => match i with
    | .goto_w t => decide (t = (pc : Int))
    | i => (match decode cc pc with
      | .ok (raw, len) => okI own fr lo pc i raw len && okL own fr lo cc is (pc + len)
      | .error _ => false)
def okM (own fr lo : Nat) (cc : ByteArray) (cd : List (Nat × List ClassFile.Instr)) : Bool := cd.all (fun q => okL own fr lo cc q.2 q.1)
def kOK (ci j t : Nat) : Bool := match t with
  | 0 => decide (((clE ci).2.1 j).2.2.1 = "I" ∧ ((clE ci).2.1 j).2.2.2 = false)
  | 1 => decide (((clE ci).2.1 j).2.2.1 = "J" ∧ ((clE ci).2.1 j).2.2.2 = false)
  | 2 => decide (((clE ci).2.1 j).2.2.1 = "Z" ∧ ((clE ci).2.1 j).2.2.2 = false)
  | _ => true
def shOK (sh : List ShE) : Bool := sh.all (fun e => match e with
  | .inl (ci, fs) => decide (ci < 8 ∧ fs.length = (clE ci).2.2) && fs.zipIdx.all (fun q => kOK ci q.2 q.1)
  | .inr (k, _, _) => decide (k < 4))
def tysL (dA : Nat → ClassId) : List (ClassId × FieldType) := [(dA 0, .int), (dA 1, .boolean), (dA 2, .object RX0), (dA 3, .object RX1)]
/-- what a method may change -/
def AA (sh : List ShE) (ad : Nat → Nat) (sz : Nat) (q : Nat) : Prop := (∃ k, k < sh.length ∧ q = ad k) ∨ sz ≤ q
/-- the String constants 2000 on: their lengths, their bytes -/
def lenS : List Nat := [7, 5, 5, 7, 5, 5, 4, 5]
def bytS : List (List Int32) := [[118, 105, 108, 108, 97, 103, 101], [112, 108, 97, 105, 110], [114, 105, 118, 101, 114], [97, 100, 111, 112, 116, 101, 100], [109, 105, 120, 101, 100], [112, 114, 105, 99, 101], [102, 105, 110, 101], [114, 111, 117, 110, 100]]
/-- static arrays and String constants -/
def StO (sh : List ShE) (tb : Nat → Option (List Int32)) (ad : Nat → Nat) (A : Nat → Prop) (U : State) : Prop :=
  (∀ (o : Nat) (T : List Int32), sh[o]? = none → tb o = some T → va_T .int (ad o) T.length (fun j => .int (T.getD j 0)) A U U.heap) ∧
  (∀ q ∈ statTab, va_Z "ProofFine" q.2.2.2.1 "[I" (.ref (ad q.2.2.1)) A U U.heap ∧ va_Nw (.fieldLinkNest (clsN q.1) q.2.1 "ProofFine" q.2.2.2.1 "[I" "ProofFine") U) ∧
  (∀ q ∈ strTab, ∃ tx, vk_R (clsN q.1) q.2.1 tx (ad q.2.2) U) ∧
  (∃ adV : Nat → Nat, vk_S 8 lenS bytS (fun i => ad (2000 + i)) adV A U U.heap) ∧ va_Z "java/lang/String" "COMPACT_STRINGS" "Z" (.int 1) A U U.heap ∧
  va_Zq "jdk/internal/util/Preconditions" "SIOOBE_FORMATTER" "Ljava/util/function/BiFunction;" A U U.heap
section Sim
variable {l : Launch} {sh : List ShE} {ad : Nat → Nat} {dA : Nat → ClassId} {D : va_G}
/-- a method's start: its arguments, the memory m0 -/
def PcZ (sh : List ShE) (ad : Nat → Nat) (dA : Nat → ClassId) (D : va_G) (As : List Value) (m0 : Mm) (sz : Nat) : Array Value → State → Prop := va_Pc (As.map (cv ad)) (fun U => U.heap.size = sz ∧ va_P D clsT (cellsW sh ad dA m0) U.heap ∧ va_K D clsT (tysL dA) U ∧ va_D (fun _ => True) (cellsW sh ad dA m0) ∧ StO sh tb0 ad (AA sh ad sz) U)
/-- its end -/
def QcZ (sh : List ShE) (ad : Nat → Nat) (dA : Nat → ClassId) (D : va_G) (r : Rs) (sz : Nat) : Array Value → State → Outcome → State → Prop := fun _ st oc t => (oc = .returned (r.1.map (cv ad)) ∧ va_P D clsT (cellsW sh ad dA r.2) t.heap) ∧ va_F (AA sh ad sz) st t
def MetZ (l : Launch) (sh : List ShE) (ad : Nat → Nat) (dA : Nat → ClassId) (D : va_G) (z : Nat) (As : List Value) (m0 : Mm) (r : Rs) : Prop := ∀ sz : Nat, Met l (mY z) (mW z) (mR z) (PcZ sh ad dA D As m0 sz) (QcZ sh ad dA D r sz) 0 0 (AA sh ad sz)
variable {p : Program} {e : Env} {R : Room} {s : State} {m : MethodId} {args : Array Value} {below : List Frame} {meth : Method} {c : Code} {cells slots : Nat} {Q : State → Prop}
variable {tb : Nat → Option (List Int32)} {A : Nat → Prop} {own nL : Nat} {cc : ByteArray}
/-- where a method runs -/
def Cx (sh : List ShE) (tb : Nat → Option (List Int32)) (ad : Nat → Nat) (dA : Nat → ClassId) (D : va_G) (A : Nat → Prop) (own nL : Nat) (cc : ByteArray) (p : Program) (s : State) (m : MethodId) (args : Array Value) (c : Code) : Prop :=
  p.tables.exec = Jvm.exec ∧ c.code = cc ∧ c.maxLocals = nL ∧ s.vm.findClass (clsN own) = some m.cls ∧ (∀ w ∈ tblG, w.before args s = true) ∧ va_K D clsT (tysL dA) s ∧ shOK sh = true ∧ StO sh tb ad A s ∧ (∀ q : Nat, AA sh ad s.heap.size q → A q)
/-- the JVM's heap holds the memory m0 -/
def Hp (sh : List ShE) (ad : Nat → Nat) (dA : Nat → ClassId) (D : va_G) (A : Nat → Prop) (s : State) (m0 : Mm) (H : Heap) (locs : List Loc) : Prop := va_P D clsT (cellsW sh ad dA m0) H ∧ va_D A (cellsW sh ad dA m0) ∧ va_S A s.heap H locs
def Gd (l : Launch) (sh : List ShE) (ad : Nat → Nat) (dA : Nat → ClassId) (D : va_G) (A : Nat → Prop) (nL : Nat) (p : Program) (e : Env) (R : Room) (s : State) (m : MethodId) (args : Array Value) (below : List Frame) (meth : Method) (c : Code) (cells slots : Nat) (Q : State → Prop) (pc : Nat) (L st : List Value) (m0 : Mm) : Prop := ∀ (ls : Array Slot) (H : Heap) (locs : List Loc), LR ad ls nL L → Hp sh ad dA D A s m0 H locs → W p l e R s m args below meth c H locs cells slots Q (F0 m pc ls (st.map (cv ad)))
theorem fld_of {own x k : Nat} (h : fieldTab.any (fun q => decide (q.1 = own ∧ q.2.1 = x ∧ q.2.2.1 = k)) = true) : k / 100 < 8 ∧ k % 100 < (clE (k / 100)).2.2 ∧ Cond.fieldLink (clsN own) x (TT k).1 (TT k).2.1 (TT k).2.2.1 ∈ tblG := by
  obtain ⟨q, hq, h1⟩ := List.any_eq_true.mp h
  obtain ⟨rfl, rfl, rfl⟩ := of_decide_eq_true h1
  have h2 := List.all_eq_true.mp fT_ok q hq
  simp only [fOK, Bool.and_eq_true, decide_eq_true_eq] at h2
  exact ⟨h2.1, h2.2.1, wAt_mem h2.2.2⟩
theorem sh_at {o ci : Nat} {fs : List Nat} (hs : shOK sh = true) (h : sh[o]? = some (.inl (ci, fs))) : ci < 8 ∧ fs.length = (clE ci).2.2 ∧ ∀ j t, fs[j]? = some t → kOK ci j t = true := by
  have h1 := List.all_eq_true.mp hs _ (List.mem_of_getElem? h)
  simp only [Bool.and_eq_true, decide_eq_true_eq] at h1
  exact ⟨h1.1.1, h1.1.2, fun j t hj => List.all_eq_true.mp h1.2 (t, j) (List.mem_zipIdx_iff_getElem?.mpr hj)⟩
theorem sh_arr {o k n : Nat} {rs : List Nat} (hs : shOK sh = true) (h : sh[o]? = some (.inr (k, n, rs))) : k < 4 := by
  have h1 := List.all_eq_true.mp hs _ (List.mem_of_getElem? h)
  simpa using h1
theorem cellsW_addr {m0 : Mm} {k : Nat} {q : Nat × va_E} (h : (cellsW sh ad dA m0)[k]? = some q) : k < sh.length ∧ q.1 = ad k := by
  simp only [cellsW, mapI_get] at h
  cases hs : sh[k]? with
  | none => rw [hs] at h; cases h
  | some e =>
    rw [hs] at h
    simp only [Option.map_some, Option.some.injEq] at h
    exact ⟨(List.getElem?_eq_some_iff.mp hs).1, by rw [← h]⟩
theorem cellsW_len (m0 : Mm) : (cellsW sh ad dA m0).length = sh.length := mapI_len _ _
theorem D_any {B : Nat → Prop} {m0 m1 : Mm} (h : va_D B (cellsW sh ad dA m0)) : va_D B (cellsW sh ad dA m1) := by
  have key : ∀ (k : Nat) (q : Nat × va_E), (cellsW sh ad dA m1)[k]? = some q → ∃ q0, (cellsW sh ad dA m0)[k]? = some q0 ∧ q0.1 = q.1 := by
    intro k q hk
    obtain ⟨h1, h2⟩ := cellsW_addr hk
    have h3 := List.getElem?_eq_getElem (show k < (cellsW sh ad dA m0).length by rw [cellsW_len]; exact h1)
    exact ⟨_, h3, by rw [(cellsW_addr h3).2, h2]⟩
  refine ⟨fun i j x y hi hj hxy => ?_, fun k q hk => ?_⟩
  · obtain ⟨x0, a1, a2⟩ := key i x hi
    obtain ⟨y0, b1, b2⟩ := key j y hj
    exact h.1 i j x0 y0 a1 b1 (a2.trans (hxy.trans b2.symm))
  · obtain ⟨q0, a1, a2⟩ := key k q hk
    rw [← a2]
    exact h.2 k q0 a1
theorem vA_AA {m0 : Mm} {sz q : Nat} : va_A (cellsW sh ad dA m0) sz q ↔ AA sh ad sz q := by
  constructor
  · rintro (⟨k, e, h⟩ | h)
    · obtain ⟨h1, h2⟩ := cellsW_addr h
      exact Or.inl ⟨k, h1, h2⟩
    · exact Or.inr h
  · rintro (⟨k, h1, rfl⟩ | h)
    · obtain ⟨e, he⟩ : ∃ e, sh[k]? = some e := ⟨_, List.getElem?_eq_getElem h1⟩
      exact Or.inl ⟨k, _, cells_get he⟩
    · exact Or.inr h
theorem popN_spec : ∀ (n : Nat) (st acc As rest : List Value), popN n st acc = some (As, rest) → ∃ B, As = B.reverse ++ acc ∧ st = B ++ rest ∧ B.length = n
  | 0, st, acc, As, rest, h => by
    simp only [popN, Option.some.injEq, Prod.mk.injEq] at h
    obtain ⟨rfl, rfl⟩ := h
    exact ⟨[], rfl, rfl, rfl⟩
  | n + 1, [], acc, As, rest, h => by simp [popN] at h
  | n + 1, v :: st, acc, As, rest, h => by
    obtain ⟨B, h1, h2, h3⟩ := popN_spec n st (v :: acc) As rest h
    exact ⟨v :: B, by rw [h1, List.reverse_cons, List.append_assoc]; rfl, by rw [h2]; rfl, by rw [List.length_cons, h3]⟩
theorem cat_sum (st : List Value) : ((st.map (cv ad)).map fun v => v.category).sum = (st.map fun v => v.category).sum := by
  induction st with
  | nil => rfl
  | cons v st ih => simp only [List.map_cons, List.sum_cons, cv_cat, ih]
end Sim
