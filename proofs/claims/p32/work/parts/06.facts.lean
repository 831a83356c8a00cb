section
/-! what the tables of 03 rest on, by the kernel -/
def tblG : List Cond := lw_tbl.filter goodWord
def wAt (pl : Nat) (w : Cond) : Bool := decide (lw_tbl[pl]? = some w) && goodWord w
theorem wAt_mem {pl : Nat} {w : Cond} (h : wAt pl w = true) : w ∈ tblG := by
  simp only [wAt, Bool.and_eq_true, decide_eq_true_eq] at h
  exact List.mem_filter.mpr ⟨List.mem_of_getElem? h.1, h.2⟩
theorem tblG_good {w : Cond} (h : w ∈ tblG) : (w.onTables && w.keeps) = true ∨ ∃ ty, w = .arrayClass ty := good_of_word (List.mem_filter.mp h).2
def clE (c : Nat) : vw_C := clsT.getD c (RX0, TX0, 0)
def TT (k : Nat) : String × String × String × Bool := (clE (k / 100)).2.1 (k % 100)
theorem clE_get {c : Nat} (h : c < 8) : clsT[c]? = some ((clE c).1, (clE c).2.1, (clE c).2.2) := by
  match c, h with
  | 0, _ => rfl
  | 1, _ => rfl
  | 2, _ => rfl
  | 3, _ => rfl
  | 4, _ => rfl
  | 5, _ => rfl
  | 6, _ => rfl
  | 7, _ => rfl
theorem ty_ok {c : Nat} (h : c < 8) : ∀ k, k < (clE c).2.2 → parseFieldDescriptor ((clE c).2.1 k).2.2.1 = some (tyT c k) := by
  match c, h with
  | 0, _ => exact tyX0_ok
  | 1, _ => exact tyX1_ok
  | 2, _ => exact tyX2_ok
  | 3, _ => exact tyX3_ok
  | 4, _ => exact tyX4_ok
  | 5, _ => exact tyX5_ok
  | 6, _ => exact tyX6_ok
  | 7, _ => exact tyX7_ok
theorem nm_ok {c : Nat} (h : c < 8) : ∀ a, a < (clE c).2.2 → ∀ b, b < (clE c).2.2 → a ≠ b → ((clE c).2.1 a).2.1 ≠ ((clE c).2.1 b).2.1 := by
  match c, h with
  | 0, _ => exact nmX0
  | 1, _ => exact nmX1
  | 2, _ => exact nmX2
  | 3, _ => exact nmX3
  | 4, _ => exact nmX4
  | 5, _ => exact nmX5
  | 6, _ => exact nmX6
  | 7, _ => exact nmX7
def layAll (C : String) (T : u_T) (N : Nat) (ps : List Nat) : Bool := (List.range N).all (fun k => wAt (ps.getD k 0) (u_lay C T k))
theorem lay_of {C : String} {T : u_T} {N : Nat} {ps : List Nat} (h : layAll C T N ps = true) : ∀ w ∈ u_ws C T N, w ∈ tblG := by
  intro w hw
  obtain ⟨k, hk, rfl⟩ := List.mem_map.mp hw
  exact wAt_mem (List.all_eq_true.mp h k hk)
theorem lay0 : layAll RX0 TX0 3 layP0 = true := by decide +kernel
theorem lay1 : layAll RX1 TX1 4 layP1 = true := by decide +kernel
theorem lay2 : layAll RX2 TX2 4 layP2 = true := by decide +kernel
theorem lay3 : layAll RX3 TX3 4 layP3 = true := by decide +kernel
theorem lay4 : layAll RX4 TX4 5 layP4 = true := by decide +kernel
theorem lay5 : layAll RX5 TX5 16 layP5 = true := by decide +kernel
theorem lay6 : layAll RX6 TX6 10 layP6 = true := by decide +kernel
theorem lay7 : layAll RX7 TX7 29 layP7 = true := by decide +kernel
theorem lay_ok {c : Nat} (h : c < 8) : ∀ w ∈ u_ws (clE c).1 (clE c).2.1 (clE c).2.2, w ∈ tblG := by
  match c, h with
  | 0, _ => exact lay_of lay0
  | 1, _ => exact lay_of lay1
  | 2, _ => exact lay_of lay2
  | 3, _ => exact lay_of lay3
  | 4, _ => exact lay_of lay4
  | 5, _ => exact lay_of lay5
  | 6, _ => exact lay_of lay6
  | 7, _ => exact lay_of lay7
def fOK (q : Nat × Nat × Nat × Nat) : Bool := decide (q.2.2.1 / 100 < 8) && (decide (q.2.2.1 % 100 < (clE (q.2.2.1 / 100)).2.2) && wAt q.2.2.2 (.fieldLink (clsN q.1) q.2.1 (TT q.2.2.1).1 (TT q.2.2.1).2.1 (TT q.2.2.1).2.2.1))
theorem fT_ok : fieldTab.all fOK = true := by decide +kernel
theorem iT_ok : intTab.all (fun q => wAt q.2.2.2 (.constant (clsN q.1) q.2.1 (Int32.ofInt q.2.2.1))) = true := by decide +kernel
theorem lT_ok : longTab.all (fun q => wAt q.2.2.2 (.constantLong (clsN q.1) q.2.1 (Int64.ofInt q.2.2.1))) = true := by decide +kernel
theorem cT_ok : copyTab.all (fun q => wAt q.2.2 (.methodLink (clsN q.1) q.2.1 arraycopyName)) = true := by decide +kernel
theorem cp_ok : (wAt plNat (.native arraycopyName) && (wAt plSta (.static arraycopyName) && wAt plSys (.initialized "java/lang/System"))) = true := by decide +kernel
def mE (z : Nat) : mthE := mthL.getD z (9, 1, 0, 0, true, 0, 0, 0, 0)
def mO (z : Nat) : Nat := (mE z).1
def mN (z : Nat) : Nat := (mE z).2.1
def mF (z : Nat) : Nat := (mE z).2.2.1
def mL (z : Nat) : Nat := (mE z).2.2.2.1
def mS (z : Nat) : Bool := (mE z).2.2.2.2.1
/-- name, bytes, locals, answer: as the word at its place has them -/
def cdW (w : Option Cond) : MethodName × ByteArray × Nat × Option FieldType := match w with
  | some (.code y b n t) => (y, b, n, t)
  | _ => (yL_law, cL_law, 4, none)
def isCd (w : Option Cond) : Bool := match w with
  | some (.code _ _ _ _) => true
  | _ => false
theorem cdW_eq {w : Option Cond} (h : isCd w = true) : w = some (.code (cdW w).1 (cdW w).2.1 (cdW w).2.2.1 (cdW w).2.2.2) := by
  unfold isCd at h
  split at h
  · rfl
  · cases h
def mC (z : Nat) : MethodName × ByteArray × Nat × Option FieldType := cdW lw_tbl[(mE z).2.2.2.2.2.1]?
def mY (z : Nat) : MethodName := (mC z).1
def mB (z : Nat) : ByteArray := (mC z).2.1
def mX (z : Nat) : Nat := (mC z).2.2.1
def mT (z : Nat) : Option FieldType := (mC z).2.2.2
def mW (z : Nat) : List Cond := .code (mY z) (mB z) (mX z) (mT z) :: tblG
def mR (z : Nat) : Room := { frames := mF z, cells := 0, slots := 0, locals := mL z }
theorem mT_ok : methTab.all (fun q => wAt q.2.2.2.2 (.methodLink (clsN q.1) q.2.1 (mY q.2.2.1)) && (decide (q.2.2.1 + 1 < nZ) && decide (mS q.2.2.1 = q.2.2.2.1))) = true := by decide +kernel
/-- what a callee's words rest on -/
def zOK (z : Nat) : Bool := isCd lw_tbl[(mE z).2.2.2.2.2.1]? && ((if mS z = true then wAt (mE z).2.2.2.2.2.2.1 (.static (mY z)) else wAt (mE z).2.2.2.2.2.2.1 (.instanceMethod (mY z)) && (wAt (mE z).2.2.2.2.2.2.2.1 (.selects (mY z).cls (mY z) (mY z)) && decide ((mO z) < 8 ∧ (clE (mO z)).1 = (mY z).cls))) && (wAt (mE z).2.2.2.2.2.2.2.2 (.initialized (mY z).cls) && (decide ((mY z).cls ≠ "java/lang/invoke/MethodHandle") && (decide ((mY z).cls ≠ "java/lang/invoke/VarHandle") && (decide ((parseMethodDescriptor (mY z).desc).map (fun d => d.parameters.length) = some (mN z)) && (plainName (mY z).cls && decide ((mY z).cls = clsN (mO z))))))))
theorem z_ok_0 : (List.range 10).all (fun k => zOK (0 + k)) = true := by decide +kernel
theorem z_ok_1 : (List.range 10).all (fun k => zOK (10 + k)) = true := by decide +kernel
theorem z_ok_2 : (List.range 10).all (fun k => zOK (20 + k)) = true := by decide +kernel
theorem z_ok_3 : (List.range 10).all (fun k => zOK (30 + k)) = true := by decide +kernel
theorem z_ok_4 : (List.range 10).all (fun k => zOK (40 + k)) = true := by decide +kernel
theorem z_ok_5 : (List.range 10).all (fun k => zOK (50 + k)) = true := by decide +kernel
theorem z_ok_6 : (List.range 10).all (fun k => zOK (60 + k)) = true := by decide +kernel
theorem z_ok_7 : (List.range 10).all (fun k => zOK (70 + k)) = true := by decide +kernel
theorem z_ok_8 : (List.range 10).all (fun k => zOK (80 + k)) = true := by decide +kernel
theorem z_ok_9 : (List.range 10).all (fun k => zOK (90 + k)) = true := by decide +kernel
theorem z_ok_10 : (List.range 10).all (fun k => zOK (100 + k)) = true := by decide +kernel
theorem z_ok_11 : (List.range 10).all (fun k => zOK (110 + k)) = true := by decide +kernel
theorem z_ok_12 : (List.range 10).all (fun k => zOK (120 + k)) = true := by decide +kernel
theorem z_ok_13 : (List.range 10).all (fun k => zOK (130 + k)) = true := by decide +kernel
theorem z_ok_14 : (List.range 10).all (fun k => zOK (140 + k)) = true := by decide +kernel
theorem z_ok_15 : (List.range 10).all (fun k => zOK (150 + k)) = true := by decide +kernel
theorem z_ok_16 : (List.range 10).all (fun k => zOK (160 + k)) = true := by decide +kernel
theorem z_ok_17 : (List.range 10).all (fun k => zOK (170 + k)) = true := by decide +kernel
theorem z_ok_18 : (List.range 6).all (fun k => zOK (180 + k)) = true := by decide +kernel
theorem z_ok {z : Nat} (h : z + 1 < nZ) : zOK z = true := by
  have h2 : z < 186 := by unfold nZ at h; omega
  have key : ∀ (a n : Nat), (List.range n).all (fun k => zOK (a + k)) = true → a ≤ z → z < a + n → zOK z = true := by
    intro a n h1 h3 h4
    have := List.all_eq_true.mp h1 (z - a) (List.mem_range.mpr (by omega))
    rwa [show a + (z - a) = z by omega] at this
  by_cases c0 : z < 10
  · exact key 0 10 z_ok_0 (by omega) (by omega)
  by_cases c1 : z < 20
  · exact key 10 10 z_ok_1 (by omega) (by omega)
  by_cases c2 : z < 30
  · exact key 20 10 z_ok_2 (by omega) (by omega)
  by_cases c3 : z < 40
  · exact key 30 10 z_ok_3 (by omega) (by omega)
  by_cases c4 : z < 50
  · exact key 40 10 z_ok_4 (by omega) (by omega)
  by_cases c5 : z < 60
  · exact key 50 10 z_ok_5 (by omega) (by omega)
  by_cases c6 : z < 70
  · exact key 60 10 z_ok_6 (by omega) (by omega)
  by_cases c7 : z < 80
  · exact key 70 10 z_ok_7 (by omega) (by omega)
  by_cases c8 : z < 90
  · exact key 80 10 z_ok_8 (by omega) (by omega)
  by_cases c9 : z < 100
  · exact key 90 10 z_ok_9 (by omega) (by omega)
  by_cases c10 : z < 110
  · exact key 100 10 z_ok_10 (by omega) (by omega)
  by_cases c11 : z < 120
  · exact key 110 10 z_ok_11 (by omega) (by omega)
  by_cases c12 : z < 130
  · exact key 120 10 z_ok_12 (by omega) (by omega)
  by_cases c13 : z < 140
  · exact key 130 10 z_ok_13 (by omega) (by omega)
  by_cases c14 : z < 150
  · exact key 140 10 z_ok_14 (by omega) (by omega)
  by_cases c15 : z < 160
  · exact key 150 10 z_ok_15 (by omega) (by omega)
  by_cases c16 : z < 170
  · exact key 160 10 z_ok_16 (by omega) (by omega)
  by_cases c17 : z < 180
  · exact key 170 10 z_ok_17 (by omega) (by omega)
  exact key 180 6 z_ok_18 (by omega) (by omega)
theorem code_in {z : Nat} (h : z + 1 < nZ) : Cond.code (mY z) (mB z) (mX z) (mT z) ∈ tblG := by
  have h1 := z_ok h
  simp only [zOK, Bool.and_eq_true] at h1
  have h2 := cdW_eq h1.1
  exact List.mem_filter.mpr ⟨List.mem_of_getElem? h2, rfl⟩
end
section
/-! THE SIMULATION: what the small machine does, the JVM does. -/
/-- is mini instruction i what stands at pc -/
def okI (own fr lo pc : Nat) (i raw : ClassFile.Instr) (len : Nat) : Bool := match i with
  | .sipush n => (match raw with
    | .iconst k => decide (len = 1 ∧ Int32.ofInt k = Int32.ofInt n)
    | .bipush k => decide (len = 2 ∧ (Int8.ofInt k).toInt32 = Int32.ofInt n)
    | .sipush k => decide (len = 3 ∧ (Int16.ofInt k).toInt32 = Int32.ofInt n)
    | .ldc k => decide (len = 2) && intTab.any (fun q => decide (q.1 = own ∧ q.2.1 = k ∧ q.2.2.1 = n))
    | .ldc_w k => decide (len = 3) && intTab.any (fun q => decide (q.1 = own ∧ q.2.1 = k ∧ q.2.2.1 = n))
    | _ => false)
  | .jsr n => (match raw with
    | .lconst k => decide (len = 1 ∧ Int64.ofNat (k : Nat) = Int64.ofInt n)
    | .ldc2_w k => decide (len = 3) && longTab.any (fun q => decide (q.1 = own ∧ q.2.1 = k ∧ q.2.2.1 = n))
    | _ => false)
  | .getstatic o => (match raw with
    | .getstatic k => decide (len = 3) && statTab.any (fun q => decide (q.1 = own ∧ q.2.1 = k ∧ q.2.2.1 = o))
    | .ldc k => decide (len = 2) && strTab.any (fun q => decide (q.1 = own ∧ q.2.1 = k ∧ q.2.2 = o))
    | _ => false)
  | .iload j => (match raw with
    | .iload_n k => decide (len = 1 ∧ (k : Nat) = j)
    | .iload k => decide (len = 2 ∧ k = j)
    | _ => false)
  | .lload j => (match raw with
    | .lload_n k => decide (len = 1 ∧ (k : Nat) = j)
    | .lload k => decide (len = 2 ∧ k = j)
    | _ => false)
  | .aload j => (match raw with
    | .aload_n k => decide (len = 1 ∧ (k : Nat) = j)
    | .aload k => decide (len = 2 ∧ k = j)
    | _ => false)
  | .istore j => (match raw with
    | .istore_n k => decide (len = 1 ∧ (k : Nat) = j)
    | .istore k => decide (len = 2 ∧ k = j)
    | _ => false)
  | .lstore j => (match raw with
    | .lstore_n k => decide (len = 1 ∧ (k : Nat) = j)
    | .lstore k => decide (len = 2 ∧ k = j)
    | _ => false)
  | .astore j => (match raw with
    | .astore_n k => decide (len = 1 ∧ (k : Nat) = j)
    | .astore k => decide (len = 2 ∧ k = j)
    | _ => false)
  | .iinc j n => decide (raw = .iinc j n ∧ len = 3)
  | .getfield k => (match raw with
    | .getfield x => decide (len = 3) && fieldTab.any (fun q => decide (q.1 = own ∧ q.2.1 = x ∧ q.2.2.1 = k))
    | _ => false)
  | .putfield k => (match raw with
    | .putfield x => decide (len = 3) && fieldTab.any (fun q => decide (q.1 = own ∧ q.2.1 = x ∧ q.2.2.1 = k))
    | _ => false)
  | .monitorenter => (match raw with
    | .invokestatic x => decide (len = 3 ∧ 1 ≤ fr ∧ 60 ≤ lo) && copyTab.any (fun q => decide (q.1 = own ∧ q.2.1 = x))
    | _ => false)
  | .invokestatic z => (match raw with
    | .invokestatic x => decide (len = 3 ∧ mF z + 1 ≤ fr ∧ 8 + (mX z + 11) + mL z ≤ lo) && methTab.any (fun q => decide (q.1 = own ∧ q.2.1 = x ∧ q.2.2.1 = z ∧ q.2.2.2.1 = true))
    | _ => false)
  | .invokevirtual z => (match raw with
    | .invokevirtual x => decide (len = 3 ∧ mF z + 1 ≤ fr ∧ 8 + (mX z + 11) + mL z ≤ lo) && methTab.any (fun q => decide (q.1 = own ∧ q.2.1 = x ∧ q.2.2.1 = z ∧ q.2.2.2.1 = false))
    | _ => false)
  | .goto t => (match raw with
    | .goto off => decide (len = 3 ∧ (pc : Int) + off = t ∧ 0 ≤ t)
    | _ => false)
  | .ifCond c t => (match raw with
    | .ifCond c' off => decide (len = 3 ∧ c' = c ∧ (pc : Int) + off = t ∧ 0 ≤ t)
    | _ => false)
  | .if_icmp c t => (match raw with
    | .if_icmp c' off => decide (len = 3 ∧ c' = c ∧ (pc : Int) + off = t ∧ 0 ≤ t)
    | _ => false)
  | .tableswitch d lo hi offs => (match raw with
    | .tableswitch d' lo' hi' offs' => decide (lo' = lo ∧ hi' = hi ∧ (pc : Int) + d' = d ∧ 0 ≤ d ∧ offs.toList = offs'.toList.map (fun x => (pc : Int) + x) ∧ hi - lo + 1 = offs'.size ∧ ∀ x ∈ offs.toList, (0 : Int) ≤ x)
    | _ => false)
  | .lookupswitch d ps => (match raw with
    | .lookupswitch d' ps' => decide ((pc : Int) + d' = d ∧ 0 ≤ d ∧ ps.toList = ps'.toList.map (fun x => (x.1, (pc : Int) + x.2)) ∧ (ps'.toList.zip (ps'.toList.drop 1)).all (fun (a, next) => a.1 < next.1) = true ∧ ∀ x ∈ ps.toList, (0 : Int) ≤ x.2)
    | _ => false)
  | i => decide (raw = i ∧ len = 1)
def okL (own fr lo : Nat) (cc : ByteArray) : List ClassFile.Instr → Nat → Bool
  | [], _ => true
  | i :: is, pc => match i with
    | .goto_w t => decide (t = (pc : Int))
    | i => (match decode cc pc with
      | .ok (raw, len) => okI own fr lo pc i raw len && okL own fr lo cc is (pc + len)
      | .error _ => false)
def okM (own fr lo : Nat) (cc : ByteArray) (cd : List (Nat × List ClassFile.Instr)) : Bool := cd.all (fun q => okL own fr lo cc q.2 q.1)
def kOK (ci j t : Nat) : Bool := match t with
  | 0 => decide (((clE ci).2.1 j).2.2.1 = "I" ∧ ((clE ci).2.1 j).2.2.2 = false)
  | 1 => decide (((clE ci).2.1 j).2.2.1 = "J" ∧ ((clE ci).2.1 j).2.2.2 = false)
  | 2 => decide (((clE ci).2.1 j).2.2.1 = "Z" ∧ ((clE ci).2.1 j).2.2.2 = false)
  | _ => true
def shOK (sh : List ShE) : Bool := sh.all (fun e => match e with
  | .inl (ci, fs) => decide (ci < 8 ∧ fs.length = (clE ci).2.2) && fs.zipIdx.all (fun q => kOK ci q.2 q.1)
  | .inr (k, _, _) => decide (k < 4))
def tysL (dA : Nat → ClassId) : List (ClassId × FieldType) := [(dA 0, .int), (dA 1, .boolean), (dA 2, .object RX0), (dA 3, .object RX1)]
/-- what a method may change -/
def AA (sh : List ShE) (ad : Nat → Nat) (sz : Nat) (q : Nat) : Prop := (∃ k, k < sh.length ∧ q = ad k) ∨ sz ≤ q
/-- the String constants 2000 on: their lengths, their bytes -/
def lenS : List Nat := [7, 5, 5, 7, 5, 5, 4, 5]
def bytS : List (List Int32) := [[118, 105, 108, 108, 97, 103, 101], [112, 108, 97, 105, 110], [114, 105, 118, 101, 114], [97, 100, 111, 112, 116, 101, 100], [109, 105, 120, 101, 100], [112, 114, 105, 99, 101], [102, 105, 110, 101], [114, 111, 117, 110, 100]]
/-- static arrays and String constants -/
def StO (sh : List ShE) (tb : Nat → Option (List Int32)) (ad : Nat → Nat) (A : Nat → Prop) (U : State) : Prop :=
  (∀ (o : Nat) (T : List Int32), sh[o]? = none → tb o = some T → va_T .int (ad o) T.length (fun j => .int (T.getD j 0)) A U U.heap) ∧
  (∀ q ∈ statTab, va_Z "ProofFine" q.2.2.2.1 "[I" (.ref (ad q.2.2.1)) A U U.heap ∧ va_Nw (.fieldLinkNest (clsN q.1) q.2.1 "ProofFine" q.2.2.2.1 "[I" "ProofFine") U) ∧
  (∀ q ∈ strTab, ∃ tx, vk_R (clsN q.1) q.2.1 tx (ad q.2.2) U) ∧
  (∃ adV : Nat → Nat, vk_S 8 lenS bytS (fun i => ad (2000 + i)) adV A U U.heap) ∧ va_Z "java/lang/String" "COMPACT_STRINGS" "Z" (.int 1) A U U.heap ∧
  va_Zq "jdk/internal/util/Preconditions" "SIOOBE_FORMATTER" "Ljava/util/function/BiFunction;" A U U.heap
section Sim
variable {l : Launch} {sh : List ShE} {ad : Nat → Nat} {dA : Nat → ClassId} {D : va_G}
/-- a method's start: its arguments, the memory m0 -/
def PcZ (sh : List ShE) (ad : Nat → Nat) (dA : Nat → ClassId) (D : va_G) (As : List Value) (m0 : Mm) (sz : Nat) : Array Value → State → Prop := va_Pc (As.map (cv ad)) (fun U => U.heap.size = sz ∧ va_P D clsT (cellsW sh ad dA m0) U.heap ∧ va_K D clsT (tysL dA) U ∧ va_D (fun _ => True) (cellsW sh ad dA m0) ∧ StO sh tb0 ad (AA sh ad sz) U)
/-- its end -/
def QcZ (sh : List ShE) (ad : Nat → Nat) (dA : Nat → ClassId) (D : va_G) (r : Rs) (sz : Nat) : Array Value → State → Outcome → State → Prop := fun _ st oc t => (oc = .returned (r.1.map (cv ad)) ∧ va_P D clsT (cellsW sh ad dA r.2) t.heap) ∧ va_F (AA sh ad sz) st t
def MetZ (l : Launch) (sh : List ShE) (ad : Nat → Nat) (dA : Nat → ClassId) (D : va_G) (z : Nat) (As : List Value) (m0 : Mm) (r : Rs) : Prop := ∀ sz : Nat, Met l (mY z) (mW z) (mR z) (PcZ sh ad dA D As m0 sz) (QcZ sh ad dA D r sz) 0 0 (AA sh ad sz)
variable {p : Program} {e : Env} {R : Room} {s : State} {m : MethodId} {args : Array Value} {below : List Frame} {meth : Method} {c : Code} {cells slots : Nat} {Q : State → Prop}
variable {tb : Nat → Option (List Int32)} {A : Nat → Prop} {own nL : Nat} {cc : ByteArray}
/-- where a method runs -/
def Cx (sh : List ShE) (tb : Nat → Option (List Int32)) (ad : Nat → Nat) (dA : Nat → ClassId) (D : va_G) (A : Nat → Prop) (own nL : Nat) (cc : ByteArray) (p : Program) (s : State) (m : MethodId) (args : Array Value) (c : Code) : Prop :=
  p.tables.exec = Jvm.exec ∧ c.code = cc ∧ c.maxLocals = nL ∧ s.vm.findClass (clsN own) = some m.cls ∧ (∀ w ∈ tblG, w.before args s = true) ∧ va_K D clsT (tysL dA) s ∧ shOK sh = true ∧ StO sh tb ad A s ∧ (∀ q : Nat, AA sh ad s.heap.size q → A q)
/-- the JVM's heap holds the memory m0 -/
def Hp (sh : List ShE) (ad : Nat → Nat) (dA : Nat → ClassId) (D : va_G) (A : Nat → Prop) (s : State) (m0 : Mm) (H : Heap) (locs : List Loc) : Prop := va_P D clsT (cellsW sh ad dA m0) H ∧ va_D A (cellsW sh ad dA m0) ∧ va_S A s.heap H locs
def Gd (l : Launch) (sh : List ShE) (ad : Nat → Nat) (dA : Nat → ClassId) (D : va_G) (A : Nat → Prop) (nL : Nat) (p : Program) (e : Env) (R : Room) (s : State) (m : MethodId) (args : Array Value) (below : List Frame) (meth : Method) (c : Code) (cells slots : Nat) (Q : State → Prop) (pc : Nat) (L st : List Value) (m0 : Mm) : Prop := ∀ (ls : Array Slot) (H : Heap) (locs : List Loc), LR ad ls nL L → Hp sh ad dA D A s m0 H locs → W p l e R s m args below meth c H locs cells slots Q (F0 m pc ls (st.map (cv ad)))
theorem fld_of {own x k : Nat} (h : fieldTab.any (fun q => decide (q.1 = own ∧ q.2.1 = x ∧ q.2.2.1 = k)) = true) : k / 100 < 8 ∧ k % 100 < (clE (k / 100)).2.2 ∧ Cond.fieldLink (clsN own) x (TT k).1 (TT k).2.1 (TT k).2.2.1 ∈ tblG := by
  obtain ⟨q, hq, h1⟩ := List.any_eq_true.mp h
  obtain ⟨rfl, rfl, rfl⟩ := of_decide_eq_true h1
  have h2 := List.all_eq_true.mp fT_ok q hq
  simp only [fOK, Bool.and_eq_true, decide_eq_true_eq] at h2
  exact ⟨h2.1, h2.2.1, wAt_mem h2.2.2⟩
theorem sh_at {o ci : Nat} {fs : List Nat} (hs : shOK sh = true) (h : sh[o]? = some (.inl (ci, fs))) : ci < 8 ∧ fs.length = (clE ci).2.2 ∧ ∀ j t, fs[j]? = some t → kOK ci j t = true := by
  have h1 := List.all_eq_true.mp hs _ (List.mem_of_getElem? h)
  simp only [Bool.and_eq_true, decide_eq_true_eq] at h1
  exact ⟨h1.1.1, h1.1.2, fun j t hj => List.all_eq_true.mp h1.2 (t, j) (List.mem_zipIdx_iff_getElem?.mpr hj)⟩
theorem sh_arr {o k n : Nat} {rs : List Nat} (hs : shOK sh = true) (h : sh[o]? = some (.inr (k, n, rs))) : k < 4 := by
  have h1 := List.all_eq_true.mp hs _ (List.mem_of_getElem? h)
  simpa using h1
theorem cellsW_addr {m0 : Mm} {k : Nat} {q : Nat × va_E} (h : (cellsW sh ad dA m0)[k]? = some q) : k < sh.length ∧ q.1 = ad k := by
  simp only [cellsW, mapI_get] at h
  cases hs : sh[k]? with
  | none => rw [hs] at h; cases h
  | some e =>
    rw [hs] at h
    simp only [Option.map_some, Option.some.injEq] at h
    exact ⟨(List.getElem?_eq_some_iff.mp hs).1, by rw [← h]⟩
theorem cellsW_len (m0 : Mm) : (cellsW sh ad dA m0).length = sh.length := mapI_len _ _
theorem D_any {B : Nat → Prop} {m0 m1 : Mm} (h : va_D B (cellsW sh ad dA m0)) : va_D B (cellsW sh ad dA m1) := by
  have key : ∀ (k : Nat) (q : Nat × va_E), (cellsW sh ad dA m1)[k]? = some q → ∃ q0, (cellsW sh ad dA m0)[k]? = some q0 ∧ q0.1 = q.1 := by
    intro k q hk
    obtain ⟨h1, h2⟩ := cellsW_addr hk
    have h3 := List.getElem?_eq_getElem (show k < (cellsW sh ad dA m0).length by rw [cellsW_len]; exact h1)
    exact ⟨_, h3, by rw [(cellsW_addr h3).2, h2]⟩
  refine ⟨fun i j x y hi hj hxy => ?_, fun k q hk => ?_⟩
  · obtain ⟨x0, a1, a2⟩ := key i x hi
    obtain ⟨y0, b1, b2⟩ := key j y hj
    exact h.1 i j x0 y0 a1 b1 (a2.trans (hxy.trans b2.symm))
  · obtain ⟨q0, a1, a2⟩ := key k q hk
    rw [← a2]
    exact h.2 k q0 a1
theorem vA_AA {m0 : Mm} {sz q : Nat} : va_A (cellsW sh ad dA m0) sz q ↔ AA sh ad sz q := by
  constructor
  · rintro (⟨k, e, h⟩ | h)
    · obtain ⟨h1, h2⟩ := cellsW_addr h
      exact Or.inl ⟨k, h1, h2⟩
    · exact Or.inr h
  · rintro (⟨k, h1, rfl⟩ | h)
    · obtain ⟨e, he⟩ : ∃ e, sh[k]? = some e := ⟨_, List.getElem?_eq_getElem h1⟩
      exact Or.inl ⟨k, _, cells_get he⟩
    · exact Or.inr h
theorem popN_spec : ∀ (n : Nat) (st acc As rest : List Value), popN n st acc = some (As, rest) → ∃ B, As = B.reverse ++ acc ∧ st = B ++ rest ∧ B.length = n
  | 0, st, acc, As, rest, h => by
    simp only [popN, Option.some.injEq, Prod.mk.injEq] at h
    obtain ⟨rfl, rfl⟩ := h
    exact ⟨[], rfl, rfl, rfl⟩
  | n + 1, [], acc, As, rest, h => by simp [popN] at h
  | n + 1, v :: st, acc, As, rest, h => by
    obtain ⟨B, h1, h2, h3⟩ := popN_spec n st (v :: acc) As rest h
    exact ⟨v :: B, by rw [h1, List.reverse_cons, List.append_assoc]; rfl, by rw [h2]; rfl, by rw [List.length_cons, h3]⟩
theorem cat_sum (st : List Value) : ((st.map (cv ad)).map fun v => v.category).sum = (st.map fun v => v.category).sum := by
  induction st with
  | nil => rfl
  | cons v st ih => simp only [List.map_cons, List.sum_cons, cv_cat, ih]
end Sim
end
section
/-! calls -/
section SimC
variable {l : Launch} {sh : List ShE} {ad : Nat → Nat} {dA : Nat → ClassId} {D : va_G}
variable {p : Program} {e : Env} {R : Room} {s : State} {m : MethodId} {args : Array Value} {below : List Frame} {meth : Method} {c : Code} {cells slots : Nat} {Q : State → Prop}
variable {tb : Nat → Option (List Int32)} {A : Nat → Prop} {own nL : Nat} {cc : ByteArray}
theorem AA_A {H : Heap} (hA : ∀ q : Nat, AA sh ad s.heap.size q → A q) (hz : s.heap.size ≤ H.size) {q : Nat} (h : AA sh ad H.size q) : A q := by
  rcases h with h | h
  · exact hA q (Or.inl h)
  · exact hA q (Or.inr (Nat.le_trans hz h))
theorem call_go {H : Heap} {locs : List Loc} {pc : Nat} {ls : Array Slot} {st0 rest : List Value} {a : Array Value} {r : Rs} {m0 : Mm} (hA : ∀ q : Nat, AA sh ad s.heap.size q → A q) (hH : Hp sh ad dA D A s m0 H locs)
    (hr : va_Run p l e R s m args below meth c H locs cells slots 0 0 (F0 m pc ls st0) rest (QcZ sh ad dA D r H.size a) (AA sh ad H.size))
    (kk : ∀ (H1 : Heap) (locs1 : List Loc), Hp sh ad dA D A s r.2 H1 locs1 → W p l e R s m args below meth c H1 locs1 cells slots Q (F0 m (pc + 3) ls ((r.1.map (cv ad)).toList ++ rest))) : W p l e R s m args below meth c H locs cells slots Q (F0 m pc ls st0) := by
  obtain ⟨hP, hD, hS⟩ := hH
  intro T hT X
  obtain ⟨v, st₀, t, T', L, h0, X', hL, e1, e2, ⟨⟨hv, hp⟩, hz, hk⟩, st⟩ := hr T hT X
  simp only [Outcome.returned.injEq] at hv
  subst hv
  rw [h0] at hz hk
  obtain ⟨t2, a1, b1⟩ := kk T'.heap (locs ++ L) ⟨by rw [e1]; exact hp, D_any hD, Nat.le_trans hS.1 (by rw [e1]; exact hz), fun q h1 h2 => by
      rw [e1, hk q (Nat.lt_of_lt_of_le h1 hS.1) (fun z => h2 (AA_A hA hS.1 z))]
      exact hS.2.1 q h1 h2, fun q hq => by
      rcases List.mem_append.mp hq with h | h
      · exact hS.2.2 q h
      · exact AA_A hA hS.1 (hL q h)⟩ T' rfl X'
  exact ⟨t2, st t2 a1, b1⟩
theorem StO.call {H : Heap} {locs : List Loc} (hT : ∀ o T, tb0 o = some T → tb o = some T) (hA : ∀ q : Nat, AA sh ad s.heap.size q → A q) (h : StO sh tb ad A s) (hS : va_S A s.heap H locs) {U : State} (hU : U.heap = H) (hW : s.WarmedH U.vm) : StO sh tb0 ad (AA sh ad H.size) U := by
  obtain ⟨h1, h2, h3, ⟨adV, h5⟩, h6, h7⟩ := h
  have hn : ∀ q, AA sh ad H.size q → A q := fun q z => AA_A hA hS.1 z
  refine ⟨fun o T ho ht => ?_, fun q hq => ⟨?_, ?_⟩, fun q hq => ?_, ⟨adV, ?_⟩, ?_, ?_⟩
  · rw [hU]
    exact (((h1 o T ho (hT o T ht)).kept (H1 := H) hS.2.1).narrow hn).moved hW.alike
  · rw [hU]
    exact (((h2 q hq).1.kept (H1 := H) hS.2.1).narrow hn).moved hW.alike
  · exact (h2 q hq).2.warmF hW
  · obtain ⟨tx, h4⟩ := h3 q hq
    exact ⟨tx, h4.warm hW⟩
  · rw [hU]
    exact ((h5.kept (H1 := H) hS.2.1).narrow hn).moved hW.alike
  · rw [hU]
    exact ((h6.kept (H1 := H) hS.2.1).narrow hn).moved hW.alike
  · rw [hU]
    exact ((h7.kept (H1 := H) hS.2.1).narrow hn).moved hW.alike
theorem PcZ_blind {As : List Value} {m0 : Mm} {sz : Nat} : FrameBlind (PcZ sh ad dA D As m0 sz) := by
  intro a U g mk q
  obtain ⟨q0, q1, qP, qK, qD, q2, q3, q4, ⟨adV, q5⟩, q6, q7⟩ := q
  refine ⟨q0, q1, qP, va_K.moved (u := U) (U := U.calling g mk a) (Vm.Alike.refl U.vm) qK, qD, fun o T ho ht => va_T.moved (u := U) (U := U.calling g mk a) (Vm.Alike.refl U.vm) (q2 o T ho ht), fun q hq => ⟨va_Z.moved (u := U) (U := U.calling g mk a) (Vm.Alike.refl U.vm) (q3 q hq).1, va_Nw.same (u := U) (U := U.calling g mk a) rfl rfl (q3 q hq).2⟩, fun q hq => ?_, ⟨adV, vk_S.moved (u := U) (U := U.calling g mk a) (Vm.Alike.refl U.vm) q5⟩, va_Z.moved (u := U) (U := U.calling g mk a) (Vm.Alike.refl U.vm) q6, va_Zq.moved (u := U) (U := U.calling g mk a) (Vm.Alike.refl U.vm) q7⟩
  obtain ⟨tx, h4⟩ := q4 q hq
  exact ⟨tx, vk_R.same (u := U) (U := U.calling g mk a) rfl h4⟩
theorem Pc_call {H : Heap} {locs : List Loc} {m0 : Mm} {As : List Value} (hT : ∀ o T, tb0 o = some T → tb o = some T) (X : Cx sh tb ad dA D A own nL cc p s m args c) (hH : Hp sh ad dA D A s m0 H locs) (U : State) (hU : U.heap = H) (hW : s.WarmedH U.vm) : PcZ sh ad dA D As m0 H.size (As.map (cv ad)).toArray U := by
  obtain ⟨-, -, -, -, -, hK, -, hSt, hA⟩ := X
  obtain ⟨hP, hD, hS⟩ := hH
  exact ⟨rfl, by rw [hU], by rw [hU]; exact hP, va_K.moved hW.alike hK, hD.weaken (fun _ _ _ _ => trivial), hSt.call hT hA hS hU hW⟩
theorem good_tail {z : Nat} (hz : z + 1 < nZ) {w : Cond} (h : w ∈ mW z) : w ∈ tblG := by
  rcases List.mem_cons.mp h with rfl | h
  · exact code_in hz
  · exact h
theorem z_st {z : Nat} (hz : z + 1 < nZ) : Cond.initialized (mY z).cls ∈ tblG ∧ (mY z).cls ≠ "java/lang/invoke/MethodHandle" ∧ (mY z).cls ≠ "java/lang/invoke/VarHandle" ∧ (parseMethodDescriptor (mY z).desc).map (fun d => d.parameters.length) = some (mN z) ∧ plainName (mY z).cls = true ∧ (mY z).cls = clsN (mO z) := by
  have h := z_ok hz
  simp only [zOK, Bool.and_eq_true, decide_eq_true_eq] at h
  exact ⟨wAt_mem h.2.2.1, h.2.2.2.1, h.2.2.2.2.1, h.2.2.2.2.2.1, h.2.2.2.2.2.2.1, h.2.2.2.2.2.2.2⟩
theorem z_vi {z : Nat} (hz : z + 1 < nZ) (hs : mS z = false) : Cond.instanceMethod (mY z) ∈ tblG ∧ Cond.selects (mY z).cls (mY z) (mY z) ∈ tblG ∧ mO z < 8 ∧ (clE (mO z)).1 = (mY z).cls := by
  have h := z_ok hz
  simp only [zOK, hs, Bool.and_eq_true, decide_eq_true_eq] at h
  have h2 := h.2.1
  simp only [Bool.false_eq_true, if_false, Bool.and_eq_true, decide_eq_true_eq] at h2
  exact ⟨wAt_mem h2.1, wAt_mem h2.2.1, h2.2.2.1, h2.2.2.2⟩
theorem z_sta {z : Nat} (hz : z + 1 < nZ) (hs : mS z = true) : Cond.static (mY z) ∈ tblG := by
  have h := z_ok hz
  simp only [zOK, hs, Bool.and_eq_true, decide_eq_true_eq] at h
  have h2 := h.2.1
  simp only [if_true] at h2
  exact wAt_mem h2
theorem goodG {ws : List Cond} (h : ∀ w ∈ ws, w ∈ tblG) : GoodIn tblG ws := fun w hw => ⟨h w hw, tblG_good (h w hw)⟩
theorem go_V (hT : ∀ o T, tb0 o = some T → tb o = some T) (X : Cx sh tb ad dA D A own nL cc p s m args c) {z x o pc : Nat} {As rest L : List Value} {m0 : Mm} {r : Rs} (hC : MetZ l sh ad dA D z (.ref o :: As) m0 r) (hz : z + 1 < nZ) (hs : mS z = false) (hlink : Cond.methodLink (clsN own) x (mY z) ∈ tblG) (hfr : mF z + 1 ≤ R.frames) (hlo : 8 + (mX z + 11) + mL z ≤ R.locals) (hn : As.length = mN z) (ho : clO sh o = some (mO z)) (hcat : (rest.map fun v => v.category).sum ≤ 8) (hd : decode cc pc = .ok (.invokevirtual x, 3)) (hc : cells ≤ R.cells) (hsl : slots ≤ R.slots)
    (kk : Gd l sh ad dA D A nL p e R s m args below meth c cells slots Q (pc + 3) L (r.1.toList ++ rest) r.2) : Gd l sh ad dA D A nL p e R s m args below meth c cells slots Q pc L (As.reverse ++ .ref o :: rest) m0 := by
  intro ls H locs hl hH
  obtain ⟨hx, hb, hml, hown, hts, hK, hsh, hSt, hA⟩ := id X
  obtain ⟨i1, i2, i3, i4, i5, i6⟩ := z_st hz
  obtain ⟨j1, j2, j3, j4⟩ := z_vi hz hs
  obtain ⟨fs, hfs⟩ : ∃ fs, sh[o]? = some (.inl (mO z, fs)) := by
    unfold clO at ho
    split at ho
    · rename_i ci fs hh
      cases ho
      exact ⟨fs, hh⟩
    · cases ho
  have hrecv := va_recv (s := s) hK hH.1 (clE_get j3) (cells_get hfs)
  rw [j4] at hrecv
  refine call_go hA hH (rest := rest.map (cv ad)) (va_runV (As := As.map (cv ad)) (rest := rest.map (cv ad)) (b := ad o) (n := mN z) ⟨hx, hb, hml, hown, hts⟩ (hC H.size) (cwV (C := (mY z).cls) (bytes := mB z) (maxL := mX z) (ret := mT z) (ws' := tblG) (mN z) hts (goodG (fun w hw => ?_)) rfl rfl rfl ⟨rfl, i2, i3, i4⟩ ⟨hfr, hlo⟩) ⟨PcZ_blind, hrecv, fun U hU hW => Pc_call hT X hH U hU hW⟩ rfl (by rw [List.length_map, hn]) hl.1 (by simp [List.map_append, List.map_reverse, cv]) (lv_room (by rw [cat_sum]; exact hcat)) hd ⟨hc, hsl⟩) (fun H1 locs1 hH1 => ?_)
  · rcases List.mem_append.mp hw with h | h
    · simp only [List.mem_cons, List.not_mem_nil, or_false] at h
      rcases h with rfl | rfl | rfl | rfl
      · exact hlink
      · exact j1
      · exact j2
      · exact i1
    · exact good_tail hz h
  · have := kk ls H1 locs1 hl hH1
    rw [List.map_append] at this
    cases hr : r.1 with
    | none => rw [hr] at this; exact this
    | some v => rw [hr] at this; exact this
theorem go_S (hT : ∀ o T, tb0 o = some T → tb o = some T) (X : Cx sh tb ad dA D A own nL cc p s m args c) {z x pc : Nat} {As rest L : List Value} {m0 : Mm} {r : Rs} (hC : MetZ l sh ad dA D z As m0 r) (hz : z + 1 < nZ) (hs : mS z = true) (hlink : Cond.methodLink (clsN own) x (mY z) ∈ tblG) (hfr : mF z + 1 ≤ R.frames) (hlo : 8 + (mX z + 11) + mL z ≤ R.locals) (hn : As.length = mN z) (hcat : (rest.map fun v => v.category).sum ≤ 8) (hd : decode cc pc = .ok (.invokestatic x, 3)) (hc : cells ≤ R.cells) (hsl : slots ≤ R.slots)
    (kk : Gd l sh ad dA D A nL p e R s m args below meth c cells slots Q (pc + 3) L (r.1.toList ++ rest) r.2) : Gd l sh ad dA D A nL p e R s m args below meth c cells slots Q pc L (As.reverse ++ rest) m0 := by
  intro ls H locs hl hH
  obtain ⟨hx, hb, hml, hown, hts, hK, hsh, hSt, hA⟩ := id X
  obtain ⟨i1, i2, i3, i4, i5, i6⟩ := z_st hz
  have j1 := z_sta hz hs
  refine call_go hA hH (rest := rest.map (cv ad)) (va_runS (As := As.map (cv ad)) (rest := rest.map (cv ad)) (n := mN z) ⟨hx, hb, hml, hown, hts⟩ (hC H.size) (va_cwS (bytes := mB z) (maxL := mX z) (ret := mT z) (ws' := tblG) (mN z) hts (goodG (fun w hw => ?_)) rfl rfl rfl ⟨i2, i3, i4⟩ ⟨hfr, hlo⟩) ⟨PcZ_blind, fun U hU hW => Pc_call hT X hH U hU hW⟩ rfl (by rw [List.length_map, hn]) hl.1 (by simp [List.map_append, List.map_reverse]) (lv_room (by rw [cat_sum]; exact hcat)) hd ⟨hc, hsl⟩) (fun H1 locs1 hH1 => ?_)
  · rcases List.mem_append.mp hw with h | h
    · simp only [List.mem_cons, List.not_mem_nil, or_false] at h
      rcases h with rfl | rfl | rfl
      · exact hlink
      · exact j1
      · exact i1
    · exact good_tail hz h
  · have := kk ls H1 locs1 hl hH1
    rw [List.map_append] at this
    cases hr : r.1 with
    | none => rw [hr] at this; exact this
    | some v => rw [hr] at this; exact this
end SimC
end
section
/-! one plain instruction -/
section SimS
variable {l : Launch} {sh : List ShE} {ad : Nat → Nat} {dA : Nat → ClassId} {D : va_G}
variable {p : Program} {e : Env} {R : Room} {s : State} {m : MethodId} {args : Array Value} {below : List Frame} {meth : Method} {c : Code} {cells slots : Nat} {Q : State → Prop}
variable {tb : Nat → Option (List Int32)} {A : Nat → Prop} {own nL fr lo : Nat} {cc : ByteArray} {C : CallS}
theorem meth_of {own x z : Nat} {b : Bool} (h : methTab.any (fun q => decide (q.1 = own ∧ q.2.1 = x ∧ q.2.2.1 = z ∧ q.2.2.2.1 = b)) = true) : z + 1 < nZ ∧ mS z = b ∧ Cond.methodLink (clsN own) x (mY z) ∈ tblG := by
  obtain ⟨q, hq, h1⟩ := List.any_eq_true.mp h
  obtain ⟨rfl, rfl, rfl, rfl⟩ := of_decide_eq_true h1
  have h2 := List.all_eq_true.mp mT_ok q hq
  simp only [Bool.and_eq_true, decide_eq_true_eq] at h2
  exact ⟨h2.2.1, h2.2.2, wAt_mem h2.1⟩
/-- getfield -/
theorem go_get (X : Cx sh tb ad dA D A own nL cc p s m args c) {k o x pc : Nat} {L st : List Value} {m0 : Mm} {v : Value} (h : gfI sh k o m0 = some v) (hf : fieldTab.any (fun q => decide (q.1 = own ∧ q.2.1 = x ∧ q.2.2.1 = k)) = true) (hd : decode cc pc = .ok (.getfield x, 3))
    (kk : Gd l sh ad dA D A nL p e R s m args below meth c cells slots Q (pc + 3) L (v :: st) m0) : Gd l sh ad dA D A nL p e R s m args below meth c cells slots Q pc L (.ref o :: st) m0 := by
  intro ls H locs hl hH
  obtain ⟨hx, hb, hml, hown, hts, hK, hsh, hSt, hA⟩ := X
  obtain ⟨f1, f2, f3⟩ := fld_of hf
  unfold gfI at h
  split at h
  · rename_i ci fs ho
    split at h
    · rename_i hci
      split at h
      · rename_i t hj
        simp only [Option.some.injEq] at h
        subst h
        subst hci
        exact va_get (D := D) (cl := clsT) (C := (clE (k / 100)).1) (T := (clE (k / 100)).2.1) (N := (clE (k / 100)).2.2) hx hb hts (lay_ok f1) hown hK hH.1 o (cells_get ho) (clE_get f1) (k % 100) f2 (hts _ f3) (fun _ h9 => h9) (v := cv ad (fval m0 o (k % 100) t)) (by simp [mapI_get, hj]) hd (kk ls H locs hl hH)
      · cases h
    · cases h
  · cases h
theorem k_int {ci j : Nat} (h : ci < 8) (hj : j < (clE ci).2.2) (hk : kOK ci j 0 = true) : parseFieldDescriptor ((clE ci).2.1 j).2.2.1 = some .int ∧ ((clE ci).2.1 j).2.2.2 = false := by
  have := of_decide_eq_true hk
  exact ⟨by rw [this.1]; decide +kernel, this.2⟩
theorem k_long {ci j : Nat} (h : ci < 8) (hj : j < (clE ci).2.2) (hk : kOK ci j 1 = true) : parseFieldDescriptor ((clE ci).2.1 j).2.2.1 = some .long ∧ ((clE ci).2.1 j).2.2.2 = false := by
  have := of_decide_eq_true hk
  exact ⟨by rw [this.1]; decide +kernel, this.2⟩
theorem k_bool {ci j : Nat} (h : ci < 8) (hj : j < (clE ci).2.2) (hk : kOK ci j 2 = true) : parseFieldDescriptor ((clE ci).2.1 j).2.2.1 = some .boolean ∧ ((clE ci).2.1 j).2.2.2 = false := by
  have := of_decide_eq_true hk
  exact ⟨by rw [this.1]; decide +kernel, this.2⟩
/-- putfield -/
theorem go_put (X : Cx sh tb ad dA D A own nL cc p s m args c) {k o x pc : Nat} {L st : List Value} {m0 m1 : Mm} {v : Value} (h : pfI sh k o v m0 = some m1) (hf : fieldTab.any (fun q => decide (q.1 = own ∧ q.2.1 = x ∧ q.2.2.1 = k)) = true) (hd : decode cc pc = .ok (.putfield x, 3))
    (kk : Gd l sh ad dA D A nL p e R s m args below meth c cells slots Q (pc + 3) L st m1) : Gd l sh ad dA D A nL p e R s m args below meth c cells slots Q pc L (v :: .ref o :: st) m0 := by
  intro ls H locs hl hH
  obtain ⟨hx, hb, hml, hown, hts, hK, hsh, hSt, hA⟩ := X
  obtain ⟨f1, f2, f3⟩ := fld_of hf
  unfold pfI at h
  split at h
  · rename_i ci fs ho
    obtain ⟨s1, s2, s3⟩ := sh_at hsh ho
    split at h
    · rename_i hci
      subst hci
      split at h
      · rename_i y hj
        simp only [Option.some.injEq] at h
        subst h
        obtain ⟨g1, g2⟩ := k_int f1 f2 (s3 _ _ hj)
        refine va_put (D := D) (cl := clsT) (C := (clE (k / 100)).1) (T := (clE (k / 100)).2.1) (N := (clE (k / 100)).2.2) hx hb hts (lay_ok f1) (tyT (k / 100)) (ty_ok f1) (nm_ok f1) hown hK hH.1 hH.2.1 hH.2.2 o (cells_get ho) (clE_get f1) (k % 100) f2 (hts _ f3) (fun _ h9 => h9) g2 (v := .int y) g1 rfl rfl (by rw [mapI_len, s2]; exact f2) hd (fun H1 locs1 p1 p2 p3 => ?_)
        rw [cells_fI y ho hj (Or.inl rfl)] at p1 p2
        exact kk ls H1 locs1 hl ⟨p1, p2, p3⟩
      · rename_i y hj
        simp only [Option.some.injEq] at h
        subst h
        obtain ⟨g1, g2⟩ := k_long f1 f2 (s3 _ _ hj)
        refine va_put (D := D) (cl := clsT) (C := (clE (k / 100)).1) (T := (clE (k / 100)).2.1) (N := (clE (k / 100)).2.2) hx hb hts (lay_ok f1) (tyT (k / 100)) (ty_ok f1) (nm_ok f1) hown hK hH.1 hH.2.1 hH.2.2 o (cells_get ho) (clE_get f1) (k % 100) f2 (hts _ f3) (fun _ h9 => h9) g2 (v := .long y) g1 rfl rfl (by rw [mapI_len, s2]; exact f2) hd (fun H1 locs1 p1 p2 p3 => ?_)
        rw [cells_fL y ho hj] at p1 p2
        exact kk ls H1 locs1 hl ⟨p1, p2, p3⟩
      · rename_i y hj
        split at h
        · rename_i h01
          simp only [Option.some.injEq] at h
          subst h
          obtain ⟨g1, g2⟩ := k_bool f1 f2 (s3 _ _ hj)
          refine va_put (D := D) (cl := clsT) (C := (clE (k / 100)).1) (T := (clE (k / 100)).2.1) (N := (clE (k / 100)).2.2) hx hb hts (lay_ok f1) (tyT (k / 100)) (ty_ok f1) (nm_ok f1) hown hK hH.1 hH.2.1 hH.2.2 o (cells_get ho) (clE_get f1) (k % 100) f2 (hts _ f3) (fun _ h9 => h9) g2 (v := .int y) g1 (by rcases h01 with rfl | rfl <;> decide +kernel) (by rcases h01 with rfl | rfl <;> decide +kernel) (by rw [mapI_len, s2]; exact f2) hd (fun H1 locs1 p1 p2 p3 => ?_)
          rw [cells_fI y ho hj (Or.inr rfl)] at p1 p2
          exact kk ls H1 locs1 hl ⟨p1, p2, p3⟩
        · cases h
      · cases h
    · cases h
  · cases h
/-- arrays -/
theorem go_iald (X : Cx sh tb ad dA D A own nL cc p s m args c) {o pc : Nat} {i y : Int32} {L st : List Value} {m0 : Mm} (h : alI sh tb 0 o i m0 = some y) (hd : decode cc pc = .ok (.iaload, 1))
    (kk : Gd l sh ad dA D A nL p e R s m args below meth c cells slots Q (pc + 1) L (.int y :: st) m0) : Gd l sh ad dA D A nL p e R s m args below meth c cells slots Q pc L (.int i :: .ref o :: st) m0 := by
  intro ls H locs hl hH
  obtain ⟨hx, hb, hml, hown, hts, hK, hsh, hSt, hA⟩ := X
  unfold alI at h
  split at h
  · rename_i k n rs ho
    split at h
    · rename_i hc
      obtain ⟨rfl, hin⟩ := hc
      simp only [Option.some.injEq] at h
      subst h
      exact va_iald (D := D) (cl := clsT) hx hb hK hH.1 o 0 (cells_get ho) rfl (vp_inR hin) hd (kk ls H locs hl hH)
    · cases h
  · cases h
  · rename_i ho
    split at h
    · rename_i T ht
      split at h
      · rename_i hc
        simp only [Option.some.injEq] at h
        exact va_ti (v := .int y) hx hb (hSt.1 o T ho ht) hH.2.2 (vp_inR hc.2) (by rw [← h]) hd (kk ls H locs hl hH)
      · cases h
    · cases h
theorem go_bald (X : Cx sh tb ad dA D A own nL cc p s m args c) {o pc : Nat} {i y : Int32} {L st : List Value} {m0 : Mm} (h : alI sh tb 1 o i m0 = some y) (hd : decode cc pc = .ok (.baload, 1))
    (kk : Gd l sh ad dA D A nL p e R s m args below meth c cells slots Q (pc + 1) L (.int y :: st) m0) : Gd l sh ad dA D A nL p e R s m args below meth c cells slots Q pc L (.int i :: .ref o :: st) m0 := by
  intro ls H locs hl hH
  obtain ⟨hx, hb, hml, hown, hts, hK, hsh, hSt, hA⟩ := X
  unfold alI at h
  split at h
  · rename_i k n rs ho
    split at h
    · rename_i hc
      obtain ⟨rfl, hin⟩ := hc
      simp only [Option.some.injEq] at h
      subst h
      exact va_zald (D := D) (cl := clsT) hx hb hK hH.1 o 1 (cells_get ho) rfl (vp_inR hin) hd (kk ls H locs hl hH)
    · cases h
  · cases h
  · split at h
    · split at h
      · rename_i hc
        exact absurd hc.1 (by decide)
      · cases h
    · cases h
theorem go_iast (X : Cx sh tb ad dA D A own nL cc p s m args c) {o pc : Nat} {i y : Int32} {L st : List Value} {m0 m1 : Mm} (h : asI sh 0 o i y m0 = some m1) (hd : decode cc pc = .ok (.iastore, 1))
    (kk : Gd l sh ad dA D A nL p e R s m args below meth c cells slots Q (pc + 1) L st m1) : Gd l sh ad dA D A nL p e R s m args below meth c cells slots Q pc L (.int y :: .int i :: .ref o :: st) m0 := by
  intro ls H locs hl hH
  obtain ⟨hx, hb, hml, hown, hts, hK, hsh, hSt, hA⟩ := X
  unfold asI at h
  split at h
  · rename_i k n rs ho
    split at h
    · rename_i hc
      obtain ⟨rfl, hin, -⟩ := hc
      simp only [Option.some.injEq] at h
      subst h
      refine va_iast (D := D) (cl := clsT) hx hb hK hH.1 hH.2.1 hH.2.2 o 0 (cells_get ho) rfl (vp_inR hin) hd (fun H1 locs1 p1 p2 p3 => ?_)
      rw [cells_row _ ho (by decide)] at p1 p2
      exact kk ls H1 locs1 hl ⟨p1, p2, p3⟩
    · cases h
  · cases h
theorem nar_z {y : Int32} (h : y = 0 ∨ y = 1) : vp_nar .boolean y = y := by rcases h with rfl | rfl <;> decide +kernel
theorem go_bast (X : Cx sh tb ad dA D A own nL cc p s m args c) {o pc : Nat} {i y : Int32} {L st : List Value} {m0 m1 : Mm} (h : asI sh 1 o i y m0 = some m1) (hd : decode cc pc = .ok (.bastore, 1))
    (kk : Gd l sh ad dA D A nL p e R s m args below meth c cells slots Q (pc + 1) L st m1) : Gd l sh ad dA D A nL p e R s m args below meth c cells slots Q pc L (.int y :: .int i :: .ref o :: st) m0 := by
  intro ls H locs hl hH
  obtain ⟨hx, hb, hml, hown, hts, hK, hsh, hSt, hA⟩ := X
  unfold asI at h
  split at h
  · rename_i k n rs ho
    split at h
    · rename_i hc
      obtain ⟨rfl, hin, h01⟩ := hc
      have h01 : y = 0 ∨ y = 1 := by
        rcases h01 with h | h | h
        · cases h
        · exact Or.inl h
        · exact Or.inr h
      simp only [Option.some.injEq] at h
      subst h
      refine va_zast (D := D) (cl := clsT) hx hb hK hH.1 hH.2.1 hH.2.2 o 1 (cells_get ho) rfl (vp_inR hin) hd (fun H1 locs1 p1 p2 p3 => ?_)
      rw [nar_z h01] at p1 p2
      rw [cells_row _ ho (by decide)] at p1 p2
      exact kk ls H1 locs1 hl ⟨p1, p2, p3⟩
    · cases h
  · cases h
theorem go_aald (X : Cx sh tb ad dA D A own nL cc p s m args c) {o q pc : Nat} {i : Int32} {L st : List Value} {m0 : Mm} (h : arI sh o i = some q) (hd : decode cc pc = .ok (.aaload, 1))
    (kk : Gd l sh ad dA D A nL p e R s m args below meth c cells slots Q (pc + 1) L (.ref q :: st) m0) : Gd l sh ad dA D A nL p e R s m args below meth c cells slots Q pc L (.int i :: .ref o :: st) m0 := by
  intro ls H locs hl hH
  obtain ⟨hx, hb, hml, hown, hts, hK, hsh, hSt, hA⟩ := X
  unfold arI at h
  split at h
  · rename_i k n rs ho
    split at h
    · rename_i hc
      obtain ⟨hk, hin⟩ := hc
      have hcell := cells_get (ad := ad) (dA := dA) (m := m0) ho
      have kk' := kk ls H locs hl hH
      rcases hk with rfl | rfl
      · refine va_aldq (D := D) (cl := clsT) hx hb hK hH.1 o 2 hcell rfl (vp_inR hin) hd ?_
        simp only [h, Option.map_some]
        exact kk'
      · refine va_aldq (D := D) (cl := clsT) hx hb hK hH.1 o 3 hcell rfl (vp_inR hin) hd ?_
        simp only [h, Option.map_some]
        exact kk'
    · cases h
  · cases h
theorem cp_room {n k : Nat} (h : n ≤ 8) (hk : 60 ≤ k) : n + (nativeFrameWords "java/lang/System" "arraycopy" 5 + 11) ≤ k := by
  have e9 : nativeFrameWords "java/lang/System" "arraycopy" 5 = 7 := by decide +kernel
  rw [e9]
  omega
theorem go_copy (X : Cx sh tb ad dA D A own nL cc p s m args c) (hfr : 1 ≤ R.frames) (hlo : 60 ≤ R.locals) {o0 o1 x pc : Nat} {sp dp n : Int32} {L st : List Value} {m0 m1 : Mm} (h : cpI sh o0 o1 sp dp n m0 = some m1) (hc : copyTab.any (fun q => decide (q.1 = own ∧ q.2.1 = x)) = true) (hcat : (st.map fun v => v.category).sum ≤ 8) (hd : decode cc pc = .ok (.invokestatic x, 3))
    (kk : Gd l sh ad dA D A nL p e R s m args below meth c cells slots Q (pc + 3) L st m1) : Gd l sh ad dA D A nL p e R s m args below meth c cells slots Q pc L (.int n :: .int dp :: .ref o1 :: .int sp :: .ref o0 :: st) m0 := by
  intro ls H locs hl hH
  obtain ⟨hx, hb, hml, hown, hts, hK, hsh, hSt, hA⟩ := X
  obtain ⟨q, hq, h1⟩ := List.any_eq_true.mp hc
  obtain ⟨rfl, rfl⟩ := of_decide_eq_true h1
  have hw := wAt_mem (List.all_eq_true.mp cT_ok q hq)
  have hcp := cp_ok
  simp only [Bool.and_eq_true] at hcp
  unfold cpI at h
  split at h
  · rename_i n0 r0 n1 r1 ho0 ho1
    split at h
    · rename_i hk
      obtain ⟨k1, k2, k3, k4, k5, k6⟩ := hk
      simp only [Option.some.injEq] at h
      subst h
      refine va_copyi (D := D) (cl := clsT) (ty := .int) hx hb (by rw [hml, hl.1]) hown (hts _ hw) (hts _ (wAt_mem hcp.1)) (hts _ (wAt_mem hcp.2.1)) (hts _ (wAt_mem hcp.2.2)) hK hH.1 hH.2.1 hH.2.2 o0 o1 0 0 (cells_get ho0) (cells_get ho1) rfl rfl rfl (Int32.not_lt.mpr k1) (Int32.not_lt.mpr k2) (Int32.not_lt.mpr k3) k4 k5 (fun _ _ => rfl) hfr (by rw [cat_sum]; exact cp_room hcat hlo) hd (fun H1 locs1 p1 p2 p3 => ?_)
      rw [cells_row _ ho1 (by decide)] at p1 p2
      exact kk ls H1 locs1 hl ⟨p1, p2, p3⟩
    · cases h
  · cases h
end SimS
end
section
/-! a run of instructions -/
section SimR
variable {l : Launch} {sh : List ShE} {ad : Nat → Nat} {dA : Nat → ClassId} {D : va_G}
variable {p : Program} {e : Env} {R : Room} {s : State} {m : MethodId} {args : Array Value} {below : List Frame} {meth : Method} {c : Code} {cells slots : Nat} {Q : State → Prop}
variable {tb : Nat → Option (List Int32)} {A : Nat → Prop} {own nL fr lo : Nat} {cc : ByteArray} {C : CallS}
theorem bin_ok {raw i : ClassFile.Instr} {len : Nat} (h : decide (raw = i ∧ len = 1) = true) : raw = i ∧ len = 1 := of_decide_eq_true h
set_option maxHeartbeats 4000000 in
theorem sim_step (hT : ∀ o T, tb0 o = some T → tb o = some T) (X : Cx sh tb ad dA D A own nL cc p s m args c) (hC : ∀ z As m0 r, C z As m0 = some r → MetZ l sh ad dA D z As m0 r) (hfr : fr ≤ R.frames) (hlo : lo ≤ R.locals) (hc : cells ≤ R.cells) (hsl : slots ≤ R.slots)
    {i raw : ClassFile.Instr} {len pc : Nat} {L st L' st' : List Value} {m0 m1 : Mm} (h : sI sh tb mN mO C i L st m0 = some (L', st', m1)) (ok : okI own fr lo pc i raw len = true) (hd : decode cc pc = .ok (raw, len)) (hni : ∀ t, i ≠ .goto t)
    (kk : Gd l sh ad dA D A nL p e R s m args below meth c cells slots Q (pc + len) L' st' m1) : Gd l sh ad dA D A nL p e R s m args below meth c cells slots Q pc L st m0 := by
  obtain ⟨hx, hb, hml, hown, hts, hK, hsh, hSt, hA⟩ := id X
  cases i
  case sipush n =>
    simp only [sI, Option.some.injEq, Prod.mk.injEq] at h
    obtain ⟨rfl, rfl, rfl⟩ := h
    simp only [okI] at ok
    intro ls H locs hl hH
    have k9 := kk ls H locs hl hH
    split at ok
    · obtain ⟨rfl, h2⟩ := of_decide_eq_true ok
      exact lv_iconst hx hb hd h2 k9
    · obtain ⟨rfl, h2⟩ := of_decide_eq_true ok
      exact lv_bipush hx hb hd h2 k9
    · obtain ⟨rfl, h2⟩ := of_decide_eq_true ok
      exact lv_sipush hx hb hd h2 k9
    · simp only [Bool.and_eq_true, decide_eq_true_eq] at ok
      obtain ⟨rfl, h2⟩ := ok
      obtain ⟨q, hq, h3⟩ := List.any_eq_true.mp h2
      obtain ⟨rfl, rfl, rfl⟩ := of_decide_eq_true h3
      exact lv_ldc hx hb hown (hts _ (wAt_mem (List.all_eq_true.mp iT_ok q hq))) hd k9
    · simp only [Bool.and_eq_true, decide_eq_true_eq] at ok
      obtain ⟨rfl, h2⟩ := ok
      obtain ⟨q, hq, h3⟩ := List.any_eq_true.mp h2
      obtain ⟨rfl, rfl, rfl⟩ := of_decide_eq_true h3
      exact lv_ldcw hx hb hown (hts _ (wAt_mem (List.all_eq_true.mp iT_ok q hq))) hd k9
    · cases ok
  case jsr n =>
    simp only [sI, Option.some.injEq, Prod.mk.injEq] at h
    obtain ⟨rfl, rfl, rfl⟩ := h
    simp only [okI] at ok
    intro ls H locs hl hH
    have k9 := kk ls H locs hl hH
    split at ok
    · obtain ⟨rfl, h2⟩ := of_decide_eq_true ok
      exact lv_lconst hx hb hd h2 k9
    · simp only [Bool.and_eq_true, decide_eq_true_eq] at ok
      obtain ⟨rfl, h2⟩ := ok
      obtain ⟨q, hq, h3⟩ := List.any_eq_true.mp h2
      obtain ⟨rfl, rfl, rfl⟩ := of_decide_eq_true h3
      exact lv_ldc2 hx hb hown (hts _ (wAt_mem (List.all_eq_true.mp lT_ok q hq))) hd k9
    · cases ok
  case getstatic o =>
    simp only [sI, Option.some.injEq, Prod.mk.injEq] at h
    obtain ⟨rfl, rfl, rfl⟩ := h
    simp only [okI] at ok
    intro ls H locs hl hH
    have k9 := kk ls H locs hl hH
    split at ok
    · simp only [Bool.and_eq_true, decide_eq_true_eq] at ok
      obtain ⟨rfl, h2⟩ := ok
      obtain ⟨q, hq, h3⟩ := List.any_eq_true.mp h2
      obtain ⟨rfl, rfl, rfl⟩ := of_decide_eq_true h3
      exact va_getsN hx hb (hSt.2.1 q hq).1 hH.2.2 hown ((hSt.2.1 q hq).2.use rfl) (fun _ h9 => h9) hd k9
    · simp only [Bool.and_eq_true, decide_eq_true_eq] at ok
      obtain ⟨rfl, h2⟩ := ok
      obtain ⟨q, hq, h3⟩ := List.any_eq_true.mp h2
      obtain ⟨rfl, rfl, rfl⟩ := of_decide_eq_true h3
      obtain ⟨tx, h4⟩ := hSt.2.2.1 q hq
      exact va_ldcS hx hb hown h4 hd k9
    · cases ok
  case iload j =>
    simp only [sI] at h
    split at h
    · rename_i x hj
      simp only [Option.some.injEq, Prod.mk.injEq] at h
      obtain ⟨rfl, rfl, rfl⟩ := h
      simp only [okI] at ok
      intro ls H locs hl hH
      have k9 := kk ls H locs hl hH
      split at ok
      · obtain ⟨rfl, h2⟩ := of_decide_eq_true ok
        exact lv_iload_n hx hb hd h2 (hl.at hj rfl) k9
      · obtain ⟨rfl, rfl⟩ := of_decide_eq_true ok
        exact lv_iload hx hb hd (hl.at hj rfl) k9
      · cases ok
    · cases h
  case lload j =>
    simp only [sI] at h
    split at h
    · rename_i x hj
      simp only [Option.some.injEq, Prod.mk.injEq] at h
      obtain ⟨rfl, rfl, rfl⟩ := h
      simp only [okI] at ok
      intro ls H locs hl hH
      have k9 := kk ls H locs hl hH
      split at ok
      · obtain ⟨rfl, h2⟩ := of_decide_eq_true ok
        exact lv_lload_n hx hb hd h2 (hl.at hj rfl) k9
      · obtain ⟨rfl, rfl⟩ := of_decide_eq_true ok
        exact lv_lload hx hb hd (hl.at hj rfl) k9
      · cases ok
    · cases h
  case aload j =>
    simp only [sI] at h
    split at h
    · rename_i x hj
      simp only [Option.some.injEq, Prod.mk.injEq] at h
      obtain ⟨rfl, rfl, rfl⟩ := h
      simp only [okI] at ok
      intro ls H locs hl hH
      have k9 := kk ls H locs hl hH
      split at ok
      · obtain ⟨rfl, h2⟩ := of_decide_eq_true ok
        exact lv_aload_n hx hb hd h2 (hl.at hj rfl) k9
      · obtain ⟨rfl, rfl⟩ := of_decide_eq_true ok
        exact lv_aload hx hb hd (hl.at hj rfl) k9
      · cases ok
    · cases h
  case istore j =>
    simp only [sI] at h
    split at h
    · rename_i x st
      split at h
      · rename_i hj
        simp only [Option.some.injEq, Prod.mk.injEq] at h
        obtain ⟨rfl, rfl, rfl⟩ := h
        simp only [okI] at ok
        intro ls H locs hl hH
        have hjn : j < nL := by rw [← hl.2.2.1]; exact hj
        split at ok
        · obtain ⟨rfl, h2⟩ := of_decide_eq_true ok
          exact lv_istore_n hx hb hd h2 hl.has hjn rfl (fun ls' hl' => kk ls' H locs (LR.put1 (v := .int x) hl.2.2.1 rfl hl') hH)
        · obtain ⟨rfl, rfl⟩ := of_decide_eq_true ok
          exact lv_istore hx hb hd hl.has hjn rfl (fun ls' hl' => kk ls' H locs (LR.put1 (v := .int x) hl.2.2.1 rfl hl') hH)
        · cases ok
      · cases h
    · cases h
  case astore j =>
    simp only [sI] at h
    split at h
    · rename_i x st
      split at h
      · rename_i hj
        simp only [Option.some.injEq, Prod.mk.injEq] at h
        obtain ⟨rfl, rfl, rfl⟩ := h
        simp only [okI] at ok
        intro ls H locs hl hH
        have hjn : j < nL := by rw [← hl.2.2.1]; exact hj
        split at ok
        · obtain ⟨rfl, h2⟩ := of_decide_eq_true ok
          exact lv_astore_n hx hb hd h2 hl.has hjn rfl (fun ls' hl' => kk ls' H locs (LR.put1 (v := .ref x) hl.2.2.1 rfl hl') hH)
        · obtain ⟨rfl, rfl⟩ := of_decide_eq_true ok
          exact lv_astore hx hb hd hl.has hjn rfl (fun ls' hl' => kk ls' H locs (LR.put1 (v := .ref x) hl.2.2.1 rfl hl') hH)
        · cases ok
      · cases h
    · cases h
  case lstore j =>
    simp only [sI] at h
    split at h
    · rename_i x st
      split at h
      · rename_i hj
        simp only [Option.some.injEq, Prod.mk.injEq] at h
        obtain ⟨rfl, rfl, rfl⟩ := h
        simp only [okI] at ok
        intro ls H locs hl hH
        have hjn : j + 1 < nL := by rw [← hl.2.2.1]; exact hj
        split at ok
        · obtain ⟨rfl, h2⟩ := of_decide_eq_true ok
          exact lv_lstore_n hx hb hd h2 hl.has hjn rfl (fun ls' hl' => kk ls' H locs (LR.put2 (v := .long x) hl.2.2.1 rfl hl') hH)
        · obtain ⟨rfl, rfl⟩ := of_decide_eq_true ok
          exact lv_lstore hx hb hd hl.has hjn rfl (fun ls' hl' => kk ls' H locs (LR.put2 (v := .long x) hl.2.2.1 rfl hl') hH)
        · cases ok
      · cases h
    · cases h
  case iinc j n =>
    simp only [sI] at h
    split at h
    · rename_i x hj
      split at h
      · rename_i hjl
        simp only [Option.some.injEq, Prod.mk.injEq] at h
        obtain ⟨rfl, rfl, rfl⟩ := h
        obtain ⟨rfl, rfl⟩ := of_decide_eq_true ok
        intro ls H locs hl hH
        have hjn : j < nL := by rw [← hl.2.2.1]; exact hjl
        have hm : (j, Value.int x) ∈ lvl ad L := lvl_mem.mpr ⟨.int x, ld_some hj rfl, rfl, rfl⟩
        obtain ⟨k, hk⟩ := List.getElem?_of_mem hm
        exact lv_iinc (v := x + Int32.ofInt n) hx hb hd hl.has hk rfl hjn rfl (fun ls' hl' => kk ls' H locs (LR.put1 (v := .int (x + Int32.ofInt n)) hl.2.2.1 rfl hl') hH)
      · cases h
    · cases h
  case iadd =>
    simp only [sI] at h
    split at h
    · simp only [Option.some.injEq, Prod.mk.injEq] at h
      obtain ⟨rfl, rfl, rfl⟩ := h
      obtain ⟨rfl, rfl⟩ := bin_ok ok
      exact fun ls H locs hl hH => lv_iadd hx hb hd (kk ls H locs hl hH)
    · cases h
  case isub =>
    simp only [sI] at h
    split at h
    · simp only [Option.some.injEq, Prod.mk.injEq] at h
      obtain ⟨rfl, rfl, rfl⟩ := h
      obtain ⟨rfl, rfl⟩ := bin_ok ok
      exact fun ls H locs hl hH => lv_isub hx hb hd (kk ls H locs hl hH)
    · cases h
  case imul =>
    simp only [sI] at h
    split at h
    · simp only [Option.some.injEq, Prod.mk.injEq] at h
      obtain ⟨rfl, rfl, rfl⟩ := h
      obtain ⟨rfl, rfl⟩ := bin_ok ok
      exact fun ls H locs hl hH => lv_imul hx hb hd (kk ls H locs hl hH)
    · cases h
  case idiv =>
    simp only [sI] at h
    split at h
    · split at h
      · cases h
      · rename_i hne
        simp only [Option.some.injEq, Prod.mk.injEq] at h
        obtain ⟨rfl, rfl, rfl⟩ := h
        obtain ⟨rfl, rfl⟩ := bin_ok ok
        exact fun ls H locs hl hH => lv_idiv hx hb hd hne (kk ls H locs hl hH)
    · cases h
  case irem =>
    simp only [sI] at h
    split at h
    · split at h
      · cases h
      · rename_i hne
        simp only [Option.some.injEq, Prod.mk.injEq] at h
        obtain ⟨rfl, rfl, rfl⟩ := h
        obtain ⟨rfl, rfl⟩ := bin_ok ok
        exact fun ls H locs hl hH => lv_irem hx hb hd hne (kk ls H locs hl hH)
    · cases h
  case iand =>
    simp only [sI] at h
    split at h
    · simp only [Option.some.injEq, Prod.mk.injEq] at h
      obtain ⟨rfl, rfl, rfl⟩ := h
      obtain ⟨rfl, rfl⟩ := bin_ok ok
      exact fun ls H locs hl hH => lv_iand hx hb hd (kk ls H locs hl hH)
    · cases h
  case ior =>
    simp only [sI] at h
    split at h
    · simp only [Option.some.injEq, Prod.mk.injEq] at h
      obtain ⟨rfl, rfl, rfl⟩ := h
      obtain ⟨rfl, rfl⟩ := bin_ok ok
      exact fun ls H locs hl hH => lv_ior hx hb hd (kk ls H locs hl hH)
    · cases h
  case ixor =>
    simp only [sI] at h
    split at h
    · simp only [Option.some.injEq, Prod.mk.injEq] at h
      obtain ⟨rfl, rfl, rfl⟩ := h
      obtain ⟨rfl, rfl⟩ := bin_ok ok
      exact fun ls H locs hl hH => lv_ixor hx hb hd (kk ls H locs hl hH)
    · cases h
  case ishl =>
    simp only [sI] at h
    split at h
    · simp only [Option.some.injEq, Prod.mk.injEq] at h
      obtain ⟨rfl, rfl, rfl⟩ := h
      obtain ⟨rfl, rfl⟩ := bin_ok ok
      exact fun ls H locs hl hH => lv_ishl hx hb hd (kk ls H locs hl hH)
    · cases h
  case ishr =>
    simp only [sI] at h
    split at h
    · simp only [Option.some.injEq, Prod.mk.injEq] at h
      obtain ⟨rfl, rfl, rfl⟩ := h
      obtain ⟨rfl, rfl⟩ := bin_ok ok
      exact fun ls H locs hl hH => lv_ishr hx hb hd (kk ls H locs hl hH)
    · cases h
  case iushr =>
    simp only [sI] at h
    split at h
    · simp only [Option.some.injEq, Prod.mk.injEq] at h
      obtain ⟨rfl, rfl, rfl⟩ := h
      obtain ⟨rfl, rfl⟩ := bin_ok ok
      exact fun ls H locs hl hH => lv_iushr hx hb hd rfl (kk ls H locs hl hH)
    · cases h
  case ladd =>
    simp only [sI] at h
    split at h
    · simp only [Option.some.injEq, Prod.mk.injEq] at h
      obtain ⟨rfl, rfl, rfl⟩ := h
      obtain ⟨rfl, rfl⟩ := bin_ok ok
      exact fun ls H locs hl hH => lv_ladd hx hb hd (kk ls H locs hl hH)
    · cases h
  case lsub =>
    simp only [sI] at h
    split at h
    · simp only [Option.some.injEq, Prod.mk.injEq] at h
      obtain ⟨rfl, rfl, rfl⟩ := h
      obtain ⟨rfl, rfl⟩ := bin_ok ok
      exact fun ls H locs hl hH => lv_lsub hx hb hd (kk ls H locs hl hH)
    · cases h
  case lmul =>
    simp only [sI] at h
    split at h
    · simp only [Option.some.injEq, Prod.mk.injEq] at h
      obtain ⟨rfl, rfl, rfl⟩ := h
      obtain ⟨rfl, rfl⟩ := bin_ok ok
      exact fun ls H locs hl hH => lv_lmul hx hb hd (kk ls H locs hl hH)
    · cases h
  case ldiv =>
    simp only [sI] at h
    split at h
    · split at h
      · cases h
      · rename_i hne
        simp only [Option.some.injEq, Prod.mk.injEq] at h
        obtain ⟨rfl, rfl, rfl⟩ := h
        obtain ⟨rfl, rfl⟩ := bin_ok ok
        exact fun ls H locs hl hH => lv_ldiv hx hb hd hne (kk ls H locs hl hH)
    · cases h
  case lrem =>
    simp only [sI] at h
    split at h
    · split at h
      · cases h
      · rename_i hne
        simp only [Option.some.injEq, Prod.mk.injEq] at h
        obtain ⟨rfl, rfl, rfl⟩ := h
        obtain ⟨rfl, rfl⟩ := bin_ok ok
        exact fun ls H locs hl hH => lv_lrem hx hb hd hne (kk ls H locs hl hH)
    · cases h
  case lcmp =>
    simp only [sI] at h
    split at h
    · simp only [Option.some.injEq, Prod.mk.injEq] at h
      obtain ⟨rfl, rfl, rfl⟩ := h
      obtain ⟨rfl, rfl⟩ := bin_ok ok
      exact fun ls H locs hl hH => W.lcmp hx hb hd (kk ls H locs hl hH)
    · cases h
  case i2l =>
    simp only [sI] at h
    split at h
    · simp only [Option.some.injEq, Prod.mk.injEq] at h
      obtain ⟨rfl, rfl, rfl⟩ := h
      obtain ⟨rfl, rfl⟩ := bin_ok ok
      exact fun ls H locs hl hH => lv_i2l hx hb hd rfl (kk ls H locs hl hH)
    · cases h
  case l2i =>
    simp only [sI] at h
    split at h
    · simp only [Option.some.injEq, Prod.mk.injEq] at h
      obtain ⟨rfl, rfl, rfl⟩ := h
      obtain ⟨rfl, rfl⟩ := bin_ok ok
      exact fun ls H locs hl hH => lv_l2i hx hb hd rfl (kk ls H locs hl hH)
    · cases h
  case i2b =>
    simp only [sI] at h
    split at h
    · simp only [Option.some.injEq, Prod.mk.injEq] at h
      obtain ⟨rfl, rfl, rfl⟩ := h
      obtain ⟨rfl, rfl⟩ := bin_ok ok
      exact fun ls H locs hl hH => lv_i2b hx hb hd rfl (kk ls H locs hl hH)
    · cases h
  case i2s =>
    simp only [sI] at h
    split at h
    · simp only [Option.some.injEq, Prod.mk.injEq] at h
      obtain ⟨rfl, rfl, rfl⟩ := h
      obtain ⟨rfl, rfl⟩ := bin_ok ok
      exact fun ls H locs hl hH => lv_i2s hx hb hd rfl (kk ls H locs hl hH)
    · cases h
  case dup =>
    simp only [sI] at h
    split at h
    · split at h
      · rename_i hcat
        simp only [Option.some.injEq, Prod.mk.injEq] at h
        obtain ⟨rfl, rfl, rfl⟩ := h
        obtain ⟨rfl, rfl⟩ := bin_ok ok
        exact fun ls H locs hl hH => lv_dup hx hb hd (by rw [cv_cat]; exact hcat) (kk ls H locs hl hH)
      · cases h
    · cases h
  case dup2 =>
    simp only [sI] at h
    split at h
    · split at h
      · rename_i hcat
        simp only [Option.some.injEq, Prod.mk.injEq] at h
        obtain ⟨rfl, rfl, rfl⟩ := h
        obtain ⟨rfl, rfl⟩ := bin_ok ok
        exact fun ls H locs hl hH => lv_dup2_11 hx hb hd (by rw [cv_cat]; exact hcat.1) (by rw [cv_cat]; exact hcat.2) (kk ls H locs hl hH)
      · cases h
    · cases h
  case pop =>
    simp only [sI] at h
    split at h
    · split at h
      · rename_i hcat
        simp only [Option.some.injEq, Prod.mk.injEq] at h
        obtain ⟨rfl, rfl, rfl⟩ := h
        obtain ⟨rfl, rfl⟩ := bin_ok ok
        exact fun ls H locs hl hH => lv_pop hx hb hd (by rw [cv_cat]; exact hcat) (kk ls H locs hl hH)
      · cases h
    · cases h
  case pop2 =>
    simp only [sI] at h
    split at h
    · split at h
      · rename_i hcat
        simp only [Option.some.injEq, Prod.mk.injEq] at h
        obtain ⟨rfl, rfl, rfl⟩ := h
        obtain ⟨rfl, rfl⟩ := bin_ok ok
        exact fun ls H locs hl hH => lv_pop2_2 hx hb hd (by rw [cv_cat]; exact hcat) (kk ls H locs hl hH)
      · cases h
    · cases h
  case getfield k =>
    simp only [sI] at h
    split at h
    · split at h
      · rename_i v hv
        simp only [Option.some.injEq, Prod.mk.injEq] at h
        obtain ⟨rfl, rfl, rfl⟩ := h
        simp only [okI] at ok
        split at ok
        · simp only [Bool.and_eq_true, decide_eq_true_eq] at ok
          obtain ⟨rfl, h2⟩ := ok
          exact go_get X hv h2 hd kk
        · cases ok
      · cases h
    · cases h
  case putfield k =>
    simp only [sI] at h
    split at h
    · split at h
      · rename_i v hv
        simp only [Option.some.injEq, Prod.mk.injEq] at h
        obtain ⟨rfl, rfl, rfl⟩ := h
        simp only [okI] at ok
        split at ok
        · simp only [Bool.and_eq_true, decide_eq_true_eq] at ok
          obtain ⟨rfl, h2⟩ := ok
          exact go_put X hv h2 hd kk
        · cases ok
      · cases h
    · cases h
  case iaload =>
    simp only [sI] at h
    split at h
    · split at h
      · rename_i v hv
        simp only [Option.some.injEq, Prod.mk.injEq] at h
        obtain ⟨rfl, rfl, rfl⟩ := h
        obtain ⟨rfl, rfl⟩ := bin_ok ok
        exact go_iald X hv hd kk
      · cases h
    · cases h
  case baload =>
    simp only [sI] at h
    split at h
    · split at h
      · rename_i v hv
        simp only [Option.some.injEq, Prod.mk.injEq] at h
        obtain ⟨rfl, rfl, rfl⟩ := h
        obtain ⟨rfl, rfl⟩ := bin_ok ok
        exact go_bald X hv hd kk
      · cases h
    · cases h
  case iastore =>
    simp only [sI] at h
    split at h
    · split at h
      · rename_i v hv
        simp only [Option.some.injEq, Prod.mk.injEq] at h
        obtain ⟨rfl, rfl, rfl⟩ := h
        obtain ⟨rfl, rfl⟩ := bin_ok ok
        exact go_iast X hv hd kk
      · cases h
    · cases h
  case bastore =>
    simp only [sI] at h
    split at h
    · split at h
      · rename_i v hv
        simp only [Option.some.injEq, Prod.mk.injEq] at h
        obtain ⟨rfl, rfl, rfl⟩ := h
        obtain ⟨rfl, rfl⟩ := bin_ok ok
        exact go_bast X hv hd kk
      · cases h
    · cases h
  case aaload =>
    simp only [sI] at h
    split at h
    · split at h
      · rename_i v hv
        simp only [Option.some.injEq, Prod.mk.injEq] at h
        obtain ⟨rfl, rfl, rfl⟩ := h
        obtain ⟨rfl, rfl⟩ := bin_ok ok
        exact go_aald X hv hd kk
      · cases h
    · cases h
  case arraylength =>
    simp only [sI] at h
    split at h
    · split at h
      · rename_i T ho ht
        simp only [Option.some.injEq, Prod.mk.injEq] at h
        obtain ⟨rfl, rfl, rfl⟩ := h
        obtain ⟨rfl, rfl⟩ := bin_ok ok
        exact fun ls H locs hl hH => va_tlen hx hb (hSt.1 _ T ho ht) hH.2.2 rfl hd (kk ls H locs hl hH)
      · cases h
    · cases h
  case monitorenter =>
    simp only [sI] at h
    split at h
    · split at h
      · rename_i hcat
        split at h
        · rename_i m' hv
          simp only [Option.some.injEq, Prod.mk.injEq] at h
          obtain ⟨rfl, rfl, rfl⟩ := h
          simp only [okI] at ok
          split at ok
          · simp only [Bool.and_eq_true, decide_eq_true_eq] at ok
            obtain ⟨⟨rfl, h1, h2⟩, h3⟩ := ok
            exact go_copy X (Nat.le_trans h1 hfr) (Nat.le_trans h2 hlo) hv h3 hcat hd kk
          · cases ok
        · cases h
      · cases h
    · cases h
  case invokestatic z =>
    simp only [sI] at h
    split at h
    · rename_i As rest hp
      split at h
      · rename_i hcat
        split at h
        · rename_i v m' hv
          simp only [Option.some.injEq, Prod.mk.injEq] at h
          obtain ⟨rfl, rfl, rfl⟩ := h
          simp only [okI] at ok
          split at ok
          · simp only [Bool.and_eq_true, decide_eq_true_eq] at ok
            obtain ⟨⟨rfl, h1, h2⟩, h3⟩ := ok
            obtain ⟨g1, g2, g3⟩ := meth_of h3
            obtain ⟨B, b1, b2, b3⟩ := popN_spec _ _ _ _ _ hp
            have e1 : st = As.reverse ++ rest := by rw [b1, b2]; simp
            have e2 : As.length = mN z := by rw [b1]; simp [b3]
            rw [e1]
            exact go_S hT X (hC z As m0 (v, m') hv) g1 g2 g3 (Nat.le_trans h1 hfr) (Nat.le_trans h2 hlo) e2 hcat hd hc hsl kk
          · cases ok
        · cases h
      · cases h
    · cases h
  case invokevirtual z =>
    simp only [sI] at h
    split at h
    · rename_i As o rest hp
      split at h
      · rename_i hcat
        split at h
        · rename_i v m' hv
          simp only [Option.some.injEq, Prod.mk.injEq] at h
          obtain ⟨rfl, rfl, rfl⟩ := h
          simp only [okI] at ok
          split at ok
          · simp only [Bool.and_eq_true, decide_eq_true_eq] at ok
            obtain ⟨⟨rfl, h1, h2⟩, h3⟩ := ok
            obtain ⟨g1, g2, g3⟩ := meth_of h3
            obtain ⟨B, b1, b2, b3⟩ := popN_spec _ _ _ _ _ hp
            have e1 : st = As.reverse ++ .ref o :: rest := by rw [b1, b2]; simp
            have e2 : As.length = mN z := by rw [b1]; simp [b3]
            rw [e1]
            exact go_V hT X (hC z (.ref o :: As) m0 (v, m') hv) g1 g2 g3 (Nat.le_trans h1 hfr) (Nat.le_trans h2 hlo) e2 hcat.2 hcat.1 hd hc hsl kk
          · cases ok
        · cases h
      · cases h
    · cases h
  all_goals (simp [sI] at h)
end SimR
end
section
/-! jumps, answers, whole methods -/
def retOK (cc : ByteArray) (rt : Option FieldType) (pc : Nat) (v : Option Value) : Prop := match v with
  | none => decode cc pc = .ok (.return_, 1) ∧ rt = none
  | some (.int x) => decode cc pc = .ok (.ireturn, 1) ∧ okZ rt x = true
  | some (.long _) => decode cc pc = .ok (.lreturn, 1) ∧ rt = some .long
  | some (.ref _) => decode cc pc = .ok (.areturn, 1) ∧ isRefT rt = true
  | _ => False
section SimX
variable {l : Launch} {sh : List ShE} {ad : Nat → Nat} {dA : Nat → ClassId} {D : va_G}
variable {p : Program} {e : Env} {R : Room} {s : State} {m : MethodId} {args : Array Value} {below : List Frame} {meth : Method} {c : Code} {cells slots : Nat} {Q : State → Prop}
variable {tb : Nat → Option (List Int32)} {A : Nat → Prop} {own nL fr lo : Nat} {cc : ByteArray} {C : CallS} {rt : Option FieldType}
theorem to_tgt {pc : Nat} {off t : Int} (h : (pc : Int) + off = t) (h0 : 0 ≤ t) : (pc : Int) + off = (t.toNat : Int) := by rw [h, Int.toNat_of_nonneg h0]
theorem osw_map {d : Int} {pc : Nat} {k : Int} : ∀ (ps : List (Int × Int)), Op.lookupswitch.offset (ps.map (fun x => (x.1, (pc : Int) + x.2))) ((pc : Int) + d) k = (pc : Int) + Op.lookupswitch.offset ps d k
  | [] => rfl
  | (a, o) :: r => by
    rw [List.map_cons, Op.lookupswitch.offset_cons, Op.lookupswitch.offset_cons]
    by_cases h : a = k
    · rw [if_pos h, if_pos h]
    · rw [if_neg h, if_neg h]
      exact osw_map r
theorem osw_nonneg {d : Int} {k : Int} (hd : 0 ≤ d) : ∀ (ps : List (Int × Int)), (∀ x ∈ ps, (0 : Int) ≤ x.2) → 0 ≤ Op.lookupswitch.offset ps d k
  | [], _ => hd
  | (a, o) :: r, h => by
    rw [Op.lookupswitch.offset_cons]
    by_cases e : a = k
    · rw [if_pos e]
      exact h (a, o) List.mem_cons_self
    · rw [if_neg e]
      exact osw_nonneg hd r (fun x hx => h x (List.mem_cons_of_mem _ hx))
set_option maxHeartbeats 4000000 in
theorem sim_exI (hT : ∀ o T, tb0 o = some T → tb o = some T) (X : Cx sh tb ad dA D A own nL cc p s m args c) (hC : ∀ z As m0 r, C z As m0 = some r → MetZ l sh ad dA D z As m0 r) (hfr : fr ≤ R.frames) (hlo : lo ≤ R.locals) (hc : cells ≤ R.cells) (hsl : slots ≤ R.slots) {K : KS} {r : Rs}
    (hJ : ∀ pc L st m0, K pc L st m0 = some r → Gd l sh ad dA D A nL p e R s m args below meth c cells slots Q pc L st m0)
    (hR : ∀ pc L, retOK cc rt pc r.1 → Gd l sh ad dA D A nL p e R s m args below meth c cells slots Q pc L r.1.toList r.2) :
    ∀ (is : List ClassFile.Instr) (pc : Nat) (L st : List Value) (m0 : Mm), okL own fr lo cc is pc = true → exI sh tb mN mO C rt K is L st m0 = some r → Gd l sh ad dA D A nL p e R s m args below meth c cells slots Q pc L st m0 := by
  obtain ⟨hx, hb, hml, hown, hts, hK, hsh, hSt, hA⟩ := id X
  intro is
  induction is with
  | nil => intro pc L st m0 _ h; simp [exI] at h
  | cons i is ih =>
    intro pc L st m0 ok h
    cases i
    case goto_w t =>
      simp only [exI] at h
      have e1 : t = (pc : Int) := of_decide_eq_true ok
      subst e1
      exact hJ _ _ _ _ h
    case goto t =>
      simp only [exI] at h
      simp only [okL] at ok
      split at ok
      · rename_i raw len hd
        simp only [Bool.and_eq_true] at ok
        have ok1 := ok.1
        simp only [okI] at ok1
        split at ok1
        · obtain ⟨rfl, h2, h3⟩ := of_decide_eq_true ok1
          exact fun ls H locs hl hH => lv_goto hx hb hd (to_tgt h2 h3) (hJ _ _ _ _ h ls H locs hl hH)
        · cases ok1
      · cases ok
    case ifCond cd t =>
      simp only [exI] at h
      simp only [okL] at ok
      split at ok
      · rename_i raw len hd
        simp only [Bool.and_eq_true] at ok
        obtain ⟨ok1, ok2⟩ := ok
        simp only [okI] at ok1
        split at ok1
        · rename_i cd1 off1
          obtain ⟨rfl, h1, h2, h3⟩ := of_decide_eq_true ok1
          rw [h1] at hd
          split at h
          · rename_i x st
            have ht := to_tgt h2 h3
            have jt : cmpB cd x 0 = true → Gd l sh ad dA D A nL p e R s m args below meth c cells slots Q t.toNat L st m0 := fun hc => by
              rw [if_pos hc] at h
              exact hJ _ _ _ _ h
            have jf : ¬ cmpB cd x 0 = true → Gd l sh ad dA D A nL p e R s m args below meth c cells slots Q (pc + 3) L st m0 := fun hc => by
              rw [if_neg hc] at h
              exact ih _ _ _ _ ok2 h
            intro ls H locs hl hH
            cases cd
            · exact lv_if_eq hx hb hd ht (fun z => jt (by simpa [cmpB] using z) ls H locs hl hH) (fun z => jf (by simpa [cmpB] using z) ls H locs hl hH)
            · exact lv_if_ne hx hb hd ht (fun z => jt (by simpa [cmpB] using z) ls H locs hl hH) (fun z => jf (by simpa [cmpB] using z) ls H locs hl hH)
            · exact lv_if_lt hx hb hd ht (fun z => jt (by simpa [cmpB] using z) ls H locs hl hH) (fun z => jf (by simpa [cmpB] using z) ls H locs hl hH)
            · exact lv_if_ge hx hb hd ht (fun z => jt (by simpa [cmpB] using z) ls H locs hl hH) (fun z => jf (by simpa [cmpB] using z) ls H locs hl hH)
            · exact lv_if_gt hx hb hd ht (fun z => jt (by simpa [cmpB] using z) ls H locs hl hH) (fun z => jf (by simpa [cmpB] using z) ls H locs hl hH)
            · exact lv_if_le hx hb hd ht (fun z => jt (by simpa [cmpB] using z) ls H locs hl hH) (fun z => jf (by simpa [cmpB] using z) ls H locs hl hH)
          · cases h
        · cases ok1
      · cases ok
    case if_icmp cd t =>
      simp only [exI] at h
      simp only [okL] at ok
      split at ok
      · rename_i raw len hd
        simp only [Bool.and_eq_true] at ok
        obtain ⟨ok1, ok2⟩ := ok
        simp only [okI] at ok1
        split at ok1
        · rename_i cd1 off1
          obtain ⟨rfl, h1, h2, h3⟩ := of_decide_eq_true ok1
          rw [h1] at hd
          split at h
          · rename_i y x st
            have ht := to_tgt h2 h3
            have jt : cmpB cd x y = true → Gd l sh ad dA D A nL p e R s m args below meth c cells slots Q t.toNat L st m0 := fun hc => by
              rw [if_pos hc] at h
              exact hJ _ _ _ _ h
            have jf : ¬ cmpB cd x y = true → Gd l sh ad dA D A nL p e R s m args below meth c cells slots Q (pc + 3) L st m0 := fun hc => by
              rw [if_neg hc] at h
              exact ih _ _ _ _ ok2 h
            intro ls H locs hl hH
            cases cd
            · exact lv_icmp_eq hx hb hd ht (fun z => jt (by simpa [cmpB] using z) ls H locs hl hH) (fun z => jf (by simpa [cmpB] using z) ls H locs hl hH)
            · exact lv_icmp_ne hx hb hd ht (fun z => jt (by simpa [cmpB] using z) ls H locs hl hH) (fun z => jf (by simpa [cmpB] using z) ls H locs hl hH)
            · exact lv_icmp_lt hx hb hd ht (fun z => jt (by simpa [cmpB] using z) ls H locs hl hH) (fun z => jf (by simpa [cmpB] using z) ls H locs hl hH)
            · exact lv_icmp_ge hx hb hd ht (fun z => jt (by simpa [cmpB] using z) ls H locs hl hH) (fun z => jf (by simpa [cmpB] using z) ls H locs hl hH)
            · exact lv_icmp_gt hx hb hd ht (fun z => jt (by simpa [cmpB] using z) ls H locs hl hH) (fun z => jf (by simpa [cmpB] using z) ls H locs hl hH)
            · exact lv_icmp_le hx hb hd ht (fun z => jt (by simpa [cmpB] using z) ls H locs hl hH) (fun z => jf (by simpa [cmpB] using z) ls H locs hl hH)
          · cases h
        · cases ok1
      · cases ok
    case tableswitch d lo' hi' offs =>
      simp only [exI] at h
      simp only [okL] at ok
      split at ok
      · rename_i raw len hd
        simp only [Bool.and_eq_true] at ok
        obtain ⟨ok1, ok2⟩ := ok
        simp only [okI] at ok1
        split at ok1
        · rename_i d1 lo1 hi1 offs1
          obtain ⟨rfl, rfl, h2, h3, h4, h5, h6⟩ := of_decide_eq_true ok1
          split at h
          · rename_i x st
            intro ls H locs hl hH
            have k9 := hJ _ _ _ _ h ls H locs hl hH
            by_cases hq : x.toInt < lo1 ∨ hi1 < x.toInt
            · unfold swT at k9
              rw [if_pos hq] at k9
              exact lv_tableOut hx hb hd hq (to_tgt h2 h3) k9
            · unfold swT at k9
              rw [if_neg hq] at k9
              have q1 : ¬ x.toInt < lo1 := fun z => hq (Or.inl z)
              have q2 : ¬ hi1 < x.toInt := fun z => hq (Or.inr z)
              have hlt : (x.toInt - lo1).toNat < offs1.size := by omega
              have e1 : offs1[(x.toInt - lo1).toNat]? = some (offs1[(x.toInt - lo1).toNat]) := Array.getElem?_eq_getElem hlt
              have e2 : offs[(x.toInt - lo1).toNat]? = some ((pc : Int) + offs1[(x.toInt - lo1).toNat]) := by
                rw [← Array.getElem?_toList, h4, List.getElem?_map, Array.getElem?_toList, e1]
                rfl
              have e3 : offs.getD (x.toInt - lo1).toNat d = (pc : Int) + offs1[(x.toInt - lo1).toNat] := by
                rw [Array.getD_eq_getD_getElem?, e2]
                rfl
              have e4 : (0 : Int) ≤ (pc : Int) + offs1[(x.toInt - lo1).toNat] := h6 _ (by
                rw [← Array.getElem?_toList] at e2
                exact List.mem_of_getElem? e2)
              rw [e3] at k9
              exact lv_tableIn hx hb hd q1 q2 e1 (to_tgt rfl e4) k9
          · cases h
        · cases ok1
      · cases ok
    case lookupswitch d ps =>
      simp only [exI] at h
      simp only [okL] at ok
      split at ok
      · rename_i raw len hd
        simp only [Bool.and_eq_true] at ok
        obtain ⟨ok1, ok2⟩ := ok
        simp only [okI] at ok1
        split at ok1
        · rename_i d1 ps1
          obtain ⟨h2, h3, h4, h5, h6⟩ := of_decide_eq_true ok1
          split at h
          · rename_i x st
            intro ls H locs hl hH
            have k9 := hJ _ _ _ _ h ls H locs hl hH
            unfold swL at k9
            have e1 : Op.lookupswitch.offset ps.toList d x.toInt = (pc : Int) + Op.lookupswitch.offset ps1.toList d1 x.toInt := by
              rw [h4, ← h2, osw_map]
            have e2 := osw_nonneg (k := x.toInt) h3 _ h6
            rw [e1] at k9 e2
            exact lv_lookup hx hb hd h5 rfl (to_tgt rfl e2) k9
          · cases h
        · cases ok1
      · cases ok
    case ireturn =>
      simp only [exI] at h
      split at h
      · rename_i x
        split at h
        · rename_i hz
          simp only [Option.some.injEq] at h
          subst h
          simp only [okL] at ok
          split at ok
          · rename_i raw len hd
            simp only [Bool.and_eq_true] at ok
            obtain ⟨rfl, rfl⟩ := bin_ok ok.1
            exact hR pc L ⟨hd, hz⟩
          · cases ok
        · cases h
      · cases h
    case lreturn =>
      simp only [exI] at h
      split at h
      · split at h
        · rename_i hz
          simp only [Option.some.injEq] at h
          subst h
          simp only [okL] at ok
          split at ok
          · rename_i raw len hd
            simp only [Bool.and_eq_true] at ok
            obtain ⟨rfl, rfl⟩ := bin_ok ok.1
            exact hR pc L ⟨hd, hz⟩
          · cases ok
        · cases h
      · cases h
    case areturn =>
      simp only [exI] at h
      split at h
      · split at h
        · rename_i hz
          simp only [Option.some.injEq] at h
          subst h
          simp only [okL] at ok
          split at ok
          · rename_i raw len hd
            simp only [Bool.and_eq_true] at ok
            obtain ⟨rfl, rfl⟩ := bin_ok ok.1
            exact hR pc L ⟨hd, hz⟩
          · cases ok
        · cases h
      · cases h
    case return_ =>
      simp only [exI] at h
      split at h
      · split at h
        · rename_i hz
          simp only [Option.some.injEq] at h
          subst h
          simp only [okL] at ok
          split at ok
          · rename_i raw len hd
            simp only [Bool.and_eq_true] at ok
            obtain ⟨rfl, rfl⟩ := bin_ok ok.1
            exact hR pc L ⟨hd, hz⟩
          · cases ok
        · cases h
      · cases h
    all_goals
      simp only [exI] at h
      split at h
      · rename_i L' st' m' hs
        simp only [okL] at ok
        split at ok
        · rename_i raw len hd
          simp only [Bool.and_eq_true] at ok
          exact sim_step hT X hC hfr hlo hc hsl hs ok.1 hd (fun t q => by cases q) (ih _ _ _ _ ok.2 h)
        · cases ok
      · cases h
/-- a run -/
theorem sim_rn (hT : ∀ o T, tb0 o = some T → tb o = some T) (X : Cx sh tb ad dA D A own nL cc p s m args c) (hC : ∀ z As m0 r, C z As m0 = some r → MetZ l sh ad dA D z As m0 r) (hfr : fr ≤ R.frames) (hlo : lo ≤ R.locals) (hc : cells ≤ R.cells) (hsl : slots ≤ R.slots) {code : Nat → List ClassFile.Instr} (hok : ∀ pc, okL own fr lo cc (code pc) pc = true) {r : Rs}
    (hR : ∀ pc L, retOK cc rt pc r.1 → Gd l sh ad dA D A nL p e R s m args below meth c cells slots Q pc L r.1.toList r.2) {pc : Nat} {L st : List Value} {m0 : Mm} (h : rn sh tb mN mO C rt code pc L st m0 = some r) : Gd l sh ad dA D A nL p e R s m args below meth c cells slots Q pc L st m0 := by
  obtain ⟨n, h1⟩ := (rn_iff sh tb mN mO C rt code).mp h
  clear h
  induction n generalizing pc L st m0 with
  | zero => cases h1
  | succ n ih => exact sim_exI hT X hC hfr hlo hc hsl (K := rnN sh tb mN mO C rt code n) (fun pc L st m0 h => ih h) hR _ _ _ _ _ (hok pc) h1
end SimX
/-- the meaning of each method, by the depth of calls; that of isWord is given -/
noncomputable def semZ (sh : List ShE) (wS : List Value → Mm → Option Rs) : Nat → CallS
  | 0, _, _, _ => none
  | d + 1, z, As, m0 => if z = zX3_isWord then wS As m0 else if (argL As).length ≤ mX z ∧ z + 1 < nZ then rn sh tb0 mN mO (semZ sh wS d) (mT z) (codeZ z) 0 (initL (mX z) As) [] m0 else none
def okZ1 (z : Nat) : Bool := okM (mO z) (mF z) (mL z) (mB z) (cdL.getD z [])
theorem okL_code {own fr lo z : Nat} {cc : ByteArray} (h : okM own fr lo cc (cdL.getD z []) = true) (pc : Nat) : okL own fr lo cc (codeZ z pc) pc = true := by
  unfold codeZ
  cases hl : (cdL.getD z []).lookup pc with
  | none => rfl
  | some is =>
    have hm : (pc, is) ∈ cdL.getD z [] := by
      generalize cdL.getD z [] = l at hl
      induction l with
      | nil => cases hl
      | cons a l ih =>
        rw [List.lookup_cons] at hl
        split at hl
        · rename_i e
          have : pc = a.1 := by simpa using e
          cases hl
          rw [this]
          exact List.mem_cons_self
        · exact List.mem_cons_of_mem _ (ih hl)
    exact List.all_eq_true.mp h _ hm
section SimM
variable {l : Launch} {sh : List ShE} {ad : Nat → Nat} {dA : Nat → ClassId} {D : va_G}
theorem met_all (hsh : shOK sh = true) (hok : ∀ z, z + 1 < nZ → okZ1 z = true) {wS : List Value → Mm → Option Rs} (hW : ∀ As m0 r, wS As m0 = some r → MetZ l sh ad dA D zX3_isWord As m0 r) : ∀ (d z : Nat) (As : List Value) (m0 : Mm) (r : Rs), semZ sh wS d z As m0 = some r → MetZ l sh ad dA D z As m0 r := by
  intro d
  induction d with
  | zero => intro z As m0 r h; cases h
  | succ d ih =>
    intro z As m0 r h
    unfold semZ at h
    split at h
    · rename_i hz
      rw [hz]
      exact hW As m0 r h
    · split at h
      · rename_i hz
        obtain ⟨hal, hz⟩ := hz
        obtain ⟨i1, i2, i3, i4, i5, i6⟩ := z_st hz
        intro sz
        refine Met.ofW (cc := mB z) (maxL := mX z) (ret := mT z) i5 rfl ?_
        intro p e s m args below meth c s₁ B hml hv
        obtain ⟨rfl, hsz, hP, hK, hD0, hSt⟩ := hv
        subst hsz
        have hr := B.returns
        have hts := atoms_spec (ws := mW z) B.pre
        have hown : s.vm.findClass (mY z).cls = some m.cls := findClass_of_methodNamed B.named
        have hlocks := B.notSynchronized
        rw [i6] at hown
        have X : Cx sh tb0 ad dA D (AA sh ad s.heap.size) (mO z) (mX z) (mB z) p s m (As.map (cv ad)).toArray c := ⟨B.exec, B.bytes, hml, hown, fun w hw => hts w (List.mem_cons_of_mem _ hw), hK, hsh, hSt, fun q h => h⟩
        have hD : va_D (AA sh ad s.heap.size) (cellsW sh ad dA m0) := ⟨hD0.1, fun k q hk => Or.inl ⟨k, (cellsW_addr hk).1, (cellsW_addr hk).2⟩⟩
        rw [lg_entry_eq]
        refine sim_rn (fr := mF z) (lo := mL z) (fun o T h => h) X ih (Nat.le_refl _) (Nat.le_refl _) (Nat.le_refl _) (Nat.le_refl _) (okL_code (hok z hz)) (fun pc L hret ls H locs hl hH => ?_) h _ s.heap [] (LR_entry ad As hal) ⟨hP, hD, va_S.rf⟩
        have hq : ∀ t : State, t.heap = H → s.WarmedH t.vm → QcZ sh ad dA D r s.heap.size (As.map (cv ad)).toArray s (.returned (r.1.map (cv ad))) t := fun t ht _ => ⟨⟨rfl, by rw [ht]; exact hH.1⟩, hH.2.2.F ht⟩
        obtain ⟨v, m1⟩ := r
        cases v with
        | none =>
          obtain ⟨h1, h2⟩ := hret
          rw [h2] at hr
          exact W.vret B.exec B.bytes hr hq hH.2.2.2.2 h1
        | some v =>
          cases v with
          | int x =>
            obtain ⟨h1, h2⟩ := hret
            unfold okZ at h2
            split at h2
            · rename_i h3
              rw [h3] at hr
              exact W.iret B.exec B.bytes hr hq hH.2.2.2.2 h1
            · rename_i h3
              rw [h3] at hr
              simp only [Bool.or_eq_true, decide_eq_true_eq] at h2
              exact W.zret B.exec B.bytes hr (by rcases h2 with rfl | rfl <;> decide +kernel) hq hH.2.2.2.2 h1
            · cases h2
          | long x =>
            obtain ⟨h1, h2⟩ := hret
            rw [h2] at hr
            exact W.lret B.exec B.bytes hr hq hH.2.2.2.2 h1
          | ref x =>
            obtain ⟨h1, h2⟩ := hret
            unfold isRefT at h2
            split at h2
            · rename_i n h3
              rw [h3] at hr
              exact W.aret (v := .ref (ad x)) B.exec B.bytes hr (Or.inl ⟨_, rfl⟩) (Or.inr ⟨_, rfl⟩) hq hH.2.2.2.2 h1
            · rename_i n h3
              rw [h3] at hr
              exact W.aret (v := .ref (ad x)) B.exec B.bytes hr (Or.inr ⟨_, rfl⟩) (Or.inr ⟨_, rfl⟩) hq hH.2.2.2.2 h1
            · cases h2
          | _ => exact hret.elim
      · cases h
end SimM
end
