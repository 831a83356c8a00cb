/-! what the tables of 03 rest on, by the kernel -/
def tblG : List Cond := lw_tbl.filter goodWord
def wAt (pl : Nat) (w : Cond) : Bool := decide (lw_tbl[pl]? = some w) && goodWord w
theorem wAt_mem {pl : Nat} {w : Cond} (h : wAt pl w = true) : w ∈ tblG := by
  simp only [wAt, Bool.and_eq_true, decide_eq_true_eq] at h
  exact List.mem_filter.mpr ⟨List.mem_of_getElem? h.1, h.2⟩
theorem tblG_good {w : Cond} (h : w ∈ tblG) : (w.onTables && w.keeps) = true ∨ ∃ ty, w = .arrayClass ty := good_of_word (List.mem_filter.mp h).2
def clE (c : Nat) : vw_C := clsT.getD c (RX0, TX0, 0)
def TT (k : Nat) : String × String × String × Bool := (clE (k / 100)).2.1 (k % 100)
theorem clE_get {c : Nat} (h : c < 8) : clsT[c]? = some ((clE c).1, (clE c).2.1, (clE c).2.2) := by
  match c, h with
  | 0, _ => rfl
  | 1, _ => rfl
  | 2, _ => rfl
  | 3, _ => rfl
  | 4, _ => rfl
  | 5, _ => rfl
  | 6, _ => rfl
  | 7, _ => rfl
theorem ty_ok {c : Nat} (h : c < 8) : ∀ k, k < (clE c).2.2 → parseFieldDescriptor ((clE c).2.1 k).2.2.1 = some (tyT c k) := by
  match c, h with
  | 0, _ => exact tyX0_ok
  | 1, _ => exact tyX1_ok
  | 2, _ => exact tyX2_ok
  | 3, _ => exact tyX3_ok
  | 4, _ => exact tyX4_ok
  | 5, _ => exact tyX5_ok
  | 6, _ => exact tyX6_ok
  | 7, _ => exact tyX7_ok
theorem nm_ok {c : Nat} (h : c < 8) : ∀ a, a < (clE c).2.2 → ∀ b, b < (clE c).2.2 → a ≠ b → ((clE c).2.1 a).2.1 ≠ ((clE c).2.1 b).2.1 := by
  match c, h with
  | 0, _ => exact nmX0
  | 1, _ => exact nmX1
  | 2, _ => exact nmX2
  | 3, _ => exact nmX3
  | 4, _ => exact nmX4
  | 5, _ => exact nmX5
  | 6, _ => exact nmX6
  | 7, _ => exact nmX7
def layAll (C : String) (T : u_T) (N : Nat) (ps : List Nat) : Bool := (List.range N).all (fun k => wAt (ps.getD k 0) (u_lay C T k))
theorem lay_of {C : String} {T : u_T} {N : Nat} {ps : List Nat} (h : layAll C T N ps = true) : ∀ w ∈ u_ws C T N, w ∈ tblG := by
  intro w hw
  obtain ⟨k, hk, rfl⟩ := List.mem_map.mp hw
  exact wAt_mem (List.all_eq_true.mp h k hk)
theorem lay0 : layAll RX0 TX0 3 layP0 = true := by decide +kernel
theorem lay1 : layAll RX1 TX1 4 layP1 = true := by decide +kernel
theorem lay2 : layAll RX2 TX2 4 layP2 = true := by decide +kernel
theorem lay3 : layAll RX3 TX3 4 layP3 = true := by decide +kernel
theorem lay4 : layAll RX4 TX4 5 layP4 = true := by decide +kernel
theorem lay5 : layAll RX5 TX5 16 layP5 = true := by decide +kernel
theorem lay6 : layAll RX6 TX6 10 layP6 = true := by decide +kernel
theorem lay7 : layAll RX7 TX7 29 layP7 = true := by decide +kernel
theorem lay_ok {c : Nat} (h : c < 8) : ∀ w ∈ u_ws (clE c).1 (clE c).2.1 (clE c).2.2, w ∈ tblG := by
  match c, h with
  | 0, _ => exact lay_of lay0
  | 1, _ => exact lay_of lay1
  | 2, _ => exact lay_of lay2
  | 3, _ => exact lay_of lay3
  | 4, _ => exact lay_of lay4
  | 5, _ => exact lay_of lay5
  | 6, _ => exact lay_of lay6
  | 7, _ => exact lay_of lay7
def fOK (q : Nat × Nat × Nat × Nat) : Bool := decide (q.2.2.1 / 100 < 8) && (decide (q.2.2.1 % 100 < (clE (q.2.2.1 / 100)).2.2) && wAt q.2.2.2 (.fieldLink (clsN q.1) q.2.1 (TT q.2.2.1).1 (TT q.2.2.1).2.1 (TT q.2.2.1).2.2.1))
theorem fT_ok : fieldTab.all fOK = true := by decide +kernel
theorem iT_ok : intTab.all (fun q => wAt q.2.2.2 (.constant (clsN q.1) q.2.1 (Int32.ofInt q.2.2.1))) = true := by decide +kernel
theorem lT_ok : longTab.all (fun q => wAt q.2.2.2 (.constantLong (clsN q.1) q.2.1 (Int64.ofInt q.2.2.1))) = true := by decide +kernel
theorem cT_ok : copyTab.all (fun q => wAt q.2.2 (.methodLink (clsN q.1) q.2.1 arraycopyName)) = true := by decide +kernel
theorem cp_ok : (wAt plNat (.native arraycopyName) && (wAt plSta (.static arraycopyName) && wAt plSys (.initialized "java/lang/System"))) = true := by decide +kernel
def mE (z : Nat) : mthE := mthL.getD z (9, 1, 0, 0, true, 0, 0, 0, 0)
def mO (z : Nat) : Nat := (mE z).1
def mN (z : Nat) : Nat := (mE z).2.1
def mF (z : Nat) : Nat := (mE z).2.2.1
def mL (z : Nat) : Nat := (mE z).2.2.2.1
def mS (z : Nat) : Bool := (mE z).2.2.2.2.1
/-- name, bytes, locals, answer: as the word at its place has them -/
def cdW (w : Option Cond) : MethodName × ByteArray × Nat × Option FieldType := match w with
  | some (.code y b n t) => (y, b, n, t)
  | _ => (yL_law, cL_law, 4, none)
def isCd (w : Option Cond) : Bool := match w with
  | some (.code _ _ _ _) => true
  | _ => false
theorem cdW_eq {w : Option Cond} (h : isCd w = true) : w = some (.code (cdW w).1 (cdW w).2.1 (cdW w).2.2.1 (cdW w).2.2.2) := by
  unfold isCd at h
  split at h
  · rfl
  · cases h
def mC (z : Nat) : MethodName × ByteArray × Nat × Option FieldType := cdW lw_tbl[(mE z).2.2.2.2.2.1]?
def mY (z : Nat) : MethodName := (mC z).1
def mB (z : Nat) : ByteArray := (mC z).2.1
def mX (z : Nat) : Nat := (mC z).2.2.1
def mT (z : Nat) : Option FieldType := (mC z).2.2.2
def mW (z : Nat) : List Cond := .code (mY z) (mB z) (mX z) (mT z) :: tblG
def mR (z : Nat) : Room := { frames := mF z, cells := 0, slots := 0, locals := mL z }
theorem mT_ok : methTab.all (fun q => wAt q.2.2.2.2 (.methodLink (clsN q.1) q.2.1 (mY q.2.2.1)) && (decide (q.2.2.1 + 1 < nZ) && decide (mS q.2.2.1 = q.2.2.2.1))) = true := by decide +kernel
/-- what a callee's words rest on -/
def zOK (z : Nat) : Bool := isCd lw_tbl[(mE z).2.2.2.2.2.1]? && ((if mS z = true then wAt (mE z).2.2.2.2.2.2.1 (.static (mY z)) else wAt (mE z).2.2.2.2.2.2.1 (.instanceMethod (mY z)) && (wAt (mE z).2.2.2.2.2.2.2.1 (.selects (mY z).cls (mY z) (mY z)) && decide ((mO z) < 8 ∧ (clE (mO z)).1 = (mY z).cls))) && (wAt (mE z).2.2.2.2.2.2.2.2 (.initialized (mY z).cls) && (decide ((mY z).cls ≠ "java/lang/invoke/MethodHandle") && (decide ((mY z).cls ≠ "java/lang/invoke/VarHandle") && (decide ((parseMethodDescriptor (mY z).desc).map (fun d => d.parameters.length) = some (mN z)) && (plainName (mY z).cls && decide ((mY z).cls = clsN (mO z))))))))
theorem z_ok_0 : (List.range 10).all (fun k => zOK (0 + k)) = true := by decide +kernel
theorem z_ok_1 : (List.range 10).all (fun k => zOK (10 + k)) = true := by decide +kernel
theorem z_ok_2 : (List.range 10).all (fun k => zOK (20 + k)) = true := by decide +kernel
theorem z_ok_3 : (List.range 10).all (fun k => zOK (30 + k)) = true := by decide +kernel
theorem z_ok_4 : (List.range 10).all (fun k => zOK (40 + k)) = true := by decide +kernel
theorem z_ok_5 : (List.range 10).all (fun k => zOK (50 + k)) = true := by decide +kernel
theorem z_ok_6 : (List.range 10).all (fun k => zOK (60 + k)) = true := by decide +kernel
theorem z_ok_7 : (List.range 10).all (fun k => zOK (70 + k)) = true := by decide +kernel
theorem z_ok_8 : (List.range 10).all (fun k => zOK (80 + k)) = true := by decide +kernel
theorem z_ok_9 : (List.range 10).all (fun k => zOK (90 + k)) = true := by decide +kernel
theorem z_ok_10 : (List.range 10).all (fun k => zOK (100 + k)) = true := by decide +kernel
theorem z_ok_11 : (List.range 10).all (fun k => zOK (110 + k)) = true := by decide +kernel
theorem z_ok_12 : (List.range 10).all (fun k => zOK (120 + k)) = true := by decide +kernel
theorem z_ok_13 : (List.range 10).all (fun k => zOK (130 + k)) = true := by decide +kernel
theorem z_ok_14 : (List.range 10).all (fun k => zOK (140 + k)) = true := by decide +kernel
theorem z_ok_15 : (List.range 10).all (fun k => zOK (150 + k)) = true := by decide +kernel
theorem z_ok_16 : (List.range 10).all (fun k => zOK (160 + k)) = true := by decide +kernel
theorem z_ok_17 : (List.range 10).all (fun k => zOK (170 + k)) = true := by decide +kernel
theorem z_ok_18 : (List.range 6).all (fun k => zOK (180 + k)) = true := by decide +kernel
theorem z_ok {z : Nat} (h : z + 1 < nZ) : zOK z = true := by
  have h2 : z < 186 := by unfold nZ at h; omega
  have key : ∀ (a n : Nat), (List.range n).all (fun k => zOK (a + k)) = true → a ≤ z → z < a + n → zOK z = true := by
    intro a n h1 h3 h4
    have := List.all_eq_true.mp h1 (z - a) (List.mem_range.mpr (by omega))
    rwa [show a + (z - a) = z by omega] at this
  by_cases c0 : z < 10
  · exact key 0 10 z_ok_0 (by omega) (by omega)
  by_cases c1 : z < 20
  · exact key 10 10 z_ok_1 (by omega) (by omega)
  by_cases c2 : z < 30
  · exact key 20 10 z_ok_2 (by omega) (by omega)
  by_cases c3 : z < 40
  · exact key 30 10 z_ok_3 (by omega) (by omega)
  by_cases c4 : z < 50
  · exact key 40 10 z_ok_4 (by omega) (by omega)
  by_cases c5 : z < 60
  · exact key 50 10 z_ok_5 (by omega) (by omega)
  by_cases c6 : z < 70
  · exact key 60 10 z_ok_6 (by omega) (by omega)
  by_cases c7 : z < 80
  · exact key 70 10 z_ok_7 (by omega) (by omega)
  by_cases c8 : z < 90
  · exact key 80 10 z_ok_8 (by omega) (by omega)
  by_cases c9 : z < 100
  · exact key 90 10 z_ok_9 (by omega) (by omega)
  by_cases c10 : z < 110
  · exact key 100 10 z_ok_10 (by omega) (by omega)
  by_cases c11 : z < 120
  · exact key 110 10 z_ok_11 (by omega) (by omega)
  by_cases c12 : z < 130
  · exact key 120 10 z_ok_12 (by omega) (by omega)
  by_cases c13 : z < 140
  · exact key 130 10 z_ok_13 (by omega) (by omega)
  by_cases c14 : z < 150
  · exact key 140 10 z_ok_14 (by omega) (by omega)
  by_cases c15 : z < 160
  · exact key 150 10 z_ok_15 (by omega) (by omega)
  by_cases c16 : z < 170
  · exact key 160 10 z_ok_16 (by omega) (by omega)
  by_cases c17 : z < 180
  · exact key 170 10 z_ok_17 (by omega) (by omega)
  exact key 180 6 z_ok_18 (by omega) (by omega)
theorem code_in {z : Nat} (h : z + 1 < nZ) : Cond.code (mY z) (mB z) (mX z) (mT z) ∈ tblG := by
  have h1 := z_ok h
  simp only [zOK, Bool.and_eq_true] at h1
  have h2 := cdW_eq h1.1
  exact List.mem_filter.mpr ⟨List.mem_of_getElem? h2, rfl⟩
