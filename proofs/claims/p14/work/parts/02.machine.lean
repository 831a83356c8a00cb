/-! THE SMALL MACHINE: locals and stack are lists of values, a reference is the NUMBER of an object; the memory holds the whole numbers (and longs) of numbered objects; 'Sh' says what each object is. -/
/-- whole numbers and longs by object and place -/
abbrev Mm : Type := (Nat → Nat → Int32) × (Nat → Nat → Int64)
/-- an object: its class's number and its fields' kinds (0 int, 1 long, 2 boolean, r + 3 a reference to object r); or an array: its kind (0 int, 1 boolean, 2, 3 references), its length, what it refers to -/
abbrev ShE : Type := (Nat × List Nat) ⊕ (Nat × Nat × List Nat)
abbrev Rs : Type := Option Value × Mm
abbrev CallS : Type := Nat → List Value → Mm → Option Rs
def wI (m : Mm) (o j : Nat) (x : Int32) : Mm := (va_up m.1 o (upd (m.1 o) j x), m.2)
def wL (m : Mm) (o j : Nat) (x : Int64) : Mm := (m.1, va_up m.2 o (vp_updL (m.2 o) j x))
def noV : Value := .retAddr 0
def ldL (L : List Value) (i : Nat) : Value := L.getD i noV
def preL (L : List Value) (i : Nat) : List Value := match i with
  | 0 => L
  | k + 1 => if (L.getD k noV).category = 2 then L.set k noV else L
def stL (L : List Value) (i : Nat) (v : Value) : List Value := (preL L i).set i v
def st2 (L : List Value) (i : Nat) (v : Value) : List Value := ((preL L i).set i v).set (i + 1) noV
def fval (m : Mm) (o j t : Nat) : Value := match t with
  | 0 => .int (m.1 o j)
  | 1 => .long (m.2 o j)
  | 2 => .int (m.1 o j)
  | r + 3 => .ref r
def inR (i : Int32) (n : Nat) : Bool := decide (0 ≤ i) && decide (i.toNatClampNeg < n)
def cmpB (c : ClassFile.Cond) (x y : Int32) : Bool := match c with
  | .eq => decide (x = y)
  | .ne => decide (¬ x = y)
  | .lt => decide (x < y)
  | .ge => decide (y ≤ x)
  | .gt => decide (y < x)
  | .le => decide (x ≤ y)
def popN : Nat → List Value → List Value → Option (List Value × List Value)
  | 0, st, acc => some (acc, st)
  | _ + 1, [], _ => none
  | n + 1, v :: st, acc => popN n st (v :: acc)
/-- tables that nobody writes: the static arrays 1000, 1001 -/
def tb0 (o : Nat) : Option (List Int32) := if o = 1000 then some [2, 3, 3, 4] else if o = 1001 then some [1, 1, 0, 2] else none
def okZ (rt : Option FieldType) (x : Int32) : Bool := match rt with
  | some .int => true
  | some .boolean => decide (x = 0) || decide (x = 1)
  | _ => false
def isRefT (rt : Option FieldType) : Bool := match rt with
  | some (.object _) => true
  | some (.array _) => true
  | _ => false
section Mach
variable (sh : List ShE) (tb : Nat → Option (List Int32)) (np cz : Nat → Nat) (C : CallS)
/-- an object's class -/
def clO (o : Nat) : Option Nat := match sh[o]? with
  | some (.inl (ci, _)) => some ci
  | _ => none
/-- getfield of a resolved field k = class * 100 + place -/
def gfI (k o : Nat) (m : Mm) : Option Value := match sh[o]? with
  | some (.inl (ci, fs)) => if ci = k / 100 then (match fs[k % 100]? with
    | some t => some (fval m o (k % 100) t)
    | none => none) else none
  | _ => none
def pfI (k o : Nat) (v : Value) (m : Mm) : Option Mm := match sh[o]? with
  | some (.inl (ci, fs)) => if ci = k / 100 then (match fs[k % 100]?, v with
    | some 0, .int x => some (wI m o (k % 100) x)
    | some 1, .long x => some (wL m o (k % 100) x)
    | some 2, .int x => if x = 0 ∨ x = 1 then some (wI m o (k % 100) x) else none
    | _, _ => none) else none
  | _ => none
/-- what an int array holds at i -/
def alI (kd o : Nat) (i : Int32) (m : Mm) : Option Int32 := match sh[o]? with
  | some (.inr (k, n, _)) => if k = kd ∧ inR i n = true then some (m.1 o i.toNatClampNeg) else none
  | some (.inl _) => none
  | none => (match tb o with
    | some T => if kd = 0 ∧ inR i T.length = true then some (T.getD i.toNatClampNeg 0) else none
    | none => none)
def asI (kd o : Nat) (i x : Int32) (m : Mm) : Option Mm := match sh[o]? with
  | some (.inr (k, n, _)) => if k = kd ∧ inR i n = true ∧ (kd = 0 ∨ x = 0 ∨ x = 1) then some (wI m o i.toNatClampNeg x) else none
  | _ => none
def arI (o : Nat) (i : Int32) : Option Nat := match sh[o]? with
  | some (.inr (k, n, rs)) => if (k = 2 ∨ k = 3) ∧ inR i n = true then rs[i.toNatClampNeg]? else none
  | _ => none
def cpI (o0 o1 : Nat) (sp dp n : Int32) (m : Mm) : Option Mm := match sh[o0]?, sh[o1]? with
  | some (.inr (0, n0, _)), some (.inr (0, n1, _)) => if 0 ≤ sp ∧ 0 ≤ dp ∧ 0 ≤ n ∧ sp.toNatClampNeg + n.toNatClampNeg ≤ n0 ∧ dp.toNatClampNeg + n.toNatClampNeg ≤ n1 ∧ o0 ≠ o1 then some (va_up m.1 o1 (va_cpy (m.1 o0) (m.1 o1) sp.toNatClampNeg dp.toNatClampNeg n.toNatClampNeg), m.2) else none
  | _, _ => none
abbrev Stt3 : Type := List Value × List Value × Mm
/-- one plain instruction -/
def sI (i : ClassFile.Instr) (L st : List Value) (m : Mm) : Option Stt3 := match i with
  | .sipush n => some (L, .int (Int32.ofInt n) :: st, m)
  | .jsr n => some (L, .long (Int64.ofInt n) :: st, m)
  | .getstatic k => some (L, .ref k :: st, m)
  | .iload i => (match ldL L i with
    | .int x => some (L, .int x :: st, m)
    | _ => none)
  | .lload i => (match ldL L i with
    | .long x => some (L, .long x :: st, m)
    | _ => none)
  | .aload i => (match ldL L i with
    | .ref x => some (L, .ref x :: st, m)
    | _ => none)
  | .istore i => (match st with
    | .int x :: st => if i < L.length then some (stL L i (.int x), st, m) else none
    | _ => none)
  | .lstore i => (match st with
    | .long x :: st => if i + 1 < L.length then some (st2 L i (.long x), st, m) else none
    | _ => none)
  | .astore i => (match st with
    | .ref x :: st => if i < L.length then some (stL L i (.ref x), st, m) else none
    | _ => none)
  | .iinc i n => (match ldL L i with
    | .int x => if i < L.length then some (stL L i (.int (x + Int32.ofInt n)), st, m) else none
    | _ => none)
  | .iadd => (match st with
    | .int y :: .int x :: st => some (L, .int (x + y) :: st, m)
    | _ => none)
  | .isub => (match st with
    | .int y :: .int x :: st => some (L, .int (x - y) :: st, m)
    | _ => none)
  | .imul => (match st with
    | .int y :: .int x :: st => some (L, .int (x * y) :: st, m)
    | _ => none)
  | .idiv => (match st with
    | .int y :: .int x :: st => if y = 0 then none else some (L, .int (x / y) :: st, m)
    | _ => none)
  | .irem => (match st with
    | .int y :: .int x :: st => if y = 0 then none else some (L, .int (x - x / y * y) :: st, m)
    | _ => none)
  | .iand => (match st with
    | .int y :: .int x :: st => some (L, .int (x &&& y) :: st, m)
    | _ => none)
  | .ior => (match st with
    | .int y :: .int x :: st => some (L, .int (x ||| y) :: st, m)
    | _ => none)
  | .ixor => (match st with
    | .int y :: .int x :: st => some (L, .int (x ^^^ y) :: st, m)
    | _ => none)
  | .ishl => (match st with
    | .int y :: .int x :: st => some (L, .int (x <<< (y &&& 31)) :: st, m)
    | _ => none)
  | .ishr => (match st with
    | .int y :: .int x :: st => some (L, .int (x >>> (y &&& 31)) :: st, m)
    | _ => none)
  | .iushr => (match st with
    | .int y :: .int x :: st => some (L, .int (x.toUInt32 >>> (y.toUInt32 &&& Int32.toUInt32 31)).toInt32 :: st, m)
    | _ => none)
  | .ladd => (match st with
    | .long y :: .long x :: st => some (L, .long (x + y) :: st, m)
    | _ => none)
  | .lsub => (match st with
    | .long y :: .long x :: st => some (L, .long (x - y) :: st, m)
    | _ => none)
  | .lmul => (match st with
    | .long y :: .long x :: st => some (L, .long (x * y) :: st, m)
    | _ => none)
  | .ldiv => (match st with
    | .long y :: .long x :: st => if y = 0 then none else some (L, .long (x / y) :: st, m)
    | _ => none)
  | .lrem => (match st with
    | .long y :: .long x :: st => if y = 0 then none else some (L, .long (x - x / y * y) :: st, m)
    | _ => none)
  | .lcmp => (match st with
    | .long y :: .long x :: st => some (L, .int (lg_cmp x y) :: st, m)
    | _ => none)
  | .i2l => (match st with
    | .int x :: st => some (L, .long x.toInt64 :: st, m)
    | _ => none)
  | .l2i => (match st with
    | .long x :: st => some (L, .int x.toInt32 :: st, m)
    | _ => none)
  | .i2b => (match st with
    | .int x :: st => some (L, .int x.toInt8.toInt32 :: st, m)
    | _ => none)
  | .i2s => (match st with
    | .int x :: st => some (L, .int x.toInt16.toInt32 :: st, m)
    | _ => none)
  | .dup => (match st with
    | v :: st => if v.category = 1 then some (L, v :: v :: st, m) else none
    | _ => none)
  | .dup2 => (match st with
    | v :: w :: st => if v.category = 1 ∧ w.category = 1 then some (L, v :: w :: v :: w :: st, m) else none
    | _ => none)
  | .pop => (match st with
    | v :: st => if v.category = 1 then some (L, st, m) else none
    | _ => none)
  | .pop2 => (match st with
    | v :: st => if v.category = 2 then some (L, st, m) else none
    | _ => none)
  | .getfield k => (match st with
    | .ref o :: st => (match gfI sh k o m with
      | some v => some (L, v :: st, m)
      | none => none)
    | _ => none)
  | .putfield k => (match st with
    | v :: .ref o :: st => (match pfI sh k o v m with
      | some m' => some (L, st, m')
      | none => none)
    | _ => none)
  | .iaload => (match st with
    | .int i :: .ref o :: st => (match alI sh tb 0 o i m with
      | some x => some (L, .int x :: st, m)
      | none => none)
    | _ => none)
  | .baload => (match st with
    | .int i :: .ref o :: st => (match alI sh tb 1 o i m with
      | some x => some (L, .int x :: st, m)
      | none => none)
    | _ => none)
  | .iastore => (match st with
    | .int x :: .int i :: .ref o :: st => (match asI sh 0 o i x m with
      | some m' => some (L, st, m')
      | none => none)
    | _ => none)
  | .bastore => (match st with
    | .int x :: .int i :: .ref o :: st => (match asI sh 1 o i x m with
      | some m' => some (L, st, m')
      | none => none)
    | _ => none)
  | .aaload => (match st with
    | .int i :: .ref o :: st => (match arI sh o i with
      | some x => some (L, .ref x :: st, m)
      | none => none)
    | _ => none)
  | .arraylength => (match st with
    | .ref o :: st => (match sh[o]?, tb o with
      | none, some T => some (L, .int (Int32.ofNat T.length) :: st, m)
      | _, _ => none)
    | _ => none)
  | .monitorenter => (match st with
    | .int n :: .int dp :: .ref o1 :: .int sp :: .ref o0 :: st => if (st.map fun v => v.category).sum ≤ 8 then (match cpI sh o0 o1 sp dp n m with
      | some m' => some (L, st, m')
      | none => none) else none
    | _ => none)
  | .invokestatic z => (match popN (np z) st [] with
    | some (As, st) => if (st.map fun v => v.category).sum ≤ 8 then (match C z As m with
      | some (v, m') => some (L, v.toList ++ st, m')
      | none => none) else none
    | none => none)
  | .invokevirtual z => (match popN (np z) st [] with
    | some (As, .ref o :: st) => if (st.map fun v => v.category).sum ≤ 8 ∧ clO sh o = some (cz z) then (match C z (.ref o :: As) m with
      | some (v, m') => some (L, v.toList ++ st, m')
      | none => none) else none
    | _ => none)
  | _ => none
def swT (d lo hi : Int) (offs : Array Int) (x : Int32) : Nat := if x.toInt < lo ∨ hi < x.toInt then d.toNat else (offs.getD (x.toInt - lo).toNat d).toNat
def swL (d : Int) (ps : List (Int × Int)) (x : Int32) : Nat := (Op.lookupswitch.offset ps d x.toInt).toNat
variable (rt : Option FieldType)
abbrev KS : Type := Nat → List Value → List Value → Mm → Option Rs
/-- a run of instructions; a jump goes on by K -/
def exI (K : KS) : List ClassFile.Instr → List Value → List Value → Mm → Option Rs
  | [], _, _, _ => none
  | i :: is, L, st, m => match i with
    | .goto t => K t.toNat L st m
    | .ifCond c t => (match st with
      | .int x :: st => if cmpB c x 0 = true then K t.toNat L st m else exI K is L st m
      | _ => none)
    | .if_icmp c t => (match st with
      | .int y :: .int x :: st => if cmpB c x y = true then K t.toNat L st m else exI K is L st m
      | _ => none)
    | .tableswitch d lo hi offs => (match st with
      | .int x :: st => K (swT d lo hi offs x) L st m
      | _ => none)
    | .lookupswitch d ps => (match st with
      | .int x :: st => K (swL d ps.toList x) L st m
      | _ => none)
    | .ireturn => (match st with
      | [.int x] => if okZ rt x = true then some (some (.int x), m) else none
      | _ => none)
    | .lreturn => (match st with
      | [.long x] => if rt = some .long then some (some (.long x), m) else none
      | _ => none)
    | .areturn => (match st with
      | [.ref x] => if isRefT rt = true then some (some (.ref x), m) else none
      | _ => none)
    | .return_ => (match st with
      | [] => if rt = none then some (none, m) else none
      | _ => none)
    | .goto_w t => K t.toNat L st m
    | i => (match sI sh tb np cz C i L st m with
      | some (L', st', m') => exI K is L' st' m'
      | none => none)
theorem exI_cases (K : KS) : ∀ (is : List ClassFile.Instr) (L st : List Value) (m : Mm) (r : Rs), exI sh tb np cz C rt K is L st m = some r → (∀ K' : KS, exI sh tb np cz C rt K' is L st m = some r) ∨ ∃ pc L' st' m', K pc L' st' m' = some r ∧ ∀ K' : KS, exI sh tb np cz C rt K' is L st m = K' pc L' st' m' := by
  intro is
  induction is with
  | nil => intro L st m r h; simp [exI] at h
  | cons i is ih =>
    intro L st m r h
    cases i
    case goto t => exact Or.inr ⟨_, _, _, _, h, fun K' => rfl⟩
    case goto_w t => exact Or.inr ⟨_, _, _, _, h, fun K' => rfl⟩
    case ifCond c t =>
      simp only [exI] at h ⊢
      split at h
      · rename_i x st
        by_cases hc : cmpB c x 0 = true
        · simp only [if_pos hc] at h ⊢
          exact Or.inr ⟨_, _, _, _, h, fun K' => rfl⟩
        · simp only [if_neg hc] at h ⊢
          exact ih _ _ _ _ h
      · cases h
    case if_icmp c t =>
      simp only [exI] at h ⊢
      split at h
      · rename_i y x st
        by_cases hc : cmpB c x y = true
        · simp only [if_pos hc] at h ⊢
          exact Or.inr ⟨_, _, _, _, h, fun K' => rfl⟩
        · simp only [if_neg hc] at h ⊢
          exact ih _ _ _ _ h
      · cases h
    case tableswitch d lo hi offs =>
      simp only [exI] at h ⊢
      split at h
      · exact Or.inr ⟨_, _, _, _, h, fun K' => rfl⟩
      · cases h
    case lookupswitch d ps =>
      simp only [exI] at h ⊢
      split at h
      · exact Or.inr ⟨_, _, _, _, h, fun K' => rfl⟩
      · cases h
    case ireturn => exact Or.inl fun K' => h
    case lreturn => exact Or.inl fun K' => h
    case areturn => exact Or.inl fun K' => h
    case return_ => exact Or.inl fun K' => h
    all_goals
      simp only [exI] at h ⊢
      split at h
      · exact ih _ _ _ _ h
      · cases h
variable (code : Nat → List ClassFile.Instr)
def rnN : Nat → KS
  | 0, _, _, _, _ => none
  | n + 1, pc, L, st, m => exI sh tb np cz C rt (rnN n) (code pc) L st m
/-- it comes to an end with r -/
def Rn (pc : Nat) (L st : List Value) (m : Mm) (r : Rs) : Prop := ∃ n, rnN sh tb np cz C rt code n pc L st m = some r
theorem rnN_mono : ∀ (n : Nat) (pc : Nat) (L st : List Value) (m : Mm) (r : Rs), rnN sh tb np cz C rt code n pc L st m = some r → rnN sh tb np cz C rt code (n + 1) pc L st m = some r := by
  intro n
  induction n with
  | zero => intro pc L st m r h; cases h
  | succ n ih =>
    intro pc L st m r h
    rcases exI_cases sh tb np cz C rt _ _ _ _ _ _ h with h1 | ⟨pc', L', st', m', h1, h2⟩
    · exact h1 _
    · have := h2 (rnN sh tb np cz C rt code (n + 1))
      show exI sh tb np cz C rt (rnN sh tb np cz C rt code (n + 1)) (code pc) L st m = some r
      rw [this]
      exact ih _ _ _ _ _ h1
theorem rnN_le {n k pc : Nat} {L st : List Value} {m : Mm} {r : Rs} (h : rnN sh tb np cz C rt code n pc L st m = some r) : rnN sh tb np cz C rt code (n + k) pc L st m = some r := by
  induction k with
  | zero => exact h
  | succ k ih => exact rnN_mono sh tb np cz C rt code (n + k) pc L st m r ih
theorem Rn_fun {pc : Nat} {L st : List Value} {m : Mm} {r r' : Rs} (h : Rn sh tb np cz C rt code pc L st m r) (h' : Rn sh tb np cz C rt code pc L st m r') : r = r' := by
  obtain ⟨n, h⟩ := h
  obtain ⟨n', h'⟩ := h'
  have h1 := rnN_le sh tb np cz C rt code (k := n') h
  have h2 := rnN_le sh tb np cz C rt code (k := n) h'
  rw [Nat.add_comm] at h2
  rw [h1] at h2
  exact Option.some.inj h2
/-- the limit -/
noncomputable def rn (pc : Nat) (L st : List Value) (m : Mm) : Option Rs := @dite _ (∃ r, Rn sh tb np cz C rt code pc L st m r) (Classical.propDecidable _) (fun h => some (Classical.choose h)) (fun _ => none)
theorem rn_iff {pc : Nat} {L st : List Value} {m : Mm} {r : Rs} : rn sh tb np cz C rt code pc L st m = some r ↔ Rn sh tb np cz C rt code pc L st m r := by
  unfold rn
  by_cases h : ∃ r, Rn sh tb np cz C rt code pc L st m r
  · rw [dif_pos h]
    constructor
    · intro e
      have := Classical.choose_spec h
      rw [Option.some.inj e] at this
      exact this
    · intro e
      rw [Rn_fun sh tb np cz C rt code (Classical.choose_spec h) e]
  · rw [dif_neg h]
    constructor
    · intro e; cases e
    · intro e; exact absurd ⟨r, e⟩ h
/-- the equation by which runs are reckoned -/
theorem rn_eq (pc : Nat) (L st : List Value) (m : Mm) : rn sh tb np cz C rt code pc L st m = exI sh tb np cz C rt (rn sh tb np cz C rt code) (code pc) L st m := by
  apply Option.ext
  intro r
  rw [rn_iff]
  constructor
  · rintro ⟨n, h⟩
    cases n with
    | zero => cases h
    | succ n =>
      rcases exI_cases sh tb np cz C rt _ _ _ _ _ _ h with h1 | ⟨pc', L', st', m', h1, h2⟩
      · exact h1 _
      · rw [h2]
        exact (rn_iff sh tb np cz C rt code).mpr ⟨n, h1⟩
  · intro h
    rcases exI_cases sh tb np cz C rt _ _ _ _ _ _ h with h1 | ⟨pc', L', st', m', h1, h2⟩
    · exact ⟨1, h1 _⟩
    · obtain ⟨n, h3⟩ := (rn_iff sh tb np cz C rt code).mp h1
      refine ⟨n + 1, ?_⟩
      show exI sh tb np cz C rt (rnN sh tb np cz C rt code n) (code pc) L st m = some r
      rw [h2]
      exact h3
end Mach
