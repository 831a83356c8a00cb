section
/-! how runs of the small machine are reckoned -/
section Ev
variable (sh : List ShE) (tb : Nat → Option (List Int32)) (np cz : Nat → Nat) (C : CallS) (rt : Option FieldType) (K : KS)
theorem e_0 : ∀ (is : List ClassFile.Instr) (L st : List Value) (m : Mm) (t : Int), exI sh tb np cz C rt K (.goto t :: is) L st m = K t.toNat L st m := by intros; rfl
theorem e_1 : ∀ (is : List ClassFile.Instr) (L st : List Value) (m : Mm) (t : Int), exI sh tb np cz C rt K (.goto_w t :: is) L st m = K t.toNat L st m := by intros; rfl
theorem e_2 : ∀ (is : List ClassFile.Instr) (L st : List Value) (m : Mm) (c : ClassFile.Cond) (t : Int) (x : Int32), exI sh tb np cz C rt K (.ifCond c t :: is) L (.int x :: st) m = if cmpB c x 0 = true then K t.toNat L st m else exI sh tb np cz C rt K is L st m := by intros; rfl
theorem e_3 : ∀ (is : List ClassFile.Instr) (L st : List Value) (m : Mm) (c : ClassFile.Cond) (t : Int) (x y : Int32), exI sh tb np cz C rt K (.if_icmp c t :: is) L (.int y :: .int x :: st) m = if cmpB c x y = true then K t.toNat L st m else exI sh tb np cz C rt K is L st m := by intros; rfl
theorem e_4 : ∀ (is : List ClassFile.Instr) (L st : List Value) (m : Mm) (d lo hi : Int) (offs : Array Int) (x : Int32), exI sh tb np cz C rt K (.tableswitch d lo hi offs :: is) L (.int x :: st) m = K (swT d lo hi offs x) L st m := by intros; rfl
theorem e_5 : ∀ (is : List ClassFile.Instr) (L st : List Value) (m : Mm) (d : Int) (ps : Array (Int × Int)) (x : Int32), exI sh tb np cz C rt K (.lookupswitch d ps :: is) L (.int x :: st) m = K (swL d ps.toList x) L st m := by intros; rfl
theorem e_6 : ∀ (is : List ClassFile.Instr) (L : List Value) (m : Mm) (x : Int32), exI sh tb np cz C rt K (.ireturn :: is) L [.int x] m = if okZ rt x = true then some (some (.int x), m) else none := by intros; rfl
theorem e_7 : ∀ (is : List ClassFile.Instr) (L : List Value) (m : Mm) (x : Int64), exI sh tb np cz C rt K (.lreturn :: is) L [.long x] m = if rt = some .long then some (some (.long x), m) else none := by intros; rfl
theorem e_8 : ∀ (is : List ClassFile.Instr) (L : List Value) (m : Mm) (x : Nat), exI sh tb np cz C rt K (.areturn :: is) L [.ref x] m = if isRefT rt = true then some (some (.ref x), m) else none := by intros; rfl
theorem e_9 : ∀ (is : List ClassFile.Instr) (L : List Value) (m : Mm), exI sh tb np cz C rt K (.return_ :: is) L [] m = if rt = none then some (none, m) else none := by intros; rfl
theorem e_10 : ∀ (is : List ClassFile.Instr) (L st : List Value) (m : Mm) (n : Int), exI sh tb np cz C rt K (.sipush n :: is) L st m = exI sh tb np cz C rt K is L (.int (Int32.ofInt n) :: st) m := by intros; rfl
theorem e_11 : ∀ (is : List ClassFile.Instr) (L st : List Value) (m : Mm) (n : Int), exI sh tb np cz C rt K (.jsr n :: is) L st m = exI sh tb np cz C rt K is L (.long (Int64.ofInt n) :: st) m := by intros; rfl
theorem e_12 : ∀ (is : List ClassFile.Instr) (L st : List Value) (m : Mm) (k : Nat), exI sh tb np cz C rt K (.getstatic k :: is) L st m = exI sh tb np cz C rt K is L (.ref k :: st) m := by intros; rfl
theorem e_13 : ∀ (is : List ClassFile.Instr) (L st : List Value) (m : Mm) (i : Nat), exI sh tb np cz C rt K (.iload i :: is) L st m = (match ldL L i with | .int x => exI sh tb np cz C rt K is L (.int x :: st) m | _ => none) := by intros; simp only [exI, sI]; (repeat' split) <;> first | rfl | simp_all
theorem e_14 : ∀ (is : List ClassFile.Instr) (L st : List Value) (m : Mm) (i : Nat), exI sh tb np cz C rt K (.lload i :: is) L st m = (match ldL L i with | .long x => exI sh tb np cz C rt K is L (.long x :: st) m | _ => none) := by intros; simp only [exI, sI]; (repeat' split) <;> first | rfl | simp_all
theorem e_15 : ∀ (is : List ClassFile.Instr) (L st : List Value) (m : Mm) (i : Nat), exI sh tb np cz C rt K (.aload i :: is) L st m = (match ldL L i with | .ref x => exI sh tb np cz C rt K is L (.ref x :: st) m | _ => none) := by intros; simp only [exI, sI]; (repeat' split) <;> first | rfl | simp_all
theorem e_16 : ∀ (is : List ClassFile.Instr) (L st : List Value) (m : Mm) (i : Nat) (x : Int32), exI sh tb np cz C rt K (.istore i :: is) L (.int x :: st) m = if i < L.length then exI sh tb np cz C rt K is (stL L i (.int x)) st m else none := by intros; simp only [exI, sI]; (repeat' split) <;> first | rfl | simp_all
theorem e_17 : ∀ (is : List ClassFile.Instr) (L st : List Value) (m : Mm) (i : Nat) (x : Nat), exI sh tb np cz C rt K (.astore i :: is) L (.ref x :: st) m = if i < L.length then exI sh tb np cz C rt K is (stL L i (.ref x)) st m else none := by intros; simp only [exI, sI]; (repeat' split) <;> first | rfl | simp_all
theorem e_18 : ∀ (is : List ClassFile.Instr) (L st : List Value) (m : Mm) (i : Nat) (x : Int64), exI sh tb np cz C rt K (.lstore i :: is) L (.long x :: st) m = if i + 1 < L.length then exI sh tb np cz C rt K is (st2 L i (.long x)) st m else none := by intros; simp only [exI, sI]; (repeat' split) <;> first | rfl | simp_all
theorem e_19 : ∀ (is : List ClassFile.Instr) (L st : List Value) (m : Mm) (i : Nat) (n : Int), exI sh tb np cz C rt K (.iinc i n :: is) L st m = (match ldL L i with | .int x => if i < L.length then exI sh tb np cz C rt K is (stL L i (.int (x + Int32.ofInt n))) st m else none | _ => none) := by intros; simp only [exI, sI]; (repeat' split) <;> first | rfl | simp_all
theorem e_20 : ∀ (is : List ClassFile.Instr) (L st : List Value) (m : Mm) (x y : Int32), exI sh tb np cz C rt K (.iadd :: is) L (.int y :: .int x :: st) m = exI sh tb np cz C rt K is L (.int (x + y) :: st) m := by intros; rfl
theorem e_21 : ∀ (is : List ClassFile.Instr) (L st : List Value) (m : Mm) (x y : Int32), exI sh tb np cz C rt K (.isub :: is) L (.int y :: .int x :: st) m = exI sh tb np cz C rt K is L (.int (x - y) :: st) m := by intros; rfl
theorem e_22 : ∀ (is : List ClassFile.Instr) (L st : List Value) (m : Mm) (x y : Int32), exI sh tb np cz C rt K (.imul :: is) L (.int y :: .int x :: st) m = exI sh tb np cz C rt K is L (.int (x * y) :: st) m := by intros; rfl
theorem e_23 : ∀ (is : List ClassFile.Instr) (L st : List Value) (m : Mm) (x y : Int32), exI sh tb np cz C rt K (.iand :: is) L (.int y :: .int x :: st) m = exI sh tb np cz C rt K is L (.int (x &&& y) :: st) m := by intros; rfl
theorem e_24 : ∀ (is : List ClassFile.Instr) (L st : List Value) (m : Mm) (x y : Int32), exI sh tb np cz C rt K (.ior :: is) L (.int y :: .int x :: st) m = exI sh tb np cz C rt K is L (.int (x ||| y) :: st) m := by intros; rfl
theorem e_25 : ∀ (is : List ClassFile.Instr) (L st : List Value) (m : Mm) (x y : Int32), exI sh tb np cz C rt K (.ixor :: is) L (.int y :: .int x :: st) m = exI sh tb np cz C rt K is L (.int (x ^^^ y) :: st) m := by intros; rfl
theorem e_26 : ∀ (is : List ClassFile.Instr) (L st : List Value) (m : Mm) (x y : Int32), exI sh tb np cz C rt K (.ishl :: is) L (.int y :: .int x :: st) m = exI sh tb np cz C rt K is L (.int (x <<< (y &&& 31)) :: st) m := by intros; rfl
theorem e_27 : ∀ (is : List ClassFile.Instr) (L st : List Value) (m : Mm) (x y : Int32), exI sh tb np cz C rt K (.ishr :: is) L (.int y :: .int x :: st) m = exI sh tb np cz C rt K is L (.int (x >>> (y &&& 31)) :: st) m := by intros; rfl
theorem e_28 : ∀ (is : List ClassFile.Instr) (L st : List Value) (m : Mm) (x y : Int32), exI sh tb np cz C rt K (.iushr :: is) L (.int y :: .int x :: st) m = exI sh tb np cz C rt K is L (.int (x.toUInt32 >>> (y.toUInt32 &&& Int32.toUInt32 31)).toInt32 :: st) m := by intros; rfl
theorem e_29 : ∀ (is : List ClassFile.Instr) (L st : List Value) (m : Mm) (x y : Int32), exI sh tb np cz C rt K (.idiv :: is) L (.int y :: .int x :: st) m = if y = 0 then none else exI sh tb np cz C rt K is L (.int (x / y) :: st) m := by intros; simp only [exI, sI]; (repeat' split) <;> first | rfl | simp_all
theorem e_30 : ∀ (is : List ClassFile.Instr) (L st : List Value) (m : Mm) (x y : Int32), exI sh tb np cz C rt K (.irem :: is) L (.int y :: .int x :: st) m = if y = 0 then none else exI sh tb np cz C rt K is L (.int (x - x / y * y) :: st) m := by intros; simp only [exI, sI]; (repeat' split) <;> first | rfl | simp_all
theorem e_31 : ∀ (is : List ClassFile.Instr) (L st : List Value) (m : Mm) (x y : Int64), exI sh tb np cz C rt K (.ladd :: is) L (.long y :: .long x :: st) m = exI sh tb np cz C rt K is L (.long (x + y) :: st) m := by intros; rfl
theorem e_32 : ∀ (is : List ClassFile.Instr) (L st : List Value) (m : Mm) (x y : Int64), exI sh tb np cz C rt K (.lsub :: is) L (.long y :: .long x :: st) m = exI sh tb np cz C rt K is L (.long (x - y) :: st) m := by intros; rfl
theorem e_33 : ∀ (is : List ClassFile.Instr) (L st : List Value) (m : Mm) (x y : Int64), exI sh tb np cz C rt K (.lmul :: is) L (.long y :: .long x :: st) m = exI sh tb np cz C rt K is L (.long (x * y) :: st) m := by intros; rfl
theorem e_34 : ∀ (is : List ClassFile.Instr) (L st : List Value) (m : Mm) (x y : Int64), exI sh tb np cz C rt K (.ldiv :: is) L (.long y :: .long x :: st) m = if y = 0 then none else exI sh tb np cz C rt K is L (.long (x / y) :: st) m := by intros; simp only [exI, sI]; (repeat' split) <;> first | rfl | simp_all
theorem e_35 : ∀ (is : List ClassFile.Instr) (L st : List Value) (m : Mm) (x y : Int64), exI sh tb np cz C rt K (.lrem :: is) L (.long y :: .long x :: st) m = if y = 0 then none else exI sh tb np cz C rt K is L (.long (x - x / y * y) :: st) m := by intros; simp only [exI, sI]; (repeat' split) <;> first | rfl | simp_all
theorem e_36 : ∀ (is : List ClassFile.Instr) (L st : List Value) (m : Mm) (x y : Int64), exI sh tb np cz C rt K (.lcmp :: is) L (.long y :: .long x :: st) m = exI sh tb np cz C rt K is L (.int (lg_cmp x y) :: st) m := by intros; rfl
theorem e_37 : ∀ (is : List ClassFile.Instr) (L st : List Value) (m : Mm) (x : Int32), exI sh tb np cz C rt K (.i2l :: is) L (.int x :: st) m = exI sh tb np cz C rt K is L (.long x.toInt64 :: st) m := by intros; rfl
theorem e_38 : ∀ (is : List ClassFile.Instr) (L st : List Value) (m : Mm) (x : Int64), exI sh tb np cz C rt K (.l2i :: is) L (.long x :: st) m = exI sh tb np cz C rt K is L (.int x.toInt32 :: st) m := by intros; rfl
theorem e_39 : ∀ (is : List ClassFile.Instr) (L st : List Value) (m : Mm) (x : Int32), exI sh tb np cz C rt K (.i2b :: is) L (.int x :: st) m = exI sh tb np cz C rt K is L (.int x.toInt8.toInt32 :: st) m := by intros; rfl
theorem e_40 : ∀ (is : List ClassFile.Instr) (L st : List Value) (m : Mm) (x : Int32), exI sh tb np cz C rt K (.i2s :: is) L (.int x :: st) m = exI sh tb np cz C rt K is L (.int x.toInt16.toInt32 :: st) m := by intros; rfl
theorem e_41 : ∀ (is : List ClassFile.Instr) (L st : List Value) (m : Mm) (x : Int32), exI sh tb np cz C rt K (.dup :: is) L (.int x :: st) m = exI sh tb np cz C rt K is L (.int x :: .int x :: st) m := by intros; rfl
theorem e_42 : ∀ (is : List ClassFile.Instr) (L st : List Value) (m : Mm) (x : Nat), exI sh tb np cz C rt K (.dup :: is) L (.ref x :: st) m = exI sh tb np cz C rt K is L (.ref x :: .ref x :: st) m := by intros; rfl
theorem e_43 : ∀ (is : List ClassFile.Instr) (L st : List Value) (m : Mm) (x : Int32) (y : Nat), exI sh tb np cz C rt K (.dup2 :: is) L (.int x :: .ref y :: st) m = exI sh tb np cz C rt K is L (.int x :: .ref y :: .int x :: .ref y :: st) m := by intros; rfl
theorem e_44 : ∀ (is : List ClassFile.Instr) (L st : List Value) (m : Mm) (x : Int32), exI sh tb np cz C rt K (.pop :: is) L (.int x :: st) m = exI sh tb np cz C rt K is L st m := by intros; rfl
theorem e_45 : ∀ (is : List ClassFile.Instr) (L st : List Value) (m : Mm) (x : Int64), exI sh tb np cz C rt K (.pop2 :: is) L (.long x :: st) m = exI sh tb np cz C rt K is L st m := by intros; rfl
theorem e_46 : ∀ (is : List ClassFile.Instr) (L st : List Value) (m : Mm) (k o : Nat), exI sh tb np cz C rt K (.getfield k :: is) L (.ref o :: st) m = (match gfI sh k o m with | some v => exI sh tb np cz C rt K is L (v :: st) m | none => none) := by intros; simp only [exI, sI]; (repeat' split) <;> first | rfl | simp_all
theorem e_47 : ∀ (is : List ClassFile.Instr) (L st : List Value) (m : Mm) (k o : Nat) (v : Value), exI sh tb np cz C rt K (.putfield k :: is) L (v :: .ref o :: st) m = (match pfI sh k o v m with | some m' => exI sh tb np cz C rt K is L st m' | none => none) := by intros; simp only [exI, sI]; (repeat' split) <;> first | rfl | simp_all
theorem e_48 : ∀ (is : List ClassFile.Instr) (L st : List Value) (m : Mm) (o : Nat) (i : Int32), exI sh tb np cz C rt K (.iaload :: is) L (.int i :: .ref o :: st) m = (match alI sh tb 0 o i m with | some x => exI sh tb np cz C rt K is L (.int x :: st) m | none => none) := by intros; simp only [exI, sI]; (repeat' split) <;> first | rfl | simp_all
theorem e_49 : ∀ (is : List ClassFile.Instr) (L st : List Value) (m : Mm) (o : Nat) (i : Int32), exI sh tb np cz C rt K (.baload :: is) L (.int i :: .ref o :: st) m = (match alI sh tb 1 o i m with | some x => exI sh tb np cz C rt K is L (.int x :: st) m | none => none) := by intros; simp only [exI, sI]; (repeat' split) <;> first | rfl | simp_all
theorem e_50 : ∀ (is : List ClassFile.Instr) (L st : List Value) (m : Mm) (o : Nat) (i x : Int32), exI sh tb np cz C rt K (.iastore :: is) L (.int x :: .int i :: .ref o :: st) m = (match asI sh 0 o i x m with | some m' => exI sh tb np cz C rt K is L st m' | none => none) := by intros; simp only [exI, sI]; (repeat' split) <;> first | rfl | simp_all
theorem e_51 : ∀ (is : List ClassFile.Instr) (L st : List Value) (m : Mm) (o : Nat) (i x : Int32), exI sh tb np cz C rt K (.bastore :: is) L (.int x :: .int i :: .ref o :: st) m = (match asI sh 1 o i x m with | some m' => exI sh tb np cz C rt K is L st m' | none => none) := by intros; simp only [exI, sI]; (repeat' split) <;> first | rfl | simp_all
theorem e_52 : ∀ (is : List ClassFile.Instr) (L st : List Value) (m : Mm) (o : Nat) (i : Int32), exI sh tb np cz C rt K (.aaload :: is) L (.int i :: .ref o :: st) m = (match arI sh o i with | some x => exI sh tb np cz C rt K is L (.ref x :: st) m | none => none) := by intros; simp only [exI, sI]; (repeat' split) <;> first | rfl | simp_all
theorem e_53 : ∀ (is : List ClassFile.Instr) (L st : List Value) (m : Mm) (z : Nat), exI sh tb np cz C rt K (.invokestatic z :: is) L st m = (match popN (np z) st [] with | some (As, st) => if (st.map fun v => v.category).sum ≤ 8 then (match C z As m with | some (v, m') => exI sh tb np cz C rt K is L (v.toList ++ st) m' | none => none) else none | none => none) := by intros; simp only [exI, sI]; (repeat' split) <;> first | rfl | simp_all
theorem e_54 : ∀ (is : List ClassFile.Instr) (L st : List Value) (m : Mm) (z : Nat), exI sh tb np cz C rt K (.invokevirtual z :: is) L st m = (match popN (np z) st [] with | some (As, .ref o :: st) => if (st.map fun v => v.category).sum ≤ 8 ∧ clO sh o = some (cz z) then (match C z (.ref o :: As) m with | some (v, m') => exI sh tb np cz C rt K is L (v.toList ++ st) m' | none => none) else none | _ => none) := by intros; simp only [exI, sI]; (repeat' split) <;> first | rfl | simp_all
theorem e_55 : ∀ (is : List ClassFile.Instr) (L st : List Value) (m : Mm) (n dp sp : Int32) (o0 o1 : Nat), exI sh tb np cz C rt K (.monitorenter :: is) L (.int n :: .int dp :: .ref o1 :: .int sp :: .ref o0 :: st) m = if (st.map fun v => v.category).sum ≤ 8 then (match cpI sh o0 o1 sp dp n m with | some m' => exI sh tb np cz C rt K is L st m' | none => none) else none := by intros; simp only [exI, sI]; (repeat' split) <;> first | rfl | simp_all
theorem e_56 : ∀ (is : List ClassFile.Instr) (L st : List Value) (m : Mm) (o : Nat), exI sh tb np cz C rt K (.arraylength :: is) L (.ref o :: st) m = (match sh[o]?, tb o with | none, some T => exI sh tb np cz C rt K is L (.int (Int32.ofNat T.length) :: st) m | _, _ => none) := by intros; simp only [exI, sI]; (repeat' split) <;> first | rfl | simp_all
theorem EV : (∀ (is : List ClassFile.Instr) (L st : List Value) (m : Mm) (t : Int), exI sh tb np cz C rt K (.goto t :: is) L st m = K t.toNat L st m) ∧
  (∀ (is : List ClassFile.Instr) (L st : List Value) (m : Mm) (t : Int), exI sh tb np cz C rt K (.goto_w t :: is) L st m = K t.toNat L st m) ∧
  (∀ (is : List ClassFile.Instr) (L st : List Value) (m : Mm) (c : ClassFile.Cond) (t : Int) (x : Int32), exI sh tb np cz C rt K (.ifCond c t :: is) L (.int x :: st) m = if cmpB c x 0 = true then K t.toNat L st m else exI sh tb np cz C rt K is L st m) ∧
  (∀ (is : List ClassFile.Instr) (L st : List Value) (m : Mm) (c : ClassFile.Cond) (t : Int) (x y : Int32), exI sh tb np cz C rt K (.if_icmp c t :: is) L (.int y :: .int x :: st) m = if cmpB c x y = true then K t.toNat L st m else exI sh tb np cz C rt K is L st m) ∧
  (∀ (is : List ClassFile.Instr) (L st : List Value) (m : Mm) (d lo hi : Int) (offs : Array Int) (x : Int32), exI sh tb np cz C rt K (.tableswitch d lo hi offs :: is) L (.int x :: st) m = K (swT d lo hi offs x) L st m) ∧
  (∀ (is : List ClassFile.Instr) (L st : List Value) (m : Mm) (d : Int) (ps : Array (Int × Int)) (x : Int32), exI sh tb np cz C rt K (.lookupswitch d ps :: is) L (.int x :: st) m = K (swL d ps.toList x) L st m) ∧
  (∀ (is : List ClassFile.Instr) (L : List Value) (m : Mm) (x : Int32), exI sh tb np cz C rt K (.ireturn :: is) L [.int x] m = if okZ rt x = true then some (some (.int x), m) else none) ∧
  (∀ (is : List ClassFile.Instr) (L : List Value) (m : Mm) (x : Int64), exI sh tb np cz C rt K (.lreturn :: is) L [.long x] m = if rt = some .long then some (some (.long x), m) else none) ∧
  (∀ (is : List ClassFile.Instr) (L : List Value) (m : Mm) (x : Nat), exI sh tb np cz C rt K (.areturn :: is) L [.ref x] m = if isRefT rt = true then some (some (.ref x), m) else none) ∧
  (∀ (is : List ClassFile.Instr) (L : List Value) (m : Mm), exI sh tb np cz C rt K (.return_ :: is) L [] m = if rt = none then some (none, m) else none) ∧
  (∀ (is : List ClassFile.Instr) (L st : List Value) (m : Mm) (n : Int), exI sh tb np cz C rt K (.sipush n :: is) L st m = exI sh tb np cz C rt K is L (.int (Int32.ofInt n) :: st) m) ∧
  (∀ (is : List ClassFile.Instr) (L st : List Value) (m : Mm) (n : Int), exI sh tb np cz C rt K (.jsr n :: is) L st m = exI sh tb np cz C rt K is L (.long (Int64.ofInt n) :: st) m) ∧
  (∀ (is : List ClassFile.Instr) (L st : List Value) (m : Mm) (k : Nat), exI sh tb np cz C rt K (.getstatic k :: is) L st m = exI sh tb np cz C rt K is L (.ref k :: st) m) ∧
  (∀ (is : List ClassFile.Instr) (L st : List Value) (m : Mm) (i : Nat), exI sh tb np cz C rt K (.iload i :: is) L st m = (match ldL L i with | .int x => exI sh tb np cz C rt K is L (.int x :: st) m | _ => none)) ∧
  (∀ (is : List ClassFile.Instr) (L st : List Value) (m : Mm) (i : Nat), exI sh tb np cz C rt K (.lload i :: is) L st m = (match ldL L i with | .long x => exI sh tb np cz C rt K is L (.long x :: st) m | _ => none)) ∧
  (∀ (is : List ClassFile.Instr) (L st : List Value) (m : Mm) (i : Nat), exI sh tb np cz C rt K (.aload i :: is) L st m = (match ldL L i with | .ref x => exI sh tb np cz C rt K is L (.ref x :: st) m | _ => none)) ∧
  (∀ (is : List ClassFile.Instr) (L st : List Value) (m : Mm) (i : Nat) (x : Int32), exI sh tb np cz C rt K (.istore i :: is) L (.int x :: st) m = if i < L.length then exI sh tb np cz C rt K is (stL L i (.int x)) st m else none) ∧
  (∀ (is : List ClassFile.Instr) (L st : List Value) (m : Mm) (i : Nat) (x : Nat), exI sh tb np cz C rt K (.astore i :: is) L (.ref x :: st) m = if i < L.length then exI sh tb np cz C rt K is (stL L i (.ref x)) st m else none) ∧
  (∀ (is : List ClassFile.Instr) (L st : List Value) (m : Mm) (i : Nat) (x : Int64), exI sh tb np cz C rt K (.lstore i :: is) L (.long x :: st) m = if i + 1 < L.length then exI sh tb np cz C rt K is (st2 L i (.long x)) st m else none) ∧
  (∀ (is : List ClassFile.Instr) (L st : List Value) (m : Mm) (i : Nat) (n : Int), exI sh tb np cz C rt K (.iinc i n :: is) L st m = (match ldL L i with | .int x => if i < L.length then exI sh tb np cz C rt K is (stL L i (.int (x + Int32.ofInt n))) st m else none | _ => none)) ∧
  (∀ (is : List ClassFile.Instr) (L st : List Value) (m : Mm) (x y : Int32), exI sh tb np cz C rt K (.iadd :: is) L (.int y :: .int x :: st) m = exI sh tb np cz C rt K is L (.int (x + y) :: st) m) ∧
  (∀ (is : List ClassFile.Instr) (L st : List Value) (m : Mm) (x y : Int32), exI sh tb np cz C rt K (.isub :: is) L (.int y :: .int x :: st) m = exI sh tb np cz C rt K is L (.int (x - y) :: st) m) ∧
  (∀ (is : List ClassFile.Instr) (L st : List Value) (m : Mm) (x y : Int32), exI sh tb np cz C rt K (.imul :: is) L (.int y :: .int x :: st) m = exI sh tb np cz C rt K is L (.int (x * y) :: st) m) ∧
  (∀ (is : List ClassFile.Instr) (L st : List Value) (m : Mm) (x y : Int32), exI sh tb np cz C rt K (.iand :: is) L (.int y :: .int x :: st) m = exI sh tb np cz C rt K is L (.int (x &&& y) :: st) m) ∧
  (∀ (is : List ClassFile.Instr) (L st : List Value) (m : Mm) (x y : Int32), exI sh tb np cz C rt K (.ior :: is) L (.int y :: .int x :: st) m = exI sh tb np cz C rt K is L (.int (x ||| y) :: st) m) ∧
  (∀ (is : List ClassFile.Instr) (L st : List Value) (m : Mm) (x y : Int32), exI sh tb np cz C rt K (.ixor :: is) L (.int y :: .int x :: st) m = exI sh tb np cz C rt K is L (.int (x ^^^ y) :: st) m) ∧
  (∀ (is : List ClassFile.Instr) (L st : List Value) (m : Mm) (x y : Int32), exI sh tb np cz C rt K (.ishl :: is) L (.int y :: .int x :: st) m = exI sh tb np cz C rt K is L (.int (x <<< (y &&& 31)) :: st) m) ∧
  (∀ (is : List ClassFile.Instr) (L st : List Value) (m : Mm) (x y : Int32), exI sh tb np cz C rt K (.ishr :: is) L (.int y :: .int x :: st) m = exI sh tb np cz C rt K is L (.int (x >>> (y &&& 31)) :: st) m) ∧
  (∀ (is : List ClassFile.Instr) (L st : List Value) (m : Mm) (x y : Int32), exI sh tb np cz C rt K (.iushr :: is) L (.int y :: .int x :: st) m = exI sh tb np cz C rt K is L (.int (x.toUInt32 >>> (y.toUInt32 &&& Int32.toUInt32 31)).toInt32 :: st) m) ∧
  (∀ (is : List ClassFile.Instr) (L st : List Value) (m : Mm) (x y : Int32), exI sh tb np cz C rt K (.idiv :: is) L (.int y :: .int x :: st) m = if y = 0 then none else exI sh tb np cz C rt K is L (.int (x / y) :: st) m) ∧
  (∀ (is : List ClassFile.Instr) (L st : List Value) (m : Mm) (x y : Int32), exI sh tb np cz C rt K (.irem :: is) L (.int y :: .int x :: st) m = if y = 0 then none else exI sh tb np cz C rt K is L (.int (x - x / y * y) :: st) m) ∧
  (∀ (is : List ClassFile.Instr) (L st : List Value) (m : Mm) (x y : Int64), exI sh tb np cz C rt K (.ladd :: is) L (.long y :: .long x :: st) m = exI sh tb np cz C rt K is L (.long (x + y) :: st) m) ∧
  (∀ (is : List ClassFile.Instr) (L st : List Value) (m : Mm) (x y : Int64), exI sh tb np cz C rt K (.lsub :: is) L (.long y :: .long x :: st) m = exI sh tb np cz C rt K is L (.long (x - y) :: st) m) ∧
  (∀ (is : List ClassFile.Instr) (L st : List Value) (m : Mm) (x y : Int64), exI sh tb np cz C rt K (.lmul :: is) L (.long y :: .long x :: st) m = exI sh tb np cz C rt K is L (.long (x * y) :: st) m) ∧
  (∀ (is : List ClassFile.Instr) (L st : List Value) (m : Mm) (x y : Int64), exI sh tb np cz C rt K (.ldiv :: is) L (.long y :: .long x :: st) m = if y = 0 then none else exI sh tb np cz C rt K is L (.long (x / y) :: st) m) ∧
  (∀ (is : List ClassFile.Instr) (L st : List Value) (m : Mm) (x y : Int64), exI sh tb np cz C rt K (.lrem :: is) L (.long y :: .long x :: st) m = if y = 0 then none else exI sh tb np cz C rt K is L (.long (x - x / y * y) :: st) m) ∧
  (∀ (is : List ClassFile.Instr) (L st : List Value) (m : Mm) (x y : Int64), exI sh tb np cz C rt K (.lcmp :: is) L (.long y :: .long x :: st) m = exI sh tb np cz C rt K is L (.int (lg_cmp x y) :: st) m) ∧
  (∀ (is : List ClassFile.Instr) (L st : List Value) (m : Mm) (x : Int32), exI sh tb np cz C rt K (.i2l :: is) L (.int x :: st) m = exI sh tb np cz C rt K is L (.long x.toInt64 :: st) m) ∧
  (∀ (is : List ClassFile.Instr) (L st : List Value) (m : Mm) (x : Int64), exI sh tb np cz C rt K (.l2i :: is) L (.long x :: st) m = exI sh tb np cz C rt K is L (.int x.toInt32 :: st) m) ∧
  (∀ (is : List ClassFile.Instr) (L st : List Value) (m : Mm) (x : Int32), exI sh tb np cz C rt K (.i2b :: is) L (.int x :: st) m = exI sh tb np cz C rt K is L (.int x.toInt8.toInt32 :: st) m) ∧
  (∀ (is : List ClassFile.Instr) (L st : List Value) (m : Mm) (x : Int32), exI sh tb np cz C rt K (.i2s :: is) L (.int x :: st) m = exI sh tb np cz C rt K is L (.int x.toInt16.toInt32 :: st) m) ∧
  (∀ (is : List ClassFile.Instr) (L st : List Value) (m : Mm) (x : Int32), exI sh tb np cz C rt K (.dup :: is) L (.int x :: st) m = exI sh tb np cz C rt K is L (.int x :: .int x :: st) m) ∧
  (∀ (is : List ClassFile.Instr) (L st : List Value) (m : Mm) (x : Nat), exI sh tb np cz C rt K (.dup :: is) L (.ref x :: st) m = exI sh tb np cz C rt K is L (.ref x :: .ref x :: st) m) ∧
  (∀ (is : List ClassFile.Instr) (L st : List Value) (m : Mm) (x : Int32) (y : Nat), exI sh tb np cz C rt K (.dup2 :: is) L (.int x :: .ref y :: st) m = exI sh tb np cz C rt K is L (.int x :: .ref y :: .int x :: .ref y :: st) m) ∧
  (∀ (is : List ClassFile.Instr) (L st : List Value) (m : Mm) (x : Int32), exI sh tb np cz C rt K (.pop :: is) L (.int x :: st) m = exI sh tb np cz C rt K is L st m) ∧
  (∀ (is : List ClassFile.Instr) (L st : List Value) (m : Mm) (x : Int64), exI sh tb np cz C rt K (.pop2 :: is) L (.long x :: st) m = exI sh tb np cz C rt K is L st m) ∧
  (∀ (is : List ClassFile.Instr) (L st : List Value) (m : Mm) (k o : Nat), exI sh tb np cz C rt K (.getfield k :: is) L (.ref o :: st) m = (match gfI sh k o m with | some v => exI sh tb np cz C rt K is L (v :: st) m | none => none)) ∧
  (∀ (is : List ClassFile.Instr) (L st : List Value) (m : Mm) (k o : Nat) (v : Value), exI sh tb np cz C rt K (.putfield k :: is) L (v :: .ref o :: st) m = (match pfI sh k o v m with | some m' => exI sh tb np cz C rt K is L st m' | none => none)) ∧
  (∀ (is : List ClassFile.Instr) (L st : List Value) (m : Mm) (o : Nat) (i : Int32), exI sh tb np cz C rt K (.iaload :: is) L (.int i :: .ref o :: st) m = (match alI sh tb 0 o i m with | some x => exI sh tb np cz C rt K is L (.int x :: st) m | none => none)) ∧
  (∀ (is : List ClassFile.Instr) (L st : List Value) (m : Mm) (o : Nat) (i : Int32), exI sh tb np cz C rt K (.baload :: is) L (.int i :: .ref o :: st) m = (match alI sh tb 1 o i m with | some x => exI sh tb np cz C rt K is L (.int x :: st) m | none => none)) ∧
  (∀ (is : List ClassFile.Instr) (L st : List Value) (m : Mm) (o : Nat) (i x : Int32), exI sh tb np cz C rt K (.iastore :: is) L (.int x :: .int i :: .ref o :: st) m = (match asI sh 0 o i x m with | some m' => exI sh tb np cz C rt K is L st m' | none => none)) ∧
  (∀ (is : List ClassFile.Instr) (L st : List Value) (m : Mm) (o : Nat) (i x : Int32), exI sh tb np cz C rt K (.bastore :: is) L (.int x :: .int i :: .ref o :: st) m = (match asI sh 1 o i x m with | some m' => exI sh tb np cz C rt K is L st m' | none => none)) ∧
  (∀ (is : List ClassFile.Instr) (L st : List Value) (m : Mm) (o : Nat) (i : Int32), exI sh tb np cz C rt K (.aaload :: is) L (.int i :: .ref o :: st) m = (match arI sh o i with | some x => exI sh tb np cz C rt K is L (.ref x :: st) m | none => none)) ∧
  (∀ (is : List ClassFile.Instr) (L st : List Value) (m : Mm) (z : Nat), exI sh tb np cz C rt K (.invokestatic z :: is) L st m = (match popN (np z) st [] with | some (As, st) => if (st.map fun v => v.category).sum ≤ 8 then (match C z As m with | some (v, m') => exI sh tb np cz C rt K is L (v.toList ++ st) m' | none => none) else none | none => none)) ∧
  (∀ (is : List ClassFile.Instr) (L st : List Value) (m : Mm) (z : Nat), exI sh tb np cz C rt K (.invokevirtual z :: is) L st m = (match popN (np z) st [] with | some (As, .ref o :: st) => if (st.map fun v => v.category).sum ≤ 8 ∧ clO sh o = some (cz z) then (match C z (.ref o :: As) m with | some (v, m') => exI sh tb np cz C rt K is L (v.toList ++ st) m' | none => none) else none | _ => none)) ∧
  (∀ (is : List ClassFile.Instr) (L st : List Value) (m : Mm) (n dp sp : Int32) (o0 o1 : Nat), exI sh tb np cz C rt K (.monitorenter :: is) L (.int n :: .int dp :: .ref o1 :: .int sp :: .ref o0 :: st) m = if (st.map fun v => v.category).sum ≤ 8 then (match cpI sh o0 o1 sp dp n m with | some m' => exI sh tb np cz C rt K is L st m' | none => none) else none) ∧
  (∀ (is : List ClassFile.Instr) (L st : List Value) (m : Mm) (o : Nat), exI sh tb np cz C rt K (.arraylength :: is) L (.ref o :: st) m = (match sh[o]?, tb o with | none, some T => exI sh tb np cz C rt K is L (.int (Int32.ofNat T.length) :: st) m | _, _ => none)) :=
  ⟨e_0 sh tb np cz C rt K, e_1 sh tb np cz C rt K, e_2 sh tb np cz C rt K, e_3 sh tb np cz C rt K, e_4 sh tb np cz C rt K, e_5 sh tb np cz C rt K, e_6 sh tb np cz C rt K, e_7 sh tb np cz C rt K, e_8 sh tb np cz C rt K, e_9 sh tb np cz C rt K, e_10 sh tb np cz C rt K, e_11 sh tb np cz C rt K, e_12 sh tb np cz C rt K, e_13 sh tb np cz C rt K, e_14 sh tb np cz C rt K, e_15 sh tb np cz C rt K, e_16 sh tb np cz C rt K, e_17 sh tb np cz C rt K, e_18 sh tb np cz C rt K, e_19 sh tb np cz C rt K, e_20 sh tb np cz C rt K, e_21 sh tb np cz C rt K, e_22 sh tb np cz C rt K, e_23 sh tb np cz C rt K, e_24 sh tb np cz C rt K, e_25 sh tb np cz C rt K, e_26 sh tb np cz C rt K, e_27 sh tb np cz C rt K, e_28 sh tb np cz C rt K, e_29 sh tb np cz C rt K, e_30 sh tb np cz C rt K, e_31 sh tb np cz C rt K, e_32 sh tb np cz C rt K, e_33 sh tb np cz C rt K, e_34 sh tb np cz C rt K, e_35 sh tb np cz C rt K, e_36 sh tb np cz C rt K, e_37 sh tb np cz C rt K, e_38 sh tb np cz C rt K, e_39 sh tb np cz C rt K, e_40 sh tb np cz C rt K, e_41 sh tb np cz C rt K, e_42 sh tb np cz C rt K, e_43 sh tb np cz C rt K, e_44 sh tb np cz C rt K, e_45 sh tb np cz C rt K, e_46 sh tb np cz C rt K, e_47 sh tb np cz C rt K, e_48 sh tb np cz C rt K, e_49 sh tb np cz C rt K, e_50 sh tb np cz C rt K, e_51 sh tb np cz C rt K, e_52 sh tb np cz C rt K, e_53 sh tb np cz C rt K, e_54 sh tb np cz C rt K, e_55 sh tb np cz C rt K, e_56 sh tb np cz C rt K⟩
end Ev
theorem OI_0 : Int32.ofInt (-20) = (-20 : Int32) ∧ Int32.ofInt (-14) = (-14 : Int32) ∧ Int32.ofInt (-12) = (-12 : Int32) ∧ Int32.ofInt (-11) = (-11 : Int32) ∧ Int32.ofInt (-10) = (-10 : Int32) ∧ Int32.ofInt (-4) = (-4 : Int32) ∧ Int32.ofInt (-3) = (-3 : Int32) ∧ Int32.ofInt (-2) = (-2 : Int32) ∧ Int32.ofInt (-1) = (-1 : Int32) ∧ Int32.ofInt 0 = (0 : Int32) ∧ Int32.ofInt 1 = (1 : Int32) ∧ Int32.ofInt 2 = (2 : Int32) ∧ Int32.ofInt 3 = (3 : Int32) ∧ Int32.ofInt 4 = (4 : Int32) ∧ Int32.ofInt 5 = (5 : Int32) ∧ Int32.ofInt 6 = (6 : Int32) ∧ Int32.ofInt 7 = (7 : Int32) ∧ Int32.ofInt 8 = (8 : Int32) ∧ Int32.ofInt 9 = (9 : Int32) ∧ Int32.ofInt 10 = (10 : Int32) ∧ Int32.ofInt 16 = (16 : Int32) ∧ Int32.ofInt 20 = (20 : Int32) ∧ Int32.ofInt 24 = (24 : Int32) ∧ Int32.ofInt 30 = (30 : Int32) := by decide +kernel
theorem OI_1 : Int32.ofInt 32 = (32 : Int32) ∧ Int32.ofInt 38 = (38 : Int32) ∧ Int32.ofInt 39 = (39 : Int32) ∧ Int32.ofInt 40 = (40 : Int32) ∧ Int32.ofInt 41 = (41 : Int32) ∧ Int32.ofInt 42 = (42 : Int32) ∧ Int32.ofInt 43 = (43 : Int32) ∧ Int32.ofInt 44 = (44 : Int32) ∧ Int32.ofInt 45 = (45 : Int32) ∧ Int32.ofInt 46 = (46 : Int32) ∧ Int32.ofInt 48 = (48 : Int32) ∧ Int32.ofInt 57 = (57 : Int32) ∧ Int32.ofInt 59 = (59 : Int32) ∧ Int32.ofInt 60 = (60 : Int32) ∧ Int32.ofInt 63 = (63 : Int32) ∧ Int32.ofInt 64 = (64 : Int32) ∧ Int32.ofInt 97 = (97 : Int32) ∧ Int32.ofInt 99 = (99 : Int32) ∧ Int32.ofInt 100 = (100 : Int32) ∧ Int32.ofInt 101 = (101 : Int32) ∧ Int32.ofInt 102 = (102 : Int32) ∧ Int32.ofInt 103 = (103 : Int32) ∧ Int32.ofInt 105 = (105 : Int32) ∧ Int32.ofInt 108 = (108 : Int32) := by decide +kernel
theorem OI_2 : Int32.ofInt 109 = (109 : Int32) ∧ Int32.ofInt 110 = (110 : Int32) ∧ Int32.ofInt 111 = (111 : Int32) ∧ Int32.ofInt 112 = (112 : Int32) ∧ Int32.ofInt 114 = (114 : Int32) ∧ Int32.ofInt 116 = (116 : Int32) ∧ Int32.ofInt 117 = (117 : Int32) ∧ Int32.ofInt 118 = (118 : Int32) ∧ Int32.ofInt 120 = (120 : Int32) ∧ Int32.ofInt 122 = (122 : Int32) ∧ Int32.ofInt 127 = (127 : Int32) ∧ Int32.ofInt 160 = (160 : Int32) ∧ Int32.ofInt 999 = (999 : Int32) ∧ Int32.ofInt 1000 = (1000 : Int32) ∧ Int32.ofInt 12345 = (12345 : Int32) ∧ Int32.ofInt 32767 = (32767 : Int32) ∧ Int32.ofInt 1000000 = (1000000 : Int32) ∧ Int32.ofInt 252645135 = (252645135 : Int32) ∧ Int32.ofInt 858993459 = (858993459 : Int32) ∧ Int32.ofInt 1103515245 = (1103515245 : Int32) ∧ Int32.ofInt 1431655765 = (1431655765 : Int32) := by decide +kernel
theorem OI : (Int32.ofInt (-20) = (-20 : Int32) ∧ Int32.ofInt (-14) = (-14 : Int32) ∧ Int32.ofInt (-12) = (-12 : Int32) ∧ Int32.ofInt (-11) = (-11 : Int32) ∧ Int32.ofInt (-10) = (-10 : Int32) ∧ Int32.ofInt (-4) = (-4 : Int32) ∧ Int32.ofInt (-3) = (-3 : Int32) ∧ Int32.ofInt (-2) = (-2 : Int32) ∧ Int32.ofInt (-1) = (-1 : Int32) ∧ Int32.ofInt 0 = (0 : Int32) ∧ Int32.ofInt 1 = (1 : Int32) ∧ Int32.ofInt 2 = (2 : Int32) ∧ Int32.ofInt 3 = (3 : Int32) ∧ Int32.ofInt 4 = (4 : Int32) ∧ Int32.ofInt 5 = (5 : Int32) ∧ Int32.ofInt 6 = (6 : Int32) ∧ Int32.ofInt 7 = (7 : Int32) ∧ Int32.ofInt 8 = (8 : Int32) ∧ Int32.ofInt 9 = (9 : Int32) ∧ Int32.ofInt 10 = (10 : Int32) ∧ Int32.ofInt 16 = (16 : Int32) ∧ Int32.ofInt 20 = (20 : Int32) ∧ Int32.ofInt 24 = (24 : Int32) ∧ Int32.ofInt 30 = (30 : Int32)) ∧ (Int32.ofInt 32 = (32 : Int32) ∧ Int32.ofInt 38 = (38 : Int32) ∧ Int32.ofInt 39 = (39 : Int32) ∧ Int32.ofInt 40 = (40 : Int32) ∧ Int32.ofInt 41 = (41 : Int32) ∧ Int32.ofInt 42 = (42 : Int32) ∧ Int32.ofInt 43 = (43 : Int32) ∧ Int32.ofInt 44 = (44 : Int32) ∧ Int32.ofInt 45 = (45 : Int32) ∧ Int32.ofInt 46 = (46 : Int32) ∧ Int32.ofInt 48 = (48 : Int32) ∧ Int32.ofInt 57 = (57 : Int32) ∧ Int32.ofInt 59 = (59 : Int32) ∧ Int32.ofInt 60 = (60 : Int32) ∧ Int32.ofInt 63 = (63 : Int32) ∧ Int32.ofInt 64 = (64 : Int32) ∧ Int32.ofInt 97 = (97 : Int32) ∧ Int32.ofInt 99 = (99 : Int32) ∧ Int32.ofInt 100 = (100 : Int32) ∧ Int32.ofInt 101 = (101 : Int32) ∧ Int32.ofInt 102 = (102 : Int32) ∧ Int32.ofInt 103 = (103 : Int32) ∧ Int32.ofInt 105 = (105 : Int32) ∧ Int32.ofInt 108 = (108 : Int32)) ∧ (Int32.ofInt 109 = (109 : Int32) ∧ Int32.ofInt 110 = (110 : Int32) ∧ Int32.ofInt 111 = (111 : Int32) ∧ Int32.ofInt 112 = (112 : Int32) ∧ Int32.ofInt 114 = (114 : Int32) ∧ Int32.ofInt 116 = (116 : Int32) ∧ Int32.ofInt 117 = (117 : Int32) ∧ Int32.ofInt 118 = (118 : Int32) ∧ Int32.ofInt 120 = (120 : Int32) ∧ Int32.ofInt 122 = (122 : Int32) ∧ Int32.ofInt 127 = (127 : Int32) ∧ Int32.ofInt 160 = (160 : Int32) ∧ Int32.ofInt 999 = (999 : Int32) ∧ Int32.ofInt 1000 = (1000 : Int32) ∧ Int32.ofInt 12345 = (12345 : Int32) ∧ Int32.ofInt 32767 = (32767 : Int32) ∧ Int32.ofInt 1000000 = (1000000 : Int32) ∧ Int32.ofInt 252645135 = (252645135 : Int32) ∧ Int32.ofInt 858993459 = (858993459 : Int32) ∧ Int32.ofInt 1103515245 = (1103515245 : Int32) ∧ Int32.ofInt 1431655765 = (1431655765 : Int32)) := ⟨OI_0, OI_1, OI_2⟩
theorem OL_0 : Int64.ofInt (-1) = (-1 : Int64) ∧ Int64.ofInt 0 = (0 : Int64) ∧ Int64.ofInt 1 = (1 : Int64) ∧ Int64.ofInt 2 = (2 : Int64) ∧ Int64.ofInt 3 = (3 : Int64) ∧ Int64.ofInt 4 = (4 : Int64) ∧ Int64.ofInt 5 = (5 : Int64) ∧ Int64.ofInt 9 = (9 : Int64) ∧ Int64.ofInt 10 = (10 : Int64) ∧ Int64.ofInt 20 = (20 : Int64) ∧ Int64.ofInt 30 = (30 : Int64) ∧ Int64.ofInt 48 = (48 : Int64) ∧ Int64.ofInt 57 = (57 : Int64) ∧ Int64.ofInt 60 = (60 : Int64) ∧ Int64.ofInt 97 = (97 : Int64) ∧ Int64.ofInt 99 = (99 : Int64) ∧ Int64.ofInt 122 = (122 : Int64) ∧ Int64.ofInt 127 = (127 : Int64) := by decide +kernel
theorem OL : Int64.ofInt (-1) = (-1 : Int64) ∧ Int64.ofInt 0 = (0 : Int64) ∧ Int64.ofInt 1 = (1 : Int64) ∧ Int64.ofInt 2 = (2 : Int64) ∧ Int64.ofInt 3 = (3 : Int64) ∧ Int64.ofInt 4 = (4 : Int64) ∧ Int64.ofInt 5 = (5 : Int64) ∧ Int64.ofInt 9 = (9 : Int64) ∧ Int64.ofInt 10 = (10 : Int64) ∧ Int64.ofInt 20 = (20 : Int64) ∧ Int64.ofInt 30 = (30 : Int64) ∧ Int64.ofInt 48 = (48 : Int64) ∧ Int64.ofInt 57 = (57 : Int64) ∧ Int64.ofInt 60 = (60 : Int64) ∧ Int64.ofInt 97 = (97 : Int64) ∧ Int64.ofInt 99 = (99 : Int64) ∧ Int64.ofInt 122 = (122 : Int64) ∧ Int64.ofInt 127 = (127 : Int64) := OL_0
theorem CB : (∀ x y : Int32, (cmpB .eq x y = true) = (x = y)) ∧ (∀ x y : Int32, (cmpB .ne x y = true) = (¬ x = y)) ∧ (∀ x y : Int32, (cmpB .lt x y = true) = (x < y)) ∧ (∀ x y : Int32, (cmpB .ge x y = true) = (y ≤ x)) ∧ (∀ x y : Int32, (cmpB .gt x y = true) = (y < x)) ∧ (∀ x y : Int32, (cmpB .le x y = true) = (x ≤ y)) := by simp [cmpB]
theorem CT : (∀ x : Int32, (Value.int x).category = 1) ∧ (∀ x : Nat, (Value.ref x).category = 1) ∧ (∀ x : Int64, (Value.long x).category = 2) := ⟨fun _ => rfl, fun _ => rfl, fun _ => rfl⟩
end
section
/-! each method's own rows: its numbers, its start, its blocks -/
theorem NP_0 : mN 0 = 2 ∧ mN 1 = 1 ∧ mN 2 = 2 ∧ mN 3 = 2 ∧ mN 4 = 3 ∧ mN 5 = 2 ∧ mN 6 = 1 ∧ mN 7 = 1 ∧ mN 8 = 0 ∧ mN 9 = 2 ∧ mN 10 = 0 ∧ mN 11 = 1 ∧ mN 12 = 1 ∧ mN 13 = 2 ∧ mN 14 = 2 ∧ mN 15 = 1 ∧ mN 16 = 2 ∧ mN 17 = 2 ∧ mN 18 = 1 ∧ mN 19 = 2 ∧ mN 20 = 2 ∧ mN 21 = 0 ∧ mN 22 = 1 ∧ mN 23 = 0 := by decide +kernel
theorem NP_1 : mN 24 = 0 ∧ mN 25 = 1 ∧ mN 26 = 1 ∧ mN 27 = 1 ∧ mN 28 = 2 ∧ mN 29 = 4 ∧ mN 30 = 1 ∧ mN 31 = 1 ∧ mN 32 = 1 ∧ mN 33 = 0 ∧ mN 34 = 1 ∧ mN 35 = 1 ∧ mN 36 = 0 ∧ mN 37 = 1 ∧ mN 38 = 0 ∧ mN 39 = 1 ∧ mN 40 = 1 ∧ mN 41 = 2 ∧ mN 42 = 0 ∧ mN 43 = 1 ∧ mN 44 = 1 ∧ mN 45 = 0 ∧ mN 46 = 0 ∧ mN 47 = 1 := by decide +kernel
theorem NP_2 : mN 48 = 2 ∧ mN 49 = 2 ∧ mN 50 = 3 ∧ mN 51 = 3 ∧ mN 52 = 2 ∧ mN 53 = 2 ∧ mN 54 = 4 ∧ mN 55 = 4 ∧ mN 56 = 1 ∧ mN 57 = 1 ∧ mN 58 = 2 ∧ mN 59 = 3 ∧ mN 60 = 1 ∧ mN 61 = 1 ∧ mN 62 = 2 ∧ mN 63 = 1 ∧ mN 64 = 2 ∧ mN 65 = 3 ∧ mN 66 = 3 ∧ mN 67 = 2 ∧ mN 68 = 1 ∧ mN 69 = 2 ∧ mN 70 = 1 ∧ mN 71 = 1 := by decide +kernel
theorem NP_3 : mN 72 = 2 ∧ mN 73 = 3 ∧ mN 74 = 3 ∧ mN 75 = 4 ∧ mN 76 = 3 ∧ mN 77 = 3 ∧ mN 78 = 0 ∧ mN 79 = 3 ∧ mN 80 = 3 ∧ mN 81 = 2 ∧ mN 82 = 3 ∧ mN 83 = 1 ∧ mN 84 = 1 ∧ mN 85 = 1 ∧ mN 86 = 3 ∧ mN 87 = 1 ∧ mN 88 = 2 ∧ mN 89 = 1 ∧ mN 90 = 2 ∧ mN 91 = 3 ∧ mN 92 = 1 ∧ mN 93 = 1 ∧ mN 94 = 3 ∧ mN 95 = 3 := by decide +kernel
theorem NP_4 : mN 96 = 4 ∧ mN 97 = 0 ∧ mN 98 = 1 ∧ mN 99 = 3 ∧ mN 100 = 0 ∧ mN 101 = 3 ∧ mN 102 = 1 ∧ mN 103 = 0 ∧ mN 104 = 0 ∧ mN 105 = 1 ∧ mN 106 = 1 ∧ mN 107 = 2 ∧ mN 108 = 1 ∧ mN 109 = 4 ∧ mN 110 = 4 ∧ mN 111 = 0 ∧ mN 112 = 0 ∧ mN 113 = 0 ∧ mN 114 = 2 ∧ mN 115 = 1 ∧ mN 116 = 1 ∧ mN 117 = 0 ∧ mN 118 = 0 ∧ mN 119 = 0 := by decide +kernel
theorem NP_5 : mN 120 = 1 ∧ mN 121 = 1 ∧ mN 122 = 1 ∧ mN 123 = 0 ∧ mN 124 = 0 ∧ mN 125 = 2 ∧ mN 126 = 3 ∧ mN 127 = 2 ∧ mN 128 = 2 ∧ mN 129 = 1 ∧ mN 130 = 1 ∧ mN 131 = 1 ∧ mN 132 = 0 ∧ mN 133 = 0 ∧ mN 134 = 0 ∧ mN 135 = 1 ∧ mN 136 = 1 ∧ mN 137 = 1 ∧ mN 138 = 2 ∧ mN 139 = 1 ∧ mN 140 = 2 ∧ mN 141 = 2 ∧ mN 142 = 2 ∧ mN 143 = 3 := by decide +kernel
theorem NP_6 : mN 144 = 1 ∧ mN 145 = 3 ∧ mN 146 = 2 ∧ mN 147 = 4 ∧ mN 148 = 1 ∧ mN 149 = 1 ∧ mN 150 = 2 ∧ mN 151 = 3 ∧ mN 152 = 1 ∧ mN 153 = 1 ∧ mN 154 = 3 ∧ mN 155 = 1 ∧ mN 156 = 1 ∧ mN 157 = 2 ∧ mN 158 = 3 ∧ mN 159 = 2 ∧ mN 160 = 1 ∧ mN 161 = 1 ∧ mN 162 = 2 ∧ mN 163 = 2 ∧ mN 164 = 3 ∧ mN 165 = 3 ∧ mN 166 = 3 ∧ mN 167 = 4 := by decide +kernel
theorem NP_7 : mN 168 = 3 ∧ mN 169 = 1 ∧ mN 170 = 2 ∧ mN 171 = 1 ∧ mN 172 = 1 ∧ mN 173 = 1 ∧ mN 174 = 2 ∧ mN 175 = 3 ∧ mN 176 = 2 ∧ mN 177 = 1 ∧ mN 178 = 1 ∧ mN 179 = 2 ∧ mN 180 = 3 ∧ mN 181 = 3 ∧ mN 182 = 4 ∧ mN 183 = 0 ∧ mN 184 = 1 ∧ mN 185 = 1 := by decide +kernel
theorem NP : (mN 0 = 2 ∧ mN 1 = 1 ∧ mN 2 = 2 ∧ mN 3 = 2 ∧ mN 4 = 3 ∧ mN 5 = 2 ∧ mN 6 = 1 ∧ mN 7 = 1 ∧ mN 8 = 0 ∧ mN 9 = 2 ∧ mN 10 = 0 ∧ mN 11 = 1 ∧ mN 12 = 1 ∧ mN 13 = 2 ∧ mN 14 = 2 ∧ mN 15 = 1 ∧ mN 16 = 2 ∧ mN 17 = 2 ∧ mN 18 = 1 ∧ mN 19 = 2 ∧ mN 20 = 2 ∧ mN 21 = 0 ∧ mN 22 = 1 ∧ mN 23 = 0) ∧ (mN 24 = 0 ∧ mN 25 = 1 ∧ mN 26 = 1 ∧ mN 27 = 1 ∧ mN 28 = 2 ∧ mN 29 = 4 ∧ mN 30 = 1 ∧ mN 31 = 1 ∧ mN 32 = 1 ∧ mN 33 = 0 ∧ mN 34 = 1 ∧ mN 35 = 1 ∧ mN 36 = 0 ∧ mN 37 = 1 ∧ mN 38 = 0 ∧ mN 39 = 1 ∧ mN 40 = 1 ∧ mN 41 = 2 ∧ mN 42 = 0 ∧ mN 43 = 1 ∧ mN 44 = 1 ∧ mN 45 = 0 ∧ mN 46 = 0 ∧ mN 47 = 1) ∧ (mN 48 = 2 ∧ mN 49 = 2 ∧ mN 50 = 3 ∧ mN 51 = 3 ∧ mN 52 = 2 ∧ mN 53 = 2 ∧ mN 54 = 4 ∧ mN 55 = 4 ∧ mN 56 = 1 ∧ mN 57 = 1 ∧ mN 58 = 2 ∧ mN 59 = 3 ∧ mN 60 = 1 ∧ mN 61 = 1 ∧ mN 62 = 2 ∧ mN 63 = 1 ∧ mN 64 = 2 ∧ mN 65 = 3 ∧ mN 66 = 3 ∧ mN 67 = 2 ∧ mN 68 = 1 ∧ mN 69 = 2 ∧ mN 70 = 1 ∧ mN 71 = 1) ∧ (mN 72 = 2 ∧ mN 73 = 3 ∧ mN 74 = 3 ∧ mN 75 = 4 ∧ mN 76 = 3 ∧ mN 77 = 3 ∧ mN 78 = 0 ∧ mN 79 = 3 ∧ mN 80 = 3 ∧ mN 81 = 2 ∧ mN 82 = 3 ∧ mN 83 = 1 ∧ mN 84 = 1 ∧ mN 85 = 1 ∧ mN 86 = 3 ∧ mN 87 = 1 ∧ mN 88 = 2 ∧ mN 89 = 1 ∧ mN 90 = 2 ∧ mN 91 = 3 ∧ mN 92 = 1 ∧ mN 93 = 1 ∧ mN 94 = 3 ∧ mN 95 = 3) ∧ (mN 96 = 4 ∧ mN 97 = 0 ∧ mN 98 = 1 ∧ mN 99 = 3 ∧ mN 100 = 0 ∧ mN 101 = 3 ∧ mN 102 = 1 ∧ mN 103 = 0 ∧ mN 104 = 0 ∧ mN 105 = 1 ∧ mN 106 = 1 ∧ mN 107 = 2 ∧ mN 108 = 1 ∧ mN 109 = 4 ∧ mN 110 = 4 ∧ mN 111 = 0 ∧ mN 112 = 0 ∧ mN 113 = 0 ∧ mN 114 = 2 ∧ mN 115 = 1 ∧ mN 116 = 1 ∧ mN 117 = 0 ∧ mN 118 = 0 ∧ mN 119 = 0) ∧ (mN 120 = 1 ∧ mN 121 = 1 ∧ mN 122 = 1 ∧ mN 123 = 0 ∧ mN 124 = 0 ∧ mN 125 = 2 ∧ mN 126 = 3 ∧ mN 127 = 2 ∧ mN 128 = 2 ∧ mN 129 = 1 ∧ mN 130 = 1 ∧ mN 131 = 1 ∧ mN 132 = 0 ∧ mN 133 = 0 ∧ mN 134 = 0 ∧ mN 135 = 1 ∧ mN 136 = 1 ∧ mN 137 = 1 ∧ mN 138 = 2 ∧ mN 139 = 1 ∧ mN 140 = 2 ∧ mN 141 = 2 ∧ mN 142 = 2 ∧ mN 143 = 3) ∧ (mN 144 = 1 ∧ mN 145 = 3 ∧ mN 146 = 2 ∧ mN 147 = 4 ∧ mN 148 = 1 ∧ mN 149 = 1 ∧ mN 150 = 2 ∧ mN 151 = 3 ∧ mN 152 = 1 ∧ mN 153 = 1 ∧ mN 154 = 3 ∧ mN 155 = 1 ∧ mN 156 = 1 ∧ mN 157 = 2 ∧ mN 158 = 3 ∧ mN 159 = 2 ∧ mN 160 = 1 ∧ mN 161 = 1 ∧ mN 162 = 2 ∧ mN 163 = 2 ∧ mN 164 = 3 ∧ mN 165 = 3 ∧ mN 166 = 3 ∧ mN 167 = 4) ∧ (mN 168 = 3 ∧ mN 169 = 1 ∧ mN 170 = 2 ∧ mN 171 = 1 ∧ mN 172 = 1 ∧ mN 173 = 1 ∧ mN 174 = 2 ∧ mN 175 = 3 ∧ mN 176 = 2 ∧ mN 177 = 1 ∧ mN 178 = 1 ∧ mN 179 = 2 ∧ mN 180 = 3 ∧ mN 181 = 3 ∧ mN 182 = 4 ∧ mN 183 = 0 ∧ mN 184 = 1 ∧ mN 185 = 1) := ⟨NP_0, NP_1, NP_2, NP_3, NP_4, NP_5, NP_6, NP_7⟩
theorem CZ_0 : mO 0 = 1 ∧ mO 1 = 1 ∧ mO 2 = 1 ∧ mO 3 = 1 ∧ mO 4 = 2 ∧ mO 5 = 2 ∧ mO 6 = 2 ∧ mO 7 = 3 ∧ mO 8 = 3 ∧ mO 9 = 3 ∧ mO 10 = 3 ∧ mO 11 = 3 ∧ mO 12 = 4 ∧ mO 13 = 4 ∧ mO 14 = 4 ∧ mO 15 = 4 ∧ mO 16 = 4 ∧ mO 17 = 4 ∧ mO 18 = 4 ∧ mO 19 = 4 ∧ mO 20 = 4 ∧ mO 21 = 4 ∧ mO 22 = 4 ∧ mO 23 = 5 := by decide +kernel
theorem CZ_1 : mO 24 = 5 ∧ mO 25 = 5 ∧ mO 26 = 5 ∧ mO 27 = 5 ∧ mO 28 = 5 ∧ mO 29 = 5 ∧ mO 30 = 5 ∧ mO 31 = 5 ∧ mO 32 = 5 ∧ mO 33 = 5 ∧ mO 34 = 5 ∧ mO 35 = 5 ∧ mO 36 = 5 ∧ mO 37 = 5 ∧ mO 38 = 5 ∧ mO 39 = 5 ∧ mO 40 = 5 ∧ mO 41 = 5 ∧ mO 42 = 5 ∧ mO 43 = 6 ∧ mO 44 = 6 ∧ mO 45 = 6 ∧ mO 46 = 6 ∧ mO 47 = 6 := by decide +kernel
theorem CZ_2 : mO 48 = 6 ∧ mO 49 = 6 ∧ mO 50 = 6 ∧ mO 51 = 6 ∧ mO 52 = 6 ∧ mO 53 = 6 ∧ mO 54 = 6 ∧ mO 55 = 6 ∧ mO 56 = 6 ∧ mO 57 = 6 ∧ mO 58 = 6 ∧ mO 59 = 6 ∧ mO 60 = 6 ∧ mO 61 = 6 ∧ mO 62 = 6 ∧ mO 63 = 6 ∧ mO 64 = 6 ∧ mO 65 = 6 ∧ mO 66 = 6 ∧ mO 67 = 6 ∧ mO 68 = 6 ∧ mO 69 = 6 ∧ mO 70 = 6 ∧ mO 71 = 6 := by decide +kernel
theorem CZ_3 : mO 72 = 6 ∧ mO 73 = 6 ∧ mO 74 = 6 ∧ mO 75 = 6 ∧ mO 76 = 6 ∧ mO 77 = 6 ∧ mO 78 = 6 ∧ mO 79 = 6 ∧ mO 80 = 6 ∧ mO 81 = 6 ∧ mO 82 = 6 ∧ mO 83 = 6 ∧ mO 84 = 6 ∧ mO 85 = 6 ∧ mO 86 = 6 ∧ mO 87 = 6 ∧ mO 88 = 6 ∧ mO 89 = 6 ∧ mO 90 = 6 ∧ mO 91 = 6 ∧ mO 92 = 6 ∧ mO 93 = 6 ∧ mO 94 = 6 ∧ mO 95 = 6 := by decide +kernel
theorem CZ_4 : mO 96 = 6 ∧ mO 97 = 6 ∧ mO 98 = 6 ∧ mO 99 = 6 ∧ mO 100 = 6 ∧ mO 101 = 7 ∧ mO 102 = 7 ∧ mO 103 = 7 ∧ mO 104 = 7 ∧ mO 105 = 7 ∧ mO 106 = 7 ∧ mO 107 = 7 ∧ mO 108 = 7 ∧ mO 109 = 7 ∧ mO 110 = 7 ∧ mO 111 = 7 ∧ mO 112 = 7 ∧ mO 113 = 7 ∧ mO 114 = 7 ∧ mO 115 = 7 ∧ mO 116 = 7 ∧ mO 117 = 7 ∧ mO 118 = 7 ∧ mO 119 = 7 := by decide +kernel
theorem CZ_5 : mO 120 = 7 ∧ mO 121 = 7 ∧ mO 122 = 7 ∧ mO 123 = 7 ∧ mO 124 = 7 ∧ mO 125 = 7 ∧ mO 126 = 7 ∧ mO 127 = 7 ∧ mO 128 = 7 ∧ mO 129 = 7 ∧ mO 130 = 7 ∧ mO 131 = 7 ∧ mO 132 = 7 ∧ mO 133 = 7 ∧ mO 134 = 7 ∧ mO 135 = 7 ∧ mO 136 = 7 ∧ mO 137 = 7 ∧ mO 138 = 7 ∧ mO 139 = 7 ∧ mO 140 = 7 ∧ mO 141 = 7 ∧ mO 142 = 7 ∧ mO 143 = 7 := by decide +kernel
theorem CZ_6 : mO 144 = 7 ∧ mO 145 = 7 ∧ mO 146 = 7 ∧ mO 147 = 7 ∧ mO 148 = 7 ∧ mO 149 = 7 ∧ mO 150 = 7 ∧ mO 151 = 7 ∧ mO 152 = 7 ∧ mO 153 = 7 ∧ mO 154 = 7 ∧ mO 155 = 7 ∧ mO 156 = 7 ∧ mO 157 = 7 ∧ mO 158 = 7 ∧ mO 159 = 7 ∧ mO 160 = 7 ∧ mO 161 = 7 ∧ mO 162 = 7 ∧ mO 163 = 7 ∧ mO 164 = 7 ∧ mO 165 = 7 ∧ mO 166 = 7 ∧ mO 167 = 7 := by decide +kernel
theorem CZ_7 : mO 168 = 7 ∧ mO 169 = 7 ∧ mO 170 = 7 ∧ mO 171 = 7 ∧ mO 172 = 7 ∧ mO 173 = 7 ∧ mO 174 = 7 ∧ mO 175 = 7 ∧ mO 176 = 7 ∧ mO 177 = 7 ∧ mO 178 = 7 ∧ mO 179 = 7 ∧ mO 180 = 7 ∧ mO 181 = 7 ∧ mO 182 = 7 ∧ mO 183 = 7 ∧ mO 184 = 7 ∧ mO 185 = 8 := by decide +kernel
theorem CZ : (mO 0 = 1 ∧ mO 1 = 1 ∧ mO 2 = 1 ∧ mO 3 = 1 ∧ mO 4 = 2 ∧ mO 5 = 2 ∧ mO 6 = 2 ∧ mO 7 = 3 ∧ mO 8 = 3 ∧ mO 9 = 3 ∧ mO 10 = 3 ∧ mO 11 = 3 ∧ mO 12 = 4 ∧ mO 13 = 4 ∧ mO 14 = 4 ∧ mO 15 = 4 ∧ mO 16 = 4 ∧ mO 17 = 4 ∧ mO 18 = 4 ∧ mO 19 = 4 ∧ mO 20 = 4 ∧ mO 21 = 4 ∧ mO 22 = 4 ∧ mO 23 = 5) ∧ (mO 24 = 5 ∧ mO 25 = 5 ∧ mO 26 = 5 ∧ mO 27 = 5 ∧ mO 28 = 5 ∧ mO 29 = 5 ∧ mO 30 = 5 ∧ mO 31 = 5 ∧ mO 32 = 5 ∧ mO 33 = 5 ∧ mO 34 = 5 ∧ mO 35 = 5 ∧ mO 36 = 5 ∧ mO 37 = 5 ∧ mO 38 = 5 ∧ mO 39 = 5 ∧ mO 40 = 5 ∧ mO 41 = 5 ∧ mO 42 = 5 ∧ mO 43 = 6 ∧ mO 44 = 6 ∧ mO 45 = 6 ∧ mO 46 = 6 ∧ mO 47 = 6) ∧ (mO 48 = 6 ∧ mO 49 = 6 ∧ mO 50 = 6 ∧ mO 51 = 6 ∧ mO 52 = 6 ∧ mO 53 = 6 ∧ mO 54 = 6 ∧ mO 55 = 6 ∧ mO 56 = 6 ∧ mO 57 = 6 ∧ mO 58 = 6 ∧ mO 59 = 6 ∧ mO 60 = 6 ∧ mO 61 = 6 ∧ mO 62 = 6 ∧ mO 63 = 6 ∧ mO 64 = 6 ∧ mO 65 = 6 ∧ mO 66 = 6 ∧ mO 67 = 6 ∧ mO 68 = 6 ∧ mO 69 = 6 ∧ mO 70 = 6 ∧ mO 71 = 6) ∧ (mO 72 = 6 ∧ mO 73 = 6 ∧ mO 74 = 6 ∧ mO 75 = 6 ∧ mO 76 = 6 ∧ mO 77 = 6 ∧ mO 78 = 6 ∧ mO 79 = 6 ∧ mO 80 = 6 ∧ mO 81 = 6 ∧ mO 82 = 6 ∧ mO 83 = 6 ∧ mO 84 = 6 ∧ mO 85 = 6 ∧ mO 86 = 6 ∧ mO 87 = 6 ∧ mO 88 = 6 ∧ mO 89 = 6 ∧ mO 90 = 6 ∧ mO 91 = 6 ∧ mO 92 = 6 ∧ mO 93 = 6 ∧ mO 94 = 6 ∧ mO 95 = 6) ∧ (mO 96 = 6 ∧ mO 97 = 6 ∧ mO 98 = 6 ∧ mO 99 = 6 ∧ mO 100 = 6 ∧ mO 101 = 7 ∧ mO 102 = 7 ∧ mO 103 = 7 ∧ mO 104 = 7 ∧ mO 105 = 7 ∧ mO 106 = 7 ∧ mO 107 = 7 ∧ mO 108 = 7 ∧ mO 109 = 7 ∧ mO 110 = 7 ∧ mO 111 = 7 ∧ mO 112 = 7 ∧ mO 113 = 7 ∧ mO 114 = 7 ∧ mO 115 = 7 ∧ mO 116 = 7 ∧ mO 117 = 7 ∧ mO 118 = 7 ∧ mO 119 = 7) ∧ (mO 120 = 7 ∧ mO 121 = 7 ∧ mO 122 = 7 ∧ mO 123 = 7 ∧ mO 124 = 7 ∧ mO 125 = 7 ∧ mO 126 = 7 ∧ mO 127 = 7 ∧ mO 128 = 7 ∧ mO 129 = 7 ∧ mO 130 = 7 ∧ mO 131 = 7 ∧ mO 132 = 7 ∧ mO 133 = 7 ∧ mO 134 = 7 ∧ mO 135 = 7 ∧ mO 136 = 7 ∧ mO 137 = 7 ∧ mO 138 = 7 ∧ mO 139 = 7 ∧ mO 140 = 7 ∧ mO 141 = 7 ∧ mO 142 = 7 ∧ mO 143 = 7) ∧ (mO 144 = 7 ∧ mO 145 = 7 ∧ mO 146 = 7 ∧ mO 147 = 7 ∧ mO 148 = 7 ∧ mO 149 = 7 ∧ mO 150 = 7 ∧ mO 151 = 7 ∧ mO 152 = 7 ∧ mO 153 = 7 ∧ mO 154 = 7 ∧ mO 155 = 7 ∧ mO 156 = 7 ∧ mO 157 = 7 ∧ mO 158 = 7 ∧ mO 159 = 7 ∧ mO 160 = 7 ∧ mO 161 = 7 ∧ mO 162 = 7 ∧ mO 163 = 7 ∧ mO 164 = 7 ∧ mO 165 = 7 ∧ mO 166 = 7 ∧ mO 167 = 7) ∧ (mO 168 = 7 ∧ mO 169 = 7 ∧ mO 170 = 7 ∧ mO 171 = 7 ∧ mO 172 = 7 ∧ mO 173 = 7 ∧ mO 174 = 7 ∧ mO 175 = 7 ∧ mO 176 = 7 ∧ mO 177 = 7 ∧ mO 178 = 7 ∧ mO 179 = 7 ∧ mO 180 = 7 ∧ mO 181 = 7 ∧ mO 182 = 7 ∧ mO 183 = 7 ∧ mO 184 = 7 ∧ mO 185 = 8) := ⟨CZ_0, CZ_1, CZ_2, CZ_3, CZ_4, CZ_5, CZ_6, CZ_7⟩
section Own
variable (sh : List ShE) (wS : List Value → Mm → Option Rs) (d : Nat) (m : Mm)
theorem se_of {z n : Nat} {t : Option FieldType} {As L : List Value} (h0 : z ≠ zX3_isWord) (hx : mX z = n ∧ mT z = t) (hz : z + 1 < nZ) (hl : (argL As).length ≤ n) (hL : initL n As = L) : semZ sh wS (d + 1) z As m = rn sh tb0 mN mO (semZ sh wS d) t (codeZ z) 0 L [] m := by
  obtain ⟨rfl, rfl⟩ := hx
  subst hL
  show (if z = zX3_isWord then _ else _) = _
  rw [if_neg h0, if_pos ⟨hl, hz⟩]
theorem se_X1_renew (w : Nat) (x0 : Int32) (x1 : Int32) : semZ sh wS (d + 1) 0 [.ref w, .int x0, .int x1] m = rn sh tb0 mN mO (semZ sh wS d) none (codeZ 0) 0 [.ref w, .int x0, .int x1, noV] [] m := se_of sh wS d m (n := 4) (by decide) (by decide +kernel) (by decide) (Nat.le_of_ble_eq_true rfl) rfl
theorem se_X1_faultAt (w : Nat) (x0 : Int64) : semZ sh wS (d + 1) 1 [.ref w, .long x0] m = rn sh tb0 mN mO (semZ sh wS d) (some .int) (codeZ 1) 0 [.ref w, .long x0, noV] [] m := se_of sh wS d m (n := 3) (by decide) (by decide +kernel) (by decide) (Nat.le_of_ble_eq_true rfl) rfl
theorem se_X1_faultOfPair (w : Nat) (x0 : Int32) (x1 : Int64) : semZ sh wS (d + 1) 2 [.ref w, .int x0, .long x1] m = rn sh tb0 mN mO (semZ sh wS d) (some .int) (codeZ 2) 0 [.ref w, .int x0, .long x1, noV, noV] [] m := se_of sh wS d m (n := 5) (by decide) (by decide +kernel) (by decide) (Nat.le_of_ble_eq_true rfl) rfl
theorem se_X1_put (w : Nat) (x0 : Int32) (x1 : Int32) : semZ sh wS (d + 1) 3 [.ref w, .int x0, .int x1] m = rn sh tb0 mN mO (semZ sh wS d) none (codeZ 3) 0 [.ref w, .int x0, .int x1] [] m := se_of sh wS d m (n := 3) (by decide) (by decide +kernel) (by decide) (Nat.le_of_ble_eq_true rfl) rfl
theorem se_X2_add (w : Nat) (x0 : Int32) (x1 : Int32) (x2 : Int32) : semZ sh wS (d + 1) 4 [.ref w, .int x0, .int x1, .int x2] m = rn sh tb0 mN mO (semZ sh wS d) (some .boolean) (codeZ 4) 0 [.ref w, .int x0, .int x1, .int x2] [] m := se_of sh wS d m (n := 4) (by decide) (by decide +kernel) (by decide) (Nat.le_of_ble_eq_true rfl) rfl
theorem se_X2_fit (w : Nat) (x0 : Nat) (x1 : Int32) : semZ sh wS (d + 1) 5 [.ref w, .ref x0, .int x1] m = rn sh tb0 mN mO (semZ sh wS d) (some .boolean) (codeZ 5) 0 [.ref w, .ref x0, .int x1, noV] [] m := se_of sh wS d m (n := 4) (by decide) (by decide +kernel) (by decide) (Nat.le_of_ble_eq_true rfl) rfl
theorem se_X2_become (w : Nat) (x0 : Nat) : semZ sh wS (d + 1) 6 [.ref w, .ref x0] m = rn sh tb0 mN mO (semZ sh wS d) none (codeZ 6) 0 [.ref w, .ref x0] [] m := se_of sh wS d m (n := 2) (by decide) (by decide +kernel) (by decide) (Nat.le_of_ble_eq_true rfl) rfl
theorem se_X3_append (w : Nat) (x0 : Int32) : semZ sh wS (d + 1) 7 [.ref w, .int x0] m = rn sh tb0 mN mO (semZ sh wS d) (some .boolean) (codeZ 7) 0 [.ref w, .int x0] [] m := se_of sh wS d m (n := 2) (by decide) (by decide +kernel) (by decide) (Nat.le_of_ble_eq_true rfl) rfl
theorem se_X3_take (w : Nat) : semZ sh wS (d + 1) 8 [.ref w] m = rn sh tb0 mN mO (semZ sh wS d) (some .int) (codeZ 8) 0 [.ref w] [] m := se_of sh wS d m (n := 1) (by decide) (by decide +kernel) (by decide) (Nat.le_of_ble_eq_true rfl) rfl
theorem se_X3_passRun (w : Nat) (x0 : Int32) (x1 : Int32) : semZ sh wS (d + 1) 9 [.ref w, .int x0, .int x1] m = rn sh tb0 mN mO (semZ sh wS d) (some .boolean) (codeZ 9) 0 [.ref w, .int x0, .int x1] [] m := se_of sh wS d m (n := 3) (by decide) (by decide +kernel) (by decide) (Nat.le_of_ble_eq_true rfl) rfl
theorem se_X3_number (w : Nat) : semZ sh wS (d + 1) 10 [.ref w] m = rn sh tb0 mN mO (semZ sh wS d) (some .int) (codeZ 10) 0 [.ref w, noV, noV] [] m := se_of sh wS d m (n := 3) (by decide) (by decide +kernel) (by decide) (Nat.le_of_ble_eq_true rfl) rfl
theorem se_X4_tell (w : Nat) (x0 : Nat) : semZ sh wS (d + 1) 12 [.ref w, .ref x0] m = rn sh tb0 mN mO (semZ sh wS d) (some .int) (codeZ 12) 0 [.ref w, .ref x0, noV, noV] [] m := se_of sh wS d m (n := 4) (by decide) (by decide +kernel) (by decide) (Nat.le_of_ble_eq_true rfl) rfl
theorem se_X4_takeLine (w : Nat) (x0 : Int32) (x1 : Nat) : semZ sh wS (d + 1) 13 [.ref w, .int x0, .ref x1] m = rn sh tb0 mN mO (semZ sh wS d) none (codeZ 13) 0 [.ref w, .int x0, .ref x1, noV] [] m := se_of sh wS d m (n := 4) (by decide) (by decide +kernel) (by decide) (Nat.le_of_ble_eq_true rfl) rfl
theorem se_X4_hasNoRoom (w : Nat) (x0 : Int32) (x1 : Nat) : semZ sh wS (d + 1) 14 [.ref w, .int x0, .ref x1] m = rn sh tb0 mN mO (semZ sh wS d) (some .boolean) (codeZ 14) 0 [.ref w, .int x0, .ref x1] [] m := se_of sh wS d m (n := 3) (by decide) (by decide +kernel) (by decide) (Nat.le_of_ble_eq_true rfl) rfl
theorem se_X4_takeNumbers (w : Nat) (x0 : Int32) : semZ sh wS (d + 1) 15 [.ref w, .int x0] m = rn sh tb0 mN mO (semZ sh wS d) (some .boolean) (codeZ 15) 0 [.ref w, .int x0, noV, noV, noV] [] m := se_of sh wS d m (n := 5) (by decide) (by decide +kernel) (by decide) (Nat.le_of_ble_eq_true rfl) rfl
theorem se_X4_most (x0 : Int32) (x1 : Int32) : semZ sh wS (d + 1) 16 [.int x0, .int x1] m = rn sh tb0 mN mO (semZ sh wS d) (some .int) (codeZ 16) 0 [.int x0, .int x1] [] m := se_of sh wS d m (n := 2) (by decide) (by decide +kernel) (by decide) (Nat.le_of_ble_eq_true rfl) rfl
theorem se_X4_enter (w : Nat) (x0 : Int32) (x1 : Nat) : semZ sh wS (d + 1) 17 [.ref w, .int x0, .ref x1] m = rn sh tb0 mN mO (semZ sh wS d) none (codeZ 17) 0 [.ref w, .int x0, .ref x1] [] m := se_of sh wS d m (n := 3) (by decide) (by decide +kernel) (by decide) (Nat.le_of_ble_eq_true rfl) rfl
theorem se_X4_checkPlaces (w : Nat) (x0 : Nat) : semZ sh wS (d + 1) 18 [.ref w, .ref x0] m = rn sh tb0 mN mO (semZ sh wS d) none (codeZ 18) 0 [.ref w, .ref x0, noV] [] m := se_of sh wS d m (n := 3) (by decide) (by decide +kernel) (by decide) (Nat.le_of_ble_eq_true rfl) rfl
theorem se_X4_expect (w : Nat) (x0 : Int32) (x1 : Int32) : semZ sh wS (d + 1) 19 [.ref w, .int x0, .int x1] m = rn sh tb0 mN mO (semZ sh wS d) (some .boolean) (codeZ 19) 0 [.ref w, .int x0, .int x1] [] m := se_of sh wS d m (n := 3) (by decide) (by decide +kernel) (by decide) (Nat.le_of_ble_eq_true rfl) rfl
theorem se_X4_refuse (w : Nat) (x0 : Int32) (x1 : Int32) : semZ sh wS (d + 1) 20 [.ref w, .int x0, .int x1] m = rn sh tb0 mN mO (semZ sh wS d) none (codeZ 20) 0 [.ref w, .int x0, .int x1] [] m := se_of sh wS d m (n := 3) (by decide) (by decide +kernel) (by decide) (Nat.le_of_ble_eq_true rfl) rfl
theorem se_X4_lineOf (w : Nat) : semZ sh wS (d + 1) 21 [.ref w] m = rn sh tb0 mN mO (semZ sh wS d) (some .int) (codeZ 21) 0 [.ref w, noV] [] m := se_of sh wS d m (n := 2) (by decide) (by decide +kernel) (by decide) (Nat.le_of_ble_eq_true rfl) rfl
theorem se_X4_word (x0 : Int32) : semZ sh wS (d + 1) 22 [.int x0] m = rn sh tb0 mN mO (semZ sh wS d) (some (.object "java/lang/String")) (codeZ 22) 0 [.int x0] [] m := se_of sh wS d m (n := 1) (by decide) (by decide +kernel) (by decide) (Nat.le_of_ble_eq_true rfl) rfl
theorem se_X5_clear (w : Nat) : semZ sh wS (d + 1) 23 [.ref w] m = rn sh tb0 mN mO (semZ sh wS d) none (codeZ 23) 0 [.ref w] [] m := se_of sh wS d m (n := 1) (by decide) (by decide +kernel) (by decide) (Nat.le_of_ble_eq_true rfl) rfl
theorem se_X5_takeTurnsByNumber (w : Nat) : semZ sh wS (d + 1) 24 [.ref w] m = rn sh tb0 mN mO (semZ sh wS d) none (codeZ 24) 0 [.ref w, noV] [] m := se_of sh wS d m (n := 2) (by decide) (by decide +kernel) (by decide) (Nat.le_of_ble_eq_true rfl) rfl
theorem se_X5_become (w : Nat) (x0 : Nat) : semZ sh wS (d + 1) 25 [.ref w, .ref x0] m = rn sh tb0 mN mO (semZ sh wS d) none (codeZ 25) 0 [.ref w, .ref x0] [] m := se_of sh wS d m (n := 2) (by decide) (by decide +kernel) (by decide) (Nat.le_of_ble_eq_true rfl) rfl
theorem se_X5_hasVillage (w : Nat) (x0 : Int32) : semZ sh wS (d + 1) 26 [.ref w, .int x0] m = rn sh tb0 mN mO (semZ sh wS d) (some .boolean) (codeZ 26) 0 [.ref w, .int x0] [] m := se_of sh wS d m (n := 2) (by decide) (by decide +kernel) (by decide) (Nat.le_of_ble_eq_true rfl) rfl
theorem se_X5_hasBody (w : Nat) (x0 : Int32) : semZ sh wS (d + 1) 27 [.ref w, .int x0] m = rn sh tb0 mN mO (semZ sh wS d) (some .boolean) (codeZ 27) 0 [.ref w, .int x0] [] m := se_of sh wS d m (n := 2) (by decide) (by decide +kernel) (by decide) (Nat.le_of_ble_eq_true rfl) rfl
theorem se_X5_addVillage (w : Nat) (x0 : Int32) (x1 : Int32) : semZ sh wS (d + 1) 28 [.ref w, .int x0, .int x1] m = rn sh tb0 mN mO (semZ sh wS d) (some .boolean) (codeZ 28) 0 [.ref w, .int x0, .int x1] [] m := se_of sh wS d m (n := 3) (by decide) (by decide +kernel) (by decide) (Nat.le_of_ble_eq_true rfl) rfl
theorem se_X5_addBody (w : Nat) (x0 : Int32) (x1 : Int32) (x2 : Int32) (x3 : Int32) : semZ sh wS (d + 1) 29 [.ref w, .int x0, .int x1, .int x2, .int x3] m = rn sh tb0 mN mO (semZ sh wS d) (some .boolean) (codeZ 29) 0 [.ref w, .int x0, .int x1, .int x2, .int x3] [] m := se_of sh wS d m (n := 5) (by decide) (by decide +kernel) (by decide) (Nat.le_of_ble_eq_true rfl) rfl
theorem se_X5_bodyRow (w : Nat) (x0 : Int32) : semZ sh wS (d + 1) 30 [.ref w, .int x0] m = rn sh tb0 mN mO (semZ sh wS d) (some (.array .int)) (codeZ 30) 0 [.ref w, .int x0] [] m := se_of sh wS d m (n := 2) (by decide) (by decide +kernel) (by decide) (Nat.le_of_ble_eq_true rfl) rfl
theorem se_X5_lacksOfFather (w : Nat) (x0 : Int32) : semZ sh wS (d + 1) 31 [.ref w, .int x0] m = rn sh tb0 mN mO (semZ sh wS d) (some .boolean) (codeZ 31) 0 [.ref w, .int x0] [] m := se_of sh wS d m (n := 2) (by decide) (by decide +kernel) (by decide) (Nat.le_of_ble_eq_true rfl) rfl
theorem se_X5_lacks (w : Nat) (x0 : Int32) : semZ sh wS (d + 1) 32 [.ref w, .int x0] m = rn sh tb0 mN mO (semZ sh wS d) (some .int) (codeZ 32) 0 [.ref w, .int x0, noV, noV] [] m := se_of sh wS d m (n := 4) (by decide) (by decide +kernel) (by decide) (Nat.le_of_ble_eq_true rfl) rfl
theorem se_X5_lacksOfLying (w : Nat) : semZ sh wS (d + 1) 33 [.ref w] m = rn sh tb0 mN mO (semZ sh wS d) (some .int) (codeZ 33) 0 [.ref w, noV, noV] [] m := se_of sh wS d m (n := 3) (by decide) (by decide +kernel) (by decide) (Nat.le_of_ble_eq_true rfl) rfl
theorem se_X5_inWay (w : Nat) (x0 : Int32) : semZ sh wS (d + 1) 34 [.ref w, .int x0] m = rn sh tb0 mN mO (semZ sh wS d) (some .int) (codeZ 34) 0 [.ref w, .int x0, noV, noV] [] m := se_of sh wS d m (n := 4) (by decide) (by decide +kernel) (by decide) (Nat.le_of_ble_eq_true rfl) rfl
theorem se_X5_lyingAt (w : Nat) (x0 : Int32) : semZ sh wS (d + 1) 35 [.ref w, .int x0] m = rn sh tb0 mN mO (semZ sh wS d) (some .int) (codeZ 35) 0 [.ref w, .int x0, noV, noV] [] m := se_of sh wS d m (n := 4) (by decide) (by decide +kernel) (by decide) (Nat.le_of_ble_eq_true rfl) rfl
theorem se_X5_allMeans (w : Nat) : semZ sh wS (d + 1) 36 [.ref w] m = rn sh tb0 mN mO (semZ sh wS d) (some .int) (codeZ 36) 0 [.ref w, noV, noV] [] m := se_of sh wS d m (n := 3) (by decide) (by decide +kernel) (by decide) (Nat.le_of_ble_eq_true rfl) rfl
theorem se_X5_pass (w : Nat) (x0 : Int32) : semZ sh wS (d + 1) 37 [.ref w, .int x0] m = rn sh tb0 mN mO (semZ sh wS d) (some .int) (codeZ 37) 0 [.ref w, .int x0, noV, noV] [] m := se_of sh wS d m (n := 4) (by decide) (by decide +kernel) (by decide) (Nat.le_of_ble_eq_true rfl) rfl
theorem se_X5_passOne (w : Nat) : semZ sh wS (d + 1) 38 [.ref w] m = rn sh tb0 mN mO (semZ sh wS d) none (codeZ 38) 0 [.ref w, noV] [] m := se_of sh wS d m (n := 2) (by decide) (by decide +kernel) (by decide) (Nat.le_of_ble_eq_true rfl) rfl
theorem se_X5_takeTurn (w : Nat) (x0 : Int32) : semZ sh wS (d + 1) 39 [.ref w, .int x0] m = rn sh tb0 mN mO (semZ sh wS d) none (codeZ 39) 0 [.ref w, .int x0, noV, noV, noV] [] m := se_of sh wS d m (n := 5) (by decide) (by decide +kernel) (by decide) (Nat.le_of_ble_eq_true rfl) rfl
theorem se_X5_firstLyingAt (w : Nat) (x0 : Int32) : semZ sh wS (d + 1) 40 [.ref w, .int x0] m = rn sh tb0 mN mO (semZ sh wS d) (some .int) (codeZ 40) 0 [.ref w, .int x0, noV] [] m := se_of sh wS d m (n := 3) (by decide) (by decide +kernel) (by decide) (Nat.le_of_ble_eq_true rfl) rfl
theorem se_X5_handOn (w : Nat) (x0 : Int32) (x1 : Int32) : semZ sh wS (d + 1) 41 [.ref w, .int x0, .int x1] m = rn sh tb0 mN mO (semZ sh wS d) none (codeZ 41) 0 [.ref w, .int x0, .int x1, noV] [] m := se_of sh wS d m (n := 4) (by decide) (by decide +kernel) (by decide) (Nat.le_of_ble_eq_true rfl) rfl
theorem se_X5_fineAll (w : Nat) : semZ sh wS (d + 1) 42 [.ref w] m = rn sh tb0 mN mO (semZ sh wS d) none (codeZ 42) 0 [.ref w, noV, noV] [] m := se_of sh wS d m (n := 3) (by decide) (by decide +kernel) (by decide) (Nat.le_of_ble_eq_true rfl) rfl
theorem se_X6_feed (w : Nat) (x0 : Int32) : semZ sh wS (d + 1) 43 [.ref w, .int x0] m = rn sh tb0 mN mO (semZ sh wS d) (some .int) (codeZ 43) 0 [.ref w, .int x0] [] m := se_of sh wS d m (n := 2) (by decide) (by decide +kernel) (by decide) (Nat.le_of_ble_eq_true rfl) rfl
theorem se_X6_end (w : Nat) (x0 : Int32) : semZ sh wS (d + 1) 44 [.ref w, .int x0] m = rn sh tb0 mN mO (semZ sh wS d) (some .int) (codeZ 44) 0 [.ref w, .int x0, noV] [] m := se_of sh wS d m (n := 3) (by decide) (by decide +kernel) (by decide) (Nat.le_of_ble_eq_true rfl) rfl
theorem se_X6_text (w : Nat) : semZ sh wS (d + 1) 45 [.ref w] m = rn sh tb0 mN mO (semZ sh wS d) (some .int) (codeZ 45) 0 [.ref w, noV, noV] [] m := se_of sh wS d m (n := 3) (by decide) (by decide +kernel) (by decide) (Nat.le_of_ble_eq_true rfl) rfl
theorem se_X6_fault (w : Nat) : semZ sh wS (d + 1) 46 [.ref w] m = rn sh tb0 mN mO (semZ sh wS d) (some .int) (codeZ 46) 0 [.ref w] [] m := se_of sh wS d m (n := 1) (by decide) (by decide +kernel) (by decide) (Nat.le_of_ble_eq_true rfl) rfl
theorem se_X6_rule (w : Nat) (x0 : Int32) : semZ sh wS (d + 1) 47 [.ref w, .int x0] m = rn sh tb0 mN mO (semZ sh wS d) (some .int) (codeZ 47) 0 [.ref w, .int x0] [] m := se_of sh wS d m (n := 2) (by decide) (by decide +kernel) (by decide) (Nat.le_of_ble_eq_true rfl) rfl
theorem se_X6_village (w : Nat) (x0 : Int32) (x1 : Int32) : semZ sh wS (d + 1) 48 [.ref w, .int x0, .int x1] m = rn sh tb0 mN mO (semZ sh wS d) (some .int) (codeZ 48) 0 [.ref w, .int x0, .int x1] [] m := se_of sh wS d m (n := 3) (by decide) (by decide +kernel) (by decide) (Nat.le_of_ble_eq_true rfl) rfl
theorem se_X6_body (w : Nat) (x0 : Int32) (x1 : Int32) : semZ sh wS (d + 1) 49 [.ref w, .int x0, .int x1] m = rn sh tb0 mN mO (semZ sh wS d) (some .int) (codeZ 49) 0 [.ref w, .int x0, .int x1] [] m := se_of sh wS d m (n := 3) (by decide) (by decide +kernel) (by decide) (Nat.le_of_ble_eq_true rfl) rfl
theorem se_X6_grant (w : Nat) (x0 : Int32) (x1 : Int32) (x2 : Int32) : semZ sh wS (d + 1) 50 [.ref w, .int x0, .int x1, .int x2] m = rn sh tb0 mN mO (semZ sh wS d) (some .int) (codeZ 50) 0 [.ref w, .int x0, .int x1, .int x2, noV, noV] [] m := se_of sh wS d m (n := 6) (by decide) (by decide +kernel) (by decide) (Nat.le_of_ble_eq_true rfl) rfl
theorem se_X6_alter (w : Nat) (x0 : Int32) (x1 : Int32) (x2 : Int32) : semZ sh wS (d + 1) 51 [.ref w, .int x0, .int x1, .int x2] m = rn sh tb0 mN mO (semZ sh wS d) (some .int) (codeZ 51) 0 [.ref w, .int x0, .int x1, .int x2, noV, noV] [] m := se_of sh wS d m (n := 6) (by decide) (by decide +kernel) (by decide) (Nat.le_of_ble_eq_true rfl) rfl
theorem se_X6_mayBecome (w : Nat) (x0 : Int32) (x1 : Int32) : semZ sh wS (d + 1) 52 [.ref w, .int x0, .int x1] m = rn sh tb0 mN mO (semZ sh wS d) (some .boolean) (codeZ 52) 0 [.ref w, .int x0, .int x1] [] m := se_of sh wS d m (n := 3) (by decide) (by decide +kernel) (by decide) (Nat.le_of_ble_eq_true rfl) rfl
theorem se_X6_set (w : Nat) (x0 : Int32) (x1 : Int32) : semZ sh wS (d + 1) 53 [.ref w, .int x0, .int x1] m = rn sh tb0 mN mO (semZ sh wS d) (some .int) (codeZ 53) 0 [.ref w, .int x0, .int x1, noV] [] m := se_of sh wS d m (n := 4) (by decide) (by decide +kernel) (by decide) (Nat.le_of_ble_eq_true rfl) rfl
theorem se_X6_find (w : Nat) (x0 : Int32) (x1 : Int32) (x2 : Int32) (x3 : Int32) : semZ sh wS (d + 1) 54 [.ref w, .int x0, .int x1, .int x2, .int x3] m = rn sh tb0 mN mO (semZ sh wS d) (some .int) (codeZ 54) 0 [.ref w, .int x0, .int x1, .int x2, .int x3] [] m := se_of sh wS d m (n := 5) (by decide) (by decide +kernel) (by decide) (Nat.le_of_ble_eq_true rfl) rfl
theorem se_X6_addFound (w : Nat) (x0 : Int32) (x1 : Int32) (x2 : Int32) (x3 : Int32) : semZ sh wS (d + 1) 55 [.ref w, .int x0, .int x1, .int x2, .int x3] m = rn sh tb0 mN mO (semZ sh wS d) (some .int) (codeZ 55) 0 [.ref w, .int x0, .int x1, .int x2, .int x3] [] m := se_of sh wS d m (n := 5) (by decide) (by decide +kernel) (by decide) (Nat.le_of_ble_eq_true rfl) rfl
theorem se_X6_hire (w : Nat) (x0 : Int32) : semZ sh wS (d + 1) 56 [.ref w, .int x0] m = rn sh tb0 mN mO (semZ sh wS d) (some .int) (codeZ 56) 0 [.ref w, .int x0] [] m := se_of sh wS d m (n := 2) (by decide) (by decide +kernel) (by decide) (Nat.le_of_ble_eq_true rfl) rfl
theorem se_X6_nights (w : Nat) (x0 : Int32) : semZ sh wS (d + 1) 57 [.ref w, .int x0] m = rn sh tb0 mN mO (semZ sh wS d) (some .int) (codeZ 57) 0 [.ref w, .int x0] [] m := se_of sh wS d m (n := 2) (by decide) (by decide +kernel) (by decide) (Nat.le_of_ble_eq_true rfl) rfl
theorem se_X6_runs (w : Nat) (x0 : Int32) (x1 : Int32) : semZ sh wS (d + 1) 58 [.ref w, .int x0, .int x1] m = rn sh tb0 mN mO (semZ sh wS d) (some .int) (codeZ 58) 0 [.ref w, .int x0, .int x1, noV, noV] [] m := se_of sh wS d m (n := 5) (by decide) (by decide +kernel) (by decide) (Nat.le_of_ble_eq_true rfl) rfl
theorem se_X6_ahead (w : Nat) (x0 : Int32) (x1 : Int32) (x2 : Int32) : semZ sh wS (d + 1) 59 [.ref w, .int x0, .int x1, .int x2] m = rn sh tb0 mN mO (semZ sh wS d) (some .int) (codeZ 59) 0 [.ref w, .int x0, .int x1, .int x2, noV] [] m := se_of sh wS d m (n := 5) (by decide) (by decide +kernel) (by decide) (Nat.le_of_ble_eq_true rfl) rfl
theorem se_X6_settled (w : Nat) (x0 : Int32) : semZ sh wS (d + 1) 60 [.ref w, .int x0] m = rn sh tb0 mN mO (semZ sh wS d) (some .int) (codeZ 60) 0 [.ref w, .int x0, noV, noV] [] m := se_of sh wS d m (n := 4) (by decide) (by decide +kernel) (by decide) (Nat.le_of_ble_eq_true rfl) rfl
theorem se_X6_dear (w : Nat) (x0 : Int32) : semZ sh wS (d + 1) 61 [.ref w, .int x0] m = rn sh tb0 mN mO (semZ sh wS d) (some .int) (codeZ 61) 0 [.ref w, .int x0, noV, noV] [] m := se_of sh wS d m (n := 4) (by decide) (by decide +kernel) (by decide) (Nat.le_of_ble_eq_true rfl) rfl
theorem se_X6_provedByPrice (w : Nat) (x0 : Int32) (x1 : Int32) : semZ sh wS (d + 1) 62 [.ref w, .int x0, .int x1] m = rn sh tb0 mN mO (semZ sh wS d) (some .int) (codeZ 62) 0 [.ref w, .int x0, .int x1, noV] [] m := se_of sh wS d m (n := 4) (by decide) (by decide +kernel) (by decide) (Nat.le_of_ble_eq_true rfl) rfl
theorem se_X6_mild (w : Nat) (x0 : Int32) : semZ sh wS (d + 1) 63 [.ref w, .int x0] m = rn sh tb0 mN mO (semZ sh wS d) (some .int) (codeZ 63) 0 [.ref w, .int x0, noV, noV] [] m := se_of sh wS d m (n := 4) (by decide) (by decide +kernel) (by decide) (Nat.le_of_ble_eq_true rfl) rfl
theorem se_X6_watch (w : Nat) (x0 : Int32) (x1 : Int32) : semZ sh wS (d + 1) 64 [.ref w, .int x0, .int x1] m = rn sh tb0 mN mO (semZ sh wS d) (some .int) (codeZ 64) 0 [.ref w, .int x0, .int x1, noV, noV, noV, noV] [] m := se_of sh wS d m (n := 7) (by decide) (by decide +kernel) (by decide) (Nat.le_of_ble_eq_true rfl) rfl
theorem se_X6_meansBehind (w : Nat) (x0 : Int32) (x1 : Int32) (x2 : Int32) : semZ sh wS (d + 1) 65 [.ref w, .int x0, .int x1, .int x2] m = rn sh tb0 mN mO (semZ sh wS d) (some .int) (codeZ 65) 0 [.ref w, .int x0, .int x1, .int x2, noV] [] m := se_of sh wS d m (n := 5) (by decide) (by decide +kernel) (by decide) (Nat.le_of_ble_eq_true rfl) rfl
theorem se_X6_place (w : Nat) (x0 : Int32) (x1 : Int32) (x2 : Int32) : semZ sh wS (d + 1) 66 [.ref w, .int x0, .int x1, .int x2] m = rn sh tb0 mN mO (semZ sh wS d) (some .int) (codeZ 66) 0 [.ref w, .int x0, .int x1, .int x2, noV, noV, noV, noV, noV] [] m := se_of sh wS d m (n := 9) (by decide) (by decide +kernel) (by decide) (Nat.le_of_ble_eq_true rfl) rfl
theorem se_X6_kin (w : Nat) (x0 : Int32) (x1 : Int32) : semZ sh wS (d + 1) 67 [.ref w, .int x0, .int x1] m = rn sh tb0 mN mO (semZ sh wS d) (some .int) (codeZ 67) 0 [.ref w, .int x0, .int x1, noV, noV, noV, noV, noV] [] m := se_of sh wS d m (n := 8) (by decide) (by decide +kernel) (by decide) (Nat.le_of_ble_eq_true rfl) rfl
theorem se_X6_late (w : Nat) (x0 : Int32) : semZ sh wS (d + 1) 68 [.ref w, .int x0] m = rn sh tb0 mN mO (semZ sh wS d) (some .int) (codeZ 68) 0 [.ref w, .int x0, noV, noV, noV, noV, noV] [] m := se_of sh wS d m (n := 7) (by decide) (by decide +kernel) (by decide) (Nat.le_of_ble_eq_true rfl) rfl
theorem se_X6_order (w : Nat) (x0 : Int32) (x1 : Int32) : semZ sh wS (d + 1) 69 [.ref w, .int x0, .int x1] m = rn sh tb0 mN mO (semZ sh wS d) (some .int) (codeZ 69) 0 [.ref w, .int x0, .int x1, noV] [] m := se_of sh wS d m (n := 4) (by decide) (by decide +kernel) (by decide) (Nat.le_of_ble_eq_true rfl) rfl
theorem se_X6_findBestTurns (w : Nat) (x0 : Int32) : semZ sh wS (d + 1) 70 [.ref w, .int x0] m = rn sh tb0 mN mO (semZ sh wS d) (some .int) (codeZ 70) 0 [.ref w, .int x0, noV, noV, noV] [] m := se_of sh wS d m (n := 5) (by decide) (by decide +kernel) (by decide) (Nat.le_of_ble_eq_true rfl) rfl
theorem se_X6_paidByTurns (w : Nat) (x0 : Int32) : semZ sh wS (d + 1) 71 [.ref w, .int x0] m = rn sh tb0 mN mO (semZ sh wS d) (some .int) (codeZ 71) 0 [.ref w, .int x0, noV] [] m := se_of sh wS d m (n := 3) (by decide) (by decide +kernel) (by decide) (Nat.le_of_ble_eq_true rfl) rfl
theorem se_X6_arrangeNext (x0 : Nat) (x1 : Int32) : semZ sh wS (d + 1) 72 [.ref x0, .int x1] m = rn sh tb0 mN mO (semZ sh wS d) (some .boolean) (codeZ 72) 0 [.ref x0, .int x1, noV, noV, noV, noV] [] m := se_of sh wS d m (n := 6) (by decide) (by decide +kernel) (by decide) (Nat.le_of_ble_eq_true rfl) rfl
theorem se_X6_swap (x0 : Nat) (x1 : Int32) (x2 : Int32) : semZ sh wS (d + 1) 73 [.ref x0, .int x1, .int x2] m = rn sh tb0 mN mO (semZ sh wS d) none (codeZ 73) 0 [.ref x0, .int x1, .int x2, noV] [] m := se_of sh wS d m (n := 4) (by decide) (by decide +kernel) (by decide) (Nat.le_of_ble_eq_true rfl) rfl
theorem se_X6_mean (w : Nat) (x0 : Int32) (x1 : Int32) (x2 : Int32) : semZ sh wS (d + 1) 74 [.ref w, .int x0, .int x1, .int x2] m = rn sh tb0 mN mO (semZ sh wS d) (some .long) (codeZ 74) 0 [.ref w, .int x0, .int x1, .int x2] [] m := se_of sh wS d m (n := 4) (by decide) (by decide +kernel) (by decide) (Nat.le_of_ble_eq_true rfl) rfl
theorem se_X6_luck (w : Nat) (x0 : Int32) (x1 : Int32) (x2 : Int32) (x3 : Int32) : semZ sh wS (d + 1) 75 [.ref w, .int x0, .int x1, .int x2, .int x3] m = rn sh tb0 mN mO (semZ sh wS d) (some .long) (codeZ 75) 0 [.ref w, .int x0, .int x1, .int x2, .int x3] [] m := se_of sh wS d m (n := 5) (by decide) (by decide +kernel) (by decide) (Nat.le_of_ble_eq_true rfl) rfl
theorem se_X6_weighAll (w : Nat) (x0 : Int32) (x1 : Int32) (x2 : Int32) : semZ sh wS (d + 1) 76 [.ref w, .int x0, .int x1, .int x2] m = rn sh tb0 mN mO (semZ sh wS d) (some .long) (codeZ 76) 0 [.ref w, .int x0, .int x1, .int x2, noV, noV, noV, noV, noV, noV] [] m := se_of sh wS d m (n := 10) (by decide) (by decide +kernel) (by decide) (Nat.le_of_ble_eq_true rfl) rfl
theorem se_X6_weightOf (x0 : Int32) (x1 : Int32) (x2 : Int32) : semZ sh wS (d + 1) 77 [.int x0, .int x1, .int x2] m = rn sh tb0 mN mO (semZ sh wS d) (some .long) (codeZ 77) 0 [.int x0, .int x1, .int x2, noV, noV, noV] [] m := se_of sh wS d m (n := 6) (by decide) (by decide +kernel) (by decide) (Nat.le_of_ble_eq_true rfl) rfl
theorem se_X6_weightOfAll (w : Nat) : semZ sh wS (d + 1) 78 [.ref w] m = rn sh tb0 mN mO (semZ sh wS d) (some .long) (codeZ 78) 0 [.ref w, noV, noV, noV] [] m := se_of sh wS d m (n := 4) (by decide) (by decide +kernel) (by decide) (Nat.le_of_ble_eq_true rfl) rfl
theorem se_X6_outcome (w : Nat) (x0 : Int32) (x1 : Int32) (x2 : Int32) : semZ sh wS (d + 1) 79 [.ref w, .int x0, .int x1, .int x2] m = rn sh tb0 mN mO (semZ sh wS d) (some .int) (codeZ 79) 0 [.ref w, .int x0, .int x1, .int x2, noV, noV] [] m := se_of sh wS d m (n := 6) (by decide) (by decide +kernel) (by decide) (Nat.le_of_ble_eq_true rfl) rfl
theorem se_X6_partOfFraction (x0 : Int64) (x1 : Int64) (x2 : Int32) : semZ sh wS (d + 1) 80 [.long x0, .long x1, .int x2] m = rn sh tb0 mN mO (semZ sh wS d) (some .long) (codeZ 80) 0 [.long x0, noV, .long x1, noV, .int x2, noV, noV] [] m := se_of sh wS d m (n := 7) (by decide) (by decide +kernel) (by decide) (Nat.le_of_ble_eq_true rfl) rfl
theorem se_X6_greatestDivisor (x0 : Int64) (x1 : Int64) : semZ sh wS (d + 1) 81 [.long x0, .long x1] m = rn sh tb0 mN mO (semZ sh wS d) (some .long) (codeZ 81) 0 [.long x0, noV, .long x1, noV, noV, noV, noV] [] m := se_of sh wS d m (n := 7) (by decide) (by decide +kernel) (by decide) (Nat.le_of_ble_eq_true rfl) rfl
theorem se_X6_see (w : Nat) (x0 : Int32) (x1 : Int32) (x2 : Int32) : semZ sh wS (d + 1) 82 [.ref w, .int x0, .int x1, .int x2] m = rn sh tb0 mN mO (semZ sh wS d) (some .int) (codeZ 82) 0 [.ref w, .int x0, .int x1, .int x2] [] m := se_of sh wS d m (n := 4) (by decide) (by decide +kernel) (by decide) (Nat.le_of_ble_eq_true rfl) rfl
theorem se_X6_forget (w : Nat) (x0 : Int32) : semZ sh wS (d + 1) 83 [.ref w, .int x0] m = rn sh tb0 mN mO (semZ sh wS d) (some .int) (codeZ 83) 0 [.ref w, .int x0, noV] [] m := se_of sh wS d m (n := 3) (by decide) (by decide +kernel) (by decide) (Nat.le_of_ble_eq_true rfl) rfl
theorem se_X6_kinds (w : Nat) (x0 : Int32) : semZ sh wS (d + 1) 84 [.ref w, .int x0] m = rn sh tb0 mN mO (semZ sh wS d) (some .int) (codeZ 84) 0 [.ref w, .int x0] [] m := se_of sh wS d m (n := 2) (by decide) (by decide +kernel) (by decide) (Nat.le_of_ble_eq_true rfl) rfl
theorem se_X6_fathers (w : Nat) (x0 : Int32) : semZ sh wS (d + 1) 85 [.ref w, .int x0] m = rn sh tb0 mN mO (semZ sh wS d) (some .int) (codeZ 85) 0 [.ref w, .int x0] [] m := se_of sh wS d m (n := 2) (by decide) (by decide +kernel) (by decide) (Nat.le_of_ble_eq_true rfl) rfl
theorem se_X6_asSeenBy (w : Nat) (x0 : Int32) (x1 : Int32) (x2 : Int32) : semZ sh wS (d + 1) 86 [.ref w, .int x0, .int x1, .int x2] m = rn sh tb0 mN mO (semZ sh wS d) (some .int) (codeZ 86) 0 [.ref w, .int x0, .int x1, .int x2, noV, noV, noV] [] m := se_of sh wS d m (n := 7) (by decide) (by decide +kernel) (by decide) (Nat.le_of_ble_eq_true rfl) rfl
theorem se_X6_isAsSeen (w : Nat) (x0 : Nat) : semZ sh wS (d + 1) 87 [.ref w, .ref x0] m = rn sh tb0 mN mO (semZ sh wS d) (some .boolean) (codeZ 87) 0 [.ref w, .ref x0, noV] [] m := se_of sh wS d m (n := 3) (by decide) (by decide +kernel) (by decide) (Nat.le_of_ble_eq_true rfl) rfl
theorem se_X6_look (w : Nat) (x0 : Int32) (x1 : Int32) : semZ sh wS (d + 1) 88 [.ref w, .int x0, .int x1] m = rn sh tb0 mN mO (semZ sh wS d) (some .int) (codeZ 88) 0 [.ref w, .int x0, .int x1, noV, noV, noV, noV, noV] [] m := se_of sh wS d m (n := 8) (by decide) (by decide +kernel) (by decide) (Nat.le_of_ble_eq_true rfl) rfl
theorem se_X6_noteSpots (w : Nat) (x0 : Int32) : semZ sh wS (d + 1) 89 [.ref w, .int x0] m = rn sh tb0 mN mO (semZ sh wS d) none (codeZ 89) 0 [.ref w, .int x0, noV, noV, noV] [] m := se_of sh wS d m (n := 5) (by decide) (by decide +kernel) (by decide) (Nat.le_of_ble_eq_true rfl) rfl
theorem se_X6_leftAtWorst (w : Nat) (x0 : Int32) (x1 : Int32) : semZ sh wS (d + 1) 90 [.ref w, .int x0, .int x1] m = rn sh tb0 mN mO (semZ sh wS d) (some .int) (codeZ 90) 0 [.ref w, .int x0, .int x1, noV, noV, noV, noV] [] m := se_of sh wS d m (n := 7) (by decide) (by decide +kernel) (by decide) (Nat.le_of_ble_eq_true rfl) rfl
theorem se_X6_drift (w : Nat) (x0 : Int32) (x1 : Int32) (x2 : Int32) : semZ sh wS (d + 1) 91 [.ref w, .int x0, .int x1, .int x2] m = rn sh tb0 mN mO (semZ sh wS d) (some .int) (codeZ 91) 0 [.ref w, .int x0, .int x1, .int x2, noV, noV, noV, noV, noV] [] m := se_of sh wS d m (n := 9) (by decide) (by decide +kernel) (by decide) (Nat.le_of_ble_eq_true rfl) rfl
theorem se_X6_keep (w : Nat) (x0 : Int32) : semZ sh wS (d + 1) 92 [.ref w, .int x0] m = rn sh tb0 mN mO (semZ sh wS d) (some .int) (codeZ 92) 0 [.ref w, .int x0, noV, noV] [] m := se_of sh wS d m (n := 4) (by decide) (by decide +kernel) (by decide) (Nat.le_of_ble_eq_true rfl) rfl
theorem se_X6_back (w : Nat) (x0 : Int32) : semZ sh wS (d + 1) 93 [.ref w, .int x0] m = rn sh tb0 mN mO (semZ sh wS d) (some .int) (codeZ 93) 0 [.ref w, .int x0, noV] [] m := se_of sh wS d m (n := 3) (by decide) (by decide +kernel) (by decide) (Nat.le_of_ble_eq_true rfl) rfl
theorem se_X6_sheet (w : Nat) (x0 : Int32) (x1 : Int32) (x2 : Int32) : semZ sh wS (d + 1) 94 [.ref w, .int x0, .int x1, .int x2] m = rn sh tb0 mN mO (semZ sh wS d) (some .int) (codeZ 94) 0 [.ref w, .int x0, .int x1, .int x2] [] m := se_of sh wS d m (n := 4) (by decide) (by decide +kernel) (by decide) (Nat.le_of_ble_eq_true rfl) rfl
theorem se_X6_lay (w : Nat) (x0 : Int32) (x1 : Int32) (x2 : Int32) : semZ sh wS (d + 1) 95 [.ref w, .int x0, .int x1, .int x2] m = rn sh tb0 mN mO (semZ sh wS d) (some .int) (codeZ 95) 0 [.ref w, .int x0, .int x1, .int x2, noV] [] m := se_of sh wS d m (n := 5) (by decide) (by decide +kernel) (by decide) (Nat.le_of_ble_eq_true rfl) rfl
theorem se_X6_read (w : Nat) (x0 : Int32) (x1 : Int32) (x2 : Int32) (x3 : Int32) : semZ sh wS (d + 1) 96 [.ref w, .int x0, .int x1, .int x2, .int x3] m = rn sh tb0 mN mO (semZ sh wS d) (some .int) (codeZ 96) 0 [.ref w, .int x0, .int x1, .int x2, .int x3, noV, noV, noV, noV, noV, noV, noV, noV] [] m := se_of sh wS d m (n := 13) (by decide) (by decide +kernel) (by decide) (Nat.le_of_ble_eq_true rfl) rfl
theorem se_X6_torn (w : Nat) : semZ sh wS (d + 1) 97 [.ref w] m = rn sh tb0 mN mO (semZ sh wS d) (some .int) (codeZ 97) 0 [.ref w] [] m := se_of sh wS d m (n := 1) (by decide) (by decide +kernel) (by decide) (Nat.le_of_ble_eq_true rfl) rfl
theorem se_X6_count (w : Nat) (x0 : Int32) : semZ sh wS (d + 1) 98 [.ref w, .int x0] m = rn sh tb0 mN mO (semZ sh wS d) (some .int) (codeZ 98) 0 [.ref w, .int x0] [] m := se_of sh wS d m (n := 2) (by decide) (by decide +kernel) (by decide) (Nat.le_of_ble_eq_true rfl) rfl
theorem se_X6_within (x0 : Int32) (x1 : Int32) (x2 : Int32) : semZ sh wS (d + 1) 99 [.int x0, .int x1, .int x2] m = rn sh tb0 mN mO (semZ sh wS d) (some .boolean) (codeZ 99) 0 [.int x0, .int x1, .int x2] [] m := se_of sh wS d m (n := 3) (by decide) (by decide +kernel) (by decide) (Nat.le_of_ble_eq_true rfl) rfl
theorem se_X6_fromNow (w : Nat) : semZ sh wS (d + 1) 100 [.ref w] m = rn sh tb0 mN mO (semZ sh wS d) (some (.object "ProofFine$World")) (codeZ 100) 0 [.ref w] [] m := se_of sh wS d m (n := 1) (by decide) (by decide +kernel) (by decide) (Nat.le_of_ble_eq_true rfl) rfl
theorem se_X7_in (x0 : Int64) (x1 : Int64) (x2 : Int64) : semZ sh wS (d + 1) 101 [.long x0, .long x1, .long x2] m = rn sh tb0 mN mO (semZ sh wS d) (some .boolean) (codeZ 101) 0 [.long x0, noV, .long x1, noV, .long x2, noV] [] m := se_of sh wS d m (n := 6) (by decide) (by decide +kernel) (by decide) (Nat.le_of_ble_eq_true rfl) rfl
theorem se_X7_flag (x0 : Int32) : semZ sh wS (d + 1) 102 [.int x0] m = rn sh tb0 mN mO (semZ sh wS d) (some .int) (codeZ 102) 0 [.int x0] [] m := se_of sh wS d m (n := 1) (by decide) (by decide +kernel) (by decide) (Nat.le_of_ble_eq_true rfl) rfl
theorem se_X7_firstDraft (w : Nat) : semZ sh wS (d + 1) 103 [.ref w] m = rn sh tb0 mN mO (semZ sh wS d) none (codeZ 103) 0 [.ref w, noV] [] m := se_of sh wS d m (n := 2) (by decide) (by decide +kernel) (by decide) (Nat.le_of_ble_eq_true rfl) rfl
theorem se_X7_keepDraft (w : Nat) : semZ sh wS (d + 1) 104 [.ref w] m = rn sh tb0 mN mO (semZ sh wS d) none (codeZ 104) 0 [.ref w, noV] [] m := se_of sh wS d m (n := 2) (by decide) (by decide +kernel) (by decide) (Nat.le_of_ble_eq_true rfl) rfl
theorem se_X7_feed (w : Nat) (x0 : Int32) : semZ sh wS (d + 1) 105 [.ref w, .int x0] m = rn sh tb0 mN mO (semZ sh wS d) (some .int) (codeZ 105) 0 [.ref w, .int x0] [] m := se_of sh wS d m (n := 2) (by decide) (by decide +kernel) (by decide) (Nat.le_of_ble_eq_true rfl) rfl
theorem se_X7_end (w : Nat) (x0 : Int32) : semZ sh wS (d + 1) 106 [.ref w, .int x0] m = rn sh tb0 mN mO (semZ sh wS d) (some .int) (codeZ 106) 0 [.ref w, .int x0, noV] [] m := se_of sh wS d m (n := 3) (by decide) (by decide +kernel) (by decide) (Nat.le_of_ble_eq_true rfl) rfl
theorem se_X7_needs (w : Nat) (x0 : Int32) (x1 : Int32) : semZ sh wS (d + 1) 107 [.ref w, .int x0, .int x1] m = rn sh tb0 mN mO (semZ sh wS d) none (codeZ 107) 0 [.ref w, .int x0, .int x1] [] m := se_of sh wS d m (n := 3) (by decide) (by decide +kernel) (by decide) (Nat.le_of_ble_eq_true rfl) rfl
theorem se_X7_byteAt (w : Nat) (x0 : Int32) : semZ sh wS (d + 1) 108 [.ref w, .int x0] m = rn sh tb0 mN mO (semZ sh wS d) (some .int) (codeZ 108) 0 [.ref w, .int x0] [] m := se_of sh wS d m (n := 2) (by decide) (by decide +kernel) (by decide) (Nat.le_of_ble_eq_true rfl) rfl
theorem se_X7_is (w : Nat) (x0 : Int32) (x1 : Int32) (x2 : Int32) (x3 : Int32) : semZ sh wS (d + 1) 109 [.ref w, .int x0, .int x1, .int x2, .int x3] m = rn sh tb0 mN mO (semZ sh wS d) (some .boolean) (codeZ 109) 0 [.ref w, .int x0, .int x1, .int x2, .int x3] [] m := se_of sh wS d m (n := 5) (by decide) (by decide +kernel) (by decide) (Nat.le_of_ble_eq_true rfl) rfl
theorem se_X7_ends (w : Nat) (x0 : Int32) (x1 : Int32) (x2 : Int32) (x3 : Int32) : semZ sh wS (d + 1) 110 [.ref w, .int x0, .int x1, .int x2, .int x3] m = rn sh tb0 mN mO (semZ sh wS d) (some .boolean) (codeZ 110) 0 [.ref w, .int x0, .int x1, .int x2, .int x3] [] m := se_of sh wS d m (n := 5) (by decide) (by decide +kernel) (by decide) (Nat.le_of_ble_eq_true rfl) rfl
theorem se_X7_kindNow (w : Nat) : semZ sh wS (d + 1) 111 [.ref w] m = rn sh tb0 mN mO (semZ sh wS d) (some .int) (codeZ 111) 0 [.ref w] [] m := se_of sh wS d m (n := 1) (by decide) (by decide +kernel) (by decide) (Nat.le_of_ble_eq_true rfl) rfl
theorem se_X7_lineNow (w : Nat) : semZ sh wS (d + 1) 112 [.ref w] m = rn sh tb0 mN mO (semZ sh wS d) (some .int) (codeZ 112) 0 [.ref w] [] m := se_of sh wS d m (n := 1) (by decide) (by decide +kernel) (by decide) (Nat.le_of_ble_eq_true rfl) rfl
theorem se_X7_takes (w : Nat) : semZ sh wS (d + 1) 113 [.ref w] m = rn sh tb0 mN mO (semZ sh wS d) none (codeZ 113) 0 [.ref w, noV] [] m := se_of sh wS d m (n := 2) (by decide) (by decide +kernel) (by decide) (Nat.le_of_ble_eq_true rfl) rfl
theorem se_X7_readNumber (w : Nat) (x0 : Int32) (x1 : Int32) : semZ sh wS (d + 1) 114 [.ref w, .int x0, .int x1] m = rn sh tb0 mN mO (semZ sh wS d) (some .int) (codeZ 114) 0 [.ref w, .int x0, .int x1, noV] [] m := se_of sh wS d m (n := 4) (by decide) (by decide +kernel) (by decide) (Nat.le_of_ble_eq_true rfl) rfl
theorem se_X7_readBody (w : Nat) (x0 : Int32) : semZ sh wS (d + 1) 115 [.ref w, .int x0] m = rn sh tb0 mN mO (semZ sh wS d) none (codeZ 115) 0 [.ref w, .int x0, noV] [] m := se_of sh wS d m (n := 3) (by decide) (by decide +kernel) (by decide) (Nat.le_of_ble_eq_true rfl) rfl
theorem se_X7_readLineOf (w : Nat) (x0 : Int32) : semZ sh wS (d + 1) 116 [.ref w, .int x0] m = rn sh tb0 mN mO (semZ sh wS d) none (codeZ 116) 0 [.ref w, .int x0] [] m := se_of sh wS d m (n := 2) (by decide) (by decide +kernel) (by decide) (Nat.le_of_ble_eq_true rfl) rfl
theorem se_X7_readLine (w : Nat) : semZ sh wS (d + 1) 117 [.ref w] m = rn sh tb0 mN mO (semZ sh wS d) none (codeZ 117) 0 [.ref w, noV] [] m := se_of sh wS d m (n := 2) (by decide) (by decide +kernel) (by decide) (Nat.le_of_ble_eq_true rfl) rfl
theorem se_X7_text (w : Nat) : semZ sh wS (d + 1) 118 [.ref w] m = rn sh tb0 mN mO (semZ sh wS d) (some .int) (codeZ 118) 0 [.ref w, noV] [] m := se_of sh wS d m (n := 2) (by decide) (by decide +kernel) (by decide) (Nat.le_of_ble_eq_true rfl) rfl
theorem se_X7_fault (w : Nat) : semZ sh wS (d + 1) 119 [.ref w] m = rn sh tb0 mN mO (semZ sh wS d) (some .int) (codeZ 119) 0 [.ref w] [] m := se_of sh wS d m (n := 1) (by decide) (by decide +kernel) (by decide) (Nat.le_of_ble_eq_true rfl) rfl
theorem se_X7_isVillage (w : Nat) (x0 : Int32) : semZ sh wS (d + 1) 120 [.ref w, .int x0] m = rn sh tb0 mN mO (semZ sh wS d) (some .boolean) (codeZ 120) 0 [.ref w, .int x0] [] m := se_of sh wS d m (n := 2) (by decide) (by decide +kernel) (by decide) (Nat.le_of_ble_eq_true rfl) rfl
theorem se_X7_isBody (w : Nat) (x0 : Int32) : semZ sh wS (d + 1) 121 [.ref w, .int x0] m = rn sh tb0 mN mO (semZ sh wS d) (some .boolean) (codeZ 121) 0 [.ref w, .int x0] [] m := se_of sh wS d m (n := 2) (by decide) (by decide +kernel) (by decide) (Nat.le_of_ble_eq_true rfl) rfl
theorem se_X7_isPart (x0 : Int32) : semZ sh wS (d + 1) 122 [.int x0] m = rn sh tb0 mN mO (semZ sh wS d) (some .boolean) (codeZ 122) 0 [.int x0] [] m := se_of sh wS d m (n := 1) (by decide) (by decide +kernel) (by decide) (Nat.le_of_ble_eq_true rfl) rfl
theorem se_X7_starts (w : Nat) : semZ sh wS (d + 1) 123 [.ref w] m = rn sh tb0 mN mO (semZ sh wS d) none (codeZ 123) 0 [.ref w, noV] [] m := se_of sh wS d m (n := 2) (by decide) (by decide +kernel) (by decide) (Nat.le_of_ble_eq_true rfl) rfl
theorem se_X7_settles (w : Nat) : semZ sh wS (d + 1) 124 [.ref w] m = rn sh tb0 mN mO (semZ sh wS d) none (codeZ 124) 0 [.ref w, noV] [] m := se_of sh wS d m (n := 2) (by decide) (by decide +kernel) (by decide) (Nat.le_of_ble_eq_true rfl) rfl
theorem se_X7_of (w : Nat) (x0 : Int32) (x1 : Int32) : semZ sh wS (d + 1) 125 [.ref w, .int x0, .int x1] m = rn sh tb0 mN mO (semZ sh wS d) (some .int) (codeZ 125) 0 [.ref w, .int x0, .int x1] [] m := se_of sh wS d m (n := 3) (by decide) (by decide +kernel) (by decide) (Nat.le_of_ble_eq_true rfl) rfl
theorem se_X7_becomesOf (w : Nat) (x0 : Int32) (x1 : Int32) (x2 : Int32) : semZ sh wS (d + 1) 126 [.ref w, .int x0, .int x1, .int x2] m = rn sh tb0 mN mO (semZ sh wS d) none (codeZ 126) 0 [.ref w, .int x0, .int x1, .int x2] [] m := se_of sh wS d m (n := 4) (by decide) (by decide +kernel) (by decide) (Nat.le_of_ble_eq_true rfl) rfl
theorem se_X7_needOf (x0 : Int32) (x1 : Int32) : semZ sh wS (d + 1) 127 [.int x0, .int x1] m = rn sh tb0 mN mO (semZ sh wS d) (some .int) (codeZ 127) 0 [.int x0, .int x1] [] m := se_of sh wS d m (n := 2) (by decide) (by decide +kernel) (by decide) (Nat.le_of_ble_eq_true rfl) rfl
theorem se_X7_lacksOf (w : Nat) (x0 : Int32) (x1 : Int32) : semZ sh wS (d + 1) 128 [.ref w, .int x0, .int x1] m = rn sh tb0 mN mO (semZ sh wS d) (some .int) (codeZ 128) 0 [.ref w, .int x0, .int x1, noV] [] m := se_of sh wS d m (n := 4) (by decide) (by decide +kernel) (by decide) (Nat.le_of_ble_eq_true rfl) rfl
theorem se_X7_lacks (w : Nat) (x0 : Int32) : semZ sh wS (d + 1) 129 [.ref w, .int x0] m = rn sh tb0 mN mO (semZ sh wS d) (some .int) (codeZ 129) 0 [.ref w, .int x0] [] m := se_of sh wS d m (n := 2) (by decide) (by decide +kernel) (by decide) (Nat.le_of_ble_eq_true rfl) rfl
theorem se_X7_firstAt (w : Nat) (x0 : Int32) : semZ sh wS (d + 1) 130 [.ref w, .int x0] m = rn sh tb0 mN mO (semZ sh wS d) (some .int) (codeZ 130) 0 [.ref w, .int x0, noV] [] m := se_of sh wS d m (n := 3) (by decide) (by decide +kernel) (by decide) (Nat.le_of_ble_eq_true rfl) rfl
theorem se_X7_villageGoes (w : Nat) (x0 : Int32) : semZ sh wS (d + 1) 131 [.ref w, .int x0] m = rn sh tb0 mN mO (semZ sh wS d) none (codeZ 131) 0 [.ref w, .int x0, noV, noV, noV] [] m := se_of sh wS d m (n := 5) (by decide) (by decide +kernel) (by decide) (Nat.le_of_ble_eq_true rfl) rfl
theorem se_X7_crownerComes (w : Nat) : semZ sh wS (d + 1) 132 [.ref w] m = rn sh tb0 mN mO (semZ sh wS d) none (codeZ 132) 0 [.ref w, noV, noV, noV] [] m := se_of sh wS d m (n := 4) (by decide) (by decide +kernel) (by decide) (Nat.le_of_ble_eq_true rfl) rfl
theorem se_X7_nightGoes (w : Nat) : semZ sh wS (d + 1) 133 [.ref w] m = rn sh tb0 mN mO (semZ sh wS d) none (codeZ 133) 0 [.ref w, noV] [] m := se_of sh wS d m (n := 2) (by decide) (by decide +kernel) (by decide) (Nat.le_of_ble_eq_true rfl) rfl
theorem se_X7_allMeans (w : Nat) : semZ sh wS (d + 1) 134 [.ref w] m = rn sh tb0 mN mO (semZ sh wS d) (some .int) (codeZ 134) 0 [.ref w, noV, noV] [] m := se_of sh wS d m (n := 3) (by decide) (by decide +kernel) (by decide) (Nat.le_of_ble_eq_true rfl) rfl
theorem se_X7_paidIn (w : Nat) (x0 : Int32) : semZ sh wS (d + 1) 135 [.ref w, .int x0] m = rn sh tb0 mN mO (semZ sh wS d) (some .int) (codeZ 135) 0 [.ref w, .int x0, noV, noV] [] m := se_of sh wS d m (n := 4) (by decide) (by decide +kernel) (by decide) (Nat.le_of_ble_eq_true rfl) rfl
theorem se_X7_inWay (w : Nat) (x0 : Int32) : semZ sh wS (d + 1) 136 [.ref w, .int x0] m = rn sh tb0 mN mO (semZ sh wS d) (some .int) (codeZ 136) 0 [.ref w, .int x0, noV, noV] [] m := se_of sh wS d m (n := 4) (by decide) (by decide +kernel) (by decide) (Nat.le_of_ble_eq_true rfl) rfl
theorem se_X7_bitsOf (x0 : Int32) : semZ sh wS (d + 1) 137 [.int x0] m = rn sh tb0 mN mO (semZ sh wS d) (some .int) (codeZ 137) 0 [.int x0, noV, noV] [] m := se_of sh wS d m (n := 3) (by decide) (by decide +kernel) (by decide) (Nat.le_of_ble_eq_true rfl) rfl
theorem se_X7_lesser (x0 : Int32) (x1 : Int32) : semZ sh wS (d + 1) 138 [.int x0, .int x1] m = rn sh tb0 mN mO (semZ sh wS d) (some .int) (codeZ 138) 0 [.int x0, .int x1] [] m := se_of sh wS d m (n := 2) (by decide) (by decide +kernel) (by decide) (Nat.le_of_ble_eq_true rfl) rfl
theorem se_X7_rule (w : Nat) (x0 : Int32) : semZ sh wS (d + 1) 139 [.ref w, .int x0] m = rn sh tb0 mN mO (semZ sh wS d) (some .int) (codeZ 139) 0 [.ref w, .int x0] [] m := se_of sh wS d m (n := 2) (by decide) (by decide +kernel) (by decide) (Nat.le_of_ble_eq_true rfl) rfl
theorem se_X7_village (w : Nat) (x0 : Int32) (x1 : Int32) : semZ sh wS (d + 1) 140 [.ref w, .int x0, .int x1] m = rn sh tb0 mN mO (semZ sh wS d) (some .int) (codeZ 140) 0 [.ref w, .int x0, .int x1, noV, noV] [] m := se_of sh wS d m (n := 5) (by decide) (by decide +kernel) (by decide) (Nat.le_of_ble_eq_true rfl) rfl
theorem se_X7_body (w : Nat) (x0 : Int32) (x1 : Int32) : semZ sh wS (d + 1) 141 [.ref w, .int x0, .int x1] m = rn sh tb0 mN mO (semZ sh wS d) (some .int) (codeZ 141) 0 [.ref w, .int x0, .int x1] [] m := se_of sh wS d m (n := 3) (by decide) (by decide +kernel) (by decide) (Nat.le_of_ble_eq_true rfl) rfl
theorem se_X7_becomes (w : Nat) (x0 : Int32) (x1 : Int32) : semZ sh wS (d + 1) 142 [.ref w, .int x0, .int x1] m = rn sh tb0 mN mO (semZ sh wS d) (some .int) (codeZ 142) 0 [.ref w, .int x0, .int x1, noV] [] m := se_of sh wS d m (n := 4) (by decide) (by decide +kernel) (by decide) (Nat.le_of_ble_eq_true rfl) rfl
theorem se_X7_grant (w : Nat) (x0 : Int32) (x1 : Int32) (x2 : Int32) : semZ sh wS (d + 1) 143 [.ref w, .int x0, .int x1, .int x2] m = rn sh tb0 mN mO (semZ sh wS d) (some .int) (codeZ 143) 0 [.ref w, .int x0, .int x1, .int x2] [] m := se_of sh wS d m (n := 4) (by decide) (by decide +kernel) (by decide) (Nat.le_of_ble_eq_true rfl) rfl
theorem se_X7_liesStill (w : Nat) (x0 : Int32) : semZ sh wS (d + 1) 144 [.ref w, .int x0] m = rn sh tb0 mN mO (semZ sh wS d) (some .boolean) (codeZ 144) 0 [.ref w, .int x0] [] m := se_of sh wS d m (n := 2) (by decide) (by decide +kernel) (by decide) (Nat.le_of_ble_eq_true rfl) rfl
theorem se_X7_alter (w : Nat) (x0 : Int32) (x1 : Int32) (x2 : Int32) : semZ sh wS (d + 1) 145 [.ref w, .int x0, .int x1, .int x2] m = rn sh tb0 mN mO (semZ sh wS d) (some .int) (codeZ 145) 0 [.ref w, .int x0, .int x1, .int x2, noV] [] m := se_of sh wS d m (n := 5) (by decide) (by decide +kernel) (by decide) (Nat.le_of_ble_eq_true rfl) rfl
theorem se_X7_set (w : Nat) (x0 : Int32) (x1 : Int32) : semZ sh wS (d + 1) 146 [.ref w, .int x0, .int x1] m = rn sh tb0 mN mO (semZ sh wS d) (some .int) (codeZ 146) 0 [.ref w, .int x0, .int x1, noV] [] m := se_of sh wS d m (n := 4) (by decide) (by decide +kernel) (by decide) (Nat.le_of_ble_eq_true rfl) rfl
theorem se_X7_find (w : Nat) (x0 : Int32) (x1 : Int32) (x2 : Int32) (x3 : Int32) : semZ sh wS (d + 1) 147 [.ref w, .int x0, .int x1, .int x2, .int x3] m = rn sh tb0 mN mO (semZ sh wS d) (some .int) (codeZ 147) 0 [.ref w, .int x0, .int x1, .int x2, .int x3, noV] [] m := se_of sh wS d m (n := 6) (by decide) (by decide +kernel) (by decide) (Nat.le_of_ble_eq_true rfl) rfl
theorem se_X7_hire (w : Nat) (x0 : Int32) : semZ sh wS (d + 1) 148 [.ref w, .int x0] m = rn sh tb0 mN mO (semZ sh wS d) (some .int) (codeZ 148) 0 [.ref w, .int x0, noV, noV] [] m := se_of sh wS d m (n := 4) (by decide) (by decide +kernel) (by decide) (Nat.le_of_ble_eq_true rfl) rfl
theorem se_X7_nights (w : Nat) (x0 : Int32) : semZ sh wS (d + 1) 149 [.ref w, .int x0] m = rn sh tb0 mN mO (semZ sh wS d) (some .int) (codeZ 149) 0 [.ref w, .int x0, noV] [] m := se_of sh wS d m (n := 3) (by decide) (by decide +kernel) (by decide) (Nat.le_of_ble_eq_true rfl) rfl
theorem se_X7_runs (w : Nat) (x0 : Int32) (x1 : Int32) : semZ sh wS (d + 1) 150 [.ref w, .int x0, .int x1] m = rn sh tb0 mN mO (semZ sh wS d) (some .int) (codeZ 150) 0 [.ref w, .int x0, .int x1, noV] [] m := se_of sh wS d m (n := 4) (by decide) (by decide +kernel) (by decide) (Nat.le_of_ble_eq_true rfl) rfl
theorem se_X7_ahead (w : Nat) (x0 : Int32) (x1 : Int32) (x2 : Int32) : semZ sh wS (d + 1) 151 [.ref w, .int x0, .int x1, .int x2] m = rn sh tb0 mN mO (semZ sh wS d) (some .int) (codeZ 151) 0 [.ref w, .int x0, .int x1, .int x2] [] m := se_of sh wS d m (n := 4) (by decide) (by decide +kernel) (by decide) (Nat.le_of_ble_eq_true rfl) rfl
theorem se_X7_settled (w : Nat) (x0 : Int32) : semZ sh wS (d + 1) 152 [.ref w, .int x0] m = rn sh tb0 mN mO (semZ sh wS d) (some .int) (codeZ 152) 0 [.ref w, .int x0, noV] [] m := se_of sh wS d m (n := 3) (by decide) (by decide +kernel) (by decide) (Nat.le_of_ble_eq_true rfl) rfl
theorem se_X7_isJudged (x0 : Int32) : semZ sh wS (d + 1) 153 [.int x0] m = rn sh tb0 mN mO (semZ sh wS d) (some .boolean) (codeZ 153) 0 [.int x0] [] m := se_of sh wS d m (n := 1) (by decide) (by decide +kernel) (by decide) (Nat.le_of_ble_eq_true rfl) rfl
theorem se_X7_paidWith (w : Nat) (x0 : Int32) (x1 : Int32) (x2 : Int32) : semZ sh wS (d + 1) 154 [.ref w, .int x0, .int x1, .int x2] m = rn sh tb0 mN mO (semZ sh wS d) (some .int) (codeZ 154) 0 [.ref w, .int x0, .int x1, .int x2] [] m := se_of sh wS d m (n := 4) (by decide) (by decide +kernel) (by decide) (Nat.le_of_ble_eq_true rfl) rfl
theorem se_X7_dear (w : Nat) (x0 : Int32) : semZ sh wS (d + 1) 155 [.ref w, .int x0] m = rn sh tb0 mN mO (semZ sh wS d) (some .int) (codeZ 155) 0 [.ref w, .int x0, noV, noV, noV] [] m := se_of sh wS d m (n := 5) (by decide) (by decide +kernel) (by decide) (Nat.le_of_ble_eq_true rfl) rfl
theorem se_X7_mild (w : Nat) (x0 : Int32) : semZ sh wS (d + 1) 156 [.ref w, .int x0] m = rn sh tb0 mN mO (semZ sh wS d) (some .int) (codeZ 156) 0 [.ref w, .int x0, noV, noV] [] m := se_of sh wS d m (n := 4) (by decide) (by decide +kernel) (by decide) (Nat.le_of_ble_eq_true rfl) rfl
theorem se_X7_watch (w : Nat) (x0 : Int32) (x1 : Int32) : semZ sh wS (d + 1) 157 [.ref w, .int x0, .int x1] m = rn sh tb0 mN mO (semZ sh wS d) (some .int) (codeZ 157) 0 [.ref w, .int x0, .int x1, noV, noV, noV, noV, noV] [] m := se_of sh wS d m (n := 8) (by decide) (by decide +kernel) (by decide) (Nat.le_of_ble_eq_true rfl) rfl
theorem se_X7_place (w : Nat) (x0 : Int32) (x1 : Int32) (x2 : Int32) : semZ sh wS (d + 1) 158 [.ref w, .int x0, .int x1, .int x2] m = rn sh tb0 mN mO (semZ sh wS d) (some .int) (codeZ 158) 0 [.ref w, .int x0, .int x1, .int x2, noV, noV, noV, noV] [] m := se_of sh wS d m (n := 8) (by decide) (by decide +kernel) (by decide) (Nat.le_of_ble_eq_true rfl) rfl
theorem se_X7_kin (w : Nat) (x0 : Int32) (x1 : Int32) : semZ sh wS (d + 1) 159 [.ref w, .int x0, .int x1] m = rn sh tb0 mN mO (semZ sh wS d) (some .int) (codeZ 159) 0 [.ref w, .int x0, .int x1, noV, noV, noV, noV, noV] [] m := se_of sh wS d m (n := 8) (by decide) (by decide +kernel) (by decide) (Nat.le_of_ble_eq_true rfl) rfl
theorem se_X7_late (w : Nat) (x0 : Int32) : semZ sh wS (d + 1) 160 [.ref w, .int x0] m = rn sh tb0 mN mO (semZ sh wS d) (some .int) (codeZ 160) 0 [.ref w, .int x0, noV, noV, noV, noV] [] m := se_of sh wS d m (n := 6) (by decide) (by decide +kernel) (by decide) (Nat.le_of_ble_eq_true rfl) rfl
theorem se_X7_isOrder (w : Nat) (x0 : Int32) : semZ sh wS (d + 1) 161 [.ref w, .int x0] m = rn sh tb0 mN mO (semZ sh wS d) (some .boolean) (codeZ 161) 0 [.ref w, .int x0, noV, noV, noV] [] m := se_of sh wS d m (n := 5) (by decide) (by decide +kernel) (by decide) (Nat.le_of_ble_eq_true rfl) rfl
theorem se_X7_order (w : Nat) (x0 : Int32) (x1 : Int32) : semZ sh wS (d + 1) 162 [.ref w, .int x0, .int x1] m = rn sh tb0 mN mO (semZ sh wS d) (some .int) (codeZ 162) 0 [.ref w, .int x0, .int x1, noV, noV, noV, noV, noV] [] m := se_of sh wS d m (n := 8) (by decide) (by decide +kernel) (by decide) (Nat.le_of_ble_eq_true rfl) rfl
theorem se_X7_common (x0 : Int64) (x1 : Int64) : semZ sh wS (d + 1) 163 [.long x0, .long x1] m = rn sh tb0 mN mO (semZ sh wS d) (some .long) (codeZ 163) 0 [.long x0, noV, .long x1, noV, noV, noV, noV, noV, noV, noV] [] m := se_of sh wS d m (n := 10) (by decide) (by decide +kernel) (by decide) (Nat.le_of_ble_eq_true rfl) rfl
theorem se_X7_told (x0 : Int64) (x1 : Int64) (x2 : Int32) : semZ sh wS (d + 1) 164 [.long x0, .long x1, .int x2] m = rn sh tb0 mN mO (semZ sh wS d) (some .long) (codeZ 164) 0 [.long x0, noV, .long x1, noV, .int x2, noV, noV] [] m := se_of sh wS d m (n := 7) (by decide) (by decide +kernel) (by decide) (Nat.le_of_ble_eq_true rfl) rfl
theorem se_X7_findOdds (w : Nat) (x0 : Int32) (x1 : Int32) (x2 : Int32) : semZ sh wS (d + 1) 165 [.ref w, .int x0, .int x1, .int x2] m = rn sh tb0 mN mO (semZ sh wS d) none (codeZ 165) 0 [.ref w, .int x0, .int x1, .int x2, noV, noV, noV, noV, noV, noV] [] m := se_of sh wS d m (n := 10) (by decide) (by decide +kernel) (by decide) (Nat.le_of_ble_eq_true rfl) rfl
theorem se_X7_mean (w : Nat) (x0 : Int32) (x1 : Int32) (x2 : Int32) : semZ sh wS (d + 1) 166 [.ref w, .int x0, .int x1, .int x2] m = rn sh tb0 mN mO (semZ sh wS d) (some .long) (codeZ 166) 0 [.ref w, .int x0, .int x1, .int x2] [] m := se_of sh wS d m (n := 4) (by decide) (by decide +kernel) (by decide) (Nat.le_of_ble_eq_true rfl) rfl
theorem se_X7_luck (w : Nat) (x0 : Int32) (x1 : Int32) (x2 : Int32) (x3 : Int32) : semZ sh wS (d + 1) 167 [.ref w, .int x0, .int x1, .int x2, .int x3] m = rn sh tb0 mN mO (semZ sh wS d) (some .long) (codeZ 167) 0 [.ref w, .int x0, .int x1, .int x2, .int x3] [] m := se_of sh wS d m (n := 5) (by decide) (by decide +kernel) (by decide) (Nat.le_of_ble_eq_true rfl) rfl
theorem se_X7_see (w : Nat) (x0 : Int32) (x1 : Int32) (x2 : Int32) : semZ sh wS (d + 1) 168 [.ref w, .int x0, .int x1, .int x2] m = rn sh tb0 mN mO (semZ sh wS d) (some .int) (codeZ 168) 0 [.ref w, .int x0, .int x1, .int x2, noV] [] m := se_of sh wS d m (n := 5) (by decide) (by decide +kernel) (by decide) (Nat.le_of_ble_eq_true rfl) rfl
theorem se_X7_forget (w : Nat) (x0 : Int32) : semZ sh wS (d + 1) 169 [.ref w, .int x0] m = rn sh tb0 mN mO (semZ sh wS d) (some .int) (codeZ 169) 0 [.ref w, .int x0] [] m := se_of sh wS d m (n := 2) (by decide) (by decide +kernel) (by decide) (Nat.le_of_ble_eq_true rfl) rfl
theorem se_X7_isSoWith (w : Nat) (x0 : Int32) (x1 : Int32) : semZ sh wS (d + 1) 170 [.ref w, .int x0, .int x1] m = rn sh tb0 mN mO (semZ sh wS d) (some .boolean) (codeZ 170) 0 [.ref w, .int x0, .int x1, noV, noV, noV] [] m := se_of sh wS d m (n := 6) (by decide) (by decide +kernel) (by decide) (Nat.le_of_ble_eq_true rfl) rfl
theorem se_X7_kindsOf (w : Nat) (x0 : Int32) : semZ sh wS (d + 1) 171 [.ref w, .int x0] m = rn sh tb0 mN mO (semZ sh wS d) (some .int) (codeZ 171) 0 [.ref w, .int x0, noV, noV] [] m := se_of sh wS d m (n := 4) (by decide) (by decide +kernel) (by decide) (Nat.le_of_ble_eq_true rfl) rfl
theorem se_X7_kinds (w : Nat) (x0 : Int32) : semZ sh wS (d + 1) 172 [.ref w, .int x0] m = rn sh tb0 mN mO (semZ sh wS d) (some .int) (codeZ 172) 0 [.ref w, .int x0] [] m := se_of sh wS d m (n := 2) (by decide) (by decide +kernel) (by decide) (Nat.le_of_ble_eq_true rfl) rfl
theorem se_X7_fathers (w : Nat) (x0 : Int32) : semZ sh wS (d + 1) 173 [.ref w, .int x0] m = rn sh tb0 mN mO (semZ sh wS d) (some .int) (codeZ 173) 0 [.ref w, .int x0, noV, noV] [] m := se_of sh wS d m (n := 4) (by decide) (by decide +kernel) (by decide) (Nat.le_of_ble_eq_true rfl) rfl
theorem se_X7_look (w : Nat) (x0 : Int32) (x1 : Int32) : semZ sh wS (d + 1) 174 [.ref w, .int x0, .int x1] m = rn sh tb0 mN mO (semZ sh wS d) (some .int) (codeZ 174) 0 [.ref w, .int x0, .int x1, noV, noV, noV, noV, noV] [] m := se_of sh wS d m (n := 8) (by decide) (by decide +kernel) (by decide) (Nat.le_of_ble_eq_true rfl) rfl
theorem se_X7_drift (w : Nat) (x0 : Int32) (x1 : Int32) (x2 : Int32) : semZ sh wS (d + 1) 175 [.ref w, .int x0, .int x1, .int x2] m = rn sh tb0 mN mO (semZ sh wS d) (some .int) (codeZ 175) 0 [.ref w, .int x0, .int x1, .int x2, noV, noV, noV, noV] [] m := se_of sh wS d m (n := 8) (by decide) (by decide +kernel) (by decide) (Nat.le_of_ble_eq_true rfl) rfl
theorem se_X7_copies (w : Nat) (x0 : Int32) (x1 : Int32) : semZ sh wS (d + 1) 176 [.ref w, .int x0, .int x1] m = rn sh tb0 mN mO (semZ sh wS d) none (codeZ 176) 0 [.ref w, .int x0, .int x1, noV] [] m := se_of sh wS d m (n := 4) (by decide) (by decide +kernel) (by decide) (Nat.le_of_ble_eq_true rfl) rfl
theorem se_X7_keep (w : Nat) (x0 : Int32) : semZ sh wS (d + 1) 177 [.ref w, .int x0] m = rn sh tb0 mN mO (semZ sh wS d) (some .int) (codeZ 177) 0 [.ref w, .int x0, noV] [] m := se_of sh wS d m (n := 3) (by decide) (by decide +kernel) (by decide) (Nat.le_of_ble_eq_true rfl) rfl
theorem se_X7_back (w : Nat) (x0 : Int32) : semZ sh wS (d + 1) 178 [.ref w, .int x0] m = rn sh tb0 mN mO (semZ sh wS d) (some .int) (codeZ 178) 0 [.ref w, .int x0] [] m := se_of sh wS d m (n := 2) (by decide) (by decide +kernel) (by decide) (Nat.le_of_ble_eq_true rfl) rfl
theorem se_X7_isSheet (x0 : Int32) (x1 : Int32) : semZ sh wS (d + 1) 179 [.int x0, .int x1] m = rn sh tb0 mN mO (semZ sh wS d) (some .boolean) (codeZ 179) 0 [.int x0, .int x1] [] m := se_of sh wS d m (n := 2) (by decide) (by decide +kernel) (by decide) (Nat.le_of_ble_eq_true rfl) rfl
theorem se_X7_sheet (w : Nat) (x0 : Int32) (x1 : Int32) (x2 : Int32) : semZ sh wS (d + 1) 180 [.ref w, .int x0, .int x1, .int x2] m = rn sh tb0 mN mO (semZ sh wS d) (some .int) (codeZ 180) 0 [.ref w, .int x0, .int x1, .int x2, noV] [] m := se_of sh wS d m (n := 5) (by decide) (by decide +kernel) (by decide) (Nat.le_of_ble_eq_true rfl) rfl
theorem se_X7_lay (w : Nat) (x0 : Int32) (x1 : Int32) (x2 : Int32) : semZ sh wS (d + 1) 181 [.ref w, .int x0, .int x1, .int x2] m = rn sh tb0 mN mO (semZ sh wS d) (some .int) (codeZ 181) 0 [.ref w, .int x0, .int x1, .int x2] [] m := se_of sh wS d m (n := 4) (by decide) (by decide +kernel) (by decide) (Nat.le_of_ble_eq_true rfl) rfl
theorem se_X7_read (w : Nat) (x0 : Int32) (x1 : Int32) (x2 : Int32) (x3 : Int32) : semZ sh wS (d + 1) 182 [.ref w, .int x0, .int x1, .int x2, .int x3] m = rn sh tb0 mN mO (semZ sh wS d) (some .int) (codeZ 182) 0 [.ref w, .int x0, .int x1, .int x2, .int x3, noV, noV, noV, noV, noV, noV] [] m := se_of sh wS d m (n := 11) (by decide) (by decide +kernel) (by decide) (Nat.le_of_ble_eq_true rfl) rfl
theorem se_X7_torn (w : Nat) : semZ sh wS (d + 1) 183 [.ref w] m = rn sh tb0 mN mO (semZ sh wS d) (some .int) (codeZ 183) 0 [.ref w] [] m := se_of sh wS d m (n := 1) (by decide) (by decide +kernel) (by decide) (Nat.le_of_ble_eq_true rfl) rfl
theorem se_X7_count (w : Nat) (x0 : Int32) : semZ sh wS (d + 1) 184 [.ref w, .int x0] m = rn sh tb0 mN mO (semZ sh wS d) (some .int) (codeZ 184) 0 [.ref w, .int x0, noV, noV] [] m := se_of sh wS d m (n := 4) (by decide) (by decide +kernel) (by decide) (Nat.le_of_ble_eq_true rfl) rfl
theorem se_J6_bitCount_0f7a4 (x0 : Int32) : semZ sh wS (d + 1) 185 [.int x0] m = rn sh tb0 mN mO (semZ sh wS d) (some .int) (codeZ 185) 0 [.int x0] [] m := se_of sh wS d m (n := 1) (by decide) (by decide +kernel) (by decide) (Nat.le_of_ble_eq_true rfl) rfl
end Own
theorem b_X1_renew_0 : codeZ 0 0 = [.aload 0, .sipush (1), .putfield 100, .aload 0, .iload 1, .putfield 103, .aload 0, .iload 2, .putfield 101, .sipush (0), .istore 3, .goto_w 17] := by decide +kernel
theorem b_X1_renew_17 : codeZ 0 17 = [.iload 3, .sipush (40), .if_icmp .ge 36, .aload 0, .getfield 102, .iload 3, .sipush (0), .iastore, .iinc 3 (1), .goto 17] := by decide +kernel
theorem b_X1_renew_36 : codeZ 0 36 = [.return_] := by decide +kernel
theorem b_X1_faultAt_0 : codeZ 1 0 = [.aload 0, .getfield 100, .ifCond .ne 9, .sipush (1), .ireturn] := by decide +kernel
theorem b_X1_faultAt_9 : codeZ 1 9 = [.lload 1, .jsr (0), .lcmp, .ifCond .lt 25, .lload 1, .aload 0, .getfield 101, .i2l, .lcmp, .ifCond .lt 29, .sipush (2), .goto 30] := by decide +kernel
theorem b_X1_faultAt_25 : codeZ 1 25 = [.sipush (2), .goto 30] := by decide +kernel
theorem b_X1_faultAt_29 : codeZ 1 29 = [.sipush (0), .ireturn] := by decide +kernel
theorem b_X1_faultAt_30 : codeZ 1 30 = [.ireturn] := by decide +kernel
theorem b_X1_faultOfPair_0 : codeZ 2 0 = [.aload 0, .getfield 100, .ifCond .eq 17, .aload 0, .getfield 103, .iload 1, .if_icmp .eq 17, .sipush (3), .ireturn] := by decide +kernel
theorem b_X1_faultOfPair_17 : codeZ 2 17 = [.aload 0, .lload 2, .invokevirtual 1, .istore 4, .iload 4, .ifCond .eq 34, .iload 4, .goto 41] := by decide +kernel
theorem b_X1_faultOfPair_34 : codeZ 2 34 = [.aload 0, .lload 2, .jsr (1), .ladd, .invokevirtual 1, .ireturn] := by decide +kernel
theorem b_X1_faultOfPair_41 : codeZ 2 41 = [.ireturn] := by decide +kernel
theorem b_X1_put_0 : codeZ 3 0 = [.aload 0, .getfield 103, .ifCond .ne 18, .aload 0, .getfield 102, .iload 1, .iload 2, .i2b, .iastore, .goto 44] := by decide +kernel
theorem b_X1_put_18 : codeZ 3 18 = [.aload 0, .getfield 103, .sipush (1), .if_icmp .ne 37, .aload 0, .getfield 102, .iload 1, .iload 2, .i2s, .iastore, .goto 44] := by decide +kernel
theorem b_X1_put_37 : codeZ 3 37 = [.aload 0, .getfield 102, .iload 1, .iload 2, .iastore, .return_] := by decide +kernel
theorem b_X1_put_44 : codeZ 3 44 = [.return_] := by decide +kernel
theorem b_X2_add_0 : codeZ 4 0 = [.aload 0, .getfield 200, .sipush (6), .if_icmp .lt 11, .sipush (0), .ireturn] := by decide +kernel
theorem b_X2_add_11 : codeZ 4 11 = [.aload 0, .getfield 201, .aload 0, .getfield 200, .iload 1, .iastore, .aload 0, .getfield 202, .aload 0, .getfield 200, .iload 2, .iastore, .aload 0, .getfield 203, .aload 0, .getfield 200, .iload 3, .iastore, .aload 0, .dup, .getfield 200, .sipush (1), .iadd, .putfield 200, .sipush (1), .ireturn] := by decide +kernel
theorem b_X2_fit_0 : codeZ 5 0 = [.sipush (0), .istore 3, .goto_w 2] := by decide +kernel
theorem b_X2_fit_2 : codeZ 5 2 = [.iload 3, .aload 0, .getfield 200, .if_icmp .ge 48, .aload 0, .getfield 202, .iload 3, .iaload, .iload 2, .if_icmp .ne 42, .aload 1, .getfield 512, .aload 0, .getfield 201, .iload 3, .iaload, .iaload, .aload 0, .getfield 203, .iload 3, .iaload, .if_icmp .eq 42, .sipush (0), .ireturn] := by decide +kernel
theorem b_X2_fit_42 : codeZ 5 42 = [.iinc 3 (1), .goto 2] := by decide +kernel
theorem b_X2_fit_48 : codeZ 5 48 = [.sipush (1), .ireturn] := by decide +kernel
theorem b_X2_become_0 : codeZ 6 0 = [.aload 0, .aload 1, .getfield 200, .putfield 200, .aload 1, .getfield 201, .sipush (0), .aload 0, .getfield 201, .sipush (0), .sipush (6), .monitorenter, .aload 1, .getfield 202, .sipush (0), .aload 0, .getfield 202, .sipush (0), .sipush (6), .monitorenter, .aload 1, .getfield 203, .sipush (0), .aload 0, .getfield 203, .sipush (0), .sipush (6), .monitorenter, .return_] := by decide +kernel
theorem b_X3_append_0 : codeZ 7 0 = [.aload 0, .getfield 300, .sipush (160), .if_icmp .lt 12, .sipush (0), .ireturn] := by decide +kernel
theorem b_X3_append_12 : codeZ 7 12 = [.aload 0, .getfield 303, .aload 0, .getfield 300, .iload 1, .iastore, .aload 0, .dup, .getfield 300, .sipush (1), .iadd, .putfield 300, .sipush (1), .ireturn] := by decide +kernel
theorem b_X3_take_0 : codeZ 8 0 = [.aload 0, .getfield 302, .aload 0, .getfield 300, .if_icmp .ge 38, .aload 0, .getfield 303, .aload 0, .getfield 302, .iaload, .sipush (32), .if_icmp .ne 38, .aload 0, .dup, .getfield 302, .sipush (1), .iadd, .putfield 302, .goto 0] := by decide +kernel
theorem b_X3_take_38 : codeZ 8 38 = [.aload 0, .aload 0, .getfield 302, .putfield 301, .aload 0, .getfield 301, .aload 0, .getfield 300, .if_icmp .lt 59, .sipush (0), .ireturn] := by decide +kernel
theorem b_X3_take_59 : codeZ 8 59 = [.aload 0, .sipush (97), .sipush (122), .invokevirtual 9, .ifCond .eq 72, .sipush (1), .ireturn] := by decide +kernel
theorem b_X3_take_72 : codeZ 8 72 = [.aload 0, .sipush (48), .sipush (57), .invokevirtual 9, .ifCond .eq 102, .aload 0, .getfield 302, .aload 0, .getfield 301, .isub, .sipush (2), .if_icmp .le 100, .sipush (4), .goto 101] := by decide +kernel
theorem b_X3_take_100 : codeZ 8 100 = [.sipush (2), .ireturn] := by decide +kernel
theorem b_X3_take_101 : codeZ 8 101 = [.ireturn] := by decide +kernel
theorem b_X3_take_102 : codeZ 8 102 = [.aload 0, .dup, .getfield 302, .sipush (1), .iadd, .putfield 302, .aload 0, .getfield 303, .aload 0, .getfield 301, .iaload, .sipush (59), .if_icmp .ne 130, .sipush (3), .goto 131] := by decide +kernel
theorem b_X3_take_130 : codeZ 8 130 = [.sipush (4), .ireturn] := by decide +kernel
theorem b_X3_take_131 : codeZ 8 131 = [.ireturn] := by decide +kernel
theorem b_X3_passRun_0 : codeZ 9 0 = [.aload 0, .getfield 302, .aload 0, .getfield 300, .if_icmp .ge 50, .aload 0, .getfield 303, .aload 0, .getfield 302, .iaload, .iload 1, .if_icmp .lt 50, .aload 0, .getfield 303, .aload 0, .getfield 302, .iaload, .iload 2, .if_icmp .gt 50, .aload 0, .dup, .getfield 302, .sipush (1), .iadd, .putfield 302, .goto 0] := by decide +kernel
theorem b_X3_passRun_50 : codeZ 9 50 = [.aload 0, .getfield 302, .aload 0, .getfield 301, .if_icmp .le 65, .sipush (1), .goto 66] := by decide +kernel
theorem b_X3_passRun_65 : codeZ 9 65 = [.sipush (0), .ireturn] := by decide +kernel
theorem b_X3_passRun_66 : codeZ 9 66 = [.ireturn] := by decide +kernel
theorem b_X3_number_0 : codeZ 10 0 = [.sipush (0), .istore 1, .aload 0, .getfield 301, .istore 2, .goto_w 7] := by decide +kernel
theorem b_X3_number_7 : codeZ 10 7 = [.iload 2, .aload 0, .getfield 302, .if_icmp .ge 36, .iload 1, .sipush (10), .imul, .aload 0, .getfield 303, .iload 2, .iaload, .iadd, .sipush (48), .isub, .istore 1, .iinc 2 (1), .goto 7] := by decide +kernel
theorem b_X3_number_36 : codeZ 10 36 = [.iload 1, .ireturn] := by decide +kernel
theorem b_X4_tell_0 : codeZ 12 0 = [.aload 0, .getfield 400, .sipush (0), .putfield 302, .aload 0, .sipush (0), .putfield 401, .aload 0, .sipush (0), .putfield 404, .aload 1, .invokevirtual 23, .sipush (0), .istore 2, .goto_w 24] := by decide +kernel
theorem b_X4_tell_24 : codeZ 12 24 = [.iload 2, .sipush (160), .if_icmp .ge 71, .aload 0, .getfield 400, .invokevirtual 8, .istore 3, .iload 3, .ifCond .ne 50, .aload 0, .aload 1, .invokevirtual 18, .iload 2, .ireturn] := by decide +kernel
theorem b_X4_tell_50 : codeZ 12 50 = [.aload 0, .iload 3, .aload 1, .invokevirtual 13, .aload 0, .getfield 401, .ifCond .eq 65, .sipush (0), .ireturn] := by decide +kernel
theorem b_X4_tell_65 : codeZ 12 65 = [.iinc 2 (1), .goto 24] := by decide +kernel
theorem b_X4_tell_71 : codeZ 12 71 = [.sipush (0), .ireturn] := by decide +kernel
theorem b_X4_takeLine_0 : codeZ 13 0 = [.aload 0, .iload 1, .sipush (1), .invokevirtual 19, .ifCond .ne 10, .return_] := by decide +kernel
theorem b_X4_takeLine_10 : codeZ 13 10 = [.aload 0, .invokevirtual 21, .istore 3, .iload 3, .sipush (-4), .if_icmp .ne 36, .aload 0, .sipush (2), .aload 0, .getfield 400, .getfield 301, .invokevirtual 20, .goto 116] := by decide +kernel
theorem b_X4_takeLine_36 : codeZ 13 36 = [.aload 0, .getfield 404, .iload 3, .ishr, .sipush (1), .iand, .sipush (1), .if_icmp .ne 63, .aload 0, .sipush (4), .aload 0, .getfield 400, .getfield 301, .invokevirtual 20, .goto 116] := by decide +kernel
theorem b_X4_takeLine_63 : codeZ 13 63 = [.aload 0, .iload 3, .aload 2, .invokevirtual 14, .ifCond .eq 87, .aload 0, .sipush (5), .aload 0, .getfield 400, .getfield 301, .invokevirtual 20, .goto 116] := by decide +kernel
theorem b_X4_takeLine_87 : codeZ 13 87 = [.aload 0, .iload 3, .invokevirtual 15, .ifCond .eq 116, .aload 0, .aload 0, .getfield 400, .invokevirtual 8, .sipush (3), .invokevirtual 19, .ifCond .eq 116, .aload 0, .iload 3, .aload 2, .invokevirtual 17, .return_] := by decide +kernel
theorem b_X4_takeLine_116 : codeZ 13 116 = [.return_] := by decide +kernel
theorem b_X4_hasNoRoom_0 : codeZ 14 0 = [.iload 1, .ifCond .ne 18, .aload 2, .getfield 500, .sipush (4), .if_icmp .lt 16, .sipush (1), .goto 17] := by decide +kernel
theorem b_X4_hasNoRoom_16 : codeZ 14 16 = [.sipush (0), .ireturn] := by decide +kernel
theorem b_X4_hasNoRoom_17 : codeZ 14 17 = [.ireturn] := by decide +kernel
theorem b_X4_hasNoRoom_18 : codeZ 14 18 = [.iload 1, .sipush (4), .if_icmp .gt 36, .aload 2, .getfield 501, .sipush (6), .if_icmp .lt 36, .sipush (1), .goto 37] := by decide +kernel
theorem b_X4_hasNoRoom_36 : codeZ 14 36 = [.sipush (0), .ireturn] := by decide +kernel
theorem b_X4_hasNoRoom_37 : codeZ 14 37 = [.ireturn] := by decide +kernel
theorem b_X4_takeNumbers_0 : codeZ 15 0 = [.iload 1, .ifCond .ne 8, .sipush (2), .goto 18] := by decide +kernel
theorem b_X4_takeNumbers_8 : codeZ 15 8 = [.iload 1, .sipush (4), .if_icmp .gt 17, .sipush (3), .goto 18] := by decide +kernel
theorem b_X4_takeNumbers_17 : codeZ 15 17 = [.sipush (1), .istore 2, .sipush (0), .istore 3, .goto_w 21] := by decide +kernel
theorem b_X4_takeNumbers_18 : codeZ 15 18 = [.istore 2, .sipush (0), .istore 3, .goto_w 21] := by decide +kernel
theorem b_X4_takeNumbers_21 : codeZ 15 21 = [.iload 3, .iload 2, .if_icmp .ge 101, .aload 0, .aload 0, .getfield 400, .invokevirtual 8, .sipush (2), .invokevirtual 19, .ifCond .ne 43, .sipush (0), .ireturn] := by decide +kernel
theorem b_X4_takeNumbers_43 : codeZ 15 43 = [.aload 0, .getfield 400, .invokevirtual 10, .istore 4, .iload 4, .iload 1, .iload 3, .invokestatic 16, .if_icmp .gt 73, .iload 1, .sipush (7), .if_icmp .ne 87, .iload 4, .ifCond .ne 87, .aload 0, .sipush (3), .aload 0, .getfield 400, .getfield 301, .invokevirtual 20, .sipush (0), .ireturn] := by decide +kernel
theorem b_X4_takeNumbers_73 : codeZ 15 73 = [.aload 0, .sipush (3), .aload 0, .getfield 400, .getfield 301, .invokevirtual 20, .sipush (0), .ireturn] := by decide +kernel
theorem b_X4_takeNumbers_87 : codeZ 15 87 = [.aload 0, .getfield 403, .iload 3, .iload 4, .iastore, .iinc 3 (1), .goto 21] := by decide +kernel
theorem b_X4_takeNumbers_101 : codeZ 15 101 = [.sipush (1), .ireturn] := by decide +kernel
theorem b_X4_most_0 : codeZ 16 0 = [.iload 0, .tableswitch 69 (0) (7) #[48, 69, 69, 69, 69, 60, 63, 66]] := by decide +kernel
theorem b_X4_most_48 : codeZ 16 48 = [.iload 1, .ifCond .ne 57, .sipush (99), .goto 59] := by decide +kernel
theorem b_X4_most_57 : codeZ 16 57 = [.sipush (9), .ireturn] := by decide +kernel
theorem b_X4_most_59 : codeZ 16 59 = [.ireturn] := by decide +kernel
theorem b_X4_most_60 : codeZ 16 60 = [.sipush (20), .ireturn] := by decide +kernel
theorem b_X4_most_63 : codeZ 16 63 = [.sipush (60), .ireturn] := by decide +kernel
theorem b_X4_most_66 : codeZ 16 66 = [.sipush (9), .ireturn] := by decide +kernel
theorem b_X4_most_69 : codeZ 16 69 = [.iload 1, .ifCond .ne 77, .sipush (3), .goto 79] := by decide +kernel
theorem b_X4_most_77 : codeZ 16 77 = [.sipush (9), .ireturn] := by decide +kernel
theorem b_X4_most_79 : codeZ 16 79 = [.ireturn] := by decide +kernel
theorem b_X4_enter_0 : codeZ 17 0 = [.iload 1, .tableswitch 143 (0) (7) #[48, 143, 143, 143, 143, 68, 93, 118]] := by decide +kernel
theorem b_X4_enter_48 : codeZ 17 48 = [.aload 2, .aload 0, .getfield 403, .sipush (0), .iaload, .aload 0, .getfield 403, .sipush (1), .iaload, .invokevirtual 28, .pop, .goto 169] := by decide +kernel
theorem b_X4_enter_68 : codeZ 17 68 = [.aload 2, .aload 0, .getfield 403, .sipush (0), .iaload, .putfield 502, .aload 0, .dup, .getfield 404, .sipush (1), .iload 1, .ishl, .ior, .putfield 404, .goto 169] := by decide +kernel
theorem b_X4_enter_93 : codeZ 17 93 = [.aload 2, .aload 0, .getfield 403, .sipush (0), .iaload, .putfield 503, .aload 0, .dup, .getfield 404, .sipush (1), .iload 1, .ishl, .ior, .putfield 404, .goto 169] := by decide +kernel
theorem b_X4_enter_118 : codeZ 17 118 = [.aload 2, .aload 0, .getfield 403, .sipush (0), .iaload, .putfield 504, .aload 0, .dup, .getfield 404, .sipush (1), .iload 1, .ishl, .ior, .putfield 404, .goto 169] := by decide +kernel
theorem b_X4_enter_143 : codeZ 17 143 = [.aload 2, .iload 1, .sipush (1), .isub, .aload 0, .getfield 403, .sipush (0), .iaload, .aload 0, .getfield 403, .sipush (1), .iaload, .aload 0, .getfield 403, .sipush (2), .iaload, .invokevirtual 29, .pop, .return_] := by decide +kernel
theorem b_X4_enter_169 : codeZ 17 169 = [.return_] := by decide +kernel
theorem b_X4_checkPlaces_0 : codeZ 18 0 = [.sipush (0), .istore 2, .goto_w 2] := by decide +kernel
theorem b_X4_checkPlaces_2 : codeZ 18 2 = [.iload 2, .aload 1, .getfield 501, .if_icmp .ge 42, .aload 1, .aload 1, .getfield 512, .iload 2, .iaload, .invokevirtual 26, .ifCond .ne 36, .aload 0, .sipush (6), .aload 0, .getfield 400, .getfield 300, .invokevirtual 20, .iinc 2 (1), .goto 2] := by decide +kernel
theorem b_X4_checkPlaces_36 : codeZ 18 36 = [.iinc 2 (1), .goto 2] := by decide +kernel
theorem b_X4_checkPlaces_42 : codeZ 18 42 = [.return_] := by decide +kernel
theorem b_X4_expect_0 : codeZ 19 0 = [.iload 1, .iload 2, .if_icmp .ne 7, .sipush (1), .ireturn] := by decide +kernel
theorem b_X4_expect_7 : codeZ 19 7 = [.aload 0, .iload 1, .sipush (4), .if_icmp .ne 17, .sipush (1), .goto 18] := by decide +kernel
theorem b_X4_expect_17 : codeZ 19 17 = [.sipush (2), .aload 0, .getfield 400, .getfield 301, .invokevirtual 20, .sipush (0), .ireturn] := by decide +kernel
theorem b_X4_expect_18 : codeZ 19 18 = [.aload 0, .getfield 400, .getfield 301, .invokevirtual 20, .sipush (0), .ireturn] := by decide +kernel
theorem b_X4_refuse_0 : codeZ 20 0 = [.aload 0, .iload 1, .putfield 401, .aload 0, .iload 2, .putfield 402, .return_] := by decide +kernel
theorem b_X4_lineOf_0 : codeZ 21 0 = [.sipush (0), .istore 1, .goto_w 2] := by decide +kernel
theorem b_X4_lineOf_2 : codeZ 21 2 = [.iload 1, .sipush (8), .if_icmp .ge 30, .aload 0, .getfield 400, .iload 1, .invokestatic 22, .invokevirtual 11, .ifCond .eq 24, .iload 1, .ireturn] := by decide +kernel
theorem b_X4_lineOf_24 : codeZ 21 24 = [.iinc 1 (1), .goto 2] := by decide +kernel
theorem b_X4_lineOf_30 : codeZ 21 30 = [.sipush (-4), .ireturn] := by decide +kernel
theorem b_X4_word_0 : codeZ 22 0 = [.iload 0, .tableswitch 65 (0) (6) #[44, 47, 50, 53, 56, 59, 62]] := by decide +kernel
theorem b_X4_word_44 : codeZ 22 44 = [.getstatic 2000, .areturn] := by decide +kernel
theorem b_X4_word_47 : codeZ 22 47 = [.getstatic 2001, .areturn] := by decide +kernel
theorem b_X4_word_50 : codeZ 22 50 = [.getstatic 2002, .areturn] := by decide +kernel
theorem b_X4_word_53 : codeZ 22 53 = [.getstatic 2003, .areturn] := by decide +kernel
theorem b_X4_word_56 : codeZ 22 56 = [.getstatic 2004, .areturn] := by decide +kernel
theorem b_X4_word_59 : codeZ 22 59 = [.getstatic 2005, .areturn] := by decide +kernel
theorem b_X4_word_62 : codeZ 22 62 = [.getstatic 2006, .areturn] := by decide +kernel
theorem b_X4_word_65 : codeZ 22 65 = [.getstatic 2007, .areturn] := by decide +kernel
theorem b_X5_clear_0 : codeZ 23 0 = [.aload 0, .sipush (0), .putfield 500, .aload 0, .sipush (0), .putfield 501, .aload 0, .sipush (5), .putfield 502, .aload 0, .sipush (46), .putfield 503, .aload 0, .sipush (5), .putfield 504, .aload 0, .sipush (0), .putfield 505, .aload 0, .sipush (0), .putfield 506, .aload 0, .sipush (0), .putfield 507, .aload 0, .invokevirtual 24, .return_] := by decide +kernel
theorem b_X5_takeTurnsByNumber_0 : codeZ 24 0 = [.sipush (0), .istore 1, .goto_w 2] := by decide +kernel
theorem b_X5_takeTurnsByNumber_2 : codeZ 24 2 = [.iload 1, .sipush (4), .if_icmp .ge 20, .aload 0, .getfield 510, .iload 1, .iload 1, .iastore, .iinc 1 (1), .goto 2] := by decide +kernel
theorem b_X5_takeTurnsByNumber_20 : codeZ 24 20 = [.return_] := by decide +kernel
theorem b_X5_become_0 : codeZ 25 0 = [.aload 0, .aload 1, .getfield 500, .putfield 500, .aload 0, .aload 1, .getfield 501, .putfield 501, .aload 0, .aload 1, .getfield 502, .putfield 502, .aload 0, .aload 1, .getfield 503, .putfield 503, .aload 0, .aload 1, .getfield 504, .putfield 504, .aload 0, .aload 1, .getfield 505, .putfield 505, .aload 0, .aload 1, .getfield 506, .putfield 506, .aload 0, .aload 1, .getfield 507, .putfield 507, .aload 1, .getfield 508, .sipush (0), .aload 0, .getfield 508, .sipush (0), .sipush (4), .monitorenter, .aload 1, .getfield 509, .sipush (0), .aload 0, .getfield 509, .sipush (0), .sipush (4), .monitorenter, .aload 1, .getfield 510, .sipush (0), .aload 0, .getfield 510, .sipush (0), .sipush (4), .monitorenter, .aload 1, .getfield 511, .sipush (0), .aload 0, .getfield 511, .sipush (0), .sipush (6), .monitorenter, .aload 1, .getfield 512, .sipush (0), .aload 0, .getfield 512, .sipush (0), .sipush (6), .monitorenter, .aload 1, .getfield 513, .sipush (0), .aload 0, .getfield 513, .sipush (0), .sipush (6), .monitorenter, .aload 1, .getfield 514, .sipush (0), .aload 0, .getfield 514, .sipush (0), .sipush (6), .monitorenter, .aload 1, .getfield 515, .sipush (0), .aload 0, .getfield 515, .sipush (0), .sipush (6), .monitorenter, .return_] := by decide +kernel
theorem b_X5_hasVillage_0 : codeZ 26 0 = [.iload 1, .ifCond .lt 16, .iload 1, .aload 0, .getfield 500, .if_icmp .ge 16, .sipush (1), .goto 17] := by decide +kernel
theorem b_X5_hasVillage_16 : codeZ 26 16 = [.sipush (0), .ireturn] := by decide +kernel
theorem b_X5_hasVillage_17 : codeZ 26 17 = [.ireturn] := by decide +kernel
theorem b_X5_hasBody_0 : codeZ 27 0 = [.iload 1, .ifCond .lt 16, .iload 1, .aload 0, .getfield 501, .if_icmp .ge 16, .sipush (1), .goto 17] := by decide +kernel
theorem b_X5_hasBody_16 : codeZ 27 16 = [.sipush (0), .ireturn] := by decide +kernel
theorem b_X5_hasBody_17 : codeZ 27 17 = [.ireturn] := by decide +kernel
theorem b_X5_addVillage_0 : codeZ 28 0 = [.aload 0, .getfield 500, .sipush (4), .if_icmp .lt 10, .sipush (0), .ireturn] := by decide +kernel
theorem b_X5_addVillage_10 : codeZ 28 10 = [.aload 0, .getfield 508, .aload 0, .getfield 500, .iload 1, .iastore, .aload 0, .getfield 509, .aload 0, .getfield 500, .iload 2, .iastore, .aload 0, .dup, .getfield 500, .sipush (1), .iadd, .putfield 500, .sipush (1), .ireturn] := by decide +kernel
theorem b_X5_addBody_0 : codeZ 29 0 = [.aload 0, .getfield 501, .sipush (6), .if_icmp .lt 11, .sipush (0), .ireturn] := by decide +kernel
theorem b_X5_addBody_11 : codeZ 29 11 = [.aload 0, .getfield 511, .aload 0, .getfield 501, .iload 1, .iastore, .aload 0, .getfield 512, .aload 0, .getfield 501, .iload 2, .iastore, .aload 0, .getfield 513, .aload 0, .getfield 501, .iload 3, .iastore, .aload 0, .getfield 514, .aload 0, .getfield 501, .iload 4, .iastore, .aload 0, .getfield 515, .aload 0, .getfield 501, .sipush (0), .iastore, .aload 0, .dup, .getfield 501, .sipush (1), .iadd, .putfield 501, .sipush (1), .ireturn] := by decide +kernel
theorem b_X5_bodyRow_0 : codeZ 30 0 = [.iload 1, .tableswitch 43 (0) (2) #[28, 33, 38]] := by decide +kernel
theorem b_X5_bodyRow_28 : codeZ 30 28 = [.aload 0, .getfield 511, .areturn] := by decide +kernel
theorem b_X5_bodyRow_33 : codeZ 30 33 = [.aload 0, .getfield 512, .areturn] := by decide +kernel
theorem b_X5_bodyRow_38 : codeZ 30 38 = [.aload 0, .getfield 513, .areturn] := by decide +kernel
theorem b_X5_bodyRow_43 : codeZ 30 43 = [.aload 0, .getfield 514, .areturn] := by decide +kernel
theorem b_X5_lacksOfFather_0 : codeZ 31 0 = [.getstatic 1000, .aload 0, .getfield 511, .iload 1, .iaload, .iaload, .aload 0, .getfield 513, .iload 1, .iaload, .if_icmp .le 23, .sipush (1), .goto 24] := by decide +kernel
theorem b_X5_lacksOfFather_23 : codeZ 31 23 = [.sipush (0), .ireturn] := by decide +kernel
theorem b_X5_lacksOfFather_24 : codeZ 31 24 = [.ireturn] := by decide +kernel
theorem b_X5_lacks_0 : codeZ 32 0 = [.getstatic 1000, .aload 0, .getfield 511, .iload 1, .iaload, .iaload, .aload 0, .getfield 513, .iload 1, .iaload, .isub, .istore 2, .getstatic 1001, .aload 0, .getfield 511, .iload 1, .iaload, .iaload, .aload 0, .getfield 514, .iload 1, .iaload, .isub, .istore 3, .iload 2, .ifCond .le 44, .iload 2, .goto 45] := by decide +kernel
theorem b_X5_lacks_44 : codeZ 32 44 = [.sipush (0), .iload 3, .ifCond .le 53, .iload 3, .goto 54] := by decide +kernel
theorem b_X5_lacks_45 : codeZ 32 45 = [.iload 3, .ifCond .le 53, .iload 3, .goto 54] := by decide +kernel
theorem b_X5_lacks_53 : codeZ 32 53 = [.sipush (0), .iadd, .ireturn] := by decide +kernel
theorem b_X5_lacks_54 : codeZ 32 54 = [.iadd, .ireturn] := by decide +kernel
theorem b_X5_lacksOfLying_0 : codeZ 33 0 = [.sipush (0), .istore 1, .sipush (0), .istore 2, .goto_w 4] := by decide +kernel
theorem b_X5_lacksOfLying_4 : codeZ 33 4 = [.iload 2, .aload 0, .getfield 501, .if_icmp .ge 35, .aload 0, .getfield 515, .iload 2, .iaload, .ifCond .ne 29, .iload 1, .aload 0, .iload 2, .invokevirtual 32, .iadd, .istore 1, .iinc 2 (1), .goto 4] := by decide +kernel
theorem b_X5_lacksOfLying_29 : codeZ 33 29 = [.iinc 2 (1), .goto 4] := by decide +kernel
theorem b_X5_lacksOfLying_35 : codeZ 33 35 = [.iload 1, .ireturn] := by decide +kernel
theorem b_X5_inWay_0 : codeZ 34 0 = [.sipush (0), .istore 2, .sipush (0), .istore 3, .goto_w 4] := by decide +kernel
theorem b_X5_inWay_4 : codeZ 34 4 = [.iload 3, .aload 0, .getfield 501, .if_icmp .ge 34, .aload 0, .getfield 515, .iload 3, .iaload, .iload 1, .if_icmp .ne 28, .iload 2, .sipush (1), .iload 3, .ishl, .ior, .istore 2, .iinc 3 (1), .goto 4] := by decide +kernel
theorem b_X5_inWay_28 : codeZ 34 28 = [.iinc 3 (1), .goto 4] := by decide +kernel
theorem b_X5_inWay_34 : codeZ 34 34 = [.iload 2, .ireturn] := by decide +kernel
theorem b_X5_lyingAt_0 : codeZ 35 0 = [.sipush (0), .istore 2, .sipush (0), .istore 3, .goto_w 4] := by decide +kernel
theorem b_X5_lyingAt_4 : codeZ 35 4 = [.iload 3, .aload 0, .getfield 501, .if_icmp .ge 43, .aload 0, .getfield 512, .iload 3, .iaload, .iload 1, .if_icmp .ne 37, .aload 0, .getfield 515, .iload 3, .iaload, .ifCond .ne 37, .iload 2, .sipush (1), .iload 3, .ishl, .ior, .istore 2, .iinc 3 (1), .goto 4] := by decide +kernel
theorem b_X5_lyingAt_37 : codeZ 35 37 = [.iinc 3 (1), .goto 4] := by decide +kernel
theorem b_X5_lyingAt_43 : codeZ 35 43 = [.iload 2, .ireturn] := by decide +kernel
theorem b_X5_allMeans_0 : codeZ 36 0 = [.sipush (0), .istore 1, .sipush (0), .istore 2, .goto_w 4] := by decide +kernel
theorem b_X5_allMeans_4 : codeZ 36 4 = [.iload 2, .aload 0, .getfield 500, .if_icmp .ge 27, .iload 1, .aload 0, .getfield 508, .iload 2, .iaload, .iadd, .istore 1, .iinc 2 (1), .goto 4] := by decide +kernel
theorem b_X5_allMeans_27 : codeZ 36 27 = [.iload 1, .ireturn] := by decide +kernel
theorem b_X5_pass_0 : codeZ 37 0 = [.aload 0, .invokevirtual 36, .istore 2, .sipush (0), .istore 3, .goto_w 7] := by decide +kernel
theorem b_X5_pass_7 : codeZ 37 7 = [.iload 3, .iload 1, .if_icmp .ge 22, .aload 0, .invokevirtual 38, .iinc 3 (1), .goto 7] := by decide +kernel
theorem b_X5_pass_22 : codeZ 37 22 = [.iload 2, .aload 0, .invokevirtual 36, .isub, .ireturn] := by decide +kernel
theorem b_X5_passOne_0 : codeZ 38 0 = [.sipush (0), .istore 1, .goto_w 2] := by decide +kernel
theorem b_X5_passOne_2 : codeZ 38 2 = [.iload 1, .aload 0, .getfield 500, .if_icmp .ge 26, .aload 0, .aload 0, .getfield 510, .iload 1, .iaload, .invokevirtual 39, .iinc 1 (1), .goto 2] := by decide +kernel
theorem b_X5_passOne_26 : codeZ 38 26 = [.aload 0, .dup, .getfield 505, .sipush (1), .iadd, .putfield 505, .aload 0, .getfield 504, .ifCond .le 59, .aload 0, .getfield 505, .aload 0, .getfield 504, .irem, .ifCond .ne 59, .aload 0, .invokevirtual 42, .return_] := by decide +kernel
theorem b_X5_passOne_59 : codeZ 38 59 = [.return_] := by decide +kernel
theorem b_X5_takeTurn_0 : codeZ 39 0 = [.aload 0, .iload 1, .invokevirtual 40, .istore 2, .iload 2, .sipush (-4), .if_icmp .ne 13, .return_] := by decide +kernel
theorem b_X5_takeTurn_13 : codeZ 39 13 = [.aload 0, .iload 2, .invokevirtual 32, .istore 3, .aload 0, .getfield 502, .iload 3, .imul, .istore 4, .iload 3, .ifCond .ne 41, .aload 0, .getfield 515, .iload 2, .sipush (1), .iastore, .goto 88] := by decide +kernel
theorem b_X5_takeTurn_41 : codeZ 39 41 = [.iload 4, .aload 0, .getfield 503, .if_icmp .ge 82, .iload 4, .aload 0, .getfield 508, .iload 1, .iaload, .if_icmp .gt 82, .aload 0, .getfield 508, .iload 1, .dup2, .iaload, .iload 4, .isub, .iastore, .aload 0, .getfield 515, .iload 2, .sipush (1), .iastore, .goto 88] := by decide +kernel
theorem b_X5_takeTurn_82 : codeZ 39 82 = [.aload 0, .iload 2, .iload 1, .invokevirtual 41, .return_] := by decide +kernel
theorem b_X5_takeTurn_88 : codeZ 39 88 = [.return_] := by decide +kernel
theorem b_X5_firstLyingAt_0 : codeZ 40 0 = [.sipush (0), .istore 2, .goto_w 2] := by decide +kernel
theorem b_X5_firstLyingAt_2 : codeZ 40 2 = [.iload 2, .aload 0, .getfield 501, .if_icmp .ge 37, .aload 0, .getfield 512, .iload 2, .iaload, .iload 1, .if_icmp .ne 31, .aload 0, .getfield 515, .iload 2, .iaload, .ifCond .ne 31, .iload 2, .ireturn] := by decide +kernel
theorem b_X5_firstLyingAt_31 : codeZ 40 31 = [.iinc 2 (1), .goto 2] := by decide +kernel
theorem b_X5_firstLyingAt_37 : codeZ 40 37 = [.sipush (-4), .ireturn] := by decide +kernel
theorem b_X5_handOn_0 : codeZ 41 0 = [.iload 2, .sipush (1), .iadd, .aload 0, .getfield 500, .if_icmp .ge 16, .iload 2, .sipush (1), .iadd, .goto 17] := by decide +kernel
theorem b_X5_handOn_16 : codeZ 41 16 = [.sipush (0), .istore 3, .iload 3, .iload 2, .if_icmp .ne 24, .return_] := by decide +kernel
theorem b_X5_handOn_17 : codeZ 41 17 = [.istore 3, .iload 3, .iload 2, .if_icmp .ne 24, .return_] := by decide +kernel
theorem b_X5_handOn_24 : codeZ 41 24 = [.aload 0, .getfield 509, .iload 3, .iaload, .ifCond .ne 53, .aload 0, .getfield 512, .iload 1, .iload 3, .iastore, .aload 0, .dup, .getfield 507, .sipush (1), .iadd, .putfield 507, .goto 63] := by decide +kernel
theorem b_X5_handOn_53 : codeZ 41 53 = [.aload 0, .getfield 509, .iload 3, .dup2, .iaload, .sipush (1), .isub, .iastore, .return_] := by decide +kernel
theorem b_X5_handOn_63 : codeZ 41 63 = [.return_] := by decide +kernel
theorem b_X5_fineAll_0 : codeZ 42 0 = [.sipush (0), .istore 1, .goto_w 2] := by decide +kernel
theorem b_X5_fineAll_2 : codeZ 42 2 = [.iload 1, .aload 0, .getfield 501, .if_icmp .ge 87, .aload 0, .getfield 515, .iload 1, .iaload, .ifCond .ne 81, .aload 0, .getfield 512, .iload 1, .iaload, .istore 2, .aload 0, .getfield 508, .iload 2, .iaload, .aload 0, .getfield 503, .if_icmp .ge 61, .aload 0, .dup, .getfield 506, .sipush (1), .iload 2, .ishl, .ior, .putfield 506, .aload 0, .getfield 508, .iload 2, .sipush (0), .iastore, .goto 74] := by decide +kernel
theorem b_X5_fineAll_61 : codeZ 42 61 = [.aload 0, .getfield 508, .iload 2, .dup2, .iaload, .aload 0, .getfield 503, .isub, .iastore, .aload 0, .getfield 515, .iload 1, .sipush (2), .iastore, .iinc 1 (1), .goto 2] := by decide +kernel
theorem b_X5_fineAll_74 : codeZ 42 74 = [.aload 0, .getfield 515, .iload 1, .sipush (2), .iastore, .iinc 1 (1), .goto 2] := by decide +kernel
theorem b_X5_fineAll_81 : codeZ 42 81 = [.iinc 1 (1), .goto 2] := by decide +kernel
theorem b_X5_fineAll_87 : codeZ 42 87 = [.return_] := by decide +kernel
theorem b_X6_feed_0 : codeZ 43 0 = [.iload 1, .sipush (0), .sipush (127), .invokestatic 99, .ifCond .ne 12, .sipush (-1), .ireturn] := by decide +kernel
theorem b_X6_feed_12 : codeZ 43 12 = [.aload 0, .getfield 603, .getfield 400, .iload 1, .invokevirtual 7, .ifCond .eq 39, .aload 0, .getfield 603, .getfield 400, .getfield 300, .goto 41] := by decide +kernel
theorem b_X6_feed_39 : codeZ 43 39 = [.sipush (-3), .ireturn] := by decide +kernel
theorem b_X6_feed_41 : codeZ 43 41 = [.ireturn] := by decide +kernel
theorem b_X6_end_0 : codeZ 44 0 = [.aload 0, .getfield 603, .getfield 400, .getfield 300, .istore 2, .iload 1, .sipush (0), .iload 2, .invokestatic 99, .ifCond .ne 22, .sipush (-1), .ireturn] := by decide +kernel
theorem b_X6_end_22 : codeZ 44 22 = [.aload 0, .getfield 603, .getfield 400, .iload 1, .putfield 300, .iload 2, .ireturn] := by decide +kernel
theorem b_X6_text_0 : codeZ 45 0 = [.aload 0, .getfield 603, .aload 0, .getfield 601, .invokevirtual 12, .istore 1, .aload 0, .getfield 603, .getfield 400, .sipush (0), .putfield 300, .aload 0, .getfield 603, .getfield 401, .ifCond .eq 44, .sipush (-10), .aload 0, .getfield 603, .getfield 402, .isub, .ireturn] := by decide +kernel
theorem b_X6_text_44 : codeZ 45 44 = [.aload 0, .getfield 600, .aload 0, .getfield 601, .invokevirtual 25, .aload 0, .getfield 602, .sipush (0), .putfield 200, .sipush (0), .istore 2, .goto_w 65] := by decide +kernel
theorem b_X6_text_65 : codeZ 45 65 = [.iload 2, .sipush (2), .if_icmp .ge 86, .aload 0, .getfield 604, .iload 2, .aaload, .sipush (0), .putfield 0, .iinc 2 (1), .goto 65] := by decide +kernel
theorem b_X6_text_86 : codeZ 45 86 = [.iload 1, .ireturn] := by decide +kernel
theorem b_X6_fault_0 : codeZ 46 0 = [.aload 0, .getfield 603, .getfield 401, .ireturn] := by decide +kernel
theorem b_X6_rule_0 : codeZ 47 0 = [.iload 1, .tableswitch 139 (0) (9) #[56, 64, 72, 80, 88, 96, 104, 113, 122, 131]] := by decide +kernel
theorem b_X6_rule_56 : codeZ 47 56 = [.aload 0, .getfield 600, .getfield 500, .ireturn] := by decide +kernel
theorem b_X6_rule_64 : codeZ 47 64 = [.aload 0, .getfield 600, .getfield 501, .ireturn] := by decide +kernel
theorem b_X6_rule_72 : codeZ 47 72 = [.aload 0, .getfield 600, .getfield 502, .ireturn] := by decide +kernel
theorem b_X6_rule_80 : codeZ 47 80 = [.aload 0, .getfield 600, .getfield 503, .ireturn] := by decide +kernel
theorem b_X6_rule_88 : codeZ 47 88 = [.aload 0, .getfield 600, .getfield 504, .ireturn] := by decide +kernel
theorem b_X6_rule_96 : codeZ 47 96 = [.aload 0, .getfield 600, .getfield 505, .ireturn] := by decide +kernel
theorem b_X6_rule_104 : codeZ 47 104 = [.aload 0, .getfield 600, .sipush (0), .invokevirtual 34, .ireturn] := by decide +kernel
theorem b_X6_rule_113 : codeZ 47 113 = [.aload 0, .getfield 600, .sipush (1), .invokevirtual 34, .ireturn] := by decide +kernel
theorem b_X6_rule_122 : codeZ 47 122 = [.aload 0, .getfield 600, .sipush (2), .invokevirtual 34, .ireturn] := by decide +kernel
theorem b_X6_rule_131 : codeZ 47 131 = [.aload 0, .getfield 600, .getfield 506, .ireturn] := by decide +kernel
theorem b_X6_rule_139 : codeZ 47 139 = [.sipush (-1), .ireturn] := by decide +kernel
theorem b_X6_village_0 : codeZ 48 0 = [.aload 0, .getfield 600, .iload 1, .invokevirtual 26, .ifCond .ne 13, .sipush (-1), .ireturn] := by decide +kernel
theorem b_X6_village_13 : codeZ 48 13 = [.iload 2, .tableswitch 69 (0) (2) #[40, 50, 60]] := by decide +kernel
theorem b_X6_village_40 : codeZ 48 40 = [.aload 0, .getfield 600, .getfield 508, .iload 1, .iaload, .ireturn] := by decide +kernel
theorem b_X6_village_50 : codeZ 48 50 = [.aload 0, .getfield 600, .getfield 509, .iload 1, .iaload, .ireturn] := by decide +kernel
theorem b_X6_village_60 : codeZ 48 60 = [.aload 0, .getfield 600, .iload 1, .invokevirtual 35, .ireturn] := by decide +kernel
theorem b_X6_village_69 : codeZ 48 69 = [.sipush (-1), .ireturn] := by decide +kernel
theorem b_X6_body_0 : codeZ 49 0 = [.aload 0, .getfield 600, .iload 1, .invokevirtual 27, .ifCond .ne 13, .sipush (-1), .ireturn] := by decide +kernel
theorem b_X6_body_13 : codeZ 49 13 = [.iload 2, .tableswitch 111 (0) (5) #[52, 62, 72, 82, 92, 102]] := by decide +kernel
theorem b_X6_body_52 : codeZ 49 52 = [.aload 0, .getfield 600, .getfield 511, .iload 1, .iaload, .ireturn] := by decide +kernel
theorem b_X6_body_62 : codeZ 49 62 = [.aload 0, .getfield 600, .getfield 512, .iload 1, .iaload, .ireturn] := by decide +kernel
theorem b_X6_body_72 : codeZ 49 72 = [.aload 0, .getfield 600, .getfield 513, .iload 1, .iaload, .ireturn] := by decide +kernel
theorem b_X6_body_82 : codeZ 49 82 = [.aload 0, .getfield 600, .getfield 514, .iload 1, .iaload, .ireturn] := by decide +kernel
theorem b_X6_body_92 : codeZ 49 92 = [.aload 0, .getfield 600, .getfield 515, .iload 1, .iaload, .ireturn] := by decide +kernel
theorem b_X6_body_102 : codeZ 49 102 = [.aload 0, .getfield 600, .iload 1, .invokevirtual 32, .ireturn] := by decide +kernel
theorem b_X6_body_111 : codeZ 49 111 = [.sipush (-1), .ireturn] := by decide +kernel
theorem b_X6_grant_0 : codeZ 50 0 = [.aload 0, .getfield 600, .iload 1, .invokevirtual 26, .ifCond .eq 20, .iload 2, .sipush (0), .sipush (1), .invokestatic 99, .ifCond .ne 22, .sipush (-1), .ireturn] := by decide +kernel
theorem b_X6_grant_20 : codeZ 50 20 = [.sipush (-1), .ireturn] := by decide +kernel
theorem b_X6_grant_22 : codeZ 50 22 = [.iload 3, .sipush (0), .iload 2, .ifCond .ne 33, .sipush (99), .goto 35] := by decide +kernel
theorem b_X6_grant_33 : codeZ 50 33 = [.sipush (9), .invokestatic 99, .ifCond .ne 43, .sipush (-1), .ireturn] := by decide +kernel
theorem b_X6_grant_35 : codeZ 50 35 = [.invokestatic 99, .ifCond .ne 43, .sipush (-1), .ireturn] := by decide +kernel
theorem b_X6_grant_43 : codeZ 50 43 = [.iload 2, .ifCond .ne 57, .aload 0, .getfield 600, .getfield 508, .goto 64] := by decide +kernel
theorem b_X6_grant_57 : codeZ 50 57 = [.aload 0, .getfield 600, .getfield 509, .astore 4, .aload 4, .iload 1, .iaload, .istore 5, .aload 4, .iload 1, .iload 3, .iastore, .iload 5, .ireturn] := by decide +kernel
theorem b_X6_grant_64 : codeZ 50 64 = [.astore 4, .aload 4, .iload 1, .iaload, .istore 5, .aload 4, .iload 1, .iload 3, .iastore, .iload 5, .ireturn] := by decide +kernel
theorem b_X6_alter_0 : codeZ 51 0 = [.aload 0, .getfield 600, .iload 1, .invokevirtual 27, .ifCond .eq 29, .iload 2, .sipush (0), .sipush (3), .invokestatic 99, .ifCond .eq 29, .aload 0, .iload 2, .iload 3, .invokevirtual 52, .ifCond .ne 31, .sipush (-1), .ireturn] := by decide +kernel
theorem b_X6_alter_29 : codeZ 51 29 = [.sipush (-1), .ireturn] := by decide +kernel
theorem b_X6_alter_31 : codeZ 51 31 = [.aload 0, .getfield 600, .getfield 515, .iload 1, .iaload, .ifCond .eq 46, .sipush (-2), .ireturn] := by decide +kernel
theorem b_X6_alter_46 : codeZ 51 46 = [.aload 0, .getfield 600, .iload 2, .invokevirtual 30, .astore 4, .aload 4, .iload 1, .iaload, .istore 5, .aload 4, .iload 1, .iload 3, .iastore, .iload 5, .ireturn] := by decide +kernel
theorem b_X6_mayBecome_0 : codeZ 52 0 = [.iload 1, .lookupswitch 44 #[(0, 28), (1, 35)]] := by decide +kernel
theorem b_X6_mayBecome_28 : codeZ 52 28 = [.iload 2, .sipush (0), .sipush (3), .invokestatic 99, .ireturn] := by decide +kernel
theorem b_X6_mayBecome_35 : codeZ 52 35 = [.aload 0, .getfield 600, .iload 2, .invokevirtual 26, .ireturn] := by decide +kernel
theorem b_X6_mayBecome_44 : codeZ 52 44 = [.iload 2, .sipush (0), .sipush (9), .invokestatic 99, .ireturn] := by decide +kernel
theorem b_X6_set_0 : codeZ 53 0 = [.iload 1, .sipush (2), .if_icmp .ne 34, .iload 2, .sipush (0), .sipush (20), .invokestatic 99, .ifCond .eq 34, .aload 0, .getfield 600, .getfield 502, .istore 3, .aload 0, .getfield 600, .iload 2, .putfield 502, .goto 104] := by decide +kernel
theorem b_X6_set_34 : codeZ 53 34 = [.iload 1, .sipush (3), .if_icmp .ne 68, .iload 2, .sipush (0), .sipush (60), .invokestatic 99, .ifCond .eq 68, .aload 0, .getfield 600, .getfield 503, .istore 3, .aload 0, .getfield 600, .iload 2, .putfield 503, .goto 104] := by decide +kernel
theorem b_X6_set_68 : codeZ 53 68 = [.iload 1, .sipush (4), .if_icmp .ne 102, .iload 2, .sipush (1), .sipush (9), .invokestatic 99, .ifCond .eq 102, .aload 0, .getfield 600, .getfield 504, .istore 3, .aload 0, .getfield 600, .iload 2, .putfield 504, .goto 104] := by decide +kernel
theorem b_X6_set_102 : codeZ 53 102 = [.sipush (-1), .istore 3, .iload 3, .ireturn] := by decide +kernel
theorem b_X6_set_104 : codeZ 53 104 = [.iload 3, .ireturn] := by decide +kernel
theorem b_X6_find_0 : codeZ 54 0 = [.aload 0, .iload 1, .iload 2, .iload 3, .iload 4, .invokevirtual 55, .ireturn] := by decide +kernel
theorem b_X6_addFound_0 : codeZ 55 0 = [.iload 1, .sipush (0), .sipush (3), .invokestatic 99, .ifCond .eq 20, .aload 0, .getfield 600, .iload 2, .invokevirtual 26, .ifCond .ne 22, .sipush (-1), .ireturn] := by decide +kernel
theorem b_X6_addFound_20 : codeZ 55 20 = [.sipush (-1), .ireturn] := by decide +kernel
theorem b_X6_addFound_22 : codeZ 55 22 = [.iload 3, .sipush (0), .sipush (9), .invokestatic 99, .ifCond .eq 43, .iload 4, .sipush (0), .sipush (9), .invokestatic 99, .ifCond .ne 45, .sipush (-1), .ireturn] := by decide +kernel
theorem b_X6_addFound_43 : codeZ 55 43 = [.sipush (-1), .ireturn] := by decide +kernel
theorem b_X6_addFound_45 : codeZ 55 45 = [.aload 0, .getfield 600, .iload 1, .iload 2, .iload 3, .iload 4, .invokevirtual 29, .ifCond .eq 72, .aload 0, .getfield 600, .getfield 501, .sipush (1), .isub, .goto 74] := by decide +kernel
theorem b_X6_addFound_72 : codeZ 55 72 = [.sipush (-3), .ireturn] := by decide +kernel
theorem b_X6_addFound_74 : codeZ 55 74 = [.ireturn] := by decide +kernel
theorem b_X6_hire_0 : codeZ 56 0 = [.aload 0, .getfield 600, .iload 1, .invokevirtual 27, .ifCond .ne 13, .sipush (-1), .ireturn] := by decide +kernel
theorem b_X6_hire_13 : codeZ 56 13 = [.aload 0, .getfield 600, .getfield 515, .iload 1, .iaload, .ifCond .ne 63, .aload 0, .getfield 600, .iload 1, .invokevirtual 32, .ifCond .eq 63, .aload 0, .getfield 600, .getfield 508, .aload 0, .getfield 600, .getfield 512, .iload 1, .iaload, .iaload, .aload 0, .getfield 600, .getfield 502, .if_icmp .ge 66, .sipush (-2), .ireturn] := by decide +kernel
theorem b_X6_hire_63 : codeZ 56 63 = [.sipush (-2), .ireturn] := by decide +kernel
theorem b_X6_hire_66 : codeZ 56 66 = [.aload 0, .getfield 600, .getfield 508, .aload 0, .getfield 600, .getfield 512, .iload 1, .iaload, .dup2, .iaload, .aload 0, .getfield 600, .getfield 502, .isub, .iastore, .aload 0, .getfield 600, .iload 1, .invokevirtual 31, .ifCond .eq 120, .aload 0, .getfield 600, .getfield 513, .iload 1, .dup2, .iaload, .sipush (1), .iadd, .iastore, .goto 133] := by decide +kernel
theorem b_X6_hire_120 : codeZ 56 120 = [.aload 0, .getfield 600, .getfield 514, .iload 1, .dup2, .iaload, .sipush (1), .iadd, .iastore, .aload 0, .getfield 600, .iload 1, .invokevirtual 32, .ireturn] := by decide +kernel
theorem b_X6_hire_133 : codeZ 56 133 = [.aload 0, .getfield 600, .iload 1, .invokevirtual 32, .ireturn] := by decide +kernel
theorem b_X6_nights_0 : codeZ 57 0 = [.iload 1, .sipush (0), .sipush (30), .invokestatic 99, .ifCond .ne 12, .sipush (-1), .ireturn] := by decide +kernel
theorem b_X6_nights_12 : codeZ 57 12 = [.aload 0, .getfield 600, .getfield 505, .iload 1, .iadd, .sipush (1000), .if_icmp .lt 32, .sipush (-3), .goto 40] := by decide +kernel
theorem b_X6_nights_32 : codeZ 57 32 = [.aload 0, .getfield 600, .iload 1, .invokevirtual 37, .ireturn] := by decide +kernel
theorem b_X6_nights_40 : codeZ 57 40 = [.ireturn] := by decide +kernel
theorem b_X6_runs_0 : codeZ 58 0 = [.iload 1, .sipush (0), .sipush (30), .invokestatic 99, .ifCond .eq 19, .iload 2, .sipush (0), .sipush (4), .invokestatic 99, .ifCond .ne 21, .sipush (-1), .ireturn] := by decide +kernel
theorem b_X6_runs_19 : codeZ 58 19 = [.sipush (-1), .ireturn] := by decide +kernel
theorem b_X6_runs_21 : codeZ 58 21 = [.aload 0, .invokevirtual 100, .astore 3, .aload 3, .iload 1, .invokevirtual 37, .istore 4, .iload 2, .tableswitch 84 (0) (3) #[64, 67, 73, 79]] := by decide +kernel
theorem b_X6_runs_64 : codeZ 58 64 = [.iload 4, .ireturn] := by decide +kernel
theorem b_X6_runs_67 : codeZ 58 67 = [.aload 3, .sipush (1), .invokevirtual 34, .ireturn] := by decide +kernel
theorem b_X6_runs_73 : codeZ 58 73 = [.aload 3, .sipush (2), .invokevirtual 34, .ireturn] := by decide +kernel
theorem b_X6_runs_79 : codeZ 58 79 = [.aload 3, .getfield 507, .ireturn] := by decide +kernel
theorem b_X6_runs_84 : codeZ 58 84 = [.aload 3, .getfield 506, .ireturn] := by decide +kernel
theorem b_X6_ahead_0 : codeZ 59 0 = [.aload 0, .getfield 600, .iload 1, .invokevirtual 27, .ifCond .eq 30, .iload 2, .sipush (0), .sipush (30), .invokestatic 99, .ifCond .eq 30, .iload 3, .sipush (0), .sipush (1), .invokestatic 99, .ifCond .ne 32, .sipush (-1), .ireturn] := by decide +kernel
theorem b_X6_ahead_30 : codeZ 59 30 = [.sipush (-1), .ireturn] := by decide +kernel
theorem b_X6_ahead_32 : codeZ 59 32 = [.aload 0, .invokevirtual 100, .astore 4, .aload 4, .iload 2, .invokevirtual 37, .pop, .iload 3, .ifCond .ne 59, .aload 4, .getfield 512, .iload 1, .iaload, .goto 66] := by decide +kernel
theorem b_X6_ahead_59 : codeZ 59 59 = [.aload 4, .getfield 515, .iload 1, .iaload, .ireturn] := by decide +kernel
theorem b_X6_ahead_66 : codeZ 59 66 = [.ireturn] := by decide +kernel
theorem b_X6_settled_0 : codeZ 60 0 = [.aload 0, .getfield 600, .iload 1, .invokevirtual 27, .ifCond .ne 13, .sipush (-1), .ireturn] := by decide +kernel
theorem b_X6_settled_13 : codeZ 60 13 = [.aload 0, .invokevirtual 100, .astore 2, .sipush (0), .istore 3, .goto_w 20] := by decide +kernel
theorem b_X6_settled_20 : codeZ 60 20 = [.iload 3, .sipush (30), .if_icmp .gt 47, .aload 2, .getfield 515, .iload 1, .iaload, .ifCond .eq 37, .iload 3, .ireturn] := by decide +kernel
theorem b_X6_settled_37 : codeZ 60 37 = [.aload 2, .invokevirtual 38, .iinc 3 (1), .goto 20] := by decide +kernel
theorem b_X6_settled_47 : codeZ 60 47 = [.sipush (-4), .ireturn] := by decide +kernel
theorem b_X6_dear_0 : codeZ 61 0 = [.iload 1, .sipush (0), .sipush (20), .invokestatic 99, .ifCond .ne 12, .sipush (-1), .ireturn] := by decide +kernel
theorem b_X6_dear_12 : codeZ 61 12 = [.aload 0, .sipush (0), .iload 1, .invokevirtual 62, .istore 2, .sipush (20), .istore 3, .goto_w 22] := by decide +kernel
theorem b_X6_dear_22 : codeZ 61 22 = [.iload 3, .ifCond .le 44, .aload 0, .iload 3, .iload 1, .invokevirtual 62, .iload 2, .if_icmp .ne 38, .iload 3, .ireturn] := by decide +kernel
theorem b_X6_dear_38 : codeZ 61 38 = [.iinc 3 (-1), .goto 22] := by decide +kernel
theorem b_X6_dear_44 : codeZ 61 44 = [.sipush (0), .ireturn] := by decide +kernel
theorem b_X6_provedByPrice_0 : codeZ 62 0 = [.aload 0, .invokevirtual 100, .astore 3, .aload 3, .iload 1, .putfield 502, .aload 3, .iload 2, .invokevirtual 37, .pop, .aload 3, .sipush (1), .invokevirtual 34, .invokestatic 185, .ireturn] := by decide +kernel
theorem b_X6_mild_0 : codeZ 63 0 = [.iload 1, .sipush (0), .sipush (20), .invokestatic 99, .ifCond .ne 12, .sipush (-1), .ireturn] := by decide +kernel
theorem b_X6_mild_12 : codeZ 63 12 = [.sipush (60), .istore 2, .goto_w 15] := by decide +kernel
theorem b_X6_mild_15 : codeZ 63 15 = [.iload 2, .ifCond .lt 50, .aload 0, .invokevirtual 100, .astore 3, .aload 3, .iload 2, .putfield 503, .aload 3, .iload 1, .invokevirtual 37, .pop, .aload 3, .getfield 506, .ifCond .ne 44, .iload 2, .ireturn] := by decide +kernel
theorem b_X6_mild_44 : codeZ 63 44 = [.iinc 2 (-1), .goto 15] := by decide +kernel
theorem b_X6_mild_50 : codeZ 63 50 = [.sipush (-4), .ireturn] := by decide +kernel
theorem b_X6_watch_0 : codeZ 64 0 = [.iload 1, .sipush (0), .sipush (20), .invokestatic 99, .ifCond .eq 19, .iload 2, .sipush (0), .sipush (1), .invokestatic 99, .ifCond .ne 21, .sipush (-1), .ireturn] := by decide +kernel
theorem b_X6_watch_19 : codeZ 64 19 = [.sipush (-1), .ireturn] := by decide +kernel
theorem b_X6_watch_21 : codeZ 64 21 = [.sipush (-4), .istore 3, .sipush (0), .istore 4, .sipush (0), .istore 5, .goto_w 30] := by decide +kernel
theorem b_X6_watch_30 : codeZ 64 30 = [.iload 5, .aload 0, .getfield 600, .getfield 500, .if_icmp .ge 91, .aload 0, .iload 5, .iload 1, .sipush (9), .invokevirtual 65, .aload 0, .iload 5, .iload 1, .aload 0, .getfield 600, .getfield 509, .iload 5, .iaload, .invokevirtual 65, .isub, .istore 6, .iload 6, .iload 4, .if_icmp .le 85, .iload 5, .istore 3, .iload 6, .istore 4, .iinc 5 (1), .goto 30] := by decide +kernel
theorem b_X6_watch_85 : codeZ 64 85 = [.iinc 5 (1), .goto 30] := by decide +kernel
theorem b_X6_watch_91 : codeZ 64 91 = [.iload 2, .ifCond .eq 101, .iload 3, .sipush (-4), .if_icmp .ne 105, .iload 3, .goto 107] := by decide +kernel
theorem b_X6_watch_101 : codeZ 64 101 = [.iload 3, .goto 107] := by decide +kernel
theorem b_X6_watch_105 : codeZ 64 105 = [.iload 4, .ireturn] := by decide +kernel
theorem b_X6_watch_107 : codeZ 64 107 = [.ireturn] := by decide +kernel
theorem b_X6_meansBehind_0 : codeZ 65 0 = [.aload 0, .invokevirtual 100, .astore 4, .aload 4, .getfield 509, .iload 1, .iload 3, .iastore, .aload 4, .iload 2, .invokevirtual 37, .pop, .aload 4, .getfield 508, .iload 1, .iaload, .ireturn] := by decide +kernel
theorem b_X6_place_0 : codeZ 66 0 = [.aload 0, .getfield 600, .iload 1, .invokevirtual 27, .ifCond .eq 30, .iload 2, .sipush (0), .sipush (20), .invokestatic 99, .ifCond .eq 30, .iload 3, .sipush (0), .sipush (1), .invokestatic 99, .ifCond .ne 32, .sipush (-1), .ireturn] := by decide +kernel
theorem b_X6_place_30 : codeZ 66 30 = [.sipush (-1), .ireturn] := by decide +kernel
theorem b_X6_place_32 : codeZ 66 32 = [.aload 0, .getfield 600, .getfield 515, .iload 1, .iaload, .ifCond .eq 47, .sipush (-2), .ireturn] := by decide +kernel
theorem b_X6_place_47 : codeZ 66 47 = [.sipush (-4), .istore 4, .sipush (0), .istore 5, .sipush (0), .istore 6, .goto_w 57] := by decide +kernel
theorem b_X6_place_57 : codeZ 66 57 = [.iload 6, .aload 0, .getfield 600, .getfield 500, .if_icmp .ge 120, .aload 0, .invokevirtual 100, .astore 7, .aload 7, .getfield 512, .iload 1, .iload 6, .iastore, .aload 7, .iload 2, .invokevirtual 37, .istore 8, .iload 4, .sipush (-4), .if_icmp .eq 106, .iload 8, .iload 5, .if_icmp .ge 114, .iload 6, .istore 4, .iload 8, .istore 5, .iinc 6 (1), .goto 57] := by decide +kernel
theorem b_X6_place_106 : codeZ 66 106 = [.iload 6, .istore 4, .iload 8, .istore 5, .iinc 6 (1), .goto 57] := by decide +kernel
theorem b_X6_place_114 : codeZ 66 114 = [.iinc 6 (1), .goto 57] := by decide +kernel
theorem b_X6_place_120 : codeZ 66 120 = [.iload 3, .ifCond .ne 129, .iload 4, .goto 131] := by decide +kernel
theorem b_X6_place_129 : codeZ 66 129 = [.iload 5, .ireturn] := by decide +kernel
theorem b_X6_place_131 : codeZ 66 131 = [.ireturn] := by decide +kernel
theorem b_X6_kin_0 : codeZ 67 0 = [.iload 1, .sipush (0), .sipush (20), .invokestatic 99, .ifCond .eq 19, .iload 2, .sipush (0), .sipush (1), .invokestatic 99, .ifCond .ne 21, .sipush (-1), .ireturn] := by decide +kernel
theorem b_X6_kin_19 : codeZ 67 19 = [.sipush (-1), .ireturn] := by decide +kernel
theorem b_X6_kin_21 : codeZ 67 21 = [.sipush (-4), .istore 3, .aload 0, .invokevirtual 100, .iload 1, .invokevirtual 37, .istore 4, .sipush (0), .istore 5, .goto_w 37] := by decide +kernel
theorem b_X6_kin_37 : codeZ 67 37 = [.iload 5, .aload 0, .getfield 600, .getfield 501, .if_icmp .ge 108, .aload 0, .getfield 600, .getfield 515, .iload 5, .iaload, .ifCond .ne 102, .aload 0, .invokevirtual 100, .astore 6, .aload 6, .getfield 513, .iload 5, .dup2, .iaload, .sipush (1), .iadd, .iastore, .aload 6, .iload 1, .invokevirtual 37, .istore 7, .iload 7, .iload 4, .if_icmp .ge 102, .iload 5, .istore 3, .iload 7, .istore 4, .iinc 5 (1), .goto 37] := by decide +kernel
theorem b_X6_kin_102 : codeZ 67 102 = [.iinc 5 (1), .goto 37] := by decide +kernel
theorem b_X6_kin_108 : codeZ 67 108 = [.iload 2, .ifCond .eq 118, .iload 3, .sipush (-4), .if_icmp .ne 122, .iload 3, .goto 124] := by decide +kernel
theorem b_X6_kin_118 : codeZ 67 118 = [.iload 3, .goto 124] := by decide +kernel
theorem b_X6_kin_122 : codeZ 67 122 = [.iload 4, .ireturn] := by decide +kernel
theorem b_X6_kin_124 : codeZ 67 124 = [.ireturn] := by decide +kernel
theorem b_X6_late_0 : codeZ 68 0 = [.iload 1, .sipush (0), .sipush (20), .invokestatic 99, .ifCond .ne 12, .sipush (-1), .ireturn] := by decide +kernel
theorem b_X6_late_12 : codeZ 68 12 = [.sipush (0), .istore 2, .sipush (0), .istore 3, .sipush (1), .istore 4, .goto_w 19] := by decide +kernel
theorem b_X6_late_19 : codeZ 68 19 = [.iload 4, .sipush (9), .if_icmp .gt 69, .aload 0, .invokevirtual 100, .astore 5, .aload 5, .iload 4, .putfield 504, .aload 5, .iload 1, .invokevirtual 37, .istore 6, .iload 2, .ifCond .eq 57, .iload 6, .iload 3, .if_icmp .ge 63, .iload 4, .istore 2, .iload 6, .istore 3, .iinc 4 (1), .goto 19] := by decide +kernel
theorem b_X6_late_57 : codeZ 68 57 = [.iload 4, .istore 2, .iload 6, .istore 3, .iinc 4 (1), .goto 19] := by decide +kernel
theorem b_X6_late_63 : codeZ 68 63 = [.iinc 4 (1), .goto 19] := by decide +kernel
theorem b_X6_late_69 : codeZ 68 69 = [.iload 2, .ireturn] := by decide +kernel
theorem b_X6_order_0 : codeZ 69 0 = [.iload 1, .sipush (0), .sipush (20), .invokestatic 99, .ifCond .eq 20, .iload 2, .ifCond .eq 22, .iload 2, .sipush (10), .if_icmp .ge 22, .sipush (-1), .ireturn] := by decide +kernel
theorem b_X6_order_20 : codeZ 69 20 = [.sipush (-1), .ireturn] := by decide +kernel
theorem b_X6_order_22 : codeZ 69 22 = [.iload 2, .ifCond .eq 43, .iload 2, .sipush (10), .isub, .aload 0, .getfield 600, .getfield 500, .if_icmp .lt 43, .sipush (-4), .ireturn] := by decide +kernel
theorem b_X6_order_43 : codeZ 69 43 = [.aload 0, .iload 1, .invokevirtual 70, .istore 3, .iload 2, .ifCond .ne 57, .iload 3, .goto 66] := by decide +kernel
theorem b_X6_order_57 : codeZ 69 57 = [.aload 0, .getfield 607, .iload 2, .sipush (10), .isub, .iaload, .ireturn] := by decide +kernel
theorem b_X6_order_66 : codeZ 69 66 = [.ireturn] := by decide +kernel
theorem b_X6_findBestTurns_0 : codeZ 70 0 = [.aload 0, .getfield 600, .getfield 510, .sipush (0), .aload 0, .getfield 606, .sipush (0), .sipush (4), .monitorenter, .aload 0, .getfield 600, .getfield 510, .sipush (0), .aload 0, .getfield 607, .sipush (0), .sipush (4), .monitorenter, .aload 0, .iload 1, .invokevirtual 71, .istore 2, .sipush (1), .istore 3, .goto_w 42] := by decide +kernel
theorem b_X6_findBestTurns_42 : codeZ 70 42 = [.iload 3, .sipush (24), .if_icmp .ge 101, .aload 0, .getfield 606, .aload 0, .getfield 600, .getfield 500, .invokestatic 72, .ifCond .eq 101, .aload 0, .iload 1, .invokevirtual 71, .istore 4, .iload 4, .iload 2, .if_icmp .ge 95, .iload 4, .istore 2, .aload 0, .getfield 606, .sipush (0), .aload 0, .getfield 607, .sipush (0), .sipush (4), .monitorenter, .iinc 3 (1), .goto 42] := by decide +kernel
theorem b_X6_findBestTurns_95 : codeZ 70 95 = [.iinc 3 (1), .goto 42] := by decide +kernel
theorem b_X6_findBestTurns_101 : codeZ 70 101 = [.iload 2, .ireturn] := by decide +kernel
theorem b_X6_paidByTurns_0 : codeZ 71 0 = [.aload 0, .invokevirtual 100, .astore 2, .aload 0, .getfield 606, .sipush (0), .aload 2, .getfield 510, .sipush (0), .sipush (4), .monitorenter, .aload 2, .iload 1, .invokevirtual 37, .ireturn] := by decide +kernel
theorem b_X6_arrangeNext_0 : codeZ 72 0 = [.iload 1, .sipush (2), .isub, .istore 2, .goto_w 4] := by decide +kernel
theorem b_X6_arrangeNext_4 : codeZ 72 4 = [.iload 2, .ifCond .lt 25, .aload 0, .iload 2, .iaload, .aload 0, .iload 2, .sipush (1), .iadd, .iaload, .if_icmp .le 25, .iinc 2 (-1), .goto 4] := by decide +kernel
theorem b_X6_arrangeNext_25 : codeZ 72 25 = [.iload 2, .ifCond .ge 31, .sipush (0), .ireturn] := by decide +kernel
theorem b_X6_arrangeNext_31 : codeZ 72 31 = [.iload 1, .sipush (1), .isub, .istore 3, .goto_w 35] := by decide +kernel
theorem b_X6_arrangeNext_35 : codeZ 72 35 = [.iload 3, .iload 2, .if_icmp .le 55, .aload 0, .iload 3, .iaload, .aload 0, .iload 2, .iaload, .if_icmp .ge 55, .iinc 3 (-1), .goto 35] := by decide +kernel
theorem b_X6_arrangeNext_55 : codeZ 72 55 = [.aload 0, .iload 2, .iload 3, .invokestatic 73, .iload 2, .sipush (1), .iadd, .istore 4, .iload 1, .sipush (1), .isub, .istore 5, .goto_w 71] := by decide +kernel
theorem b_X6_arrangeNext_71 : codeZ 72 71 = [.iload 4, .iload 5, .if_icmp .ge 95, .aload 0, .iload 4, .iload 5, .invokestatic 73, .iinc 4 (1), .iinc 5 (-1), .goto 71] := by decide +kernel
theorem b_X6_arrangeNext_95 : codeZ 72 95 = [.sipush (1), .ireturn] := by decide +kernel
theorem b_X6_swap_0 : codeZ 73 0 = [.aload 0, .iload 1, .iaload, .istore 3, .aload 0, .iload 1, .aload 0, .iload 2, .iaload, .iastore, .aload 0, .iload 2, .iload 3, .iastore, .return_] := by decide +kernel
theorem b_X6_mean_0 : codeZ 74 0 = [.iload 1, .sipush (0), .sipush (10), .invokestatic 99, .ifCond .eq 29, .iload 2, .sipush (0), .sipush (20), .invokestatic 99, .ifCond .eq 29, .iload 3, .sipush (0), .sipush (1), .invokestatic 99, .ifCond .ne 33, .jsr (-1), .lreturn] := by decide +kernel
theorem b_X6_mean_29 : codeZ 74 29 = [.jsr (-1), .lreturn] := by decide +kernel
theorem b_X6_mean_33 : codeZ 74 33 = [.aload 0, .iload 1, .sipush (-4), .iload 2, .invokevirtual 76, .aload 0, .invokevirtual 78, .iload 3, .invokestatic 80, .lreturn] := by decide +kernel
theorem b_X6_luck_0 : codeZ 75 0 = [.iload 1, .sipush (0), .sipush (10), .invokestatic 99, .ifCond .eq 21, .aload 0, .getfield 600, .iload 2, .invokevirtual 27, .ifCond .ne 25, .jsr (-1), .lreturn] := by decide +kernel
theorem b_X6_luck_21 : codeZ 75 21 = [.jsr (-1), .lreturn] := by decide +kernel
theorem b_X6_luck_25 : codeZ 75 25 = [.iload 3, .sipush (0), .sipush (20), .invokestatic 99, .ifCond .eq 45, .iload 4, .sipush (0), .sipush (1), .invokestatic 99, .ifCond .ne 49, .jsr (-1), .lreturn] := by decide +kernel
theorem b_X6_luck_45 : codeZ 75 45 = [.jsr (-1), .lreturn] := by decide +kernel
theorem b_X6_luck_49 : codeZ 75 49 = [.aload 0, .iload 1, .iload 2, .iload 3, .invokevirtual 76, .aload 0, .invokevirtual 78, .iload 4, .invokestatic 80, .lreturn] := by decide +kernel
theorem b_X6_weighAll_0 : codeZ 76 0 = [.aload 0, .getfield 600, .sipush (0), .invokevirtual 34, .istore 4, .jsr (0), .lstore 5, .sipush (0), .istore 7, .goto_w 16] := by decide +kernel
theorem b_X6_weighAll_16 : codeZ 76 16 = [.iload 7, .sipush (1), .aload 0, .getfield 600, .getfield 501, .ishl, .if_icmp .ge 80, .iload 7, .iload 4, .sipush (-1), .ixor, .iand, .ifCond .ne 74, .iload 7, .iload 4, .iload 1, .invokestatic 77, .lstore 8, .lload 8, .jsr (0), .lcmp, .ifCond .eq 74, .lload 5, .lload 8, .aload 0, .iload 7, .iload 2, .iload 3, .invokevirtual 79, .i2l, .lmul, .ladd, .lstore 5, .iinc 7 (1), .goto 16] := by decide +kernel
theorem b_X6_weighAll_74 : codeZ 76 74 = [.iinc 7 (1), .goto 16] := by decide +kernel
theorem b_X6_weighAll_80 : codeZ 76 80 = [.lload 5, .lreturn] := by decide +kernel
theorem b_X6_weightOf_0 : codeZ 77 0 = [.jsr (1), .lstore 3, .sipush (0), .istore 5, .goto_w 5] := by decide +kernel
theorem b_X6_weightOf_5 : codeZ 77 5 = [.iload 5, .sipush (6), .if_icmp .ge 51, .iload 1, .iload 5, .ishr, .sipush (1), .iand, .sipush (1), .if_icmp .ne 45, .lload 3, .iload 0, .iload 5, .ishr, .sipush (1), .iand, .sipush (1), .if_icmp .ne 38, .iload 2, .i2l, .goto 43] := by decide +kernel
theorem b_X6_weightOf_38 : codeZ 77 38 = [.sipush (10), .iload 2, .isub, .i2l, .lmul, .lstore 3, .iinc 5 (1), .goto 5] := by decide +kernel
theorem b_X6_weightOf_43 : codeZ 77 43 = [.lmul, .lstore 3, .iinc 5 (1), .goto 5] := by decide +kernel
theorem b_X6_weightOf_45 : codeZ 77 45 = [.iinc 5 (1), .goto 5] := by decide +kernel
theorem b_X6_weightOf_51 : codeZ 77 51 = [.lload 3, .lreturn] := by decide +kernel
theorem b_X6_weightOfAll_0 : codeZ 78 0 = [.jsr (1), .lstore 1, .aload 0, .getfield 600, .sipush (0), .invokevirtual 34, .invokestatic 185, .istore 3, .goto_w 14] := by decide +kernel
theorem b_X6_weightOfAll_14 : codeZ 78 14 = [.iload 3, .ifCond .le 30, .lload 1, .jsr (10), .lmul, .lstore 1, .iinc 3 (-1), .goto 14] := by decide +kernel
theorem b_X6_weightOfAll_30 : codeZ 78 30 = [.lload 1, .lreturn] := by decide +kernel
theorem b_X6_outcome_0 : codeZ 79 0 = [.aload 0, .invokevirtual 100, .astore 4, .sipush (0), .istore 5, .goto_w 9] := by decide +kernel
theorem b_X6_outcome_9 : codeZ 79 9 = [.iload 5, .aload 4, .getfield 501, .if_icmp .ge 44, .iload 1, .iload 5, .ishr, .sipush (1), .iand, .sipush (1), .if_icmp .ne 38, .aload 4, .getfield 511, .iload 5, .sipush (3), .iastore, .iinc 5 (1), .goto 9] := by decide +kernel
theorem b_X6_outcome_38 : codeZ 79 38 = [.iinc 5 (1), .goto 9] := by decide +kernel
theorem b_X6_outcome_44 : codeZ 79 44 = [.aload 4, .iload 3, .invokevirtual 37, .istore 5, .iload 2, .sipush (-4), .if_icmp .ne 61, .iload 5, .ireturn] := by decide +kernel
theorem b_X6_outcome_61 : codeZ 79 61 = [.aload 4, .getfield 515, .iload 2, .iaload, .sipush (2), .if_icmp .ne 76, .sipush (1), .goto 77] := by decide +kernel
theorem b_X6_outcome_76 : codeZ 79 76 = [.sipush (0), .ireturn] := by decide +kernel
theorem b_X6_outcome_77 : codeZ 79 77 = [.ireturn] := by decide +kernel
theorem b_X6_partOfFraction_0 : codeZ 80 0 = [.lload 0, .lload 2, .invokestatic 81, .lstore 5, .lload 5, .jsr (0), .lcmp, .ifCond .ne 16, .jsr (0), .lreturn] := by decide +kernel
theorem b_X6_partOfFraction_16 : codeZ 80 16 = [.iload 4, .ifCond .ne 28, .lload 0, .lload 5, .ldiv, .goto 32] := by decide +kernel
theorem b_X6_partOfFraction_28 : codeZ 80 28 = [.lload 2, .lload 5, .ldiv, .lreturn] := by decide +kernel
theorem b_X6_partOfFraction_32 : codeZ 80 32 = [.lreturn] := by decide +kernel
theorem b_X6_greatestDivisor_0 : codeZ 81 0 = [.sipush (0), .istore 4, .goto_w 3] := by decide +kernel
theorem b_X6_greatestDivisor_3 : codeZ 81 3 = [.iload 4, .sipush (1000), .if_icmp .ge 33, .lload 2, .jsr (0), .lcmp, .ifCond .eq 33, .lload 0, .lload 2, .lrem, .lstore 5, .lload 2, .lstore 0, .lload 5, .lstore 2, .iinc 4 (1), .goto 3] := by decide +kernel
theorem b_X6_greatestDivisor_33 : codeZ 81 33 = [.lload 0, .lreturn] := by decide +kernel
theorem b_X6_see_0 : codeZ 82 0 = [.aload 0, .getfield 600, .iload 1, .invokevirtual 27, .ifCond .eq 32, .iload 2, .sipush (0), .sipush (9), .invokestatic 99, .ifCond .eq 32, .aload 0, .getfield 600, .iload 3, .invokevirtual 26, .ifCond .ne 34, .sipush (-1), .ireturn] := by decide +kernel
theorem b_X6_see_32 : codeZ 82 32 = [.sipush (-1), .ireturn] := by decide +kernel
theorem b_X6_see_34 : codeZ 82 34 = [.aload 0, .getfield 602, .iload 1, .iload 2, .iload 3, .invokevirtual 4, .ifCond .eq 57, .aload 0, .getfield 602, .getfield 200, .goto 59] := by decide +kernel
theorem b_X6_see_57 : codeZ 82 57 = [.sipush (-3), .ireturn] := by decide +kernel
theorem b_X6_see_59 : codeZ 82 59 = [.ireturn] := by decide +kernel
theorem b_X6_forget_0 : codeZ 83 0 = [.aload 0, .getfield 602, .getfield 200, .istore 2, .iload 1, .sipush (0), .iload 2, .invokestatic 99, .ifCond .ne 19, .sipush (-1), .ireturn] := by decide +kernel
theorem b_X6_forget_19 : codeZ 83 19 = [.aload 0, .getfield 602, .iload 1, .putfield 200, .iload 2, .ireturn] := by decide +kernel
theorem b_X6_kinds_0 : codeZ 84 0 = [.aload 0, .getfield 600, .iload 1, .invokevirtual 27, .ifCond .eq 21, .aload 0, .iload 1, .sipush (0), .sipush (3), .invokevirtual 86, .goto 22] := by decide +kernel
theorem b_X6_kinds_21 : codeZ 84 21 = [.sipush (-1), .ireturn] := by decide +kernel
theorem b_X6_kinds_22 : codeZ 84 22 = [.ireturn] := by decide +kernel
theorem b_X6_fathers_0 : codeZ 85 0 = [.aload 0, .getfield 600, .iload 1, .invokevirtual 27, .ifCond .eq 22, .aload 0, .iload 1, .sipush (2), .sipush (9), .invokevirtual 86, .goto 23] := by decide +kernel
theorem b_X6_fathers_22 : codeZ 85 22 = [.sipush (-1), .ireturn] := by decide +kernel
theorem b_X6_fathers_23 : codeZ 85 23 = [.ireturn] := by decide +kernel
theorem b_X6_asSeenBy_0 : codeZ 86 0 = [.sipush (0), .istore 4, .sipush (0), .istore 5, .goto_w 6] := by decide +kernel
theorem b_X6_asSeenBy_6 : codeZ 86 6 = [.iload 5, .iload 3, .if_icmp .gt 52, .aload 0, .invokevirtual 100, .astore 6, .aload 6, .iload 2, .invokevirtual 30, .iload 1, .iload 5, .iastore, .aload 0, .aload 6, .invokevirtual 87, .ifCond .eq 46, .iload 4, .sipush (1), .iload 5, .ishl, .ior, .istore 4, .iinc 5 (1), .goto 6] := by decide +kernel
theorem b_X6_asSeenBy_46 : codeZ 86 46 = [.iinc 5 (1), .goto 6] := by decide +kernel
theorem b_X6_asSeenBy_52 : codeZ 86 52 = [.iload 4, .ireturn] := by decide +kernel
theorem b_X6_isAsSeen_0 : codeZ 87 0 = [.sipush (0), .istore 2, .goto_w 2] := by decide +kernel
theorem b_X6_isAsSeen_2 : codeZ 87 2 = [.iload 2, .sipush (9), .if_icmp .gt 32, .aload 0, .getfield 602, .aload 1, .iload 2, .invokevirtual 5, .ifCond .ne 22, .sipush (0), .ireturn] := by decide +kernel
theorem b_X6_isAsSeen_22 : codeZ 87 22 = [.aload 1, .invokevirtual 38, .iinc 2 (1), .goto 2] := by decide +kernel
theorem b_X6_isAsSeen_32 : codeZ 87 32 = [.sipush (1), .ireturn] := by decide +kernel
theorem b_X6_look_0 : codeZ 88 0 = [.aload 0, .getfield 600, .iload 1, .invokevirtual 27, .ifCond .eq 20, .iload 2, .sipush (0), .sipush (1), .invokestatic 99, .ifCond .ne 22, .sipush (-1), .ireturn] := by decide +kernel
theorem b_X6_look_20 : codeZ 88 20 = [.sipush (-1), .ireturn] := by decide +kernel
theorem b_X6_look_22 : codeZ 88 22 = [.aload 0, .iload 1, .sipush (0), .sipush (3), .invokevirtual 86, .istore 3, .aload 0, .iload 1, .invokevirtual 89, .sipush (-4), .istore 4, .iload 3, .invokestatic 185, .istore 5, .sipush (0), .istore 6, .goto_w 48] := by decide +kernel
theorem b_X6_look_48 : codeZ 88 48 = [.iload 6, .sipush (9), .if_icmp .gt 85, .aload 0, .iload 3, .iload 6, .invokevirtual 90, .istore 7, .iload 7, .iload 5, .if_icmp .ge 79, .iload 6, .istore 4, .iload 7, .istore 5, .iinc 6 (1), .goto 48] := by decide +kernel
theorem b_X6_look_79 : codeZ 88 79 = [.iinc 6 (1), .goto 48] := by decide +kernel
theorem b_X6_look_85 : codeZ 88 85 = [.iload 2, .ifCond .eq 96, .iload 4, .sipush (-4), .if_icmp .ne 101, .iload 4, .goto 103] := by decide +kernel
theorem b_X6_look_96 : codeZ 88 96 = [.iload 4, .goto 103] := by decide +kernel
theorem b_X6_look_101 : codeZ 88 101 = [.iload 5, .ireturn] := by decide +kernel
theorem b_X6_look_103 : codeZ 88 103 = [.ireturn] := by decide +kernel
theorem b_X6_noteSpots_0 : codeZ 89 0 = [.sipush (0), .istore 2, .goto_w 2] := by decide +kernel
theorem b_X6_noteSpots_2 : codeZ 89 2 = [.iload 2, .sipush (4), .if_icmp .ge 63, .aload 0, .invokevirtual 100, .astore 3, .aload 3, .getfield 511, .iload 1, .iload 2, .iastore, .sipush (0), .istore 4, .goto_w 22] := by decide +kernel
theorem b_X6_noteSpots_22 : codeZ 89 22 = [.iload 4, .sipush (9), .if_icmp .gt 57, .aload 0, .getfield 608, .iload 2, .sipush (10), .imul, .iload 4, .iadd, .aload 3, .getfield 512, .iload 1, .iaload, .iastore, .aload 3, .invokevirtual 38, .iinc 4 (1), .goto 22] := by decide +kernel
theorem b_X6_noteSpots_57 : codeZ 89 57 = [.iinc 2 (1), .goto 2] := by decide +kernel
theorem b_X6_noteSpots_63 : codeZ 89 63 = [.return_] := by decide +kernel
theorem b_X6_leftAtWorst_0 : codeZ 90 0 = [.sipush (0), .istore 3, .sipush (0), .istore 4, .goto_w 5] := by decide +kernel
theorem b_X6_leftAtWorst_5 : codeZ 90 5 = [.iload 4, .aload 0, .getfield 600, .getfield 500, .if_icmp .ge 84, .sipush (0), .istore 5, .sipush (0), .istore 6, .goto_w 23] := by decide +kernel
theorem b_X6_leftAtWorst_23 : codeZ 90 23 = [.iload 6, .sipush (4), .if_icmp .ge 65, .iload 1, .iload 6, .ishr, .sipush (1), .iand, .sipush (1), .if_icmp .ne 59, .aload 0, .getfield 608, .iload 6, .sipush (10), .imul, .iload 2, .iadd, .iaload, .iload 4, .if_icmp .ne 59, .iinc 5 (1), .iinc 6 (1), .goto 23] := by decide +kernel
theorem b_X6_leftAtWorst_59 : codeZ 90 59 = [.iinc 6 (1), .goto 23] := by decide +kernel
theorem b_X6_leftAtWorst_65 : codeZ 90 65 = [.iload 5, .iload 3, .if_icmp .le 76, .iload 5, .goto 77] := by decide +kernel
theorem b_X6_leftAtWorst_76 : codeZ 90 76 = [.iload 3, .istore 3, .iinc 4 (1), .goto 5] := by decide +kernel
theorem b_X6_leftAtWorst_77 : codeZ 90 77 = [.istore 3, .iinc 4 (1), .goto 5] := by decide +kernel
theorem b_X6_leftAtWorst_84 : codeZ 90 84 = [.iload 3, .ireturn] := by decide +kernel
theorem b_X6_drift_0 : codeZ 91 0 = [.iload 2, .sipush (1), .sipush (60), .invokestatic 99, .ifCond .eq 19, .iload 3, .sipush (0), .sipush (1), .invokestatic 99, .ifCond .ne 21, .sipush (-1), .ireturn] := by decide +kernel
theorem b_X6_drift_19 : codeZ 91 19 = [.sipush (-1), .ireturn] := by decide +kernel
theorem b_X6_drift_21 : codeZ 91 21 = [.aload 0, .getfield 600, .getfield 500, .ifCond .ne 34, .sipush (-2), .ireturn] := by decide +kernel
theorem b_X6_drift_34 : codeZ 91 34 = [.aload 0, .invokevirtual 100, .astore 4, .sipush (0), .istore 5, .iload 1, .istore 6, .sipush (0), .istore 7, .goto_w 49] := by decide +kernel
theorem b_X6_drift_49 : codeZ 91 49 = [.iload 7, .iload 2, .if_icmp .ge 117, .iload 6, .sipush (1103515245), .imul, .sipush (12345), .iadd, .istore 6, .iload 6, .sipush (16), .ishr, .sipush (32767), .iand, .istore 8, .aload 4, .getfield 509, .iload 8, .aload 4, .getfield 500, .irem, .iload 8, .sipush (8), .idiv, .sipush (10), .irem, .iastore, .iload 5, .aload 4, .sipush (1), .invokevirtual 37, .iadd, .istore 5, .iinc 7 (1), .goto 49] := by decide +kernel
theorem b_X6_drift_117 : codeZ 91 117 = [.iload 3, .ifCond .ne 126, .iload 5, .goto 132] := by decide +kernel
theorem b_X6_drift_126 : codeZ 91 126 = [.aload 4, .sipush (2), .invokevirtual 34, .ireturn] := by decide +kernel
theorem b_X6_drift_132 : codeZ 91 132 = [.ireturn] := by decide +kernel
theorem b_X6_keep_0 : codeZ 92 0 = [.iload 1, .sipush (0), .sipush (1), .invokestatic 99, .ifCond .ne 11, .sipush (-1), .ireturn] := by decide +kernel
theorem b_X6_keep_11 : codeZ 92 11 = [.aload 0, .getfield 604, .iload 1, .aaload, .astore 2, .aload 2, .getfield 0, .ifCond .eq 29, .sipush (1), .goto 30] := by decide +kernel
theorem b_X6_keep_29 : codeZ 92 29 = [.sipush (0), .istore 3, .aload 2, .sipush (1), .putfield 0, .aload 2, .getfield 1, .aload 0, .getfield 600, .invokevirtual 25, .aload 2, .getfield 2, .aload 0, .getfield 602, .invokevirtual 6, .iload 3, .ireturn] := by decide +kernel
theorem b_X6_keep_30 : codeZ 92 30 = [.istore 3, .aload 2, .sipush (1), .putfield 0, .aload 2, .getfield 1, .aload 0, .getfield 600, .invokevirtual 25, .aload 2, .getfield 2, .aload 0, .getfield 602, .invokevirtual 6, .iload 3, .ireturn] := by decide +kernel
theorem b_X6_back_0 : codeZ 93 0 = [.iload 1, .sipush (0), .sipush (1), .invokestatic 99, .ifCond .ne 11, .sipush (-1), .ireturn] := by decide +kernel
theorem b_X6_back_11 : codeZ 93 11 = [.aload 0, .getfield 604, .iload 1, .aaload, .astore 2, .aload 2, .getfield 0, .ifCond .ne 28, .sipush (-2), .ireturn] := by decide +kernel
theorem b_X6_back_28 : codeZ 93 28 = [.aload 0, .getfield 600, .aload 2, .getfield 1, .invokevirtual 25, .aload 0, .getfield 602, .aload 2, .getfield 2, .invokevirtual 6, .aload 0, .getfield 600, .getfield 505, .ireturn] := by decide +kernel
theorem b_X6_sheet_0 : codeZ 94 0 = [.iload 1, .sipush (0), .sipush (3), .invokestatic 99, .ifCond .eq 24, .iload 2, .sipush (0), .sipush (2), .invokestatic 99, .ifCond .eq 24, .iload 3, .sipush (40), .if_icmp .le 26, .sipush (-1), .ireturn] := by decide +kernel
theorem b_X6_sheet_24 : codeZ 94 24 = [.sipush (-1), .ireturn] := by decide +kernel
theorem b_X6_sheet_26 : codeZ 94 26 = [.iload 3, .ifCond .ge 33, .sipush (-14), .ireturn] := by decide +kernel
theorem b_X6_sheet_33 : codeZ 94 33 = [.aload 0, .getfield 605, .iload 1, .aaload, .iload 2, .iload 3, .invokevirtual 0, .sipush (1), .ireturn] := by decide +kernel
theorem b_X6_lay_0 : codeZ 95 0 = [.iload 1, .sipush (0), .sipush (3), .invokestatic 99, .ifCond .ne 11, .sipush (-1), .ireturn] := by decide +kernel
theorem b_X6_lay_11 : codeZ 95 11 = [.aload 0, .getfield 605, .iload 1, .aaload, .iload 2, .i2l, .invokevirtual 1, .istore 4, .iload 4, .ifCond .eq 35, .sipush (-10), .iload 4, .isub, .ireturn] := by decide +kernel
theorem b_X6_lay_35 : codeZ 95 35 = [.aload 0, .getfield 605, .iload 1, .aaload, .iload 2, .iload 3, .invokevirtual 3, .sipush (1), .ireturn] := by decide +kernel
theorem b_X6_read_0 : codeZ 96 0 = [.iload 1, .sipush (0), .sipush (3), .invokestatic 99, .ifCond .eq 29, .iload 2, .sipush (0), .sipush (2), .invokestatic 99, .ifCond .eq 29, .iload 4, .sipush (0), .sipush (20), .invokestatic 99, .ifCond .ne 31, .sipush (-1), .ireturn] := by decide +kernel
theorem b_X6_read_29 : codeZ 96 29 = [.sipush (-1), .ireturn] := by decide +kernel
theorem b_X6_read_31 : codeZ 96 31 = [.aload 0, .getfield 605, .iload 1, .aaload, .astore 5, .aload 0, .getfield 600, .getfield 501, .istore 6, .sipush (0), .istore 7, .sipush (0), .istore 8, .sipush (0), .istore 9, .goto_w 57] := by decide +kernel
theorem b_X6_read_57 : codeZ 96 57 = [.iload 9, .iload 4, .if_icmp .ge 150, .iload 7, .ifCond .ne 150, .iload 3, .i2l, .sipush (2), .iload 9, .imul, .i2l, .ladd, .lstore 10, .aload 5, .iload 2, .lload 10, .invokevirtual 2, .istore 7, .iload 7, .ifCond .ne 144, .lload 10, .l2i, .istore 12, .aload 0, .aload 5, .getfield 102, .iload 12, .iaload, .aload 5, .getfield 102, .iload 12, .sipush (1), .iadd, .iaload, .sipush (0), .sipush (0), .invokevirtual 55, .ifCond .ge 141, .aload 0, .getfield 600, .iload 6, .putfield 501, .sipush (-20), .iload 9, .isub, .ireturn] := by decide +kernel
theorem b_X6_read_141 : codeZ 96 141 = [.iinc 8 (1), .iinc 9 (1), .goto 57] := by decide +kernel
theorem b_X6_read_144 : codeZ 96 144 = [.iinc 9 (1), .goto 57] := by decide +kernel
theorem b_X6_read_150 : codeZ 96 150 = [.aload 0, .iload 7, .putfield 609, .iload 8, .ireturn] := by decide +kernel
theorem b_X6_torn_0 : codeZ 97 0 = [.aload 0, .getfield 609, .ireturn] := by decide +kernel
theorem b_X6_count_0 : codeZ 98 0 = [.iload 1, .tableswitch 138 (0) (5) #[40, 48, 56, 92, 103, 130]] := by decide +kernel
theorem b_X6_count_40 : codeZ 98 40 = [.aload 0, .getfield 600, .invokevirtual 36, .ireturn] := by decide +kernel
theorem b_X6_count_48 : codeZ 98 48 = [.aload 0, .getfield 602, .getfield 200, .ireturn] := by decide +kernel
theorem b_X6_count_56 : codeZ 98 56 = [.aload 0, .getfield 604, .sipush (0), .aaload, .getfield 0, .ifCond .eq 72, .sipush (1), .goto 73] := by decide +kernel
theorem b_X6_count_72 : codeZ 98 72 = [.sipush (0), .aload 0, .getfield 604, .sipush (1), .aaload, .getfield 0, .ifCond .eq 89, .sipush (1), .goto 90] := by decide +kernel
theorem b_X6_count_73 : codeZ 98 73 = [.aload 0, .getfield 604, .sipush (1), .aaload, .getfield 0, .ifCond .eq 89, .sipush (1), .goto 90] := by decide +kernel
theorem b_X6_count_89 : codeZ 98 89 = [.sipush (0), .iadd, .ireturn] := by decide +kernel
theorem b_X6_count_90 : codeZ 98 90 = [.iadd, .ireturn] := by decide +kernel
theorem b_X6_count_92 : codeZ 98 92 = [.aload 0, .getfield 603, .getfield 400, .getfield 300, .ireturn] := by decide +kernel
theorem b_X6_count_103 : codeZ 98 103 = [.aload 0, .getfield 605, .sipush (0), .aaload, .getfield 100, .ifCond .eq 127, .aload 0, .getfield 605, .sipush (0), .aaload, .getfield 101, .goto 129] := by decide +kernel
theorem b_X6_count_127 : codeZ 98 127 = [.sipush (-4), .ireturn] := by decide +kernel
theorem b_X6_count_129 : codeZ 98 129 = [.ireturn] := by decide +kernel
theorem b_X6_count_130 : codeZ 98 130 = [.aload 0, .getfield 600, .invokevirtual 33, .ireturn] := by decide +kernel
theorem b_X6_count_138 : codeZ 98 138 = [.sipush (-1), .ireturn] := by decide +kernel
theorem b_X6_within_0 : codeZ 99 0 = [.iload 0, .iload 1, .if_icmp .lt 14, .iload 0, .iload 2, .if_icmp .gt 14, .sipush (1), .goto 15] := by decide +kernel
theorem b_X6_within_14 : codeZ 99 14 = [.sipush (0), .ireturn] := by decide +kernel
theorem b_X6_within_15 : codeZ 99 15 = [.ireturn] := by decide +kernel
theorem b_X6_fromNow_0 : codeZ 100 0 = [.aload 0, .getfield 601, .aload 0, .getfield 600, .invokevirtual 25, .aload 0, .getfield 601, .sipush (0), .putfield 506, .aload 0, .getfield 601, .sipush (0), .putfield 507, .aload 0, .getfield 601, .areturn] := by decide +kernel
theorem b_X7_in_0 : codeZ 101 0 = [.lload 0, .lload 2, .lcmp, .ifCond .lt 17, .lload 0, .lload 4, .lcmp, .ifCond .gt 17, .sipush (1), .goto 18] := by decide +kernel
theorem b_X7_in_17 : codeZ 101 17 = [.sipush (0), .ireturn] := by decide +kernel
theorem b_X7_in_18 : codeZ 101 18 = [.ireturn] := by decide +kernel
theorem b_X7_flag_0 : codeZ 102 0 = [.iload 0, .ifCond .eq 8, .sipush (1), .goto 9] := by decide +kernel
theorem b_X7_flag_8 : codeZ 102 8 = [.sipush (0), .ireturn] := by decide +kernel
theorem b_X7_flag_9 : codeZ 102 9 = [.ireturn] := by decide +kernel
theorem b_X7_firstDraft_0 : codeZ 103 0 = [.sipush (0), .istore 1, .goto_w 2] := by decide +kernel
theorem b_X7_firstDraft_2 : codeZ 103 2 = [.iload 1, .sipush (63), .if_icmp .ge 21, .aload 0, .getfield 704, .iload 1, .sipush (0), .iastore, .iinc 1 (1), .goto 2] := by decide +kernel
theorem b_X7_firstDraft_21 : codeZ 103 21 = [.aload 0, .getfield 704, .sipush (39), .sipush (5), .iastore, .aload 0, .getfield 704, .sipush (40), .sipush (46), .iastore, .aload 0, .getfield 704, .sipush (41), .sipush (5), .iastore, .aload 0, .sipush (0), .putfield 705, .aload 0, .sipush (0), .putfield 706, .aload 0, .sipush (-4), .putfield 707, .return_] := by decide +kernel
theorem b_X7_keepDraft_0 : codeZ 104 0 = [.sipush (0), .istore 1, .goto_w 2] := by decide +kernel
theorem b_X7_keepDraft_2 : codeZ 104 2 = [.iload 1, .sipush (63), .if_icmp .ge 26, .aload 0, .getfield 700, .iload 1, .aload 0, .getfield 704, .iload 1, .iaload, .iastore, .iinc 1 (1), .goto 2] := by decide +kernel
theorem b_X7_keepDraft_26 : codeZ 104 26 = [.aload 0, .aload 0, .getfield 705, .putfield 703, .aload 0, .getfield 702, .sipush (0), .sipush (0), .bastore, .aload 0, .getfield 702, .sipush (1), .sipush (0), .bastore, .return_] := by decide +kernel
theorem b_X7_feed_0 : codeZ 105 0 = [.iload 1, .i2l, .jsr (0), .jsr (127), .invokestatic 101, .ifCond .ne 14, .sipush (-1), .ireturn] := by decide +kernel
theorem b_X7_feed_14 : codeZ 105 14 = [.aload 0, .getfield 709, .sipush (160), .if_icmp .ne 27, .sipush (-3), .ireturn] := by decide +kernel
theorem b_X7_feed_27 : codeZ 105 27 = [.aload 0, .getfield 708, .aload 0, .getfield 709, .iload 1, .iastore, .aload 0, .dup, .getfield 709, .sipush (1), .iadd, .putfield 709, .aload 0, .getfield 709, .ireturn] := by decide +kernel
theorem b_X7_end_0 : codeZ 106 0 = [.iload 1, .i2l, .jsr (0), .aload 0, .getfield 709, .i2l, .invokestatic 101, .ifCond .ne 16, .sipush (-1), .ireturn] := by decide +kernel
theorem b_X7_end_16 : codeZ 106 16 = [.aload 0, .getfield 709, .istore 2, .aload 0, .iload 1, .putfield 709, .iload 2, .ireturn] := by decide +kernel
theorem b_X7_needs_0 : codeZ 107 0 = [.iload 1, .ifCond .ne 24, .aload 0, .getfield 714, .ifCond .ne 24, .aload 0, .iload 2, .putfield 714, .aload 0, .aload 0, .getfield 711, .putfield 715, .return_] := by decide +kernel
theorem b_X7_needs_24 : codeZ 107 24 = [.return_] := by decide +kernel
theorem b_X7_byteAt_0 : codeZ 108 0 = [.iload 1, .aload 0, .getfield 709, .if_icmp .ge 17, .aload 0, .getfield 708, .iload 1, .iaload, .goto 18] := by decide +kernel
theorem b_X7_byteAt_17 : codeZ 108 17 = [.sipush (-1), .ireturn] := by decide +kernel
theorem b_X7_byteAt_18 : codeZ 108 18 = [.ireturn] := by decide +kernel
theorem b_X7_is_0 : codeZ 109 0 = [.aload 0, .getfield 710, .aload 0, .getfield 711, .isub, .iload 1, .if_icmp .ne 58, .aload 0, .aload 0, .getfield 711, .invokevirtual 108, .iload 2, .if_icmp .ne 58, .aload 0, .aload 0, .getfield 711, .sipush (1), .iadd, .invokevirtual 108, .iload 3, .if_icmp .ne 58, .aload 0, .aload 0, .getfield 711, .sipush (2), .iadd, .invokevirtual 108, .iload 4, .if_icmp .ne 58, .sipush (1), .goto 59] := by decide +kernel
theorem b_X7_is_58 : codeZ 109 58 = [.sipush (0), .ireturn] := by decide +kernel
theorem b_X7_is_59 : codeZ 109 59 = [.ireturn] := by decide +kernel
theorem b_X7_ends_0 : codeZ 110 0 = [.aload 0, .aload 0, .getfield 711, .sipush (3), .iadd, .invokevirtual 108, .iload 1, .if_icmp .ne 75, .iload 2, .ifCond .eq 32, .aload 0, .aload 0, .getfield 711, .sipush (4), .iadd, .invokevirtual 108, .iload 2, .if_icmp .ne 75, .iload 3, .ifCond .eq 50, .aload 0, .aload 0, .getfield 711, .sipush (5), .iadd, .invokevirtual 108, .iload 3, .if_icmp .ne 75, .iload 4, .ifCond .eq 71, .aload 0, .aload 0, .getfield 711, .sipush (6), .iadd, .invokevirtual 108, .iload 4, .if_icmp .ne 75, .sipush (1), .goto 76] := by decide +kernel
theorem b_X7_ends_32 : codeZ 110 32 = [.iload 3, .ifCond .eq 50, .aload 0, .aload 0, .getfield 711, .sipush (5), .iadd, .invokevirtual 108, .iload 3, .if_icmp .ne 75, .iload 4, .ifCond .eq 71, .aload 0, .aload 0, .getfield 711, .sipush (6), .iadd, .invokevirtual 108, .iload 4, .if_icmp .ne 75, .sipush (1), .goto 76] := by decide +kernel
theorem b_X7_ends_50 : codeZ 110 50 = [.iload 4, .ifCond .eq 71, .aload 0, .aload 0, .getfield 711, .sipush (6), .iadd, .invokevirtual 108, .iload 4, .if_icmp .ne 75, .sipush (1), .goto 76] := by decide +kernel
theorem b_X7_ends_71 : codeZ 110 71 = [.sipush (1), .goto 76] := by decide +kernel
theorem b_X7_ends_75 : codeZ 110 75 = [.sipush (0), .ireturn] := by decide +kernel
theorem b_X7_ends_76 : codeZ 110 76 = [.ireturn] := by decide +kernel
theorem b_X7_kindNow_0 : codeZ 111 0 = [.aload 0, .sipush (5), .sipush (112), .sipush (108), .sipush (97), .invokevirtual 109, .ifCond .eq 29, .aload 0, .sipush (105), .sipush (110), .sipush (0), .sipush (0), .invokevirtual 110, .ifCond .eq 29, .sipush (0), .ireturn] := by decide +kernel
theorem b_X7_kindNow_29 : codeZ 111 29 = [.aload 0, .sipush (5), .sipush (114), .sipush (105), .sipush (118), .invokevirtual 109, .ifCond .eq 58, .aload 0, .sipush (101), .sipush (114), .sipush (0), .sipush (0), .invokevirtual 110, .ifCond .eq 58, .sipush (1), .ireturn] := by decide +kernel
theorem b_X7_kindNow_58 : codeZ 111 58 = [.aload 0, .sipush (7), .sipush (97), .sipush (100), .sipush (111), .invokevirtual 109, .ifCond .eq 92, .aload 0, .sipush (112), .sipush (116), .sipush (101), .sipush (100), .invokevirtual 110, .ifCond .eq 92, .sipush (2), .goto 125] := by decide +kernel
theorem b_X7_kindNow_92 : codeZ 111 92 = [.aload 0, .sipush (5), .sipush (109), .sipush (105), .sipush (120), .invokevirtual 109, .ifCond .eq 123, .aload 0, .sipush (101), .sipush (100), .sipush (0), .sipush (0), .invokevirtual 110, .ifCond .eq 123, .sipush (3), .goto 125] := by decide +kernel
theorem b_X7_kindNow_123 : codeZ 111 123 = [.sipush (-4), .ireturn] := by decide +kernel
theorem b_X7_kindNow_125 : codeZ 111 125 = [.ireturn] := by decide +kernel
theorem b_X7_lineNow_0 : codeZ 112 0 = [.aload 0, .sipush (7), .sipush (118), .sipush (105), .sipush (108), .invokevirtual 109, .ifCond .eq 32, .aload 0, .sipush (108), .sipush (97), .sipush (103), .sipush (101), .invokevirtual 110, .ifCond .eq 32, .sipush (4), .ireturn] := by decide +kernel
theorem b_X7_lineNow_32 : codeZ 112 32 = [.aload 0, .sipush (5), .sipush (112), .sipush (114), .sipush (105), .invokevirtual 109, .ifCond .eq 61, .aload 0, .sipush (99), .sipush (101), .sipush (0), .sipush (0), .invokevirtual 110, .ifCond .eq 61, .sipush (5), .ireturn] := by decide +kernel
theorem b_X7_lineNow_61 : codeZ 112 61 = [.aload 0, .sipush (4), .sipush (102), .sipush (105), .sipush (110), .invokevirtual 109, .ifCond .eq 92, .aload 0, .sipush (101), .sipush (0), .sipush (0), .sipush (0), .invokevirtual 110, .ifCond .eq 92, .sipush (6), .goto 128] := by decide +kernel
theorem b_X7_lineNow_92 : codeZ 112 92 = [.aload 0, .sipush (5), .sipush (114), .sipush (111), .sipush (117), .invokevirtual 109, .ifCond .eq 124, .aload 0, .sipush (110), .sipush (100), .sipush (0), .sipush (0), .invokevirtual 110, .ifCond .eq 124, .sipush (7), .goto 128] := by decide +kernel
theorem b_X7_lineNow_124 : codeZ 112 124 = [.aload 0, .invokevirtual 111, .ireturn] := by decide +kernel
theorem b_X7_lineNow_128 : codeZ 112 128 = [.ireturn] := by decide +kernel
theorem b_X7_takes_0 : codeZ 113 0 = [.aload 0, .getfield 714, .ifCond .le 8, .return_] := by decide +kernel
theorem b_X7_takes_8 : codeZ 113 8 = [.aload 0, .aload 0, .getfield 710, .invokevirtual 108, .sipush (32), .if_icmp .ne 34, .aload 0, .dup, .getfield 710, .sipush (1), .iadd, .putfield 710, .goto 8] := by decide +kernel
theorem b_X7_takes_34 : codeZ 113 34 = [.aload 0, .aload 0, .getfield 710, .putfield 711, .aload 0, .aload 0, .getfield 710, .invokevirtual 108, .istore 1, .iload 1, .ifCond .ge 63, .aload 0, .sipush (0), .putfield 712, .goto 274] := by decide +kernel
theorem b_X7_takes_63 : codeZ 113 63 = [.iload 1, .i2l, .jsr (97), .jsr (122), .invokestatic 101, .ifCond .eq 116, .aload 0, .sipush (1), .putfield 712, .goto_w 82] := by decide +kernel
theorem b_X7_takes_82 : codeZ 113 82 = [.aload 0, .aload 0, .getfield 710, .invokevirtual 108, .i2l, .jsr (97), .jsr (122), .invokestatic 101, .ifCond .eq 274, .aload 0, .dup, .getfield 710, .sipush (1), .iadd, .putfield 710, .goto 82] := by decide +kernel
theorem b_X7_takes_116 : codeZ 113 116 = [.iload 1, .i2l, .jsr (48), .jsr (57), .invokestatic 101, .ifCond .eq 243, .aload 0, .sipush (2), .putfield 712, .aload 0, .sipush (0), .putfield 713, .goto_w 140] := by decide +kernel
theorem b_X7_takes_140 : codeZ 113 140 = [.aload 0, .aload 0, .getfield 710, .invokevirtual 108, .i2l, .jsr (48), .jsr (57), .invokestatic 101, .ifCond .eq 217, .aload 0, .aload 0, .getfield 710, .aload 0, .getfield 711, .isub, .sipush (2), .if_icmp .ge 197, .sipush (10), .aload 0, .getfield 713, .imul, .aload 0, .aload 0, .getfield 710, .invokevirtual 108, .iadd, .sipush (48), .isub, .goto 201] := by decide +kernel
theorem b_X7_takes_197 : codeZ 113 197 = [.aload 0, .getfield 713, .putfield 713, .aload 0, .dup, .getfield 710, .sipush (1), .iadd, .putfield 710, .goto 140] := by decide +kernel
theorem b_X7_takes_201 : codeZ 113 201 = [.putfield 713, .aload 0, .dup, .getfield 710, .sipush (1), .iadd, .putfield 710, .goto 140] := by decide +kernel
theorem b_X7_takes_217 : codeZ 113 217 = [.aload 0, .aload 0, .getfield 710, .aload 0, .getfield 711, .isub, .sipush (2), .if_icmp .gt 235, .sipush (1), .goto 236] := by decide +kernel
theorem b_X7_takes_235 : codeZ 113 235 = [.sipush (0), .sipush (1), .invokevirtual 107, .goto 274] := by decide +kernel
theorem b_X7_takes_236 : codeZ 113 236 = [.sipush (1), .invokevirtual 107, .goto 274] := by decide +kernel
theorem b_X7_takes_243 : codeZ 113 243 = [.aload 0, .sipush (3), .putfield 712, .aload 0, .iload 1, .sipush (59), .if_icmp .ne 259, .sipush (1), .goto 260] := by decide +kernel
theorem b_X7_takes_259 : codeZ 113 259 = [.sipush (0), .sipush (1), .invokevirtual 107, .aload 0, .dup, .getfield 710, .sipush (1), .iadd, .putfield 710, .return_] := by decide +kernel
theorem b_X7_takes_260 : codeZ 113 260 = [.sipush (1), .invokevirtual 107, .aload 0, .dup, .getfield 710, .sipush (1), .iadd, .putfield 710, .return_] := by decide +kernel
theorem b_X7_takes_274 : codeZ 113 274 = [.return_] := by decide +kernel
theorem b_X7_readNumber_0 : codeZ 114 0 = [.aload 0, .getfield 714, .ifCond .ne 25, .aload 0, .aload 0, .getfield 712, .sipush (2), .if_icmp .ne 20, .sipush (1), .goto 21] := by decide +kernel
theorem b_X7_readNumber_20 : codeZ 114 20 = [.sipush (0), .sipush (2), .invokevirtual 107, .aload 0, .getfield 714, .ifCond .ne 49, .aload 0, .aload 0, .getfield 713, .i2l, .iload 1, .i2l, .iload 2, .i2l, .invokestatic 101, .sipush (3), .invokevirtual 107, .aload 0, .getfield 714, .ifCond .ne 63, .aload 0, .getfield 713, .goto 64] := by decide +kernel
theorem b_X7_readNumber_21 : codeZ 114 21 = [.sipush (2), .invokevirtual 107, .aload 0, .getfield 714, .ifCond .ne 49, .aload 0, .aload 0, .getfield 713, .i2l, .iload 1, .i2l, .iload 2, .i2l, .invokestatic 101, .sipush (3), .invokevirtual 107, .aload 0, .getfield 714, .ifCond .ne 63, .aload 0, .getfield 713, .goto 64] := by decide +kernel
theorem b_X7_readNumber_25 : codeZ 114 25 = [.aload 0, .getfield 714, .ifCond .ne 49, .aload 0, .aload 0, .getfield 713, .i2l, .iload 1, .i2l, .iload 2, .i2l, .invokestatic 101, .sipush (3), .invokevirtual 107, .aload 0, .getfield 714, .ifCond .ne 63, .aload 0, .getfield 713, .goto 64] := by decide +kernel
theorem b_X7_readNumber_49 : codeZ 114 49 = [.aload 0, .getfield 714, .ifCond .ne 63, .aload 0, .getfield 713, .goto 64] := by decide +kernel
theorem b_X7_readNumber_63 : codeZ 114 63 = [.sipush (0), .istore 3, .aload 0, .invokevirtual 113, .iload 3, .ireturn] := by decide +kernel
theorem b_X7_readNumber_64 : codeZ 114 64 = [.istore 3, .aload 0, .invokevirtual 113, .iload 3, .ireturn] := by decide +kernel
theorem b_X7_readBody_0 : codeZ 115 0 = [.sipush (8), .sipush (5), .aload 0, .getfield 704, .sipush (38), .iaload, .imul, .iadd, .istore 2, .aload 0, .getfield 704, .iload 2, .sipush (0), .iadd, .iload 1, .iastore, .aload 0, .getfield 704, .iload 2, .sipush (1), .iadd, .aload 0, .sipush (0), .sipush (3), .invokevirtual 114, .iastore, .aload 0, .aload 0, .getfield 704, .iload 2, .sipush (1), .iadd, .iaload, .aload 0, .getfield 707, .if_icmp .le 63, .aload 0, .getfield 704, .iload 2, .sipush (1), .iadd, .iaload, .goto 67] := by decide +kernel
theorem b_X7_readBody_63 : codeZ 115 63 = [.aload 0, .getfield 707, .putfield 707, .aload 0, .getfield 704, .iload 2, .sipush (2), .iadd, .aload 0, .sipush (0), .sipush (9), .invokevirtual 114, .iastore, .aload 0, .getfield 704, .iload 2, .sipush (3), .iadd, .aload 0, .sipush (0), .sipush (9), .invokevirtual 114, .iastore, .aload 0, .getfield 704, .sipush (38), .dup2, .iaload, .sipush (1), .iadd, .iastore, .return_] := by decide +kernel
theorem b_X7_readBody_67 : codeZ 115 67 = [.putfield 707, .aload 0, .getfield 704, .iload 2, .sipush (2), .iadd, .aload 0, .sipush (0), .sipush (9), .invokevirtual 114, .iastore, .aload 0, .getfield 704, .iload 2, .sipush (3), .iadd, .aload 0, .sipush (0), .sipush (9), .invokevirtual 114, .iastore, .aload 0, .getfield 704, .sipush (38), .dup2, .iaload, .sipush (1), .iadd, .iastore, .return_] := by decide +kernel
theorem b_X7_readLineOf_0 : codeZ 116 0 = [.iload 1, .tableswitch 136 (4) (7) #[32, 85, 102, 119]] := by decide +kernel
theorem b_X7_readLineOf_32 : codeZ 116 32 = [.aload 0, .getfield 704, .sipush (2), .aload 0, .getfield 705, .imul, .sipush (0), .iadd, .aload 0, .sipush (0), .sipush (99), .invokevirtual 114, .iastore, .aload 0, .getfield 704, .sipush (2), .aload 0, .getfield 705, .imul, .sipush (1), .iadd, .aload 0, .sipush (0), .sipush (9), .invokevirtual 114, .iastore, .aload 0, .dup, .getfield 705, .sipush (1), .iadd, .putfield 705, .goto 141] := by decide +kernel
theorem b_X7_readLineOf_85 : codeZ 116 85 = [.aload 0, .getfield 704, .sipush (39), .aload 0, .sipush (0), .sipush (20), .invokevirtual 114, .iastore, .goto 141] := by decide +kernel
theorem b_X7_readLineOf_102 : codeZ 116 102 = [.aload 0, .getfield 704, .sipush (40), .aload 0, .sipush (0), .sipush (60), .invokevirtual 114, .iastore, .goto 141] := by decide +kernel
theorem b_X7_readLineOf_119 : codeZ 116 119 = [.aload 0, .getfield 704, .sipush (41), .aload 0, .sipush (1), .sipush (9), .invokevirtual 114, .iastore, .goto 141] := by decide +kernel
theorem b_X7_readLineOf_136 : codeZ 116 136 = [.aload 0, .iload 1, .invokevirtual 115, .return_] := by decide +kernel
theorem b_X7_readLineOf_141 : codeZ 116 141 = [.return_] := by decide +kernel
theorem b_X7_readLine_0 : codeZ 117 0 = [.aload 0, .getfield 712, .sipush (1), .if_icmp .ne 15, .aload 0, .invokevirtual 112, .goto 17] := by decide +kernel
theorem b_X7_readLine_15 : codeZ 117 15 = [.sipush (-4), .istore 1, .aload 0, .iload 1, .sipush (-4), .if_icmp .eq 29, .sipush (1), .goto 30] := by decide +kernel
theorem b_X7_readLine_17 : codeZ 117 17 = [.istore 1, .aload 0, .iload 1, .sipush (-4), .if_icmp .eq 29, .sipush (1), .goto 30] := by decide +kernel
theorem b_X7_readLine_29 : codeZ 117 29 = [.sipush (0), .sipush (2), .invokevirtual 107, .aload 0, .iload 1, .sipush (4), .if_icmp .ne 56, .aload 0, .getfield 705, .sipush (4), .if_icmp .ge 52, .sipush (1), .goto 78] := by decide +kernel
theorem b_X7_readLine_30 : codeZ 117 30 = [.sipush (2), .invokevirtual 107, .aload 0, .iload 1, .sipush (4), .if_icmp .ne 56, .aload 0, .getfield 705, .sipush (4), .if_icmp .ge 52, .sipush (1), .goto 78] := by decide +kernel
theorem b_X7_readLine_52 : codeZ 117 52 = [.sipush (0), .goto 78] := by decide +kernel
theorem b_X7_readLine_56 : codeZ 117 56 = [.iload 1, .sipush (4), .if_icmp .gt 73, .aload 0, .getfield 704, .sipush (38), .iaload, .sipush (6), .if_icmp .ge 77, .sipush (1), .goto 78] := by decide +kernel
theorem b_X7_readLine_73 : codeZ 117 73 = [.sipush (1), .goto 78] := by decide +kernel
theorem b_X7_readLine_77 : codeZ 117 77 = [.sipush (0), .sipush (5), .invokevirtual 107, .aload 0, .getfield 714, .ifCond .ne 127, .iload 1, .sipush (4), .if_icmp .le 127, .aload 0, .aload 0, .getfield 706, .iload 1, .ishr, .sipush (1), .iand, .ifCond .ne 110, .sipush (1), .goto 111] := by decide +kernel
theorem b_X7_readLine_78 : codeZ 117 78 = [.sipush (5), .invokevirtual 107, .aload 0, .getfield 714, .ifCond .ne 127, .iload 1, .sipush (4), .if_icmp .le 127, .aload 0, .aload 0, .getfield 706, .iload 1, .ishr, .sipush (1), .iand, .ifCond .ne 110, .sipush (1), .goto 111] := by decide +kernel
theorem b_X7_readLine_110 : codeZ 117 110 = [.sipush (0), .sipush (4), .invokevirtual 107, .aload 0, .dup, .getfield 706, .sipush (1), .iload 1, .ishl, .ior, .putfield 706, .aload 0, .invokevirtual 113, .aload 0, .getfield 714, .ifCond .le 139, .return_] := by decide +kernel
theorem b_X7_readLine_111 : codeZ 117 111 = [.sipush (4), .invokevirtual 107, .aload 0, .dup, .getfield 706, .sipush (1), .iload 1, .ishl, .ior, .putfield 706, .aload 0, .invokevirtual 113, .aload 0, .getfield 714, .ifCond .le 139, .return_] := by decide +kernel
theorem b_X7_readLine_127 : codeZ 117 127 = [.aload 0, .invokevirtual 113, .aload 0, .getfield 714, .ifCond .le 139, .return_] := by decide +kernel
theorem b_X7_readLine_139 : codeZ 117 139 = [.aload 0, .iload 1, .invokevirtual 116, .aload 0, .getfield 714, .ifCond .ne 169, .aload 0, .aload 0, .getfield 712, .sipush (3), .if_icmp .ne 164, .sipush (1), .goto 165] := by decide +kernel
theorem b_X7_readLine_164 : codeZ 117 164 = [.sipush (0), .sipush (2), .invokevirtual 107, .aload 0, .invokevirtual 113, .return_] := by decide +kernel
theorem b_X7_readLine_165 : codeZ 117 165 = [.sipush (2), .invokevirtual 107, .aload 0, .invokevirtual 113, .return_] := by decide +kernel
theorem b_X7_readLine_169 : codeZ 117 169 = [.aload 0, .invokevirtual 113, .return_] := by decide +kernel
theorem b_X7_text_0 : codeZ 118 0 = [.sipush (0), .istore 1, .aload 0, .sipush (0), .putfield 714, .aload 0, .sipush (0), .putfield 710, .aload 0, .invokevirtual 103, .aload 0, .invokevirtual 113, .goto_w 20] := by decide +kernel
theorem b_X7_text_20 : codeZ 118 20 = [.aload 0, .getfield 714, .ifCond .ne 44, .aload 0, .getfield 712, .ifCond .eq 44, .aload 0, .invokevirtual 117, .iinc 1 (1), .goto 20] := by decide +kernel
theorem b_X7_text_44 : codeZ 118 44 = [.aload 0, .getfield 714, .ifCond .ne 73, .aload 0, .aload 0, .getfield 707, .aload 0, .getfield 705, .if_icmp .ge 67, .sipush (1), .goto 68] := by decide +kernel
theorem b_X7_text_67 : codeZ 118 67 = [.sipush (0), .sipush (6), .invokevirtual 107, .aload 0, .sipush (0), .putfield 709, .aload 0, .getfield 714, .ifCond .le 93, .sipush (-10), .aload 0, .getfield 715, .isub, .ireturn] := by decide +kernel
theorem b_X7_text_68 : codeZ 118 68 = [.sipush (6), .invokevirtual 107, .aload 0, .sipush (0), .putfield 709, .aload 0, .getfield 714, .ifCond .le 93, .sipush (-10), .aload 0, .getfield 715, .isub, .ireturn] := by decide +kernel
theorem b_X7_text_73 : codeZ 118 73 = [.aload 0, .sipush (0), .putfield 709, .aload 0, .getfield 714, .ifCond .le 93, .sipush (-10), .aload 0, .getfield 715, .isub, .ireturn] := by decide +kernel
theorem b_X7_text_93 : codeZ 118 93 = [.aload 0, .invokevirtual 104, .iload 1, .ireturn] := by decide +kernel
theorem b_X7_fault_0 : codeZ 119 0 = [.aload 0, .getfield 714, .ireturn] := by decide +kernel
theorem b_X7_isVillage_0 : codeZ 120 0 = [.iload 1, .i2l, .jsr (0), .aload 0, .getfield 703, .sipush (1), .isub, .i2l, .invokestatic 101, .ireturn] := by decide +kernel
theorem b_X7_isBody_0 : codeZ 121 0 = [.iload 1, .i2l, .jsr (0), .aload 0, .getfield 700, .sipush (38), .iaload, .sipush (1), .isub, .i2l, .invokestatic 101, .ireturn] := by decide +kernel
theorem b_X7_isPart_0 : codeZ 122 0 = [.iload 0, .i2l, .jsr (0), .jsr (1), .invokestatic 101, .ireturn] := by decide +kernel
theorem b_X7_starts_0 : codeZ 123 0 = [.sipush (0), .istore 1, .goto_w 2] := by decide +kernel
theorem b_X7_starts_2 : codeZ 123 2 = [.iload 1, .sipush (63), .if_icmp .ge 26, .aload 0, .getfield 701, .iload 1, .aload 0, .getfield 700, .iload 1, .iaload, .iastore, .iinc 1 (1), .goto 2] := by decide +kernel
theorem b_X7_starts_26 : codeZ 123 26 = [.sipush (0), .istore 1, .goto_w 28] := by decide +kernel
theorem b_X7_starts_28 : codeZ 123 28 = [.iload 1, .sipush (4), .if_icmp .ge 46, .aload 0, .getfield 716, .iload 1, .iload 1, .iastore, .iinc 1 (1), .goto 28] := by decide +kernel
theorem b_X7_starts_46 : codeZ 123 46 = [.return_] := by decide +kernel
theorem b_X7_settles_0 : codeZ 124 0 = [.sipush (0), .istore 1, .goto_w 2] := by decide +kernel
theorem b_X7_settles_2 : codeZ 124 2 = [.iload 1, .sipush (63), .if_icmp .ge 26, .aload 0, .getfield 700, .iload 1, .aload 0, .getfield 701, .iload 1, .iaload, .iastore, .iinc 1 (1), .goto 2] := by decide +kernel
theorem b_X7_settles_26 : codeZ 124 26 = [.return_] := by decide +kernel
theorem b_X7_of_0 : codeZ 125 0 = [.aload 0, .getfield 701, .sipush (8), .sipush (5), .iload 1, .imul, .iadd, .iload 2, .iadd, .iaload, .ireturn] := by decide +kernel
theorem b_X7_becomesOf_0 : codeZ 126 0 = [.aload 0, .getfield 701, .sipush (8), .sipush (5), .iload 1, .imul, .iadd, .iload 2, .iadd, .iload 3, .iastore, .return_] := by decide +kernel
theorem b_X7_needOf_0 : codeZ 127 0 = [.iload 1, .ifCond .eq 23, .iload 0, .ifCond .ne 12, .sipush (2), .goto 22] := by decide +kernel
theorem b_X7_needOf_12 : codeZ 127 12 = [.iload 0, .sipush (3), .if_icmp .ne 21, .sipush (4), .goto 22] := by decide +kernel
theorem b_X7_needOf_21 : codeZ 127 21 = [.sipush (3), .ireturn] := by decide +kernel
theorem b_X7_needOf_22 : codeZ 127 22 = [.ireturn] := by decide +kernel
theorem b_X7_needOf_23 : codeZ 127 23 = [.iload 0, .sipush (2), .if_icmp .ne 32, .sipush (0), .goto 42] := by decide +kernel
theorem b_X7_needOf_32 : codeZ 127 32 = [.iload 0, .sipush (3), .if_icmp .ne 41, .sipush (2), .goto 42] := by decide +kernel
theorem b_X7_needOf_41 : codeZ 127 41 = [.sipush (1), .ireturn] := by decide +kernel
theorem b_X7_needOf_42 : codeZ 127 42 = [.ireturn] := by decide +kernel
theorem b_X7_lacksOf_0 : codeZ 128 0 = [.aload 0, .iload 1, .sipush (0), .invokevirtual 125, .iload 2, .invokestatic 127, .aload 0, .iload 1, .iload 2, .ifCond .eq 20, .sipush (2), .goto 21] := by decide +kernel
theorem b_X7_lacksOf_20 : codeZ 128 20 = [.sipush (3), .invokevirtual 125, .isub, .istore 3, .iload 3, .ifCond .le 34, .iload 3, .goto 35] := by decide +kernel
theorem b_X7_lacksOf_21 : codeZ 128 21 = [.invokevirtual 125, .isub, .istore 3, .iload 3, .ifCond .le 34, .iload 3, .goto 35] := by decide +kernel
theorem b_X7_lacksOf_34 : codeZ 128 34 = [.sipush (0), .ireturn] := by decide +kernel
theorem b_X7_lacksOf_35 : codeZ 128 35 = [.ireturn] := by decide +kernel
theorem b_X7_lacks_0 : codeZ 129 0 = [.aload 0, .iload 1, .sipush (1), .invokevirtual 128, .aload 0, .iload 1, .sipush (0), .invokevirtual 128, .iadd, .ireturn] := by decide +kernel
theorem b_X7_firstAt_0 : codeZ 130 0 = [.sipush (0), .istore 2, .goto_w 2] := by decide +kernel
theorem b_X7_firstAt_2 : codeZ 130 2 = [.iload 2, .aload 0, .getfield 701, .sipush (38), .iaload, .if_icmp .ge 40, .aload 0, .iload 2, .sipush (4), .invokevirtual 125, .ifCond .ne 34, .aload 0, .iload 2, .sipush (1), .invokevirtual 125, .iload 1, .if_icmp .ne 34, .iload 2, .ireturn] := by decide +kernel
theorem b_X7_firstAt_34 : codeZ 130 34 = [.iinc 2 (1), .goto 2] := by decide +kernel
theorem b_X7_firstAt_40 : codeZ 130 40 = [.sipush (-4), .ireturn] := by decide +kernel
theorem b_X7_villageGoes_0 : codeZ 131 0 = [.aload 0, .iload 1, .invokevirtual 130, .istore 2, .iload 2, .sipush (-4), .if_icmp .ne 13, .return_] := by decide +kernel
theorem b_X7_villageGoes_13 : codeZ 131 13 = [.aload 0, .getfield 701, .sipush (39), .iaload, .aload 0, .iload 2, .invokevirtual 129, .imul, .istore 3, .iload 1, .sipush (1), .iadd, .aload 0, .getfield 703, .irem, .istore 4, .aload 0, .iload 2, .invokevirtual 129, .ifCond .ne 55, .aload 0, .iload 2, .sipush (4), .sipush (1), .invokevirtual 126, .goto 170] := by decide +kernel
theorem b_X7_villageGoes_55 : codeZ 131 55 = [.iload 3, .aload 0, .getfield 701, .sipush (40), .iaload, .if_icmp .ge 104, .iload 3, .aload 0, .getfield 701, .sipush (2), .iload 1, .imul, .sipush (0), .iadd, .iaload, .if_icmp .gt 104, .aload 0, .getfield 701, .sipush (2), .iload 1, .imul, .sipush (0), .iadd, .dup2, .iaload, .iload 3, .isub, .iastore, .aload 0, .iload 2, .sipush (4), .sipush (1), .invokevirtual 126, .goto 170] := by decide +kernel
theorem b_X7_villageGoes_104 : codeZ 131 104 = [.aload 0, .getfield 703, .sipush (1), .if_icmp .le 147, .aload 0, .getfield 701, .sipush (2), .iload 4, .imul, .sipush (1), .iadd, .iaload, .ifCond .ne 147, .aload 0, .iload 2, .sipush (1), .iload 4, .invokevirtual 126, .aload 0, .dup, .getfield 717, .sipush (1), .iadd, .putfield 717, .goto 170] := by decide +kernel
theorem b_X7_villageGoes_147 : codeZ 131 147 = [.aload 0, .getfield 703, .sipush (1), .if_icmp .le 170, .aload 0, .getfield 701, .sipush (2), .iload 4, .imul, .sipush (1), .iadd, .dup2, .iaload, .sipush (1), .isub, .iastore, .return_] := by decide +kernel
theorem b_X7_villageGoes_170 : codeZ 131 170 = [.return_] := by decide +kernel
theorem b_X7_crownerComes_0 : codeZ 132 0 = [.sipush (0), .istore 1, .goto_w 2] := by decide +kernel
theorem b_X7_crownerComes_2 : codeZ 132 2 = [.iload 1, .aload 0, .getfield 701, .sipush (38), .iaload, .if_icmp .ge 119, .aload 0, .iload 1, .sipush (4), .invokevirtual 125, .ifCond .ne 113, .aload 0, .iload 1, .sipush (1), .invokevirtual 125, .istore 2, .aload 0, .getfield 701, .sipush (2), .iload 2, .imul, .sipush (0), .iadd, .iaload, .aload 0, .getfield 701, .sipush (40), .iaload, .if_icmp .ge 53, .sipush (1), .goto 54] := by decide +kernel
theorem b_X7_crownerComes_53 : codeZ 132 53 = [.sipush (0), .istore 3, .aload 0, .dup, .getfield 718, .iload 3, .invokestatic 102, .iload 2, .ishl, .ior, .putfield 718, .aload 0, .getfield 701, .sipush (2), .iload 2, .imul, .sipush (0), .iadd, .iload 3, .ifCond .eq 87, .sipush (0), .goto 105] := by decide +kernel
theorem b_X7_crownerComes_54 : codeZ 132 54 = [.istore 3, .aload 0, .dup, .getfield 718, .iload 3, .invokestatic 102, .iload 2, .ishl, .ior, .putfield 718, .aload 0, .getfield 701, .sipush (2), .iload 2, .imul, .sipush (0), .iadd, .iload 3, .ifCond .eq 87, .sipush (0), .goto 105] := by decide +kernel
theorem b_X7_crownerComes_87 : codeZ 132 87 = [.aload 0, .getfield 701, .sipush (2), .iload 2, .imul, .sipush (0), .iadd, .iaload, .aload 0, .getfield 701, .sipush (40), .iaload, .isub, .iastore, .aload 0, .iload 1, .sipush (4), .sipush (2), .invokevirtual 126, .iinc 1 (1), .goto 2] := by decide +kernel
theorem b_X7_crownerComes_105 : codeZ 132 105 = [.iastore, .aload 0, .iload 1, .sipush (4), .sipush (2), .invokevirtual 126, .iinc 1 (1), .goto 2] := by decide +kernel
theorem b_X7_crownerComes_113 : codeZ 132 113 = [.iinc 1 (1), .goto 2] := by decide +kernel
theorem b_X7_crownerComes_119 : codeZ 132 119 = [.return_] := by decide +kernel
theorem b_X7_nightGoes_0 : codeZ 133 0 = [.sipush (0), .istore 1, .goto_w 2] := by decide +kernel
theorem b_X7_nightGoes_2 : codeZ 133 2 = [.iload 1, .aload 0, .getfield 703, .if_icmp .ge 26, .aload 0, .aload 0, .getfield 716, .iload 1, .iaload, .invokevirtual 131, .iinc 1 (1), .goto 2] := by decide +kernel
theorem b_X7_nightGoes_26 : codeZ 133 26 = [.aload 0, .getfield 701, .sipush (42), .iaload, .sipush (1), .iadd, .aload 0, .getfield 701, .sipush (41), .iaload, .irem, .ifCond .ne 64, .aload 0, .invokevirtual 132, .aload 0, .getfield 701, .sipush (43), .dup2, .iaload, .aload 0, .getfield 718, .ior, .iastore, .aload 0, .getfield 701, .sipush (42), .dup2, .iaload, .sipush (1), .iadd, .iastore, .return_] := by decide +kernel
theorem b_X7_nightGoes_64 : codeZ 133 64 = [.aload 0, .getfield 701, .sipush (42), .dup2, .iaload, .sipush (1), .iadd, .iastore, .return_] := by decide +kernel
theorem b_X7_allMeans_0 : codeZ 134 0 = [.sipush (0), .istore 1, .sipush (0), .istore 2, .goto_w 4] := by decide +kernel
theorem b_X7_allMeans_4 : codeZ 134 4 = [.iload 2, .aload 0, .getfield 703, .if_icmp .ge 31, .iload 1, .aload 0, .getfield 701, .sipush (2), .iload 2, .imul, .sipush (0), .iadd, .iaload, .iadd, .istore 1, .iinc 2 (1), .goto 4] := by decide +kernel
theorem b_X7_allMeans_31 : codeZ 134 31 = [.iload 1, .ireturn] := by decide +kernel
theorem b_X7_paidIn_0 : codeZ 135 0 = [.aload 0, .invokevirtual 134, .istore 2, .aload 0, .sipush (0), .putfield 717, .aload 0, .sipush (0), .putfield 718, .sipush (0), .istore 3, .goto_w 17] := by decide +kernel
theorem b_X7_paidIn_17 : codeZ 135 17 = [.iload 3, .iload 1, .if_icmp .ge 32, .aload 0, .invokevirtual 133, .iinc 3 (1), .goto 17] := by decide +kernel
theorem b_X7_paidIn_32 : codeZ 135 32 = [.iload 2, .aload 0, .invokevirtual 134, .isub, .ireturn] := by decide +kernel
theorem b_X7_inWay_0 : codeZ 136 0 = [.sipush (0), .istore 2, .sipush (0), .istore 3, .goto_w 4] := by decide +kernel
theorem b_X7_inWay_4 : codeZ 136 4 = [.iload 3, .aload 0, .getfield 701, .sipush (38), .iaload, .if_icmp .ge 44, .iload 2, .aload 0, .iload 3, .sipush (4), .invokevirtual 125, .iload 1, .if_icmp .ne 30, .sipush (1), .goto 31] := by decide +kernel
theorem b_X7_inWay_30 : codeZ 136 30 = [.sipush (0), .invokestatic 102, .iload 3, .ishl, .ior, .istore 2, .iinc 3 (1), .goto 4] := by decide +kernel
theorem b_X7_inWay_31 : codeZ 136 31 = [.invokestatic 102, .iload 3, .ishl, .ior, .istore 2, .iinc 3 (1), .goto 4] := by decide +kernel
theorem b_X7_inWay_44 : codeZ 136 44 = [.iload 2, .ireturn] := by decide +kernel
theorem b_X7_bitsOf_0 : codeZ 137 0 = [.sipush (0), .istore 1, .sipush (0), .istore 2, .goto_w 4] := by decide +kernel
theorem b_X7_bitsOf_4 : codeZ 137 4 = [.iload 2, .sipush (6), .if_icmp .ge 24, .iload 1, .iload 0, .iload 2, .ishr, .sipush (1), .iand, .iadd, .istore 1, .iinc 2 (1), .goto 4] := by decide +kernel
theorem b_X7_bitsOf_24 : codeZ 137 24 = [.iload 1, .ireturn] := by decide +kernel
theorem b_X7_lesser_0 : codeZ 138 0 = [.iload 0, .iload 1, .if_icmp .ge 9, .iload 0, .goto 10] := by decide +kernel
theorem b_X7_lesser_9 : codeZ 138 9 = [.iload 1, .ireturn] := by decide +kernel
theorem b_X7_lesser_10 : codeZ 138 10 = [.ireturn] := by decide +kernel
theorem b_X7_rule_0 : codeZ 139 0 = [.aload 0, .invokevirtual 123, .iload 1, .tableswitch 94 (0) (9) #[60, 65, 65, 65, 65, 65, 77, 77, 77, 86]] := by decide +kernel
theorem b_X7_rule_60 : codeZ 139 60 = [.aload 0, .getfield 703, .ireturn] := by decide +kernel
theorem b_X7_rule_65 : codeZ 139 65 = [.aload 0, .getfield 700, .sipush (38), .iload 1, .iadd, .sipush (1), .isub, .iaload, .ireturn] := by decide +kernel
theorem b_X7_rule_77 : codeZ 139 77 = [.aload 0, .iload 1, .sipush (6), .isub, .invokevirtual 136, .ireturn] := by decide +kernel
theorem b_X7_rule_86 : codeZ 139 86 = [.aload 0, .getfield 700, .sipush (43), .iaload, .ireturn] := by decide +kernel
theorem b_X7_rule_94 : codeZ 139 94 = [.sipush (-1), .ireturn] := by decide +kernel
theorem b_X7_village_0 : codeZ 140 0 = [.aload 0, .iload 1, .invokevirtual 120, .ifCond .eq 20, .iload 2, .i2l, .jsr (0), .jsr (2), .invokestatic 101, .ifCond .ne 22, .sipush (-1), .ireturn] := by decide +kernel
theorem b_X7_village_20 : codeZ 140 20 = [.sipush (-1), .ireturn] := by decide +kernel
theorem b_X7_village_22 : codeZ 140 22 = [.aload 0, .invokevirtual 123, .sipush (0), .istore 3, .sipush (0), .istore 4, .goto_w 31] := by decide +kernel
theorem b_X7_village_31 : codeZ 140 31 = [.iload 4, .aload 0, .getfield 701, .sipush (38), .iaload, .if_icmp .ge 84, .iload 3, .aload 0, .iload 4, .sipush (4), .invokevirtual 125, .ifCond .ne 69, .aload 0, .iload 4, .sipush (1), .invokevirtual 125, .iload 1, .if_icmp .ne 69, .sipush (1), .goto 70] := by decide +kernel
theorem b_X7_village_69 : codeZ 140 69 = [.sipush (0), .invokestatic 102, .iload 4, .ishl, .ior, .istore 3, .iinc 4 (1), .goto 31] := by decide +kernel
theorem b_X7_village_70 : codeZ 140 70 = [.invokestatic 102, .iload 4, .ishl, .ior, .istore 3, .iinc 4 (1), .goto 31] := by decide +kernel
theorem b_X7_village_84 : codeZ 140 84 = [.iload 2, .sipush (2), .if_icmp .ge 102, .aload 0, .getfield 700, .sipush (2), .iload 1, .imul, .iload 2, .iadd, .iaload, .goto 103] := by decide +kernel
theorem b_X7_village_102 : codeZ 140 102 = [.iload 3, .ireturn] := by decide +kernel
theorem b_X7_village_103 : codeZ 140 103 = [.ireturn] := by decide +kernel
theorem b_X7_body_0 : codeZ 141 0 = [.aload 0, .iload 1, .invokevirtual 121, .ifCond .eq 20, .iload 2, .i2l, .jsr (0), .jsr (5), .invokestatic 101, .ifCond .ne 22, .sipush (-1), .ireturn] := by decide +kernel
theorem b_X7_body_20 : codeZ 141 20 = [.sipush (-1), .ireturn] := by decide +kernel
theorem b_X7_body_22 : codeZ 141 22 = [.aload 0, .invokevirtual 123, .iload 2, .sipush (5), .if_icmp .ge 40, .aload 0, .iload 1, .iload 2, .invokevirtual 125, .goto 45] := by decide +kernel
theorem b_X7_body_40 : codeZ 141 40 = [.aload 0, .iload 1, .invokevirtual 129, .ireturn] := by decide +kernel
theorem b_X7_body_45 : codeZ 141 45 = [.ireturn] := by decide +kernel
theorem b_X7_becomes_0 : codeZ 142 0 = [.aload 0, .getfield 700, .iload 1, .iaload, .istore 3, .aload 0, .getfield 700, .iload 1, .iload 2, .iastore, .iload 3, .ireturn] := by decide +kernel
theorem b_X7_grant_0 : codeZ 143 0 = [.aload 0, .iload 1, .invokevirtual 120, .ifCond .eq 50, .iload 2, .invokestatic 122, .ifCond .eq 50, .iload 3, .i2l, .jsr (0), .iload 2, .ifCond .ne 28, .jsr (99), .goto 31] := by decide +kernel
theorem b_X7_grant_28 : codeZ 143 28 = [.jsr (9), .invokestatic 101, .ifCond .eq 50, .aload 0, .sipush (2), .iload 1, .imul, .iload 2, .iadd, .iload 3, .invokevirtual 142, .goto 51] := by decide +kernel
theorem b_X7_grant_31 : codeZ 143 31 = [.invokestatic 101, .ifCond .eq 50, .aload 0, .sipush (2), .iload 1, .imul, .iload 2, .iadd, .iload 3, .invokevirtual 142, .goto 51] := by decide +kernel
theorem b_X7_grant_50 : codeZ 143 50 = [.sipush (-1), .ireturn] := by decide +kernel
theorem b_X7_grant_51 : codeZ 143 51 = [.ireturn] := by decide +kernel
theorem b_X7_liesStill_0 : codeZ 144 0 = [.aload 0, .getfield 700, .sipush (8), .sipush (5), .iload 1, .imul, .iadd, .sipush (4), .iadd, .iaload, .ifCond .ne 20, .sipush (1), .goto 21] := by decide +kernel
theorem b_X7_liesStill_20 : codeZ 144 20 = [.sipush (0), .ireturn] := by decide +kernel
theorem b_X7_liesStill_21 : codeZ 144 21 = [.ireturn] := by decide +kernel
theorem b_X7_alter_0 : codeZ 145 0 = [.iload 2, .ifCond .ne 16, .iload 3, .i2l, .jsr (0), .jsr (3), .invokestatic 101, .goto 60] := by decide +kernel
theorem b_X7_alter_16 : codeZ 145 16 = [.iload 2, .sipush (1), .if_icmp .ne 29, .aload 0, .iload 3, .invokevirtual 120, .goto 60] := by decide +kernel
theorem b_X7_alter_29 : codeZ 145 29 = [.iload 2, .i2l, .jsr (2), .jsr (3), .invokestatic 101, .ifCond .eq 59, .iload 3, .i2l, .jsr (0), .jsr (9), .invokestatic 101, .ifCond .eq 59, .sipush (1), .goto 60] := by decide +kernel
theorem b_X7_alter_59 : codeZ 145 59 = [.sipush (0), .istore 4, .aload 0, .iload 1, .invokevirtual 121, .ifCond .eq 75, .iload 4, .ifCond .ne 77, .sipush (-1), .ireturn] := by decide +kernel
theorem b_X7_alter_60 : codeZ 145 60 = [.istore 4, .aload 0, .iload 1, .invokevirtual 121, .ifCond .eq 75, .iload 4, .ifCond .ne 77, .sipush (-1), .ireturn] := by decide +kernel
theorem b_X7_alter_75 : codeZ 145 75 = [.sipush (-1), .ireturn] := by decide +kernel
theorem b_X7_alter_77 : codeZ 145 77 = [.aload 0, .iload 1, .invokevirtual 144, .ifCond .eq 101, .aload 0, .sipush (8), .sipush (5), .iload 1, .imul, .iadd, .iload 2, .iadd, .iload 3, .invokevirtual 142, .goto 103] := by decide +kernel
theorem b_X7_alter_101 : codeZ 145 101 = [.sipush (-2), .ireturn] := by decide +kernel
theorem b_X7_alter_103 : codeZ 145 103 = [.ireturn] := by decide +kernel
theorem b_X7_set_0 : codeZ 146 0 = [.iload 1, .sipush (2), .if_icmp .ne 17, .iload 2, .i2l, .jsr (0), .jsr (20), .invokestatic 101, .goto 56] := by decide +kernel
theorem b_X7_set_17 : codeZ 146 17 = [.iload 1, .sipush (3), .if_icmp .ne 34, .iload 2, .i2l, .jsr (0), .jsr (60), .invokestatic 101, .goto 56] := by decide +kernel
theorem b_X7_set_34 : codeZ 146 34 = [.iload 1, .sipush (4), .if_icmp .ne 55, .iload 2, .i2l, .jsr (1), .jsr (9), .invokestatic 101, .ifCond .eq 55, .sipush (1), .goto 56] := by decide +kernel
theorem b_X7_set_55 : codeZ 146 55 = [.sipush (0), .istore 3, .iload 3, .ifCond .eq 75, .aload 0, .sipush (39), .iload 1, .iadd, .sipush (2), .isub, .iload 2, .invokevirtual 142, .goto 76] := by decide +kernel
theorem b_X7_set_56 : codeZ 146 56 = [.istore 3, .iload 3, .ifCond .eq 75, .aload 0, .sipush (39), .iload 1, .iadd, .sipush (2), .isub, .iload 2, .invokevirtual 142, .goto 76] := by decide +kernel
theorem b_X7_set_75 : codeZ 146 75 = [.sipush (-1), .ireturn] := by decide +kernel
theorem b_X7_set_76 : codeZ 146 76 = [.ireturn] := by decide +kernel
theorem b_X7_find_0 : codeZ 147 0 = [.iload 1, .i2l, .jsr (0), .jsr (3), .invokestatic 101, .ifCond .eq 45, .aload 0, .iload 2, .invokevirtual 120, .ifCond .eq 45, .iload 3, .i2l, .jsr (0), .jsr (9), .invokestatic 101, .ifCond .eq 45, .iload 4, .i2l, .jsr (0), .jsr (9), .invokestatic 101, .ifCond .ne 47, .sipush (-1), .ireturn] := by decide +kernel
theorem b_X7_find_45 : codeZ 147 45 = [.sipush (-1), .ireturn] := by decide +kernel
theorem b_X7_find_47 : codeZ 147 47 = [.aload 0, .getfield 700, .sipush (38), .iaload, .sipush (6), .if_icmp .ne 62, .sipush (-3), .ireturn] := by decide +kernel
theorem b_X7_find_62 : codeZ 147 62 = [.sipush (8), .sipush (5), .aload 0, .getfield 700, .sipush (38), .iaload, .imul, .iadd, .istore 5, .aload 0, .getfield 700, .iload 5, .sipush (0), .iadd, .iload 1, .iastore, .aload 0, .getfield 700, .iload 5, .sipush (1), .iadd, .iload 2, .iastore, .aload 0, .getfield 700, .iload 5, .sipush (2), .iadd, .iload 3, .iastore, .aload 0, .getfield 700, .iload 5, .sipush (3), .iadd, .iload 4, .iastore, .aload 0, .getfield 700, .iload 5, .sipush (4), .iadd, .sipush (0), .iastore, .aload 0, .getfield 700, .sipush (38), .dup2, .iaload, .sipush (1), .iadd, .iastore, .aload 0, .getfield 700, .sipush (38), .iaload, .sipush (1), .isub, .ireturn] := by decide +kernel
theorem b_X7_hire_0 : codeZ 148 0 = [.aload 0, .iload 1, .invokevirtual 121, .ifCond .ne 10, .sipush (-1), .ireturn] := by decide +kernel
theorem b_X7_hire_10 : codeZ 148 10 = [.aload 0, .invokevirtual 123, .aload 0, .iload 1, .sipush (1), .invokevirtual 125, .istore 2, .aload 0, .iload 1, .invokevirtual 144, .ifCond .eq 57, .aload 0, .iload 1, .invokevirtual 129, .ifCond .eq 57, .aload 0, .getfield 701, .sipush (2), .iload 2, .imul, .sipush (0), .iadd, .iaload, .aload 0, .getfield 701, .sipush (39), .iaload, .if_icmp .ge 60, .sipush (-2), .ireturn] := by decide +kernel
theorem b_X7_hire_57 : codeZ 148 57 = [.sipush (-2), .ireturn] := by decide +kernel
theorem b_X7_hire_60 : codeZ 148 60 = [.aload 0, .iload 1, .sipush (1), .invokevirtual 128, .ifCond .le 73, .sipush (2), .goto 74] := by decide +kernel
theorem b_X7_hire_73 : codeZ 148 73 = [.sipush (3), .istore 3, .aload 0, .getfield 701, .sipush (2), .iload 2, .imul, .sipush (0), .iadd, .dup2, .iaload, .aload 0, .getfield 701, .sipush (39), .iaload, .isub, .iastore, .aload 0, .iload 1, .iload 3, .aload 0, .iload 1, .iload 3, .invokevirtual 125, .sipush (1), .iadd, .invokevirtual 126, .aload 0, .invokevirtual 124, .aload 0, .iload 1, .invokevirtual 129, .ireturn] := by decide +kernel
theorem b_X7_hire_74 : codeZ 148 74 = [.istore 3, .aload 0, .getfield 701, .sipush (2), .iload 2, .imul, .sipush (0), .iadd, .dup2, .iaload, .aload 0, .getfield 701, .sipush (39), .iaload, .isub, .iastore, .aload 0, .iload 1, .iload 3, .aload 0, .iload 1, .iload 3, .invokevirtual 125, .sipush (1), .iadd, .invokevirtual 126, .aload 0, .invokevirtual 124, .aload 0, .iload 1, .invokevirtual 129, .ireturn] := by decide +kernel
theorem b_X7_nights_0 : codeZ 149 0 = [.iload 1, .i2l, .jsr (0), .jsr (30), .invokestatic 101, .ifCond .ne 14, .sipush (-1), .ireturn] := by decide +kernel
theorem b_X7_nights_14 : codeZ 149 14 = [.aload 0, .getfield 700, .sipush (42), .iaload, .iload 1, .iadd, .sipush (999), .if_icmp .le 32, .sipush (-3), .ireturn] := by decide +kernel
theorem b_X7_nights_32 : codeZ 149 32 = [.aload 0, .invokevirtual 123, .aload 0, .iload 1, .invokevirtual 135, .istore 2, .aload 0, .invokevirtual 124, .iload 2, .ireturn] := by decide +kernel
theorem b_X7_runs_0 : codeZ 150 0 = [.iload 1, .i2l, .jsr (0), .jsr (30), .invokestatic 101, .ifCond .eq 24, .iload 2, .i2l, .jsr (0), .jsr (4), .invokestatic 101, .ifCond .ne 26, .sipush (-1), .ireturn] := by decide +kernel
theorem b_X7_runs_24 : codeZ 150 24 = [.sipush (-1), .ireturn] := by decide +kernel
theorem b_X7_runs_26 : codeZ 150 26 = [.aload 0, .invokevirtual 123, .aload 0, .iload 1, .invokevirtual 135, .istore 3, .iload 2, .tableswitch 81 (0) (3) #[68, 70, 70, 76]] := by decide +kernel
theorem b_X7_runs_68 : codeZ 150 68 = [.iload 3, .ireturn] := by decide +kernel
theorem b_X7_runs_70 : codeZ 150 70 = [.aload 0, .iload 2, .invokevirtual 136, .ireturn] := by decide +kernel
theorem b_X7_runs_76 : codeZ 150 76 = [.aload 0, .getfield 717, .ireturn] := by decide +kernel
theorem b_X7_runs_81 : codeZ 150 81 = [.aload 0, .getfield 718, .ireturn] := by decide +kernel
theorem b_X7_ahead_0 : codeZ 151 0 = [.aload 0, .iload 1, .invokevirtual 121, .ifCond .eq 27, .iload 2, .i2l, .jsr (0), .jsr (30), .invokestatic 101, .ifCond .eq 27, .iload 3, .invokestatic 122, .ifCond .ne 29, .sipush (-1), .ireturn] := by decide +kernel
theorem b_X7_ahead_27 : codeZ 151 27 = [.sipush (-1), .ireturn] := by decide +kernel
theorem b_X7_ahead_29 : codeZ 151 29 = [.aload 0, .invokevirtual 123, .aload 0, .iload 2, .invokevirtual 135, .pop, .aload 0, .iload 1, .iload 3, .ifCond .ne 49, .sipush (1), .goto 50] := by decide +kernel
theorem b_X7_ahead_49 : codeZ 151 49 = [.sipush (4), .invokevirtual 125, .ireturn] := by decide +kernel
theorem b_X7_ahead_50 : codeZ 151 50 = [.invokevirtual 125, .ireturn] := by decide +kernel
theorem b_X7_settled_0 : codeZ 152 0 = [.aload 0, .iload 1, .invokevirtual 121, .ifCond .ne 10, .sipush (-1), .ireturn] := by decide +kernel
theorem b_X7_settled_10 : codeZ 152 10 = [.aload 0, .invokevirtual 123, .sipush (0), .istore 2, .goto_w 16] := by decide +kernel
theorem b_X7_settled_16 : codeZ 152 16 = [.iload 2, .sipush (30), .if_icmp .gt 43, .aload 0, .iload 1, .sipush (4), .invokevirtual 125, .ifCond .eq 33, .iload 2, .ireturn] := by decide +kernel
theorem b_X7_settled_33 : codeZ 152 33 = [.aload 0, .invokevirtual 133, .iinc 2 (1), .goto 16] := by decide +kernel
theorem b_X7_settled_43 : codeZ 152 43 = [.sipush (-4), .ireturn] := by decide +kernel
theorem b_X7_isJudged_0 : codeZ 153 0 = [.iload 0, .i2l, .jsr (0), .jsr (20), .invokestatic 101, .ireturn] := by decide +kernel
theorem b_X7_paidWith_0 : codeZ 154 0 = [.aload 0, .invokevirtual 123, .aload 0, .getfield 701, .iload 1, .iload 2, .iastore, .aload 0, .iload 3, .invokevirtual 135, .ireturn] := by decide +kernel
theorem b_X7_dear_0 : codeZ 155 0 = [.iload 1, .invokestatic 153, .ifCond .ne 9, .sipush (-1), .ireturn] := by decide +kernel
theorem b_X7_dear_9 : codeZ 155 9 = [.aload 0, .sipush (39), .sipush (0), .iload 1, .invokevirtual 154, .pop, .aload 0, .sipush (1), .invokevirtual 136, .invokestatic 137, .istore 2, .sipush (0), .istore 3, .sipush (1), .istore 4, .goto_w 32] := by decide +kernel
theorem b_X7_dear_32 : codeZ 155 32 = [.iload 4, .sipush (20), .if_icmp .gt 74, .aload 0, .sipush (39), .iload 4, .iload 1, .invokevirtual 154, .pop, .aload 0, .sipush (1), .invokevirtual 136, .invokestatic 137, .iload 2, .if_icmp .ne 66, .iload 4, .goto 67] := by decide +kernel
theorem b_X7_dear_66 : codeZ 155 66 = [.iload 3, .istore 3, .iinc 4 (1), .goto 32] := by decide +kernel
theorem b_X7_dear_67 : codeZ 155 67 = [.istore 3, .iinc 4 (1), .goto 32] := by decide +kernel
theorem b_X7_dear_74 : codeZ 155 74 = [.iload 3, .ireturn] := by decide +kernel
theorem b_X7_mild_0 : codeZ 156 0 = [.iload 1, .invokestatic 153, .ifCond .ne 9, .sipush (-1), .ireturn] := by decide +kernel
theorem b_X7_mild_9 : codeZ 156 9 = [.sipush (-4), .istore 2, .sipush (0), .istore 3, .goto_w 14] := by decide +kernel
theorem b_X7_mild_14 : codeZ 156 14 = [.iload 3, .sipush (60), .if_icmp .gt 48, .aload 0, .sipush (40), .iload 3, .iload 1, .invokevirtual 154, .pop, .aload 0, .getfield 718, .ifCond .ne 40, .iload 3, .goto 41] := by decide +kernel
theorem b_X7_mild_40 : codeZ 156 40 = [.iload 2, .istore 2, .iinc 3 (1), .goto 14] := by decide +kernel
theorem b_X7_mild_41 : codeZ 156 41 = [.istore 2, .iinc 3 (1), .goto 14] := by decide +kernel
theorem b_X7_mild_48 : codeZ 156 48 = [.iload 2, .ireturn] := by decide +kernel
theorem b_X7_watch_0 : codeZ 157 0 = [.iload 1, .invokestatic 153, .ifCond .eq 14, .iload 2, .invokestatic 122, .ifCond .ne 16, .sipush (-1), .ireturn] := by decide +kernel
theorem b_X7_watch_14 : codeZ 157 14 = [.sipush (-1), .ireturn] := by decide +kernel
theorem b_X7_watch_16 : codeZ 157 16 = [.sipush (0), .istore 3, .sipush (-4), .istore 4, .sipush (0), .istore 5, .goto_w 25] := by decide +kernel
theorem b_X7_watch_25 : codeZ 157 25 = [.iload 5, .aload 0, .getfield 703, .if_icmp .ge 121, .aload 0, .invokevirtual 123, .aload 0, .iload 1, .invokevirtual 135, .pop, .aload 0, .getfield 701, .sipush (2), .iload 5, .imul, .sipush (0), .iadd, .iaload, .istore 6, .aload 0, .sipush (2), .iload 5, .imul, .sipush (1), .iadd, .sipush (9), .iload 1, .invokevirtual 154, .pop, .aload 0, .getfield 701, .sipush (2), .iload 5, .imul, .sipush (0), .iadd, .iaload, .iload 6, .isub, .istore 7, .iload 7, .iload 3, .if_icmp .le 98, .iload 5, .goto 100] := by decide +kernel
theorem b_X7_watch_98 : codeZ 157 98 = [.iload 4, .istore 4, .iload 7, .iload 3, .if_icmp .le 113, .iload 7, .goto 114] := by decide +kernel
theorem b_X7_watch_100 : codeZ 157 100 = [.istore 4, .iload 7, .iload 3, .if_icmp .le 113, .iload 7, .goto 114] := by decide +kernel
theorem b_X7_watch_113 : codeZ 157 113 = [.iload 3, .istore 3, .iinc 5 (1), .goto 25] := by decide +kernel
theorem b_X7_watch_114 : codeZ 157 114 = [.istore 3, .iinc 5 (1), .goto 25] := by decide +kernel
theorem b_X7_watch_121 : codeZ 157 121 = [.iload 4, .sipush (-4), .if_icmp .ne 133, .sipush (-4), .goto 143] := by decide +kernel
theorem b_X7_watch_133 : codeZ 157 133 = [.iload 2, .ifCond .ne 142, .iload 4, .goto 143] := by decide +kernel
theorem b_X7_watch_142 : codeZ 157 142 = [.iload 3, .ireturn] := by decide +kernel
theorem b_X7_watch_143 : codeZ 157 143 = [.ireturn] := by decide +kernel
theorem b_X7_place_0 : codeZ 158 0 = [.aload 0, .iload 1, .invokevirtual 121, .ifCond .eq 22, .iload 2, .invokestatic 153, .ifCond .eq 22, .iload 3, .invokestatic 122, .ifCond .ne 24, .sipush (-1), .ireturn] := by decide +kernel
theorem b_X7_place_22 : codeZ 158 22 = [.sipush (-1), .ireturn] := by decide +kernel
theorem b_X7_place_24 : codeZ 158 24 = [.aload 0, .iload 1, .invokevirtual 144, .ifCond .ne 35, .sipush (-2), .ireturn] := by decide +kernel
theorem b_X7_place_35 : codeZ 158 35 = [.sipush (1000000), .istore 4, .sipush (0), .istore 5, .sipush (0), .istore 6, .goto_w 45] := by decide +kernel
theorem b_X7_place_45 : codeZ 158 45 = [.iload 6, .aload 0, .getfield 703, .if_icmp .ge 102, .aload 0, .sipush (8), .sipush (5), .iload 1, .imul, .iadd, .sipush (1), .iadd, .iload 6, .iload 2, .invokevirtual 154, .istore 7, .iload 7, .iload 4, .if_icmp .ge 83, .iload 6, .goto 85] := by decide +kernel
theorem b_X7_place_83 : codeZ 158 83 = [.iload 5, .istore 5, .iload 7, .iload 4, .invokestatic 138, .istore 4, .iinc 6 (1), .goto 45] := by decide +kernel
theorem b_X7_place_85 : codeZ 158 85 = [.istore 5, .iload 7, .iload 4, .invokestatic 138, .istore 4, .iinc 6 (1), .goto 45] := by decide +kernel
theorem b_X7_place_102 : codeZ 158 102 = [.iload 3, .ifCond .ne 111, .iload 5, .goto 113] := by decide +kernel
theorem b_X7_place_111 : codeZ 158 111 = [.iload 4, .ireturn] := by decide +kernel
theorem b_X7_place_113 : codeZ 158 113 = [.ireturn] := by decide +kernel
theorem b_X7_kin_0 : codeZ 159 0 = [.iload 1, .invokestatic 153, .ifCond .eq 14, .iload 2, .invokestatic 122, .ifCond .ne 16, .sipush (-1), .ireturn] := by decide +kernel
theorem b_X7_kin_14 : codeZ 159 14 = [.sipush (-1), .ireturn] := by decide +kernel
theorem b_X7_kin_16 : codeZ 159 16 = [.aload 0, .invokevirtual 123, .aload 0, .iload 1, .invokevirtual 135, .istore 3, .sipush (-4), .istore 4, .sipush (0), .istore 5, .goto_w 33] := by decide +kernel
theorem b_X7_kin_33 : codeZ 159 33 = [.iload 5, .aload 0, .getfield 700, .sipush (38), .iaload, .if_icmp .ge 111, .aload 0, .iload 5, .invokevirtual 144, .ifCond .eq 105, .sipush (8), .sipush (5), .iload 5, .imul, .iadd, .sipush (2), .iadd, .istore 6, .aload 0, .iload 6, .aload 0, .getfield 700, .iload 6, .iaload, .sipush (1), .iadd, .iload 1, .invokevirtual 154, .istore 7, .iload 7, .iload 3, .if_icmp .ge 94, .iload 5, .goto 96] := by decide +kernel
theorem b_X7_kin_94 : codeZ 159 94 = [.iload 4, .istore 4, .iload 7, .iload 3, .invokestatic 138, .istore 3, .iinc 5 (1), .goto 33] := by decide +kernel
theorem b_X7_kin_96 : codeZ 159 96 = [.istore 4, .iload 7, .iload 3, .invokestatic 138, .istore 3, .iinc 5 (1), .goto 33] := by decide +kernel
theorem b_X7_kin_105 : codeZ 159 105 = [.iinc 5 (1), .goto 33] := by decide +kernel
theorem b_X7_kin_111 : codeZ 159 111 = [.iload 4, .sipush (-4), .if_icmp .ne 123, .sipush (-4), .goto 133] := by decide +kernel
theorem b_X7_kin_123 : codeZ 159 123 = [.iload 2, .ifCond .ne 132, .iload 4, .goto 133] := by decide +kernel
theorem b_X7_kin_132 : codeZ 159 132 = [.iload 3, .ireturn] := by decide +kernel
theorem b_X7_kin_133 : codeZ 159 133 = [.ireturn] := by decide +kernel
theorem b_X7_late_0 : codeZ 160 0 = [.iload 1, .invokestatic 153, .ifCond .ne 9, .sipush (-1), .ireturn] := by decide +kernel
theorem b_X7_late_9 : codeZ 160 9 = [.sipush (1000000), .istore 2, .sipush (1), .istore 3, .sipush (1), .istore 4, .goto_w 17] := by decide +kernel
theorem b_X7_late_17 : codeZ 160 17 = [.iload 4, .sipush (9), .if_icmp .gt 61, .aload 0, .sipush (41), .iload 4, .iload 1, .invokevirtual 154, .istore 5, .iload 5, .iload 2, .if_icmp .ge 46, .iload 4, .goto 47] := by decide +kernel
theorem b_X7_late_46 : codeZ 160 46 = [.iload 3, .istore 3, .iload 5, .iload 2, .invokestatic 138, .istore 2, .iinc 4 (1), .goto 17] := by decide +kernel
theorem b_X7_late_47 : codeZ 160 47 = [.istore 3, .iload 5, .iload 2, .invokestatic 138, .istore 2, .iinc 4 (1), .goto 17] := by decide +kernel
theorem b_X7_late_61 : codeZ 160 61 = [.iload 3, .ireturn] := by decide +kernel
theorem b_X7_isOrder_0 : codeZ 161 0 = [.iload 1, .istore 2, .sipush (0), .istore 3, .aload 0, .getfield 703, .sipush (1), .isub, .istore 4, .goto_w 12] := by decide +kernel
theorem b_X7_isOrder_12 : codeZ 161 12 = [.iload 4, .ifCond .lt 55, .aload 0, .getfield 716, .iload 4, .iload 2, .aload 0, .getfield 703, .irem, .iastore, .iload 2, .aload 0, .getfield 703, .idiv, .istore 2, .iload 3, .sipush (1), .aload 0, .getfield 716, .iload 4, .iaload, .ishl, .ior, .istore 3, .iinc 4 (-1), .goto 12] := by decide +kernel
theorem b_X7_isOrder_55 : codeZ 161 55 = [.iload 3, .sipush (1), .aload 0, .getfield 703, .ishl, .sipush (1), .isub, .if_icmp .ne 71, .sipush (1), .goto 72] := by decide +kernel
theorem b_X7_isOrder_71 : codeZ 161 71 = [.sipush (0), .ireturn] := by decide +kernel
theorem b_X7_isOrder_72 : codeZ 161 72 = [.ireturn] := by decide +kernel
theorem b_X7_order_0 : codeZ 162 0 = [.iload 1, .invokestatic 153, .ifCond .eq 26, .iload 2, .ifCond .eq 28, .iload 2, .sipush (10), .isub, .i2l, .jsr (0), .jsr (3), .invokestatic 101, .ifCond .ne 28, .sipush (-1), .ireturn] := by decide +kernel
theorem b_X7_order_26 : codeZ 162 26 = [.sipush (-1), .ireturn] := by decide +kernel
theorem b_X7_order_28 : codeZ 162 28 = [.sipush (1), .istore 3, .sipush (0), .istore 4, .goto_w 33] := by decide +kernel
theorem b_X7_order_33 : codeZ 162 33 = [.iload 4, .aload 0, .getfield 703, .if_icmp .ge 55, .iload 3, .aload 0, .getfield 703, .imul, .istore 3, .iinc 4 (1), .goto 33] := by decide +kernel
theorem b_X7_order_55 : codeZ 162 55 = [.sipush (1000000), .istore 4, .sipush (0), .istore 5, .sipush (0), .istore 6, .goto_w 65] := by decide +kernel
theorem b_X7_order_65 : codeZ 162 65 = [.iload 6, .iload 3, .if_icmp .ge 122, .aload 0, .invokevirtual 123, .aload 0, .iload 6, .invokevirtual 161, .ifCond .eq 116, .aload 0, .iload 1, .invokevirtual 135, .istore 7, .iload 7, .iload 4, .if_icmp .ge 103, .iload 6, .goto 105] := by decide +kernel
theorem b_X7_order_103 : codeZ 162 103 = [.iload 5, .istore 5, .iload 7, .iload 4, .invokestatic 138, .istore 4, .iinc 6 (1), .goto 65] := by decide +kernel
theorem b_X7_order_105 : codeZ 162 105 = [.istore 5, .iload 7, .iload 4, .invokestatic 138, .istore 4, .iinc 6 (1), .goto 65] := by decide +kernel
theorem b_X7_order_116 : codeZ 162 116 = [.iinc 6 (1), .goto 65] := by decide +kernel
theorem b_X7_order_122 : codeZ 162 122 = [.aload 0, .iload 5, .invokevirtual 161, .pop, .iload 2, .ifCond .ne 138, .iload 4, .goto 163] := by decide +kernel
theorem b_X7_order_138 : codeZ 162 138 = [.iload 2, .sipush (10), .isub, .aload 0, .getfield 703, .if_icmp .ge 161, .aload 0, .getfield 716, .iload 2, .sipush (10), .isub, .iaload, .goto 163] := by decide +kernel
theorem b_X7_order_161 : codeZ 162 161 = [.sipush (-4), .ireturn] := by decide +kernel
theorem b_X7_order_163 : codeZ 162 163 = [.ireturn] := by decide +kernel
theorem b_X7_common_0 : codeZ 163 0 = [.lload 0, .lstore 4, .lload 2, .lstore 6, .goto_w 6] := by decide +kernel
theorem b_X7_common_6 : codeZ 163 6 = [.lload 6, .jsr (0), .lcmp, .ifCond .eq 31, .lload 4, .lload 6, .lrem, .lstore 8, .lload 6, .lstore 4, .lload 8, .lstore 6, .goto 6] := by decide +kernel
theorem b_X7_common_31 : codeZ 163 31 = [.lload 4, .lreturn] := by decide +kernel
theorem b_X7_told_0 : codeZ 164 0 = [.lload 2, .lload 0, .invokestatic 163, .lstore 5, .iload 4, .ifCond .ne 19, .lload 0, .lload 5, .ldiv, .goto 23] := by decide +kernel
theorem b_X7_told_19 : codeZ 164 19 = [.lload 2, .lload 5, .ldiv, .lreturn] := by decide +kernel
theorem b_X7_told_23 : codeZ 164 23 = [.lreturn] := by decide +kernel
theorem b_X7_findOdds_0 : codeZ 165 0 = [.aload 0, .invokevirtual 123, .aload 0, .sipush (0), .invokevirtual 136, .istore 4, .aload 0, .jsr (0), .putfield 719, .aload 0, .jsr (0), .putfield 720, .aload 0, .jsr (1), .putfield 721, .sipush (0), .istore 5, .goto_w 29] := by decide +kernel
theorem b_X7_findOdds_29 : codeZ 165 29 = [.iload 5, .sipush (6), .if_icmp .ge 69, .aload 0, .dup, .getfield 721, .iload 4, .iload 5, .ishr, .sipush (1), .iand, .sipush (1), .if_icmp .ne 58, .jsr (10), .goto 59] := by decide +kernel
theorem b_X7_findOdds_58 : codeZ 165 58 = [.jsr (1), .lmul, .putfield 721, .iinc 5 (1), .goto 29] := by decide +kernel
theorem b_X7_findOdds_59 : codeZ 165 59 = [.lmul, .putfield 721, .iinc 5 (1), .goto 29] := by decide +kernel
theorem b_X7_findOdds_69 : codeZ 165 69 = [.sipush (0), .istore 5, .goto_w 72] := by decide +kernel
theorem b_X7_findOdds_72 : codeZ 165 72 = [.iload 5, .sipush (64), .if_icmp .ge 244, .iload 5, .iload 4, .sipush (-1), .ixor, .iand, .ifCond .ne 238, .jsr (1), .lstore 6, .aload 0, .invokevirtual 123, .sipush (0), .istore 8, .goto_w 99] := by decide +kernel
theorem b_X7_findOdds_99 : codeZ 165 99 = [.iload 8, .aload 0, .getfield 701, .sipush (38), .iaload, .if_icmp .ge 192, .iload 5, .iload 8, .ishr, .sipush (1), .iand, .sipush (1), .if_icmp .ne 126, .sipush (1), .goto 127] := by decide +kernel
theorem b_X7_findOdds_126 : codeZ 165 126 = [.sipush (0), .istore 9, .lload 6, .iload 4, .iload 8, .ishr, .sipush (1), .iand, .ifCond .ne 145, .jsr (1), .goto 160] := by decide +kernel
theorem b_X7_findOdds_127 : codeZ 165 127 = [.istore 9, .lload 6, .iload 4, .iload 8, .ishr, .sipush (1), .iand, .ifCond .ne 145, .jsr (1), .goto 160] := by decide +kernel
theorem b_X7_findOdds_145 : codeZ 165 145 = [.iload 9, .ifCond .eq 155, .iload 1, .i2l, .goto 160] := by decide +kernel
theorem b_X7_findOdds_155 : codeZ 165 155 = [.sipush (10), .iload 1, .isub, .i2l, .lmul, .lstore 6, .aload 0, .iload 8, .sipush (0), .iload 9, .ifCond .eq 176, .sipush (3), .goto 183] := by decide +kernel
theorem b_X7_findOdds_160 : codeZ 165 160 = [.lmul, .lstore 6, .aload 0, .iload 8, .sipush (0), .iload 9, .ifCond .eq 176, .sipush (3), .goto 183] := by decide +kernel
theorem b_X7_findOdds_176 : codeZ 165 176 = [.aload 0, .iload 8, .sipush (0), .invokevirtual 125, .invokevirtual 126, .iinc 8 (1), .goto 99] := by decide +kernel
theorem b_X7_findOdds_183 : codeZ 165 183 = [.invokevirtual 126, .iinc 8 (1), .goto 99] := by decide +kernel
theorem b_X7_findOdds_192 : codeZ 165 192 = [.aload 0, .dup, .getfield 719, .lload 6, .aload 0, .iload 3, .invokevirtual 135, .i2l, .lmul, .ladd, .putfield 719, .aload 0, .dup, .getfield 720, .aload 0, .sipush (2), .invokevirtual 136, .iload 2, .ishr, .sipush (1), .iand, .sipush (1), .if_icmp .ne 233, .lload 6, .goto 234] := by decide +kernel
theorem b_X7_findOdds_233 : codeZ 165 233 = [.jsr (0), .ladd, .putfield 720, .iinc 5 (1), .goto 72] := by decide +kernel
theorem b_X7_findOdds_234 : codeZ 165 234 = [.ladd, .putfield 720, .iinc 5 (1), .goto 72] := by decide +kernel
theorem b_X7_findOdds_238 : codeZ 165 238 = [.iinc 5 (1), .goto 72] := by decide +kernel
theorem b_X7_findOdds_244 : codeZ 165 244 = [.return_] := by decide +kernel
theorem b_X7_mean_0 : codeZ 166 0 = [.iload 1, .i2l, .jsr (0), .jsr (10), .invokestatic 101, .ifCond .eq 26, .iload 2, .invokestatic 153, .ifCond .eq 26, .iload 3, .invokestatic 122, .ifCond .ne 30, .jsr (-1), .lreturn] := by decide +kernel
theorem b_X7_mean_26 : codeZ 166 26 = [.jsr (-1), .lreturn] := by decide +kernel
theorem b_X7_mean_30 : codeZ 166 30 = [.aload 0, .iload 1, .sipush (0), .iload 2, .invokevirtual 165, .aload 0, .getfield 719, .aload 0, .getfield 721, .iload 3, .invokestatic 164, .lreturn] := by decide +kernel
theorem b_X7_luck_0 : codeZ 167 0 = [.iload 1, .i2l, .jsr (0), .jsr (10), .invokestatic 101, .ifCond .eq 35, .aload 0, .iload 2, .invokevirtual 121, .ifCond .eq 35, .iload 3, .invokestatic 153, .ifCond .eq 35, .iload 4, .invokestatic 122, .ifCond .ne 39, .jsr (-1), .lreturn] := by decide +kernel
theorem b_X7_luck_35 : codeZ 167 35 = [.jsr (-1), .lreturn] := by decide +kernel
theorem b_X7_luck_39 : codeZ 167 39 = [.aload 0, .iload 1, .iload 2, .iload 3, .invokevirtual 165, .aload 0, .getfield 720, .aload 0, .getfield 721, .iload 4, .invokestatic 164, .lreturn] := by decide +kernel
theorem b_X7_see_0 : codeZ 168 0 = [.aload 0, .iload 1, .invokevirtual 121, .ifCond .eq 28, .iload 2, .i2l, .jsr (0), .jsr (9), .invokestatic 101, .ifCond .eq 28, .aload 0, .iload 3, .invokevirtual 120, .ifCond .ne 30, .sipush (-1), .ireturn] := by decide +kernel
theorem b_X7_see_28 : codeZ 168 28 = [.sipush (-1), .ireturn] := by decide +kernel
theorem b_X7_see_30 : codeZ 168 30 = [.aload 0, .getfield 700, .sipush (44), .iaload, .sipush (6), .if_icmp .ne 45, .sipush (-3), .ireturn] := by decide +kernel
theorem b_X7_see_45 : codeZ 168 45 = [.sipush (45), .sipush (3), .aload 0, .getfield 700, .sipush (44), .iaload, .imul, .iadd, .istore 4, .aload 0, .getfield 700, .iload 4, .iload 1, .iastore, .aload 0, .getfield 700, .iload 4, .sipush (1), .iadd, .iload 2, .iastore, .aload 0, .getfield 700, .iload 4, .sipush (2), .iadd, .iload 3, .iastore, .aload 0, .getfield 700, .sipush (44), .dup2, .iaload, .sipush (1), .iadd, .iastore, .aload 0, .getfield 700, .sipush (44), .iaload, .ireturn] := by decide +kernel
theorem b_X7_forget_0 : codeZ 169 0 = [.iload 1, .i2l, .jsr (0), .aload 0, .getfield 700, .sipush (44), .iaload, .i2l, .invokestatic 101, .ifCond .eq 27, .aload 0, .sipush (44), .iload 1, .invokevirtual 142, .goto 28] := by decide +kernel
theorem b_X7_forget_27 : codeZ 169 27 = [.sipush (-1), .ireturn] := by decide +kernel
theorem b_X7_forget_28 : codeZ 169 28 = [.ireturn] := by decide +kernel
theorem b_X7_isSoWith_0 : codeZ 170 0 = [.aload 0, .invokevirtual 123, .aload 0, .getfield 701, .iload 1, .iload 2, .iastore, .sipush (0), .istore 3, .goto_w 13] := by decide +kernel
theorem b_X7_isSoWith_13 : codeZ 170 13 = [.iload 3, .sipush (9), .if_icmp .gt 69, .sipush (0), .istore 4, .goto_w 22] := by decide +kernel
theorem b_X7_isSoWith_22 : codeZ 170 22 = [.iload 4, .aload 0, .getfield 701, .sipush (38), .iaload, .if_icmp .ge 59, .aload 0, .getfield 722, .sipush (6), .iload 3, .imul, .iload 4, .iadd, .aload 0, .iload 4, .sipush (1), .invokevirtual 125, .iastore, .iinc 4 (1), .goto 22] := by decide +kernel
theorem b_X7_isSoWith_59 : codeZ 170 59 = [.aload 0, .invokevirtual 133, .iinc 3 (1), .goto 13] := by decide +kernel
theorem b_X7_isSoWith_69 : codeZ 170 69 = [.sipush (1), .istore 3, .sipush (0), .istore 4, .goto_w 74] := by decide +kernel
theorem b_X7_isSoWith_74 : codeZ 170 74 = [.iload 4, .aload 0, .getfield 700, .sipush (44), .iaload, .if_icmp .ge 148, .sipush (45), .sipush (3), .iload 4, .imul, .iadd, .istore 5, .iload 3, .ifCond .eq 140, .aload 0, .getfield 722, .sipush (6), .aload 0, .getfield 700, .iload 5, .sipush (1), .iadd, .iaload, .imul, .aload 0, .getfield 700, .iload 5, .iaload, .iadd, .iaload, .aload 0, .getfield 700, .iload 5, .sipush (2), .iadd, .iaload, .if_icmp .ne 140, .sipush (1), .goto 141] := by decide +kernel
theorem b_X7_isSoWith_140 : codeZ 170 140 = [.sipush (0), .istore 3, .iinc 4 (1), .goto 74] := by decide +kernel
theorem b_X7_isSoWith_141 : codeZ 170 141 = [.istore 3, .iinc 4 (1), .goto 74] := by decide +kernel
theorem b_X7_isSoWith_148 : codeZ 170 148 = [.iload 3, .ireturn] := by decide +kernel
theorem b_X7_kindsOf_0 : codeZ 171 0 = [.sipush (0), .istore 2, .sipush (0), .istore 3, .goto_w 4] := by decide +kernel
theorem b_X7_kindsOf_4 : codeZ 171 4 = [.iload 3, .sipush (4), .if_icmp .ge 36, .iload 2, .aload 0, .sipush (8), .sipush (5), .iload 1, .imul, .iadd, .sipush (0), .iadd, .iload 3, .invokevirtual 170, .invokestatic 102, .iload 3, .ishl, .ior, .istore 2, .iinc 3 (1), .goto 4] := by decide +kernel
theorem b_X7_kindsOf_36 : codeZ 171 36 = [.iload 2, .ireturn] := by decide +kernel
theorem b_X7_kinds_0 : codeZ 172 0 = [.aload 0, .iload 1, .invokevirtual 121, .ifCond .eq 16, .aload 0, .iload 1, .invokevirtual 171, .goto 17] := by decide +kernel
theorem b_X7_kinds_16 : codeZ 172 16 = [.sipush (-1), .ireturn] := by decide +kernel
theorem b_X7_kinds_17 : codeZ 172 17 = [.ireturn] := by decide +kernel
theorem b_X7_fathers_0 : codeZ 173 0 = [.aload 0, .iload 1, .invokevirtual 121, .ifCond .ne 10, .sipush (-1), .ireturn] := by decide +kernel
theorem b_X7_fathers_10 : codeZ 173 10 = [.sipush (0), .istore 2, .sipush (0), .istore 3, .goto_w 14] := by decide +kernel
theorem b_X7_fathers_14 : codeZ 173 14 = [.iload 3, .sipush (9), .if_icmp .gt 47, .iload 2, .aload 0, .sipush (8), .sipush (5), .iload 1, .imul, .iadd, .sipush (2), .iadd, .iload 3, .invokevirtual 170, .invokestatic 102, .iload 3, .ishl, .ior, .istore 2, .iinc 3 (1), .goto 14] := by decide +kernel
theorem b_X7_fathers_47 : codeZ 173 47 = [.iload 2, .ireturn] := by decide +kernel
theorem b_X7_look_0 : codeZ 174 0 = [.aload 0, .iload 1, .invokevirtual 121, .ifCond .eq 15, .iload 2, .invokestatic 122, .ifCond .ne 17, .sipush (-1), .ireturn] := by decide +kernel
theorem b_X7_look_15 : codeZ 174 15 = [.sipush (-1), .ireturn] := by decide +kernel
theorem b_X7_look_17 : codeZ 174 17 = [.sipush (0), .istore 3, .sipush (-4), .istore 4, .sipush (0), .istore 5, .goto_w 26] := by decide +kernel
theorem b_X7_look_26 : codeZ 174 26 = [.iload 5, .sipush (40), .if_icmp .ge 47, .aload 0, .getfield 723, .iload 5, .sipush (0), .iastore, .iinc 5 (1), .goto 26] := by decide +kernel
theorem b_X7_look_47 : codeZ 174 47 = [.sipush (0), .istore 5, .goto_w 50] := by decide +kernel
theorem b_X7_look_50 : codeZ 174 50 = [.iload 5, .sipush (4), .if_icmp .ge 124, .aload 0, .sipush (8), .sipush (5), .iload 1, .imul, .iadd, .sipush (0), .iadd, .iload 5, .invokevirtual 170, .ifCond .eq 118, .iinc 3 (1), .sipush (0), .istore 6, .goto_w 79] := by decide +kernel
theorem b_X7_look_79 : codeZ 174 79 = [.iload 6, .sipush (9), .if_icmp .gt 118, .aload 0, .getfield 723, .sipush (4), .iload 6, .imul, .aload 0, .getfield 722, .sipush (6), .iload 6, .imul, .iload 1, .iadd, .iaload, .iadd, .dup2, .iaload, .sipush (1), .iadd, .iastore, .iinc 6 (1), .goto 79] := by decide +kernel
theorem b_X7_look_118 : codeZ 174 118 = [.iinc 5 (1), .goto 50] := by decide +kernel
theorem b_X7_look_124 : codeZ 174 124 = [.sipush (0), .istore 5, .goto_w 127] := by decide +kernel
theorem b_X7_look_127 : codeZ 174 127 = [.iload 5, .sipush (9), .if_icmp .gt 216, .sipush (0), .istore 6, .sipush (0), .istore 7, .goto_w 140] := by decide +kernel
theorem b_X7_look_140 : codeZ 174 140 = [.iload 7, .sipush (4), .if_icmp .ge 188, .aload 0, .getfield 723, .sipush (4), .iload 5, .imul, .iload 7, .iadd, .iaload, .iload 6, .if_icmp .le 178, .aload 0, .getfield 723, .sipush (4), .iload 5, .imul, .iload 7, .iadd, .iaload, .goto 180] := by decide +kernel
theorem b_X7_look_178 : codeZ 174 178 = [.iload 6, .istore 6, .iinc 7 (1), .goto 140] := by decide +kernel
theorem b_X7_look_180 : codeZ 174 180 = [.istore 6, .iinc 7 (1), .goto 140] := by decide +kernel
theorem b_X7_look_188 : codeZ 174 188 = [.iload 6, .iload 3, .if_icmp .ge 199, .iload 5, .goto 201] := by decide +kernel
theorem b_X7_look_199 : codeZ 174 199 = [.iload 4, .istore 4, .iload 6, .iload 3, .invokestatic 138, .istore 3, .iinc 5 (1), .goto 127] := by decide +kernel
theorem b_X7_look_201 : codeZ 174 201 = [.istore 4, .iload 6, .iload 3, .invokestatic 138, .istore 3, .iinc 5 (1), .goto 127] := by decide +kernel
theorem b_X7_look_216 : codeZ 174 216 = [.iload 4, .sipush (-4), .if_icmp .ne 228, .sipush (-4), .goto 238] := by decide +kernel
theorem b_X7_look_228 : codeZ 174 228 = [.iload 2, .ifCond .ne 237, .iload 4, .goto 238] := by decide +kernel
theorem b_X7_look_237 : codeZ 174 237 = [.iload 3, .ireturn] := by decide +kernel
theorem b_X7_look_238 : codeZ 174 238 = [.ireturn] := by decide +kernel
theorem b_X7_drift_0 : codeZ 175 0 = [.iload 2, .i2l, .jsr (1), .jsr (60), .invokestatic 101, .ifCond .eq 19, .iload 3, .invokestatic 122, .ifCond .ne 21, .sipush (-1), .ireturn] := by decide +kernel
theorem b_X7_drift_19 : codeZ 175 19 = [.sipush (-1), .ireturn] := by decide +kernel
theorem b_X7_drift_21 : codeZ 175 21 = [.aload 0, .getfield 703, .ifCond .ne 31, .sipush (-2), .ireturn] := by decide +kernel
theorem b_X7_drift_31 : codeZ 175 31 = [.iload 1, .istore 4, .aload 0, .invokevirtual 123, .aload 0, .invokevirtual 134, .istore 5, .sipush (0), .istore 6, .goto_w 47] := by decide +kernel
theorem b_X7_drift_47 : codeZ 175 47 = [.iload 6, .iload 2, .if_icmp .ge 110, .iload 4, .sipush (1103515245), .imul, .sipush (12345), .iadd, .istore 4, .iload 4, .sipush (16), .ishr, .sipush (32767), .iand, .istore 7, .aload 0, .getfield 701, .sipush (2), .iload 7, .aload 0, .getfield 703, .irem, .imul, .sipush (1), .iadd, .iload 7, .sipush (8), .idiv, .sipush (10), .irem, .iastore, .aload 0, .invokevirtual 133, .iinc 6 (1), .goto 47] := by decide +kernel
theorem b_X7_drift_110 : codeZ 175 110 = [.iload 3, .ifCond .ne 124, .iload 5, .aload 0, .invokevirtual 134, .isub, .goto 129] := by decide +kernel
theorem b_X7_drift_124 : codeZ 175 124 = [.aload 0, .sipush (2), .invokevirtual 136, .ireturn] := by decide +kernel
theorem b_X7_drift_129 : codeZ 175 129 = [.ireturn] := by decide +kernel
theorem b_X7_copies_0 : codeZ 176 0 = [.sipush (0), .istore 3, .goto_w 2] := by decide +kernel
theorem b_X7_copies_2 : codeZ 176 2 = [.iload 3, .sipush (63), .if_icmp .ge 30, .aload 0, .getfield 700, .iload 1, .iload 3, .iadd, .aload 0, .getfield 700, .iload 2, .iload 3, .iadd, .iaload, .iastore, .iinc 3 (1), .goto 2] := by decide +kernel
theorem b_X7_copies_30 : codeZ 176 30 = [.return_] := by decide +kernel
theorem b_X7_keep_0 : codeZ 177 0 = [.iload 1, .i2l, .jsr (0), .jsr (1), .invokestatic 101, .ifCond .ne 12, .sipush (-1), .ireturn] := by decide +kernel
theorem b_X7_keep_12 : codeZ 177 12 = [.aload 0, .getfield 702, .iload 1, .baload, .invokestatic 102, .istore 2, .aload 0, .getfield 702, .iload 1, .sipush (1), .bastore, .aload 0, .sipush (63), .iload 1, .sipush (1), .iadd, .imul, .sipush (0), .invokevirtual 176, .iload 2, .ireturn] := by decide +kernel
theorem b_X7_back_0 : codeZ 178 0 = [.iload 1, .i2l, .jsr (0), .jsr (1), .invokestatic 101, .ifCond .ne 12, .sipush (-1), .ireturn] := by decide +kernel
theorem b_X7_back_12 : codeZ 178 12 = [.aload 0, .getfield 702, .iload 1, .baload, .ifCond .ne 24, .sipush (-2), .ireturn] := by decide +kernel
theorem b_X7_back_24 : codeZ 178 24 = [.aload 0, .sipush (0), .sipush (63), .iload 1, .sipush (1), .iadd, .imul, .invokevirtual 176, .aload 0, .getfield 700, .sipush (42), .iaload, .ireturn] := by decide +kernel
theorem b_X7_isSheet_0 : codeZ 179 0 = [.iload 0, .i2l, .jsr (0), .jsr (3), .invokestatic 101, .ifCond .eq 28, .iload 1, .i2l, .jsr (0), .jsr (2), .invokestatic 101, .ifCond .eq 28, .sipush (1), .goto 29] := by decide +kernel
theorem b_X7_isSheet_28 : codeZ 179 28 = [.sipush (0), .ireturn] := by decide +kernel
theorem b_X7_isSheet_29 : codeZ 179 29 = [.ireturn] := by decide +kernel
theorem b_X7_sheet_0 : codeZ 180 0 = [.iload 1, .iload 2, .invokestatic 179, .ifCond .eq 14, .iload 3, .sipush (40), .if_icmp .le 16, .sipush (-1), .ireturn] := by decide +kernel
theorem b_X7_sheet_14 : codeZ 180 14 = [.sipush (-1), .ireturn] := by decide +kernel
theorem b_X7_sheet_16 : codeZ 180 16 = [.iload 3, .ifCond .ge 23, .sipush (-14), .ireturn] := by decide +kernel
theorem b_X7_sheet_23 : codeZ 180 23 = [.aload 0, .getfield 724, .iload 1, .iload 2, .iastore, .aload 0, .getfield 725, .iload 1, .iload 3, .iastore, .sipush (0), .istore 4, .goto_w 40] := by decide +kernel
theorem b_X7_sheet_40 : codeZ 180 40 = [.iload 4, .sipush (40), .if_icmp .ge 66, .aload 0, .getfield 726, .sipush (40), .iload 1, .imul, .iload 4, .iadd, .sipush (0), .iastore, .iinc 4 (1), .goto 40] := by decide +kernel
theorem b_X7_sheet_66 : codeZ 180 66 = [.sipush (1), .ireturn] := by decide +kernel
theorem b_X7_lay_0 : codeZ 181 0 = [.iload 1, .sipush (0), .invokestatic 179, .ifCond .ne 10, .sipush (-1), .ireturn] := by decide +kernel
theorem b_X7_lay_10 : codeZ 181 10 = [.aload 0, .getfield 724, .iload 1, .iaload, .sipush (-4), .if_icmp .ne 24, .sipush (-11), .ireturn] := by decide +kernel
theorem b_X7_lay_24 : codeZ 181 24 = [.iload 2, .i2l, .jsr (0), .aload 0, .getfield 725, .iload 1, .iaload, .sipush (1), .isub, .i2l, .invokestatic 101, .ifCond .ne 45, .sipush (-12), .ireturn] := by decide +kernel
theorem b_X7_lay_45 : codeZ 181 45 = [.aload 0, .getfield 726, .sipush (40), .iload 1, .imul, .iload 2, .iadd, .aload 0, .getfield 724, .iload 1, .iaload, .ifCond .ne 69, .iload 3, .i2b, .goto 85] := by decide +kernel
theorem b_X7_lay_69 : codeZ 181 69 = [.aload 0, .getfield 724, .iload 1, .iaload, .sipush (1), .if_icmp .ne 84, .iload 3, .i2s, .goto 85] := by decide +kernel
theorem b_X7_lay_84 : codeZ 181 84 = [.iload 3, .iastore, .sipush (1), .ireturn] := by decide +kernel
theorem b_X7_lay_85 : codeZ 181 85 = [.iastore, .sipush (1), .ireturn] := by decide +kernel
theorem b_X7_read_0 : codeZ 182 0 = [.iload 1, .iload 2, .invokestatic 179, .ifCond .eq 21, .iload 4, .i2l, .jsr (0), .jsr (20), .invokestatic 101, .ifCond .ne 23, .sipush (-1), .ireturn] := by decide +kernel
theorem b_X7_read_21 : codeZ 182 21 = [.sipush (-1), .ireturn] := by decide +kernel
theorem b_X7_read_23 : codeZ 182 23 = [.sipush (0), .istore 5, .goto_w 26] := by decide +kernel
theorem b_X7_read_26 : codeZ 182 26 = [.iload 5, .sipush (63), .if_icmp .ge 53, .aload 0, .getfield 728, .iload 5, .aload 0, .getfield 700, .iload 5, .iaload, .iastore, .iinc 5 (1), .goto 26] := by decide +kernel
theorem b_X7_read_53 : codeZ 182 53 = [.sipush (0), .istore 5, .sipush (0), .istore 6, .sipush (0), .istore 7, .goto_w 62] := by decide +kernel
theorem b_X7_read_62 : codeZ 182 62 = [.iload 7, .iload 4, .if_icmp .ge 252, .iload 5, .ifCond .ne 252, .sipush (0), .istore 8, .goto_w 77] := by decide +kernel
theorem b_X7_read_77 : codeZ 182 77 = [.iload 8, .sipush (2), .if_icmp .ge 164, .iload 5, .ifCond .ne 164, .iload 3, .i2l, .sipush (2), .iload 7, .imul, .i2l, .ladd, .iload 8, .i2l, .ladd, .lstore 9, .aload 0, .getfield 724, .iload 1, .iaload, .sipush (-4), .if_icmp .ne 117, .sipush (1), .goto 156] := by decide +kernel
theorem b_X7_read_117 : codeZ 182 117 = [.aload 0, .getfield 724, .iload 1, .iaload, .iload 2, .if_icmp .eq 131, .sipush (3), .goto 156] := by decide +kernel
theorem b_X7_read_131 : codeZ 182 131 = [.lload 9, .jsr (0), .lcmp, .ifCond .lt 151, .lload 9, .aload 0, .getfield 725, .iload 1, .iaload, .i2l, .lcmp, .ifCond .lt 155, .sipush (2), .goto 156] := by decide +kernel
theorem b_X7_read_151 : codeZ 182 151 = [.sipush (2), .goto 156] := by decide +kernel
theorem b_X7_read_155 : codeZ 182 155 = [.sipush (0), .istore 5, .iinc 8 (1), .goto 77] := by decide +kernel
theorem b_X7_read_156 : codeZ 182 156 = [.istore 5, .iinc 8 (1), .goto 77] := by decide +kernel
theorem b_X7_read_164 : codeZ 182 164 = [.iload 5, .ifCond .ne 246, .sipush (40), .iload 1, .imul, .iload 3, .iadd, .sipush (2), .iload 7, .imul, .iadd, .istore 8, .aload 0, .aload 0, .getfield 726, .iload 8, .iaload, .aload 0, .getfield 726, .iload 8, .sipush (1), .iadd, .iaload, .sipush (0), .sipush (0), .invokevirtual 147, .ifCond .ge 243, .sipush (0), .istore 9, .goto_w 210] := by decide +kernel
theorem b_X7_read_210 : codeZ 182 210 = [.iload 9, .sipush (63), .if_icmp .ge 237, .aload 0, .getfield 700, .iload 9, .aload 0, .getfield 728, .iload 9, .iaload, .iastore, .iinc 9 (1), .goto 210] := by decide +kernel
theorem b_X7_read_237 : codeZ 182 237 = [.sipush (-20), .iload 7, .isub, .ireturn] := by decide +kernel
theorem b_X7_read_243 : codeZ 182 243 = [.iinc 6 (1), .iinc 7 (1), .goto 62] := by decide +kernel
theorem b_X7_read_246 : codeZ 182 246 = [.iinc 7 (1), .goto 62] := by decide +kernel
theorem b_X7_read_252 : codeZ 182 252 = [.aload 0, .iload 5, .putfield 727, .iload 6, .ireturn] := by decide +kernel
theorem b_X7_torn_0 : codeZ 183 0 = [.aload 0, .getfield 727, .ireturn] := by decide +kernel
theorem b_X7_count_0 : codeZ 184 0 = [.aload 0, .invokevirtual 123, .sipush (0), .istore 2, .sipush (0), .istore 3, .goto_w 8] := by decide +kernel
theorem b_X7_count_8 : codeZ 184 8 = [.iload 3, .aload 0, .getfield 701, .sipush (38), .iaload, .if_icmp .ge 46, .iload 2, .aload 0, .iload 3, .sipush (4), .invokevirtual 125, .ifCond .ne 37, .aload 0, .iload 3, .invokevirtual 129, .goto 38] := by decide +kernel
theorem b_X7_count_37 : codeZ 184 37 = [.sipush (0), .iadd, .istore 2, .iinc 3 (1), .goto 8] := by decide +kernel
theorem b_X7_count_38 : codeZ 184 38 = [.iadd, .istore 2, .iinc 3 (1), .goto 8] := by decide +kernel
theorem b_X7_count_46 : codeZ 184 46 = [.iload 1, .tableswitch 147 (0) (5) #[84, 89, 97, 117, 122, 145]] := by decide +kernel
theorem b_X7_count_84 : codeZ 184 84 = [.aload 0, .invokevirtual 134, .ireturn] := by decide +kernel
theorem b_X7_count_89 : codeZ 184 89 = [.aload 0, .getfield 700, .sipush (44), .iaload, .ireturn] := by decide +kernel
theorem b_X7_count_97 : codeZ 184 97 = [.aload 0, .getfield 702, .sipush (0), .baload, .invokestatic 102, .aload 0, .getfield 702, .sipush (1), .baload, .invokestatic 102, .iadd, .ireturn] := by decide +kernel
theorem b_X7_count_117 : codeZ 184 117 = [.aload 0, .getfield 709, .ireturn] := by decide +kernel
theorem b_X7_count_122 : codeZ 184 122 = [.aload 0, .getfield 724, .sipush (0), .iaload, .sipush (-4), .if_icmp .ne 138, .sipush (-4), .goto 144] := by decide +kernel
theorem b_X7_count_138 : codeZ 184 138 = [.aload 0, .getfield 725, .sipush (0), .iaload, .ireturn] := by decide +kernel
theorem b_X7_count_144 : codeZ 184 144 = [.ireturn] := by decide +kernel
theorem b_X7_count_145 : codeZ 184 145 = [.iload 2, .ireturn] := by decide +kernel
theorem b_X7_count_147 : codeZ 184 147 = [.sipush (-1), .ireturn] := by decide +kernel
theorem b_J6_bitCount_0f7a4_0 : codeZ 185 0 = [.iload 0, .iload 0, .sipush (1), .iushr, .sipush (1431655765), .iand, .isub, .istore 0, .iload 0, .sipush (858993459), .iand, .iload 0, .sipush (2), .iushr, .sipush (858993459), .iand, .iadd, .istore 0, .iload 0, .iload 0, .sipush (4), .iushr, .iadd, .sipush (252645135), .iand, .istore 0, .iload 0, .iload 0, .sipush (8), .iushr, .iadd, .istore 0, .iload 0, .iload 0, .sipush (16), .iushr, .iadd, .istore 0, .iload 0, .sipush (63), .iand, .ireturn] := by decide +kernel
end
section
/-! THE OBJECTS of a ProofFine (0 to 67) and of a ProofFineModel (68 to 80) -/
def worldE (w : Nat) : List ShE := [.inl (5, [0, 0, 0, 0, 0, 0, 0, 0, w + 4, w + 5, w + 6, w + 7, w + 8, w + 9, w + 10, w + 11]), .inr (0, 4, []), .inr (0, 4, []), .inr (0, 4, []), .inr (0, 6, []), .inr (0, 6, []), .inr (0, 6, []), .inr (0, 6, []), .inr (0, 6, [])]
def seenE (w : Nat) : List ShE := [.inl (2, [0, w + 4, w + 5, w + 6]), .inr (0, 6, []), .inr (0, 6, []), .inr (0, 6, [])]
def sheetE (w : Nat) : List ShE := [.inl (1, [2, 0, w + 4, 0]), .inr (0, 40, [])]
def modelE (w : Nat) : List ShE := [.inl (7, [w + 4, w + 5, w + 6, 0, w + 7, 0, 0, 0, w + 8, 0, 0, 0, 0, 0, 0, 0, w + 9, 0, 0, 1, 1, 1, w + 10, w + 11, w + 12, w + 13, w + 14, 0, w + 15]), .inr (0, 189, []), .inr (0, 63, []), .inr (1, 2, []), .inr (0, 63, []), .inr (0, 160, []), .inr (0, 4, []), .inr (0, 60, []), .inr (0, 40, []), .inr (0, 4, []), .inr (0, 4, []), .inr (0, 160, []), .inr (0, 63, [])]
def shP : List ShE := .inl (6, [4, 13, 22, 26, 30, 31, 32, 33, 34, 0]) :: (worldE 1 ++ (worldE 10 ++ (seenE 19 ++ ([.inl (4, [27, 0, 0, 29, 0]), .inl (3, [0, 0, 0, 28]), .inr (0, 160, []), .inr (0, 3, []), .inr (2, 2, [32, 46]), .inr (3, 4, [60, 62, 64, 66]), .inr (0, 4, []), .inr (0, 4, []), .inr (0, 40, [])] ++ ((.inl (0, [2, 36, 45]) :: worldE 33) ++ (seenE 42 ++ ((.inl (0, [2, 50, 59]) :: worldE 47) ++ (seenE 56 ++ (sheetE 60 ++ (sheetE 62 ++ (sheetE 64 ++ (sheetE 66 ++ modelE 68))))))))))))
theorem shP_ok : shOK shP = true := by decide +kernel
theorem shP_len : shP.length = 81 := by decide +kernel
/-! lists -/
theorem ld_0 (v : Value) (L : List Value) : ldL (v :: L) 0 = v := rfl
theorem ld_s (v : Value) (L : List Value) (i : Nat) : ldL (v :: L) (i + 1) = ldL L i := rfl
theorem st_0 (a v : Value) (L : List Value) : stL (a :: L) 0 v = v :: L := rfl
theorem st_i (x : Int32) (b v : Value) (L : List Value) : stL (.int x :: b :: L) 1 v = .int x :: v :: L := rfl
theorem st_r (x : Nat) (b v : Value) (L : List Value) : stL (.ref x :: b :: L) 1 v = .ref x :: v :: L := rfl
theorem st_n (b v : Value) (L : List Value) : stL (noV :: b :: L) 1 v = noV :: v :: L := rfl
theorem st_l (x : Int64) (b v : Value) (L : List Value) : stL (.long x :: b :: L) 1 v = noV :: v :: L := rfl
theorem st_s (a v : Value) (L : List Value) (i : Nat) : stL (a :: L) (i + 2) v = a :: stL L (i + 1) v := by
  show ((if (L.getD i noV).category = 2 then _ else _) : List Value).set (i + 2) v = a :: ((if (L.getD i noV).category = 2 then _ else _) : List Value).set (i + 1) v
  split <;> rfl
theorem s2_e (L : List Value) (i : Nat) (v : Value) : st2 L i v = (stL L i v).set (i + 1) noV := rfl
theorem LV : (∀ (v : Value) (L : List Value), ldL (v :: L) 0 = v) ∧ (∀ (v : Value) (L : List Value) (i : Nat), ldL (v :: L) (i + 1) = ldL L i) ∧ (∀ (a v : Value) (L : List Value), stL (a :: L) 0 v = v :: L) ∧ (∀ (x : Int32) (b v : Value) (L : List Value), stL (.int x :: b :: L) 1 v = .int x :: v :: L) ∧ (∀ (x : Nat) (b v : Value) (L : List Value), stL (.ref x :: b :: L) 1 v = .ref x :: v :: L) ∧ (∀ (b v : Value) (L : List Value), stL (noV :: b :: L) 1 v = noV :: v :: L) ∧ (∀ (x : Int64) (b v : Value) (L : List Value), stL (.long x :: b :: L) 1 v = noV :: v :: L) ∧ (∀ (a v : Value) (L : List Value) (i : Nat), stL (a :: L) (i + 2) v = a :: stL L (i + 1) v) ∧ (∀ (L : List Value) (i : Nat) (v : Value), st2 L i v = (stL L i v).set (i + 1) noV) ∧ (∀ (a b : Value) (L : List Value), (a :: L).set 0 b = b :: L) ∧ (∀ (a b : Value) (L : List Value) (i : Nat), (a :: L).set (i + 1) b = a :: L.set i b) :=
  ⟨ld_0, ld_s, st_0, st_i, st_r, st_n, st_l, st_s, s2_e, fun _ _ _ => rfl, fun _ _ _ _ => rfl⟩
/-! rows of an object of a kind, wherever it lies -/
theorem al_of {sh : List ShE} {o n : Nat} {rs : List Nat} (h : sh[o]? = some (.inr (0, n, rs))) (tb : Nat → Option (List Int32)) (i : Int32) (m : Mm) : alI sh tb 0 o i m = if inR i n = true then some (m.1 o i.toNatClampNeg) else none := by
  unfold alI
  rw [h]
  simp
theorem as_of {sh : List ShE} {o n : Nat} {rs : List Nat} (h : sh[o]? = some (.inr (0, n, rs))) (i x : Int32) (m : Mm) : asI sh 0 o i x m = if inR i n = true then some (wI m o i.toNatClampNeg x) else none := by
  unfold asI
  rw [h]
  simp
theorem az_of {sh : List ShE} {o n : Nat} {rs : List Nat} (h : sh[o]? = some (.inr (1, n, rs))) (tb : Nat → Option (List Int32)) (i : Int32) (m : Mm) : alI sh tb 1 o i m = if inR i n = true then some (m.1 o i.toNatClampNeg) else none := by
  unfold alI
  rw [h]
  simp
theorem sz_of {sh : List ShE} {o n : Nat} {rs : List Nat} (h : sh[o]? = some (.inr (1, n, rs))) (i x : Int32) (m : Mm) : asI sh 1 o i x m = if inR i n = true ∧ (x = 0 ∨ x = 1) then some (wI m o i.toNatClampNeg x) else none := by
  unfold asI
  rw [h]
  simp
/-- a World at w -/
def WSh (sh : List ShE) (w : Nat) : Prop := sh[w]? = some (.inl (5, [0, 0, 0, 0, 0, 0, 0, 0, w + 4, w + 5, w + 6, w + 7, w + 8, w + 9, w + 10, w + 11])) ∧ sh[w + 1]? = some (.inr (0, 4, [])) ∧ sh[w + 2]? = some (.inr (0, 4, [])) ∧ sh[w + 3]? = some (.inr (0, 4, [])) ∧ sh[w + 4]? = some (.inr (0, 6, [])) ∧ sh[w + 5]? = some (.inr (0, 6, [])) ∧ sh[w + 6]? = some (.inr (0, 6, [])) ∧ sh[w + 7]? = some (.inr (0, 6, [])) ∧ sh[w + 8]? = some (.inr (0, 6, []))
theorem gW {sh : List ShE} {w : Nat} (h : WSh sh w) : clO sh w = some 5 ∧ (∀ m : Mm, gfI sh 500 w m = some (.int (m.1 w 0)) ∧ gfI sh 501 w m = some (.int (m.1 w 1)) ∧ gfI sh 502 w m = some (.int (m.1 w 2)) ∧ gfI sh 503 w m = some (.int (m.1 w 3)) ∧ gfI sh 504 w m = some (.int (m.1 w 4)) ∧ gfI sh 505 w m = some (.int (m.1 w 5)) ∧ gfI sh 506 w m = some (.int (m.1 w 6)) ∧ gfI sh 507 w m = some (.int (m.1 w 7)) ∧ gfI sh 508 w m = some (.ref (w + 1)) ∧ gfI sh 509 w m = some (.ref (w + 2)) ∧ gfI sh 510 w m = some (.ref (w + 3)) ∧ gfI sh 511 w m = some (.ref (w + 4)) ∧ gfI sh 512 w m = some (.ref (w + 5)) ∧ gfI sh 513 w m = some (.ref (w + 6)) ∧ gfI sh 514 w m = some (.ref (w + 7)) ∧ gfI sh 515 w m = some (.ref (w + 8))) := by
  have e := h.1
  refine ⟨by unfold clO; rw [e], fun m => ?_⟩
  unfold gfI
  rw [e]
  exact ⟨rfl, rfl, rfl, rfl, rfl, rfl, rfl, rfl, rfl, rfl, rfl, rfl, rfl, rfl, rfl, rfl⟩
theorem pW {sh : List ShE} {w : Nat} (h : WSh sh w) (m : Mm) : (∀ x : Int32, pfI sh 500 w (.int x) m = some (wI m w 0 x)) ∧ (∀ x : Int32, pfI sh 501 w (.int x) m = some (wI m w 1 x)) ∧ (∀ x : Int32, pfI sh 502 w (.int x) m = some (wI m w 2 x)) ∧ (∀ x : Int32, pfI sh 503 w (.int x) m = some (wI m w 3 x)) ∧ (∀ x : Int32, pfI sh 504 w (.int x) m = some (wI m w 4 x)) ∧ (∀ x : Int32, pfI sh 505 w (.int x) m = some (wI m w 5 x)) ∧ (∀ x : Int32, pfI sh 506 w (.int x) m = some (wI m w 6 x)) ∧ (∀ x : Int32, pfI sh 507 w (.int x) m = some (wI m w 7 x)) := by
  have e := h.1
  unfold pfI
  rw [e]
  exact ⟨fun _ => rfl, fun _ => rfl, fun _ => rfl, fun _ => rfl, fun _ => rfl, fun _ => rfl, fun _ => rfl, fun _ => rfl⟩
theorem aW {sh : List ShE} {w : Nat} (h : WSh sh w) : (∀ (tb : Nat → Option (List Int32)) (i : Int32) (m : Mm), alI sh tb 0 (w + 1) i m = if inR i 4 = true then some (m.1 (w + 1) i.toNatClampNeg) else none) ∧ (∀ (tb : Nat → Option (List Int32)) (i : Int32) (m : Mm), alI sh tb 0 (w + 2) i m = if inR i 4 = true then some (m.1 (w + 2) i.toNatClampNeg) else none) ∧ (∀ (tb : Nat → Option (List Int32)) (i : Int32) (m : Mm), alI sh tb 0 (w + 3) i m = if inR i 4 = true then some (m.1 (w + 3) i.toNatClampNeg) else none) ∧ (∀ (tb : Nat → Option (List Int32)) (i : Int32) (m : Mm), alI sh tb 0 (w + 4) i m = if inR i 6 = true then some (m.1 (w + 4) i.toNatClampNeg) else none) ∧ (∀ (tb : Nat → Option (List Int32)) (i : Int32) (m : Mm), alI sh tb 0 (w + 5) i m = if inR i 6 = true then some (m.1 (w + 5) i.toNatClampNeg) else none) ∧ (∀ (tb : Nat → Option (List Int32)) (i : Int32) (m : Mm), alI sh tb 0 (w + 6) i m = if inR i 6 = true then some (m.1 (w + 6) i.toNatClampNeg) else none) ∧ (∀ (tb : Nat → Option (List Int32)) (i : Int32) (m : Mm), alI sh tb 0 (w + 7) i m = if inR i 6 = true then some (m.1 (w + 7) i.toNatClampNeg) else none) ∧ (∀ (tb : Nat → Option (List Int32)) (i : Int32) (m : Mm), alI sh tb 0 (w + 8) i m = if inR i 6 = true then some (m.1 (w + 8) i.toNatClampNeg) else none) := by
  obtain ⟨-, h0, h1, h2, h3, h4, h5, h6, h7⟩ := h
  exact ⟨al_of h0, al_of h1, al_of h2, al_of h3, al_of h4, al_of h5, al_of h6, al_of h7⟩
theorem sW {sh : List ShE} {w : Nat} (h : WSh sh w) : (∀ (i x : Int32) (m : Mm), asI sh 0 (w + 1) i x m = if inR i 4 = true then some (wI m (w + 1) i.toNatClampNeg x) else none) ∧ (∀ (i x : Int32) (m : Mm), asI sh 0 (w + 2) i x m = if inR i 4 = true then some (wI m (w + 2) i.toNatClampNeg x) else none) ∧ (∀ (i x : Int32) (m : Mm), asI sh 0 (w + 3) i x m = if inR i 4 = true then some (wI m (w + 3) i.toNatClampNeg x) else none) ∧ (∀ (i x : Int32) (m : Mm), asI sh 0 (w + 4) i x m = if inR i 6 = true then some (wI m (w + 4) i.toNatClampNeg x) else none) ∧ (∀ (i x : Int32) (m : Mm), asI sh 0 (w + 5) i x m = if inR i 6 = true then some (wI m (w + 5) i.toNatClampNeg x) else none) ∧ (∀ (i x : Int32) (m : Mm), asI sh 0 (w + 6) i x m = if inR i 6 = true then some (wI m (w + 6) i.toNatClampNeg x) else none) ∧ (∀ (i x : Int32) (m : Mm), asI sh 0 (w + 7) i x m = if inR i 6 = true then some (wI m (w + 7) i.toNatClampNeg x) else none) ∧ (∀ (i x : Int32) (m : Mm), asI sh 0 (w + 8) i x m = if inR i 6 = true then some (wI m (w + 8) i.toNatClampNeg x) else none) := by
  obtain ⟨-, h0, h1, h2, h3, h4, h5, h6, h7⟩ := h
  exact ⟨as_of h0, as_of h1, as_of h2, as_of h3, as_of h4, as_of h5, as_of h6, as_of h7⟩
/-- Sightings at w -/
def SSh (sh : List ShE) (w : Nat) : Prop := sh[w]? = some (.inl (2, [0, w + 4, w + 5, w + 6])) ∧ sh[w + 1]? = some (.inr (0, 6, [])) ∧ sh[w + 2]? = some (.inr (0, 6, [])) ∧ sh[w + 3]? = some (.inr (0, 6, []))
theorem gS {sh : List ShE} {w : Nat} (h : SSh sh w) : clO sh w = some 2 ∧ (∀ m : Mm, gfI sh 200 w m = some (.int (m.1 w 0)) ∧ gfI sh 201 w m = some (.ref (w + 1)) ∧ gfI sh 202 w m = some (.ref (w + 2)) ∧ gfI sh 203 w m = some (.ref (w + 3))) := by
  have e := h.1
  refine ⟨by unfold clO; rw [e], fun m => ?_⟩
  unfold gfI
  rw [e]
  exact ⟨rfl, rfl, rfl, rfl⟩
theorem pS {sh : List ShE} {w : Nat} (h : SSh sh w) (m : Mm) : (∀ x : Int32, pfI sh 200 w (.int x) m = some (wI m w 0 x)) := by
  have e := h.1
  unfold pfI
  rw [e]
  exact fun _ => rfl
theorem aS {sh : List ShE} {w : Nat} (h : SSh sh w) : (∀ (tb : Nat → Option (List Int32)) (i : Int32) (m : Mm), alI sh tb 0 (w + 1) i m = if inR i 6 = true then some (m.1 (w + 1) i.toNatClampNeg) else none) ∧ (∀ (tb : Nat → Option (List Int32)) (i : Int32) (m : Mm), alI sh tb 0 (w + 2) i m = if inR i 6 = true then some (m.1 (w + 2) i.toNatClampNeg) else none) ∧ (∀ (tb : Nat → Option (List Int32)) (i : Int32) (m : Mm), alI sh tb 0 (w + 3) i m = if inR i 6 = true then some (m.1 (w + 3) i.toNatClampNeg) else none) := by
  obtain ⟨-, h0, h1, h2⟩ := h
  exact ⟨al_of h0, al_of h1, al_of h2⟩
theorem sS {sh : List ShE} {w : Nat} (h : SSh sh w) : (∀ (i x : Int32) (m : Mm), asI sh 0 (w + 1) i x m = if inR i 6 = true then some (wI m (w + 1) i.toNatClampNeg x) else none) ∧ (∀ (i x : Int32) (m : Mm), asI sh 0 (w + 2) i x m = if inR i 6 = true then some (wI m (w + 2) i.toNatClampNeg x) else none) ∧ (∀ (i x : Int32) (m : Mm), asI sh 0 (w + 3) i x m = if inR i 6 = true then some (wI m (w + 3) i.toNatClampNeg x) else none) := by
  obtain ⟨-, h0, h1, h2⟩ := h
  exact ⟨as_of h0, as_of h1, as_of h2⟩
/-- a Sheet at w -/
def HSh (sh : List ShE) (w : Nat) : Prop := sh[w]? = some (.inl (1, [2, 0, w + 4, 0])) ∧ sh[w + 1]? = some (.inr (0, 40, []))
theorem gH {sh : List ShE} {w : Nat} (h : HSh sh w) : clO sh w = some 1 ∧ (∀ m : Mm, gfI sh 100 w m = some (.int (m.1 w 0)) ∧ gfI sh 101 w m = some (.int (m.1 w 1)) ∧ gfI sh 102 w m = some (.ref (w + 1)) ∧ gfI sh 103 w m = some (.int (m.1 w 3))) := by
  have e := h.1
  refine ⟨by unfold clO; rw [e], fun m => ?_⟩
  unfold gfI
  rw [e]
  exact ⟨rfl, rfl, rfl, rfl⟩
theorem pH {sh : List ShE} {w : Nat} (h : HSh sh w) (m : Mm) : (∀ x : Int32, pfI sh 100 w (.int x) m = if x = 0 ∨ x = 1 then some (wI m w 0 x) else none) ∧ (∀ x : Int32, pfI sh 101 w (.int x) m = some (wI m w 1 x)) ∧ (∀ x : Int32, pfI sh 103 w (.int x) m = some (wI m w 3 x)) := by
  have e := h.1
  unfold pfI
  rw [e]
  exact ⟨fun _ => rfl, fun _ => rfl, fun _ => rfl⟩
theorem aH {sh : List ShE} {w : Nat} (h : HSh sh w) : (∀ (tb : Nat → Option (List Int32)) (i : Int32) (m : Mm), alI sh tb 0 (w + 1) i m = if inR i 40 = true then some (m.1 (w + 1) i.toNatClampNeg) else none) := by
  obtain ⟨-, h0⟩ := h
  exact al_of h0
theorem sH {sh : List ShE} {w : Nat} (h : HSh sh w) : (∀ (i x : Int32) (m : Mm), asI sh 0 (w + 1) i x m = if inR i 40 = true then some (wI m (w + 1) i.toNatClampNeg x) else none) := by
  obtain ⟨-, h0⟩ := h
  exact as_of h0
/-- a ProofFineModel at w -/
def MSh (sh : List ShE) (w : Nat) : Prop := sh[w]? = some (.inl (7, [w + 4, w + 5, w + 6, 0, w + 7, 0, 0, 0, w + 8, 0, 0, 0, 0, 0, 0, 0, w + 9, 0, 0, 1, 1, 1, w + 10, w + 11, w + 12, w + 13, w + 14, 0, w + 15])) ∧ sh[w + 1]? = some (.inr (0, 189, [])) ∧ sh[w + 2]? = some (.inr (0, 63, [])) ∧ sh[w + 3]? = some (.inr (1, 2, [])) ∧ sh[w + 4]? = some (.inr (0, 63, [])) ∧ sh[w + 5]? = some (.inr (0, 160, [])) ∧ sh[w + 6]? = some (.inr (0, 4, [])) ∧ sh[w + 7]? = some (.inr (0, 60, [])) ∧ sh[w + 8]? = some (.inr (0, 40, [])) ∧ sh[w + 9]? = some (.inr (0, 4, [])) ∧ sh[w + 10]? = some (.inr (0, 4, [])) ∧ sh[w + 11]? = some (.inr (0, 160, [])) ∧ sh[w + 12]? = some (.inr (0, 63, []))
theorem gM {sh : List ShE} {w : Nat} (h : MSh sh w) : clO sh w = some 7 ∧ (∀ m : Mm, gfI sh 700 w m = some (.ref (w + 1)) ∧ gfI sh 701 w m = some (.ref (w + 2)) ∧ gfI sh 702 w m = some (.ref (w + 3)) ∧ gfI sh 703 w m = some (.int (m.1 w 3)) ∧ gfI sh 704 w m = some (.ref (w + 4)) ∧ gfI sh 705 w m = some (.int (m.1 w 5)) ∧ gfI sh 706 w m = some (.int (m.1 w 6)) ∧ gfI sh 707 w m = some (.int (m.1 w 7)) ∧ gfI sh 708 w m = some (.ref (w + 5)) ∧ gfI sh 709 w m = some (.int (m.1 w 9)) ∧ gfI sh 710 w m = some (.int (m.1 w 10)) ∧ gfI sh 711 w m = some (.int (m.1 w 11)) ∧ gfI sh 712 w m = some (.int (m.1 w 12)) ∧ gfI sh 713 w m = some (.int (m.1 w 13)) ∧ gfI sh 714 w m = some (.int (m.1 w 14)) ∧ gfI sh 715 w m = some (.int (m.1 w 15)) ∧ gfI sh 716 w m = some (.ref (w + 6)) ∧ gfI sh 717 w m = some (.int (m.1 w 17)) ∧ gfI sh 718 w m = some (.int (m.1 w 18)) ∧ gfI sh 719 w m = some (.long (m.2 w 19)) ∧ gfI sh 720 w m = some (.long (m.2 w 20)) ∧ gfI sh 721 w m = some (.long (m.2 w 21)) ∧ gfI sh 722 w m = some (.ref (w + 7)) ∧ gfI sh 723 w m = some (.ref (w + 8)) ∧ gfI sh 724 w m = some (.ref (w + 9)) ∧ gfI sh 725 w m = some (.ref (w + 10)) ∧ gfI sh 726 w m = some (.ref (w + 11)) ∧ gfI sh 727 w m = some (.int (m.1 w 27)) ∧ gfI sh 728 w m = some (.ref (w + 12))) := by
  have e := h.1
  refine ⟨by unfold clO; rw [e], fun m => ?_⟩
  unfold gfI
  rw [e]
  exact ⟨rfl, rfl, rfl, rfl, rfl, rfl, rfl, rfl, rfl, rfl, rfl, rfl, rfl, rfl, rfl, rfl, rfl, rfl, rfl, rfl, rfl, rfl, rfl, rfl, rfl, rfl, rfl, rfl, rfl⟩
theorem pM {sh : List ShE} {w : Nat} (h : MSh sh w) (m : Mm) : (∀ x : Int32, pfI sh 703 w (.int x) m = some (wI m w 3 x)) ∧ (∀ x : Int32, pfI sh 705 w (.int x) m = some (wI m w 5 x)) ∧ (∀ x : Int32, pfI sh 706 w (.int x) m = some (wI m w 6 x)) ∧ (∀ x : Int32, pfI sh 707 w (.int x) m = some (wI m w 7 x)) ∧ (∀ x : Int32, pfI sh 709 w (.int x) m = some (wI m w 9 x)) ∧ (∀ x : Int32, pfI sh 710 w (.int x) m = some (wI m w 10 x)) ∧ (∀ x : Int32, pfI sh 711 w (.int x) m = some (wI m w 11 x)) ∧ (∀ x : Int32, pfI sh 712 w (.int x) m = some (wI m w 12 x)) ∧ (∀ x : Int32, pfI sh 713 w (.int x) m = some (wI m w 13 x)) ∧ (∀ x : Int32, pfI sh 714 w (.int x) m = some (wI m w 14 x)) ∧ (∀ x : Int32, pfI sh 715 w (.int x) m = some (wI m w 15 x)) ∧ (∀ x : Int32, pfI sh 717 w (.int x) m = some (wI m w 17 x)) ∧ (∀ x : Int32, pfI sh 718 w (.int x) m = some (wI m w 18 x)) ∧ (∀ x : Int64, pfI sh 719 w (.long x) m = some (wL m w 19 x)) ∧ (∀ x : Int64, pfI sh 720 w (.long x) m = some (wL m w 20 x)) ∧ (∀ x : Int64, pfI sh 721 w (.long x) m = some (wL m w 21 x)) ∧ (∀ x : Int32, pfI sh 727 w (.int x) m = some (wI m w 27 x)) := by
  have e := h.1
  unfold pfI
  rw [e]
  exact ⟨fun _ => rfl, fun _ => rfl, fun _ => rfl, fun _ => rfl, fun _ => rfl, fun _ => rfl, fun _ => rfl, fun _ => rfl, fun _ => rfl, fun _ => rfl, fun _ => rfl, fun _ => rfl, fun _ => rfl, fun _ => rfl, fun _ => rfl, fun _ => rfl, fun _ => rfl⟩
theorem aM {sh : List ShE} {w : Nat} (h : MSh sh w) : (∀ (tb : Nat → Option (List Int32)) (i : Int32) (m : Mm), alI sh tb 0 (w + 1) i m = if inR i 189 = true then some (m.1 (w + 1) i.toNatClampNeg) else none) ∧ (∀ (tb : Nat → Option (List Int32)) (i : Int32) (m : Mm), alI sh tb 0 (w + 2) i m = if inR i 63 = true then some (m.1 (w + 2) i.toNatClampNeg) else none) ∧ (∀ (tb : Nat → Option (List Int32)) (i : Int32) (m : Mm), alI sh tb 1 (w + 3) i m = if inR i 2 = true then some (m.1 (w + 3) i.toNatClampNeg) else none) ∧ (∀ (tb : Nat → Option (List Int32)) (i : Int32) (m : Mm), alI sh tb 0 (w + 4) i m = if inR i 63 = true then some (m.1 (w + 4) i.toNatClampNeg) else none) ∧ (∀ (tb : Nat → Option (List Int32)) (i : Int32) (m : Mm), alI sh tb 0 (w + 5) i m = if inR i 160 = true then some (m.1 (w + 5) i.toNatClampNeg) else none) ∧ (∀ (tb : Nat → Option (List Int32)) (i : Int32) (m : Mm), alI sh tb 0 (w + 6) i m = if inR i 4 = true then some (m.1 (w + 6) i.toNatClampNeg) else none) ∧ (∀ (tb : Nat → Option (List Int32)) (i : Int32) (m : Mm), alI sh tb 0 (w + 7) i m = if inR i 60 = true then some (m.1 (w + 7) i.toNatClampNeg) else none) ∧ (∀ (tb : Nat → Option (List Int32)) (i : Int32) (m : Mm), alI sh tb 0 (w + 8) i m = if inR i 40 = true then some (m.1 (w + 8) i.toNatClampNeg) else none) ∧ (∀ (tb : Nat → Option (List Int32)) (i : Int32) (m : Mm), alI sh tb 0 (w + 9) i m = if inR i 4 = true then some (m.1 (w + 9) i.toNatClampNeg) else none) ∧ (∀ (tb : Nat → Option (List Int32)) (i : Int32) (m : Mm), alI sh tb 0 (w + 10) i m = if inR i 4 = true then some (m.1 (w + 10) i.toNatClampNeg) else none) ∧ (∀ (tb : Nat → Option (List Int32)) (i : Int32) (m : Mm), alI sh tb 0 (w + 11) i m = if inR i 160 = true then some (m.1 (w + 11) i.toNatClampNeg) else none) ∧ (∀ (tb : Nat → Option (List Int32)) (i : Int32) (m : Mm), alI sh tb 0 (w + 12) i m = if inR i 63 = true then some (m.1 (w + 12) i.toNatClampNeg) else none) := by
  obtain ⟨-, h0, h1, h2, h3, h4, h5, h6, h7, h8, h9, h10, h11⟩ := h
  exact ⟨al_of h0, al_of h1, az_of h2, al_of h3, al_of h4, al_of h5, al_of h6, al_of h7, al_of h8, al_of h9, al_of h10, al_of h11⟩
theorem sM {sh : List ShE} {w : Nat} (h : MSh sh w) : (∀ (i x : Int32) (m : Mm), asI sh 0 (w + 1) i x m = if inR i 189 = true then some (wI m (w + 1) i.toNatClampNeg x) else none) ∧ (∀ (i x : Int32) (m : Mm), asI sh 0 (w + 2) i x m = if inR i 63 = true then some (wI m (w + 2) i.toNatClampNeg x) else none) ∧ (∀ (i x : Int32) (m : Mm), asI sh 1 (w + 3) i x m = if inR i 2 = true ∧ (x = 0 ∨ x = 1) then some (wI m (w + 3) i.toNatClampNeg x) else none) ∧ (∀ (i x : Int32) (m : Mm), asI sh 0 (w + 4) i x m = if inR i 63 = true then some (wI m (w + 4) i.toNatClampNeg x) else none) ∧ (∀ (i x : Int32) (m : Mm), asI sh 0 (w + 5) i x m = if inR i 160 = true then some (wI m (w + 5) i.toNatClampNeg x) else none) ∧ (∀ (i x : Int32) (m : Mm), asI sh 0 (w + 6) i x m = if inR i 4 = true then some (wI m (w + 6) i.toNatClampNeg x) else none) ∧ (∀ (i x : Int32) (m : Mm), asI sh 0 (w + 7) i x m = if inR i 60 = true then some (wI m (w + 7) i.toNatClampNeg x) else none) ∧ (∀ (i x : Int32) (m : Mm), asI sh 0 (w + 8) i x m = if inR i 40 = true then some (wI m (w + 8) i.toNatClampNeg x) else none) ∧ (∀ (i x : Int32) (m : Mm), asI sh 0 (w + 9) i x m = if inR i 4 = true then some (wI m (w + 9) i.toNatClampNeg x) else none) ∧ (∀ (i x : Int32) (m : Mm), asI sh 0 (w + 10) i x m = if inR i 4 = true then some (wI m (w + 10) i.toNatClampNeg x) else none) ∧ (∀ (i x : Int32) (m : Mm), asI sh 0 (w + 11) i x m = if inR i 160 = true then some (wI m (w + 11) i.toNatClampNeg x) else none) ∧ (∀ (i x : Int32) (m : Mm), asI sh 0 (w + 12) i x m = if inR i 63 = true then some (wI m (w + 12) i.toNatClampNeg x) else none) := by
  obtain ⟨-, h0, h1, h2, h3, h4, h5, h6, h7, h8, h9, h10, h11⟩ := h
  exact ⟨as_of h0, as_of h1, sz_of h2, as_of h3, as_of h4, as_of h5, as_of h6, as_of h7, as_of h8, as_of h9, as_of h10, as_of h11⟩
theorem inR_nI {k n : Nat} (h : k < n) (hn : n < 2 ^ 31) : inR (nI k) n = true := by
  unfold inR
  rw [nI_clamp (by omega)]
  simp only [Bool.and_eq_true, decide_eq_true_eq]
  exact ⟨nI_pos' (by omega), h⟩
theorem WP1 : WSh shP 1 := ⟨rfl, rfl, rfl, rfl, rfl, rfl, rfl, rfl, rfl⟩
theorem WP10 : WSh shP 10 := ⟨rfl, rfl, rfl, rfl, rfl, rfl, rfl, rfl, rfl⟩
theorem WP33 : WSh shP 33 := ⟨rfl, rfl, rfl, rfl, rfl, rfl, rfl, rfl, rfl⟩
theorem WP47 : WSh shP 47 := ⟨rfl, rfl, rfl, rfl, rfl, rfl, rfl, rfl, rfl⟩
theorem MP68 : MSh shP 68 := ⟨rfl, rfl, rfl, rfl, rfl, rfl, rfl, rfl, rfl, rfl, rfl, rfl, rfl⟩
theorem SP19 : SSh shP 19 := ⟨rfl, rfl, rfl, rfl⟩
theorem SP42 : SSh shP 42 := ⟨rfl, rfl, rfl, rfl⟩
theorem SP56 : SSh shP 56 := ⟨rfl, rfl, rfl, rfl⟩
theorem HP60 : HSh shP 60 := ⟨rfl, rfl⟩
theorem HP62 : HSh shP 62 := ⟨rfl, rfl⟩
theorem HP64 : HSh shP 64 := ⟨rfl, rfl⟩
theorem HP66 : HSh shP 66 := ⟨rfl, rfl⟩
end
section
/-! memories by rows -/
def setR (m : Mm) (o : Nat) (f : Nat → Int32) : Mm := (va_up m.1 o f, m.2)
theorem wI_R (m : Mm) (o j : Nat) (x : Int32) : wI m o j x = setR m o (upd (m.1 o) j x) := rfl
theorem setR_s (m : Mm) (o : Nat) (f : Nat → Int32) : (setR m o f).1 o = f := up_s _ _ _
theorem setR_n (m : Mm) {o o' : Nat} (f : Nat → Int32) (h : o' ≠ o) : (setR m o f).1 o' = m.1 o' := up_n _ _ h
theorem setR_2 (m : Mm) (o : Nat) (f : Nat → Int32) : (setR m o f).2 = m.2 := rfl
theorem setR_R (m : Mm) (o : Nat) (f g : Nat → Int32) : setR (setR m o f) o g = setR m o g := by
  simp only [setR, bx_uu]
theorem setR_id (m : Mm) (o : Nat) : setR m o (m.1 o) = m := by
  have : va_up m.1 o (m.1 o) = m.1 := by
    funext j
    by_cases h : j = o
    · rw [h, up_s]
    · rw [up_n _ _ h]
  unfold setR
  rw [this]
theorem setR_at (m : Mm) (o o' : Nat) (f : Nat → Int32) : (setR m o f).1 o' = if o' = o then f else m.1 o' := rfl
def fillR (f g : Nat → Int32) (i : Nat) : Nat → Int32 := fun j => if j < i then f j else g j
theorem fillR_0 (f g : Nat → Int32) : fillR f g 0 = g := by funext j; simp [fillR]
theorem fillR_s (f g : Nat → Int32) (i : Nat) : upd (fillR f g i) i (f i) = fillR f g (i + 1) := by
  funext j
  simp only [upd, fillR]
  by_cases h : j = i
  · subst h; simp
  · rw [if_neg h]
    by_cases h2 : j < i
    · rw [if_pos h2, if_pos (by omega)]
    · rw [if_neg h2, if_neg (by omega)]
theorem OZ : (∀ x : Int32, okZ (some .int) x = true) ∧ okZ (some .boolean) 0 = true ∧ okZ (some .boolean) 1 = true ∧ (∀ n : String, isRefT (some (.object n)) = true) ∧ (∀ t : FieldType, isRefT (some (.array t)) = true) := ⟨fun _ => rfl, by decide +kernel, by decide +kernel, fun _ => rfl, fun _ => rfl⟩
section First
variable {sh : List ShE} {w : Nat} (wS : List Value → Mm → Option Rs) (d : Nat)
theorem t_turns_l (hw : WSh sh w) (m : Mm) (g : Nat → Int32) : ∀ (k i : Nat), i + k = 4 → rn sh tb0 mN mO (semZ sh wS d) none (codeZ 24) 2 [.ref w, .int (nI i)] [] (setR m (w + 3) (fillR nI g i)) = some (none, setR m (w + 3) (fillR nI g 4)) := by
  intro k
  induction k with
  | zero =>
    intro i hi
    have e0 : i = 4 := by omega
    subst e0
    rw [rn_eq, b_X5_takeTurnsByNumber_2]
    simp only [EV, LV, CB, OI, OL, NP, CZ, popN, CT, OZ, List.map_nil, List.map_cons, List.sum_nil, List.sum_cons, Option.toList, List.nil_append, List.cons_append, Int.reduceToNat, Nat.reduceAdd, Nat.reduceLT, Nat.reduceLeDiff, List.length_cons, List.length_nil, Nat.zero_add, if_true, if_false, reduceIte, and_self, and_true, true_and, eq_self, reduceCtorEq]
    have e1 : (4 : Int32) ≤ nI 4 := by decide +kernel
    simp only [e1, EV, LV, CB, OI, OL, NP, CZ, popN, CT, OZ, List.map_nil, List.map_cons, List.sum_nil, List.sum_cons, Option.toList, List.nil_append, List.cons_append, Int.reduceToNat, Nat.reduceAdd, Nat.reduceLT, Nat.reduceLeDiff, List.length_cons, List.length_nil, Nat.zero_add, if_true, if_false, reduceIte, and_self, and_true, true_and, eq_self, reduceCtorEq]
    rw [rn_eq, b_X5_takeTurnsByNumber_20]
    simp only [EV, LV, CB, OI, OL, NP, CZ, popN, CT, OZ, List.map_nil, List.map_cons, List.sum_nil, List.sum_cons, Option.toList, List.nil_append, List.cons_append, Int.reduceToNat, Nat.reduceAdd, Nat.reduceLT, Nat.reduceLeDiff, List.length_cons, List.length_nil, Nat.zero_add, if_true, if_false, reduceIte, and_self, and_true, true_and, eq_self, reduceCtorEq]
  | succ k ih =>
    intro i hi
    have e1 : ¬ (4 : Int32) ≤ nI i := nI_ge (a := i) (b := 4) (by omega) (by omega)
    have e2 : inR (nI i) 4 = true := inR_nI (by omega) (by omega)
    have e3 : (nI i).toNatClampNeg = i := nI_clamp (by omega)
    rw [rn_eq, b_X5_takeTurnsByNumber_2]
    simp only [EV, LV, CB, OI, OL, NP, CZ, popN, CT, OZ, List.map_nil, List.map_cons, List.sum_nil, List.sum_cons, Option.toList, List.nil_append, List.cons_append, Int.reduceToNat, Nat.reduceAdd, Nat.reduceLT, Nat.reduceLeDiff, List.length_cons, List.length_nil, Nat.zero_add, if_true, if_false, reduceIte, and_self, and_true, true_and, eq_self, reduceCtorEq, gW hw, sW hw, e1, e2, e3, wI_R, setR_s, setR_R, fillR_s, nI_1]
    exact ih (i + 1) (by omega)
theorem t_turns (hw : WSh sh w) (m : Mm) : semZ sh wS (d + 1) 24 [.ref w] m = some (none, setR m (w + 3) (fillR nI (m.1 (w + 3)) 4)) := by
  rw [se_X5_takeTurnsByNumber, rn_eq, b_X5_takeTurnsByNumber_0]
  simp only [EV, LV, CB, OI, OL, NP, CZ, popN, CT, OZ, List.map_nil, List.map_cons, List.sum_nil, List.sum_cons, Option.toList, List.nil_append, List.cons_append, Int.reduceToNat, Nat.reduceAdd, Nat.reduceLT, Nat.reduceLeDiff, List.length_cons, List.length_nil, Nat.zero_add, if_true, if_false, reduceIte, and_self, and_true, true_and, eq_self, reduceCtorEq]
  have h := t_turns_l wS d hw m (m.1 (w + 3)) 4 0 rfl
  rw [fillR_0, setR_id] at h
  exact h
/-- the fields of a new World -/
def newF (f : Nat → Int32) : Nat → Int32 := upd (upd (upd (upd (upd (upd (upd (upd f 0 0) 1 0) 2 5) 3 46) 4 5) 5 0) 6 0) 7 0
theorem t_clear (hw : WSh sh w) (m : Mm) : semZ sh wS (d + 2) 23 [.ref w] m = some (none, setR (setR m w (newF (m.1 w))) (w + 3) (fillR nI (m.1 (w + 3)) 4)) := by
  rw [se_X5_clear, rn_eq, b_X5_clear_0]
  simp only [EV, LV, CB, OI, OL, NP, CZ, popN, CT, OZ, List.map_nil, List.map_cons, List.sum_nil, List.sum_cons, Option.toList, List.nil_append, List.cons_append, Int.reduceToNat, Nat.reduceAdd, Nat.reduceLT, Nat.reduceLeDiff, List.length_cons, List.length_nil, Nat.zero_add, if_true, if_false, reduceIte, and_self, and_true, true_and, eq_self, reduceCtorEq, gW hw, pW hw, wI_R, setR_s, setR_R, t_turns wS d hw]
  have e : w + 3 ≠ w := by omega
  simp only [setR_n _ _ e, newF]
theorem t_first_l (hw : MSh sh w) (m : Mm) (g : Nat → Int32) : ∀ (k i : Nat), i + k = 63 → rn sh tb0 mN mO (semZ sh wS d) none (codeZ 103) 2 [.ref w, .int (nI i)] [] (setR m (w + 4) (fillR (fun _ => 0) g i)) = rn sh tb0 mN mO (semZ sh wS d) none (codeZ 103) 21 [.ref w, .int 63] [] (setR m (w + 4) (fillR (fun _ => 0) g 63)) := by
  intro k
  induction k with
  | zero =>
    intro i hi
    have e0 : i = 63 := by omega
    subst e0
    rw [rn_eq, b_X7_firstDraft_2]
    have e1 : (63 : Int32) ≤ nI 63 := by decide +kernel
    simp only [e1, EV, LV, CB, OI, OL, NP, CZ, popN, CT, OZ, List.map_nil, List.map_cons, List.sum_nil, List.sum_cons, Option.toList, List.nil_append, List.cons_append, Int.reduceToNat, Nat.reduceAdd, Nat.reduceLT, Nat.reduceLeDiff, List.length_cons, List.length_nil, Nat.zero_add, if_true, if_false, reduceIte, and_self, and_true, true_and, eq_self, reduceCtorEq]
    rfl
  | succ k ih =>
    intro i hi
    have e1 : ¬ (63 : Int32) ≤ nI i := nI_ge (a := i) (b := 63) (by omega) (by omega)
    have e2 : inR (nI i) 63 = true := inR_nI (by omega) (by omega)
    have e3 : (nI i).toNatClampNeg = i := nI_clamp (by omega)
    have e4 := fillR_s (fun _ => 0) g i
    rw [rn_eq, b_X7_firstDraft_2]
    simp only [EV, LV, CB, OI, OL, NP, CZ, popN, CT, OZ, List.map_nil, List.map_cons, List.sum_nil, List.sum_cons, Option.toList, List.nil_append, List.cons_append, Int.reduceToNat, Nat.reduceAdd, Nat.reduceLT, Nat.reduceLeDiff, List.length_cons, List.length_nil, Nat.zero_add, if_true, if_false, reduceIte, and_self, and_true, true_and, eq_self, reduceCtorEq, gM hw, sM hw, e1, e2, e3, wI_R, setR_s, setR_R, e4, nI_1]
    exact ih (i + 1) (by omega)
theorem in_39 : inR 39 63 = true ∧ inR 40 63 = true ∧ inR 41 63 = true ∧ (39 : Int32).toNatClampNeg = 39 ∧ (40 : Int32).toNatClampNeg = 40 ∧ (41 : Int32).toNatClampNeg = 41 := by decide +kernel
theorem in_01 : inR 0 2 = true ∧ inR 1 2 = true ∧ (0 : Int32).toNatClampNeg = 0 ∧ (1 : Int32).toNatClampNeg = 1 := by decide +kernel
/-- the first draft -/
def dr0 (g : Nat → Int32) : Nat → Int32 := upd (upd (upd (fillR (fun _ => 0) g 63) 39 5) 40 46) 41 5
theorem t_firstDraft (hw : MSh sh w) (m : Mm) : semZ sh wS (d + 1) 103 [.ref w] m = some (none, setR (setR m (w + 4) (dr0 (m.1 (w + 4)))) w (upd (upd (upd (m.1 w) 5 0) 6 0) 7 (-4))) := by
  rw [se_X7_firstDraft, rn_eq, b_X7_firstDraft_0]
  simp only [EV, LV, CB, OI, OL, NP, CZ, popN, CT, OZ, List.map_nil, List.map_cons, List.sum_nil, List.sum_cons, Option.toList, List.nil_append, List.cons_append, Int.reduceToNat, Nat.reduceAdd, Nat.reduceLT, Nat.reduceLeDiff, List.length_cons, List.length_nil, Nat.zero_add, if_true, if_false, reduceIte, and_self, and_true, true_and, eq_self, reduceCtorEq]
  have h := t_first_l wS d hw m (m.1 (w + 4)) 63 0 rfl
  rw [fillR_0, setR_id] at h
  have e : w ≠ w + 4 := by omega
  refine Eq.trans h ?_
  rw [rn_eq, b_X7_firstDraft_21]
  simp only [EV, LV, CB, OI, OL, NP, CZ, popN, CT, OZ, List.map_nil, List.map_cons, List.sum_nil, List.sum_cons, Option.toList, List.nil_append, List.cons_append, Int.reduceToNat, Nat.reduceAdd, Nat.reduceLT, Nat.reduceLeDiff, List.length_cons, List.length_nil, Nat.zero_add, if_true, if_false, reduceIte, and_self, and_true, true_and, eq_self, reduceCtorEq, gM hw, pM hw, sM hw, in_39, wI_R, setR_s, setR_R, setR_n _ _ e, dr0]
theorem t_keep_l (hw : MSh sh w) (m : Mm) (g : Nat → Int32) : ∀ (k i : Nat), i + k = 63 → rn sh tb0 mN mO (semZ sh wS d) none (codeZ 104) 2 [.ref w, .int (nI i)] [] (setR m (w + 1) (fillR (m.1 (w + 4)) g i)) = rn sh tb0 mN mO (semZ sh wS d) none (codeZ 104) 26 [.ref w, .int 63] [] (setR m (w + 1) (fillR (m.1 (w + 4)) g 63)) := by
  intro k
  induction k with
  | zero =>
    intro i hi
    have e0 : i = 63 := by omega
    subst e0
    rw [rn_eq, b_X7_keepDraft_2]
    have e1 : (63 : Int32) ≤ nI 63 := by decide +kernel
    simp only [e1, EV, LV, CB, OI, OL, NP, CZ, popN, CT, OZ, List.map_nil, List.map_cons, List.sum_nil, List.sum_cons, Option.toList, List.nil_append, List.cons_append, Int.reduceToNat, Nat.reduceAdd, Nat.reduceLT, Nat.reduceLeDiff, List.length_cons, List.length_nil, Nat.zero_add, if_true, if_false, reduceIte, and_self, and_true, true_and, eq_self, reduceCtorEq]
    rfl
  | succ k ih =>
    intro i hi
    have e1 : ¬ (63 : Int32) ≤ nI i := nI_ge (a := i) (b := 63) (by omega) (by omega)
    have e2 : inR (nI i) 63 = true := inR_nI (by omega) (by omega)
    have e5 : inR (nI i) 189 = true := inR_nI (by omega) (by omega)
    have e3 : (nI i).toNatClampNeg = i := nI_clamp (by omega)
    have e4 := fillR_s (m.1 (w + 4)) g i
    have e : w + 4 ≠ w + 1 := by omega
    rw [rn_eq, b_X7_keepDraft_2]
    simp only [EV, LV, CB, OI, OL, NP, CZ, popN, CT, OZ, List.map_nil, List.map_cons, List.sum_nil, List.sum_cons, Option.toList, List.nil_append, List.cons_append, Int.reduceToNat, Nat.reduceAdd, Nat.reduceLT, Nat.reduceLeDiff, List.length_cons, List.length_nil, Nat.zero_add, if_true, if_false, reduceIte, and_self, and_true, true_and, eq_self, reduceCtorEq, gM hw, sM hw, aM hw, e1, e2, e3, e5, wI_R, setR_s, setR_n _ _ e, setR_R, e4, nI_1]
    exact ih (i + 1) (by omega)
theorem t_keepDraft (hw : MSh sh w) (m : Mm) : semZ sh wS (d + 1) 104 [.ref w] m = some (none, setR (setR (setR m (w + 1) (fillR (m.1 (w + 4)) (m.1 (w + 1)) 63)) w (upd (m.1 w) 3 (m.1 w 5))) (w + 3) (upd (upd (m.1 (w + 3)) 0 0) 1 0)) := by
  rw [se_X7_keepDraft, rn_eq, b_X7_keepDraft_0]
  simp only [EV, LV, CB, OI, OL, NP, CZ, popN, CT, OZ, List.map_nil, List.map_cons, List.sum_nil, List.sum_cons, Option.toList, List.nil_append, List.cons_append, Int.reduceToNat, Nat.reduceAdd, Nat.reduceLT, Nat.reduceLeDiff, List.length_cons, List.length_nil, Nat.zero_add, if_true, if_false, reduceIte, and_self, and_true, true_and, eq_self, reduceCtorEq]
  have h := t_keep_l wS d hw m (m.1 (w + 1)) 63 0 rfl
  rw [fillR_0, setR_id] at h
  have e : w ≠ w + 1 := by omega
  have e2 : w + 3 ≠ w := by omega
  have e3 : w + 3 ≠ w + 1 := by omega
  refine Eq.trans h ?_
  rw [rn_eq, b_X7_keepDraft_26]
  simp only [EV, LV, CB, OI, OL, NP, CZ, popN, CT, OZ, List.map_nil, List.map_cons, List.sum_nil, List.sum_cons, Option.toList, List.nil_append, List.cons_append, Int.reduceToNat, Nat.reduceAdd, Nat.reduceLT, Nat.reduceLeDiff, List.length_cons, List.length_nil, Nat.zero_add, if_true, if_false, reduceIte, and_self, and_true, true_and, eq_self, reduceCtorEq, gM hw, pM hw, sM hw, in_01, wI_R, setR_s, setR_R, setR_n _ _ e, setR_n _ _ e2, setR_n _ _ e3, true_or]
end First
end
