section
/-! THE CHECKER: an abstract machine over bounds; what it lets pass returns -/
/-- bounds and stride (0: one number) -/
abbrev AI : Type := Int × Int × Nat
/-- what is known if a number isn't 0: a source and its bounds -/
abbrev IM : Type := List (Nat × Int × Int)
/-- a value: nothing known; a whole number: bounds, one number more that it may be, its source (0 none, k + 1 local k, 1000 + 200 o + j a cell), which local it was at the block's begin and how far off, what holds if it isn't 0; a reference; a long with bounds and source -/
abbrev AV : Type := Option ((AI × Option Int × Nat × (Nat × Int) × IM) ⊕ (List Nat ⊕ (Int × Int × Nat)))
/-- locals, stack, bounds of single cells -/
abbrev AS : Type := List AV × List AV × IM
def cel (m : Mm) (c : Nat) : Int := (m.1 (c / 200) (c % 200)).toInt
def gN (a : AI) (e : Option Int) (x : Int) : Prop := e = some x ∨ (a.1 ≤ x ∧ x ≤ a.2.1 ∧ (a.2.2 : Int) ∣ x - a.1)
def srcV (L : List Value) (m : Mm) (s : Nat) (x : Int) : Prop := s = 0 ∨ (0 < s ∧ s < 1000 ∧ ∃ y : Int32, ldL L (s - 1) = .int y ∧ y.toInt = x) ∨ (1000 ≤ s ∧ cel m (s - 1000) = x)
def srcB (L : List Value) (m : Mm) (q : Nat × Int × Int) : Prop := (0 < q.1 ∧ q.1 < 1000 ∧ ∃ y : Int32, ldL L (q.1 - 1) = .int y ∧ q.2.1 ≤ y.toInt ∧ y.toInt ≤ q.2.2) ∨ (1000 ≤ q.1 ∧ q.2.1 ≤ cel m (q.1 - 1000) ∧ cel m (q.1 - 1000) ≤ q.2.2)
def orgV (L0 : List Value) (o : Nat × Int) (x : Int) : Prop := o.1 = 0 ∨ ∃ y : Int32, ldL L0 (o.1 - 1) = .int y ∧ x = y.toInt + o.2
def gv (L0 L : List Value) (m : Mm) (a : AV) (v : Value) : Prop := match a with
  | none => True
  | some (.inl (ai, e, s, o, im)) => ∃ x : Int32, v = .int x ∧ gN ai e x.toInt ∧ srcV L m s x.toInt ∧ orgV L0 o x.toInt ∧ (x.toInt ≠ 0 → ∀ q ∈ im, srcB L m q)
  | some (.inr (.inl rs)) => ∃ r, v = .ref r ∧ r ∈ rs
  | some (.inr (.inr (lo, hi, s))) => ∃ x : Int64, v = .long x ∧ lo ≤ x.toInt ∧ x.toInt ≤ hi ∧ srcV L m s x.toInt
def gT (L0 L : List Value) (m : Mm) : List AV → List Value → Prop
  | [], [] => True
  | a :: as, v :: vs => gv L0 L m a v ∧ gT L0 L m as vs
  | _, _ => False
def rho (m : Mm) (R : IM) : Prop := ∀ q ∈ R, q.2.1 ≤ cel m q.1 ∧ cel m q.1 ≤ q.2.2
/-- what may be written: whole objects, single cells -/
abbrev Wr : Type := List Nat × List Nat
def frm (W : Wr) (mE m : Mm) : Prop := ∀ o j, j < 200 → o ∉ W.1 → o * 200 + j ∉ W.2 → m.1 o j = mE.1 o j ∧ m.2 o j = mE.2 o j
/-- the bounds of every cell: a row of bounds for each object, repeated -/
def ivO (T : List (List (Int × Int))) (o j : Nat) : Int × Int := (T.getD o []).getD (j % (T.getD o []).length) (-2147483648, 2147483647)
def InvT (T : List (List (Int × Int))) (m : Mm) : Prop := ∀ o j, (ivO T o j).1 ≤ (m.1 o j).toInt ∧ (m.1 o j).toInt ≤ (ivO T o j).2
def gL (L0 L : List Value) (m : Mm) (as : List AV) : Prop := as.length = L.length ∧ ∀ i a, as[i]? = some a → gv L0 L m a (ldL L i)
def gZ (T : List (List (Int × Int))) (W : Wr) (mE : Mm) (L0 : List Value) (S : AS) (L st : List Value) (m : Mm) : Prop := gL L0 L m S.1 ∧ gT L0 L m S.2.1 st ∧ InvT T m ∧ rho m S.2.2 ∧ frm W mE m
/-- without the origin too -/
def cle (a : AV) : AV := match a with
  | some (.inl (ai, e, _, _, _)) => some (.inl (ai, e, 0, (0, 0), []))
  | some (.inr (.inr (lo, hi, _))) => some (.inr (.inr (lo, hi, 0)))
  | a => a
/-- a contract: method, arguments, cells' bounds ahead, answer, cells' bounds behind, what it writes, what holds of arguments if the answer isn't 0 -/
abbrev CE : Type := Nat × List AV × IM × AV × IM × Wr × IM
def retG (a : AV) (v : Option Value) : Prop := match a, v with
  | none, none => True
  | some b, some v => gv [] [] (fun _ _ => 0, fun _ _ => 0) (cle (some b)) v
  | _, _ => False
def valI (v : Value) : Option Int := match v with
  | .int x => some x.toInt
  | .long x => some x.toInt
  | _ => none
def impG (im : IM) (As : List Value) (v : Option Value) (m' : Mm) : Prop := ∀ x : Int32, v = some (.int x) → x.toInt ≠ 0 → ∀ q ∈ im, (q.1 < 1000 ∧ ∃ (w : Value) (y : Int), As[q.1]? = some w ∧ valI w = some y ∧ q.2.1 ≤ y ∧ y ≤ q.2.2) ∨ (1000 ≤ q.1 ∧ q.2.1 ≤ cel m' (q.1 - 1000) ∧ cel m' (q.1 - 1000) ≤ q.2.2)
def Hd (T : List (List (Int × Int))) (C : CallS) (c : CE) : Prop := ∀ (As : List Value) (m : Mm), gT [] [] m (c.2.1.map cle) As → InvT T m → rho m c.2.2.1 → ∃ v m', C c.1 As m = some (v, m') ∧ retG c.2.2.2.1 v ∧ InvT T m' ∧ rho m' c.2.2.2.2.1 ∧ frm c.2.2.2.2.2.1 m m' ∧ impG c.2.2.2.2.2.2 As v m'
/-! what the abstract machine does -/
def cst (n : Int) : AV := some (.inl ((n, n, 0), none, 0, (0, 0), []))
def tI : AV := some (.inl ((-2147483648, 2147483647, 1), none, 0, (0, 0), []))
def iA (lo hi : Int) : AV := some (.inl ((lo, hi, 1), none, 0, (0, 0), []))
def tJ : AV := some (.inr (.inr (-9223372036854775808, 9223372036854775807, 0)))
def hul (a : AI) (e : Option Int) : AI := match e with
  | none => a
  | some x => if a.1 ≤ a.2.1 then (if x < a.1 then x else a.1, if a.2.1 < x then x else a.2.1, 1) else (x, x, 0)
def in32 (lo hi : Int) : Bool := decide (-2147483648 ≤ lo) && decide (hi ≤ 2147483647)
def clr (a : AV) : AV := match a with
  | some (.inl (ai, e, _, o, _)) => some (.inl (ai, e, 0, o, []))
  | some (.inr (.inr (lo, hi, _))) => some (.inr (.inr (lo, hi, 0)))
  | a => a
def preA (as : List AV) (i : Nat) : List AV := match i with
  | 0 => as
  | k + 1 => match as[k]? with
    | some (some (.inl _)) => as
    | some (some (.inr (.inl _))) => as
    | _ => as.set k none
def addA (a b : AV) : Option AV := match a, b with
  | some (.inl (ai, e, _, o, _)), some (.inl (bi, f, _, _, _)) => if bi.1 = bi.2.1 ∧ f = none then (if in32 ((hul ai e).1 + bi.1) ((hul ai e).2.1 + bi.1) = true then some (some (.inl (((hul ai e).1 + bi.1, (hul ai e).2.1 + bi.1, (hul ai e).2.2), none, 0, (if o.1 = 0 then (0, 0) else (o.1, o.2 + bi.1)), []))) else some tI)
    else if in32 ((hul ai e).1 + (hul bi f).1) ((hul ai e).2.1 + (hul bi f).2.1) = true then some (some (.inl (((hul ai e).1 + (hul bi f).1, (hul ai e).2.1 + (hul bi f).2.1, Nat.gcd (hul ai e).2.2 (hul bi f).2.2), none, 0, (0, 0), []))) else some tI
  | _, _ => none
def subA (a b : AV) : Option AV := match a, b with
  | some (.inl (ai, e, _, o, _)), some (.inl (bi, f, _, _, _)) => if bi.1 = bi.2.1 ∧ f = none then (if in32 ((hul ai e).1 - bi.1) ((hul ai e).2.1 - bi.1) = true then some (some (.inl (((hul ai e).1 - bi.1, (hul ai e).2.1 - bi.1, (hul ai e).2.2), none, 0, (if o.1 = 0 then (0, 0) else (o.1, o.2 - bi.1)), []))) else if in32 ((hul ai e).1 - bi.1 + 4294967296) ((hul ai e).2.1 - bi.1 + 4294967296) = true then some (iA ((hul ai e).1 - bi.1 + 4294967296) ((hul ai e).2.1 - bi.1 + 4294967296)) else some tI)
    else if in32 ((hul ai e).1 - (hul bi f).2.1) ((hul ai e).2.1 - (hul bi f).1) = true then some (iA ((hul ai e).1 - (hul bi f).2.1) ((hul ai e).2.1 - (hul bi f).1)) else some tI
  | _, _ => none
/-- a number times a number that isn't negative; a constant keeps the stride -/
def mulA (a b : AV) : Option AV := match a, b with
  | some (.inl (ai, e, _, _, _)), some (.inl (bi, f, _, _, _)) => if 0 ≤ (hul ai e).1 ∧ 0 ≤ (hul bi f).1 ∧ in32 ((hul ai e).1 * (hul bi f).1) ((hul ai e).2.1 * (hul bi f).2.1) = true then some (some (.inl (((hul ai e).1 * (hul bi f).1, (hul ai e).2.1 * (hul bi f).2.1, if bi.1 = bi.2.1 ∧ f = none then (hul ai e).2.2 * bi.1.toNat else if ai.1 = ai.2.1 ∧ e = none then (hul bi f).2.2 * ai.1.toNat else 1), none, 0, (0, 0), []))) else some tI
  | _, _ => none
def remA (a b : AV) : Option AV := match a, b with
  | some (.inl (ai, e, _, _, _)), some (.inl (bi, f, _, _, _)) => if 0 < (hul bi f).1 then some (iA (if 0 ≤ (hul ai e).1 then 0 else 1 - (hul bi f).2.1) ((hul bi f).2.1 - 1)) else none
  | _, _ => none
def divA (a b : AV) : Option AV := match a, b with
  | some (.inl (ai, e, _, _, _)), some (.inl (bi, f, _, _, _)) => if 0 < (hul bi f).1 then (if 0 ≤ (hul ai e).1 then some (iA 0 (hul ai e).2.1) else some tI) else none
  | _, _ => none
def andA (a b : AV) : Option AV := match a, b with
  | some (.inl _), some (.inl (bi, f, _, _, _)) => if 0 ≤ (hul bi f).1 then some (iA 0 (hul bi f).2.1) else some tI
  | _, _ => none
/-- one shifted -/
def shlA (a b : AV) : Option AV := match a, b with
  | some (.inl (ai, e, _, _, _)), some (.inl (bi, f, _, _, _)) => if ai.1 = 1 ∧ ai.2.1 = 1 ∧ e = none ∧ 0 ≤ (hul bi f).1 ∧ (hul bi f).2.1 ≤ 30 then some (iA 1 ((2 ^ (hul bi f).2.1.toNat : Nat) : Int)) else some tI
  | _, _ => none
def anyA (a b : AV) : Option AV := match a, b with
  | some (.inl _), some (.inl _) => some tI
  | _, _ => none
def bop (F : AV → AV → Option AV) (S : AS) : Option AS := match S.2.1 with
  | b :: a :: st => match F a b with
    | some c => some (S.1, c :: st, S.2.2)
    | none => none
  | _ => none
def wLo (S : AS) (i : Nat) (a : AV) (st : List AV) : AS := ((preA (S.1.map clr) i).set i (clr a), st.map clr, S.2.2)
def isI (a : AV) : Bool := match a with
  | some (.inl _) => true
  | _ => false
def isJ (a : AV) : Bool := match a with
  | some (.inr (.inr _)) => true
  | _ => false
def is1 (a : AV) : Bool := match a with
  | some (.inl _) => true
  | some (.inr (.inl _)) => true
  | _ => false
/-- words of a value, at most -/
def catA (a : AV) : Nat := if is1 a = true then 1 else 2
section Abs
variable (sh : List ShE) (T : List (List (Int × Int))) (Tc : List CE) (W : Wr)
/-- bounds of a cell -/
def celI (R : IM) (c : Nat) : Int × Int := match R.lookup c with
  | some b => b
  | none => ivO T (c / 200) (c % 200)
/-- the kind of field k of object o -/
def fk (k o : Nat) : Option Nat := match sh[o]? with
  | some (.inl (ci, fs)) => if ci = k / 100 then fs[k % 100]? else none
  | _ => none
def cd (o j : Nat) : Nat := o * 200 + j
/-- least and greatest of a row of bounds -/
def mnB (l : List (Int × Int)) : Int × Int := match l with
  | [] => (0, 0)
  | b :: l => l.foldl (fun x y => (if y.1 < x.1 then y.1 else x.1, if x.2 < y.2 then y.2 else x.2)) b
def covB (b : Int × Int) (l : List (Int × Int)) : Bool := l.all (fun x => decide (b.1 ≤ x.1) && decide (x.2 ≤ b.2))
def getA (k : Nat) (rs : List Nat) (R : IM) : Option AV :=
  if rs.all (fun o => fk sh k o == some 0 || fk sh k o == some 2) = true then (if covB (mnB (rs.map (fun o => celI T R (cd o (k % 100))))) (rs.map (fun o => celI T R (cd o (k % 100)))) = true then some (some (.inl (((mnB (rs.map (fun o => celI T R (cd o (k % 100))))).1, (mnB (rs.map (fun o => celI T R (cd o (k % 100))))).2, 1), none, (match rs with | [o] => 1000 + cd o (k % 100) | _ => 0), (0, 0), []))) else none)
  else if rs.all (fun o => fk sh k o == some 1) = true then some tJ
  else if rs.all (fun o => match fk sh k o with | some (_ + 3) => true | _ => false) = true then some (some (.inr (.inl (rs.map (fun o => (fk sh k o).getD 0 - 3)))))
  else none
def inW (o j : Nat) : Bool := W.1.contains o || W.2.contains (cd o j)
/-- forget single cells -/
def dropC (R : IM) (P : Nat → Bool) : IM := R.filter (fun q => !(P q.1))
def putA (k : Nat) (rs : List Nat) (a : AV) (R : IM) : Option IM := match a with
  | some (.inl (ai, e, _, _, _)) => if rs.all (fun o => (fk sh k o == some 0 || (fk sh k o == some 2 && decide (0 ≤ (hul ai e).1) && decide ((hul ai e).2.1 ≤ 1))) && decide ((ivO T o (k % 100)).1 ≤ (hul ai e).1) && decide ((hul ai e).2.1 ≤ (ivO T o (k % 100)).2) && inW W o (k % 100)) = true then some ((match rs with | [o] => [(cd o (k % 100), (hul ai e).1, (hul ai e).2.1)] | _ => []) ++ dropC R (fun c => rs.any (fun o => c == cd o (k % 100)))) else none
  | some (.inr (.inr _)) => if rs.all (fun o => fk sh k o == some 1 && inW W o (k % 100)) = true then some R else none
  | _ => none
/-- the places that an index may be -/
def plA (a : AI) : List Nat := if a.2.2 = 0 then [a.1.toNat] else (List.range ((a.2.1 - a.1).toNat / a.2.2 + 1)).map (fun t => a.1.toNat + a.2.2 * t)
/-- is o an array of kind kd that holds these places; bounds of what lies there -/
def arA (kd o : Nat) (a : AI) (R : IM) : Option (List (Int × Int)) := match sh[o]? with
  | some (.inr (k, n, _)) => if k = kd ∧ 0 ≤ a.1 ∧ a.2.1 < n ∧ n ≤ 200 then some (if (T.getD o []).length = 1 ∧ R = [] then [ivO T o 0] else (plA a).map (fun j => celI T R (cd o j))) else none
  | some (.inl _) => none
  | none => match tb0 o with
    | some Q => if kd = 0 ∧ 0 ≤ a.1 ∧ a.2.1 < Q.length then some (Q.map (fun x => (x.toInt, x.toInt))) else none
    | none => none
def aldA (kd : Nat) (rs : List Nat) (a : AI) (R : IM) : Option AV :=
  if rs.all (fun o => (arA sh T kd o a R).isSome && covB (mnB (rs.flatMap (fun o => (arA sh T kd o a R).getD []))) ((arA sh T kd o a R).getD [])) = true then some (some (.inl (((mnB (rs.flatMap (fun o => (arA sh T kd o a R).getD []))).1, (mnB (rs.flatMap (fun o => (arA sh T kd o a R).getD []))).2, 1), none, (match rs with | [o] => if a.1 = a.2.1 ∧ o < 1000 then 1000 + cd o a.1.toNat else 0 | _ => 0), (0, 0), []))) else none
def astA (kd : Nat) (rs : List Nat) (a v : AI) (R : IM) : Option IM :=
  if rs.all (fun o => (match sh[o]? with | some (.inr (k, n, _)) => decide (k = kd ∧ 0 ≤ a.1 ∧ a.2.1 < n ∧ n ≤ 200) | _ => false) && (if (T.getD o []).length = 1 then decide ((ivO T o 0).1 ≤ v.1) && decide (v.2.1 ≤ (ivO T o 0).2) else (plA a).all (fun j => decide ((ivO T o j).1 ≤ v.1) && decide (v.2.1 ≤ (ivO T o j).2))) && (kd == 0 || (decide (0 ≤ v.1) && decide (v.2.1 ≤ 1))) && (W.1.contains o || (plA a).all (fun j => W.2.contains (cd o j)))) = true then some ((match rs with | [o] => if a.1 = a.2.1 then [(cd o a.1.toNat, v.1, v.2.1)] else [] | _ => []) ++ dropC R (fun c => rs.any (fun o => c / 200 == o && (plA a).contains (c % 200)))) else none
def alrA (rs : List Nat) (a : AI) : Option AV := match rs with
  | [o] => match sh[o]? with
    | some (.inr (k, n, qs)) => if (k = 2 ∨ k = 3) ∧ 0 ≤ a.1 ∧ a.2.1 < n ∧ n = qs.length then some (some (.inr (.inl (if a.1 = a.2.1 then [qs.getD a.1.toNat 0] else qs)))) else none
    | _ => none
  | _ => none
/-- a copy of a whole stretch: from row o0 to row o1, as many, from 0 on -/
def cpyC (ni di si : AI) (o0 o1 : Nat) (st : List AV) : Bool := decide (ni.1 = ni.2.1) && decide (di.1 = 0) && decide (di.2.1 = 0) && decide (si.1 = 0) && decide (si.2.1 = 0) && decide (0 ≤ ni.1) && decide (o0 ≠ o1) && (match sh[o0]?, sh[o1]? with | some (.inr (0, n0, _)), some (.inr (0, n1, _)) => decide (ni.1 ≤ n0) && decide (ni.1 ≤ n1) | _, _ => false) && (List.range ni.1.toNat).all (fun j => decide ((ivO T o1 j).1 ≤ (ivO T o0 j).1) && decide ((ivO T o0 j).2 ≤ (ivO T o1 j).2)) && W.1.contains o1 && decide ((st.map catA).sum ≤ 8)
def cpyA (S : AS) : Option AS := match S.2.1 with
  | some (.inl (ni, none, _, _, _)) :: some (.inl (di, none, _, _, _)) :: some (.inr (.inl [o1])) :: some (.inl (si, none, _, _, _)) :: some (.inr (.inl [o0])) :: st => if cpyC sh T W ni di si o0 o1 st = true then some (S.1.map clr, st.map clr, dropC S.2.2 (fun c => c / 200 == o1)) else none
  | _ => none
/-- is a covered by b: for arguments, answers, blocks -/
def leN (a : AI) (e : Option Int) (b : AI) (f : Option Int) : Bool := (match e with | none => true | some x => f == some x || (decide (b.1 ≤ x) && decide (x ≤ b.2.1) && decide (b.2.2 = 1))) && ((decide (a.1 = a.2.1) && f == some a.1) || decide (a.2.1 < a.1) || (decide (b.1 ≤ a.1) && decide (a.2.1 ≤ b.2.1) && (b.2.2 == 1 || ((a.2.2 % b.2.2 == 0 || a.1 == a.2.1) && (a.1 - b.1) % (b.2.2 : Int) == 0))))
def leV (a b : AV) : Bool := match b, a with
  | none, _ => true
  | some (.inl (bi, f, s, o, im)), some (.inl (ai, e, s1, _, im1)) => leN ai e bi f && (s == 0 || s == s1) && o.1 == 0 && im.all (fun q => im1.any (fun q1 => q1.1 == q.1 && decide (q.2.1 ≤ q1.2.1) && decide (q1.2.2 ≤ q.2.2)))
  | some (.inr (.inl rs)), some (.inr (.inl rs1)) => rs1.all (fun r => rs.contains r)
  | some (.inr (.inr (lo, hi, s))), some (.inr (.inr (lo1, hi1, s1))) => decide (lo ≤ lo1) && decide (hi1 ≤ hi) && (s == 0 || s == s1)
  | _, _ => false
def leT : List AV → List AV → Bool
  | [], [] => true
  | a :: as, b :: bs => leV a b && leT as bs
  | _, _ => false
def leR (R Q : IM) : Bool := Q.all (fun q => decide (q.2.1 ≤ (celI T R q.1).1) && decide ((celI T R q.1).2 ≤ q.2.2))
def subW (V : Wr) : Bool := V.1.all (fun o => W.1.contains o) && V.2.all (fun c => W.1.contains (c / 200) || W.2.contains c)
def inV (V : Wr) (c : Nat) : Bool := V.1.contains (c / 200) || V.2.contains c
/-- the source of an argument -/
def srA (a : AV) : Nat := match a with
  | some (.inl (_, _, s, _, _)) => s
  | some (.inr (.inr (_, _, s))) => s
  | _ => 0
def impA (as : List AV) (V : Wr) (im : IM) : IM := im.filterMap (fun q => if 1000 ≤ q.1 then some q else match as[q.1]? with
  | some a => if srA a = 0 ∨ (1000 ≤ srA a ∧ inV V (srA a - 1000) = true) then none else some (srA a, q.2)
  | none => none)
def addIm (a : AV) (im : IM) : AV := match a with
  | some (.inl (ai, e, _, o, _)) => some (.inl (ai, e, 0, o, im))
  | a => a
def popA : Nat → List AV → List AV → Option (List AV × List AV)
  | 0, st, acc => some (acc, st)
  | _ + 1, [], _ => none
  | n + 1, v :: st, acc => popA n st (v :: acc)
/-- behind a call with arguments as, stack st -/
def calA (z : Nat) (as st : List AV) (S : AS) : Option AS := match Tc.find? (fun c => c.1 == z && leT as c.2.1 && leR T S.2.2 c.2.2.1) with
  | some c => if subW W c.2.2.2.2.2.1 = true ∧ (st.map catA).sum ≤ 8 then some (S.1.map clr, (match c.2.2.2.1 with | none => [] | some b => [addIm (cle (some b)) (impA as c.2.2.2.2.2.1 c.2.2.2.2.2.2)]) ++ st.map clr, c.2.2.2.2.1 ++ dropC S.2.2 (inV c.2.2.2.2.2.1)) else none
  | none => none
def absI (i : ClassFile.Instr) (S : AS) : Option AS := match i with
  | .sipush n => if in32 n n = true then some (S.1, cst n :: S.2.1, S.2.2) else none
  | .jsr n => if -9223372036854775808 ≤ n ∧ n ≤ 9223372036854775807 then some (S.1, some (.inr (.inr (n, n, 0))) :: S.2.1, S.2.2) else none
  | .getstatic k => some (S.1, some (.inr (.inl [k])) :: S.2.1, S.2.2)
  | .iload i => match S.1[i]? with
    | some (some (.inl (ai, e, _, o, im))) => if i < 900 then some (S.1, some (.inl (ai, e, i + 1, o, im)) :: S.2.1, S.2.2) else none
    | _ => none
  | .lload i => match S.1[i]? with
    | some (some (.inr (.inr a))) => some (S.1, some (.inr (.inr a)) :: S.2.1, S.2.2)
    | _ => none
  | .aload i => match S.1[i]? with
    | some (some (.inr (.inl a))) => some (S.1, some (.inr (.inl a)) :: S.2.1, S.2.2)
    | _ => none
  | .istore i => match S.2.1 with
    | a :: st => if isI a = true ∧ i < S.1.length then some (wLo S i a st) else none
    | _ => none
  | .astore i => match S.2.1 with
    | some (.inr (.inl a)) :: st => if i < S.1.length then some (wLo S i (some (.inr (.inl a))) st) else none
    | _ => none
  | .lstore i => match S.2.1 with
    | a :: st => if isJ a = true ∧ i + 1 < S.1.length then some (((preA (S.1.map clr) i).set i (clr a)).set (i + 1) none, st.map clr, S.2.2) else none
    | _ => none
  | .iinc i n => match S.1[i]? with
    | some a => if in32 n n = true then (match addA a (cst n) with
      | some c => if i < S.1.length then some (wLo S i c S.2.1) else none
      | none => none) else none
    | none => none
  | .iadd => bop addA S
  | .isub => bop subA S
  | .imul => bop mulA S
  | .idiv => bop divA S
  | .irem => bop remA S
  | .iand => bop andA S
  | .ior => bop anyA S
  | .ixor => bop anyA S
  | .ishl => bop shlA S
  | .ishr => bop anyA S
  | .iushr => bop anyA S
  | .ladd => match S.2.1 with
    | b :: a :: st => if isJ a = true ∧ isJ b = true then some (S.1, tJ :: st, S.2.2) else none
    | _ => none
  | .lmul => match S.2.1 with
    | b :: a :: st => if isJ a = true ∧ isJ b = true then some (S.1, tJ :: st, S.2.2) else none
    | _ => none
  | .lcmp => match S.2.1 with
    | b :: a :: st => if isJ a = true ∧ isJ b = true then some (S.1, tI :: st, S.2.2) else none
    | _ => none
  | .i2l => match S.2.1 with
    | some (.inl (ai, e, s, _, _)) :: st => some (S.1, some (.inr (.inr ((hul ai e).1, (hul ai e).2.1, s))) :: st, S.2.2)
    | _ => none
  | .l2i => match S.2.1 with
    | a :: st => if isJ a = true then some (S.1, tI :: st, S.2.2) else none
    | _ => none
  | .i2b => match S.2.1 with
    | a :: st => if isI a = true then some (S.1, tI :: st, S.2.2) else none
    | _ => none
  | .i2s => match S.2.1 with
    | a :: st => if isI a = true then some (S.1, tI :: st, S.2.2) else none
    | _ => none
  | .dup => match S.2.1 with
    | a :: st => if is1 a = true then some (S.1, a :: a :: st, S.2.2) else none
    | _ => none
  | .dup2 => match S.2.1 with
    | a :: b :: st => if is1 a = true ∧ is1 b = true then some (S.1, a :: b :: a :: b :: st, S.2.2) else none
    | _ => none
  | .pop => match S.2.1 with
    | a :: st => if is1 a = true then some (S.1, st, S.2.2) else none
    | _ => none
  | .pop2 => match S.2.1 with
    | a :: st => if isJ a = true then some (S.1, st, S.2.2) else none
    | _ => none
  | .getfield k => match S.2.1 with
    | some (.inr (.inl rs)) :: st => (match getA sh T k rs S.2.2 with
      | some a => some (S.1, a :: st, S.2.2)
      | none => none)
    | _ => none
  | .putfield k => match S.2.1 with
    | a :: some (.inr (.inl rs)) :: st => (match putA sh T W k rs a S.2.2 with
      | some R => some (S.1.map clr, st.map clr, R)
      | none => none)
    | _ => none
  | .iaload => match S.2.1 with
    | some (.inl (ai, e, _, _, _)) :: some (.inr (.inl rs)) :: st => (match aldA sh T 0 rs (hul ai e) S.2.2 with
      | some a => some (S.1, a :: st, S.2.2)
      | none => none)
    | _ => none
  | .baload => match S.2.1 with
    | some (.inl (ai, e, _, _, _)) :: some (.inr (.inl rs)) :: st => (match aldA sh T 1 rs (hul ai e) S.2.2 with
      | some a => some (S.1, a :: st, S.2.2)
      | none => none)
    | _ => none
  | .iastore => match S.2.1 with
    | some (.inl (vi, f, _, _, _)) :: some (.inl (ai, e, _, _, _)) :: some (.inr (.inl rs)) :: st => (match astA sh T W 0 rs (hul ai e) (hul vi f) S.2.2 with
      | some R => some (S.1.map clr, st.map clr, R)
      | none => none)
    | _ => none
  | .bastore => match S.2.1 with
    | some (.inl (vi, f, _, _, _)) :: some (.inl (ai, e, _, _, _)) :: some (.inr (.inl rs)) :: st => (match astA sh T W 1 rs (hul ai e) (hul vi f) S.2.2 with
      | some R => some (S.1.map clr, st.map clr, R)
      | none => none)
    | _ => none
  | .aaload => match S.2.1 with
    | some (.inl (ai, e, _, _, _)) :: some (.inr (.inl rs)) :: st => (match alrA sh rs (hul ai e) with
      | some a => some (S.1, a :: st, S.2.2)
      | none => none)
    | _ => none
  | .monitorenter => cpyA sh T W S
  | .invokestatic z => match popA (mN z) S.2.1 [] with
    | some (as, st) => calA T Tc W z as st S
    | none => none
  | .invokevirtual z => match popA (mN z) S.2.1 [] with
    | some (as, some (.inr (.inl rs)) :: st) => if rs.all (fun o => clO sh o == some (mO z)) = true then calA T Tc W z (some (.inr (.inl rs)) :: as) st S else none
    | _ => none
  | _ => none
/-! jumps -/
/-- a number's bounds cut down -/
def cutN (a : AI) (e : Option Int) (lo hi : Int) : AI × Option Int := ((if a.2.2 ≤ 1 then (if a.1 < lo then lo else a.1) else a.1, if hi < a.2.1 then hi else a.2.1, if a.2.2 = 0 then 1 else a.2.2), match e with
  | none => none
  | some x => if lo ≤ x ∧ x ≤ hi then some x else none)
def cutV (a : AV) (lo hi : Int) : AV := match a with
  | some (.inl (ai, e, s, o, im)) => some (.inl ((cutN ai e lo hi).1, (cutN ai e lo hi).2, s, o, im))
  | a => a
/-- a source's bounds cut down -/
def cutS (S : AS) (q : Nat × Int × Int) : AS := if q.1 = 0 then S else if q.1 < 1000 then (match S.1[q.1 - 1]? with
    | some a => (S.1.set (q.1 - 1) (cutV a q.2.1 q.2.2), S.2)
    | none => S) else (S.1, S.2.1, (q.1 - 1000, (if (celI T S.2.2 (q.1 - 1000)).1 < q.2.1 then q.2.1 else (celI T S.2.2 (q.1 - 1000)).1), (if q.2.2 < (celI T S.2.2 (q.1 - 1000)).2 then q.2.2 else (celI T S.2.2 (q.1 - 1000)).2)) :: S.2.2)
/-- the local that a number was reckoned from -/
def cutO (S : AS) (o : Nat × Int) (lo hi : Int) : AS := match S.1[o.1 - 1]? with
  | some (some (.inl (_, _, _, o2, _))) => if o.1 ≠ 0 ∧ o.1 < 900 ∧ o2.1 = o.1 ∧ o2.2 = 0 then cutS T S (o.1, lo - o.2, hi - o.2) else S
  | _ => S
/-- bounds of x and of y where 'x c y' holds -/
def cmpI (c : ClassFile.Cond) (a b : AI) : (Int × Int) × (Int × Int) := match c with
  | .eq => ((b.1, b.2.1), (a.1, a.2.1))
  | .ne => ((if b.1 = b.2.1 ∧ a.1 = b.1 then a.1 + 1 else a.1, if b.1 = b.2.1 ∧ a.2.1 = b.1 then a.2.1 - 1 else a.2.1), (if a.1 = a.2.1 ∧ b.1 = a.1 then b.1 + 1 else b.1, if a.1 = a.2.1 ∧ b.2.1 = a.1 then b.2.1 - 1 else b.2.1))
  | .lt => ((a.1, b.2.1 - 1), (a.1 + 1, b.2.1))
  | .ge => ((b.1, a.2.1), (b.1, a.2.1))
  | .gt => ((b.1 + 1, a.2.1), (b.1, a.2.1 - 1))
  | .le => ((a.1, b.2.1), (a.1, b.2.1))
def negC (c : ClassFile.Cond) : ClassFile.Cond := match c with
  | .eq => .ne
  | .ne => .eq
  | .lt => .ge
  | .ge => .lt
  | .gt => .le
  | .le => .gt
/-- 'not equal to one number' takes the one more away -/
def neE (c : ClassFile.Cond) (e : Option Int) (b : AI) (f : Option Int) : Option Int := match c with
  | .ne => if b.1 = b.2.1 ∧ f = none ∧ e = some b.1 then none else e
  | _ => e
/-- the state where 'x c y' holds: none if it can't -/
def cmpS (c : ClassFile.Cond) (a b : AV) (S : AS) : Option AS := match a, b with
  | some (.inl (ai, e, s, o, im)), some (.inl (bi, f, t, o', _)) =>
    let A := hul ai (neE c e bi f)
    let B := hul bi (neE c f ai e)
    let q := cmpI c A B
    if (if A.1 < q.1.1 then q.1.1 else A.1) ≤ (if q.1.2 < A.2.1 then q.1.2 else A.2.1) ∧ (if B.1 < q.2.1 then q.2.1 else B.1) ≤ (if q.2.2 < B.2.1 then q.2.2 else B.2.1) then
      some ((match c with
        | .ne => if bi.1 = 0 ∧ bi.2.1 = 0 ∧ f = none then im else []
        | _ => []).foldl (cutS T) (cutO T (cutO T (cutS T (cutS T S (s, q.1.1, q.1.2)) (t, q.2.1, q.2.2)) o q.1.1 q.1.2) o' q.2.1 q.2.2))
    else none
  | _, _ => some S
variable (rt : Option FieldType) (c0 : CE)
def okRet (a : AV) : Bool := match a with
  | some (.inl (ai, e, _, _, _)) => match rt with
    | some .int => true
    | some .boolean => decide (0 ≤ (hul ai e).1) && decide ((hul ai e).2.1 ≤ 1)
    | _ => false
  | some (.inr (.inl _)) => isRefT rt
  | some (.inr (.inr _)) => decide (rt = some .long)
  | none => false
def retA (a : AV) (S : AS) : Bool := okRet rt a && (c0.2.2.2.1).isSome && leV a c0.2.2.2.1 && leR T S.2.2 c0.2.2.2.2.1 && c0.2.2.2.2.2.2.isEmpty
/-- the jumps' states of a block; none: it doesn't pass -/
def absX : List ClassFile.Instr → AS → Option (List (Nat × AS))
  | [], _ => none
  | i :: is, S => match i with
    | .goto t => some [(t.toNat, S)]
    | .goto_w t => some [(t.toNat, S)]
    | .ifCond c t => match S.2.1 with
      | a :: st => if isI a = true then (match (match cmpS T (negC c) a (cst 0) (S.1, st, S.2.2) with | some S1 => absX is S1 | none => some []) with
        | some l => some ((match cmpS T c a (cst 0) (S.1, st, S.2.2) with | some S1 => [(t.toNat, S1)] | none => []) ++ l)
        | none => none) else none
      | _ => none
    | .if_icmp c t => match S.2.1 with
      | b :: a :: st => if isI a = true ∧ isI b = true then (match (match cmpS T (negC c) a b (S.1, st, S.2.2) with | some S1 => absX is S1 | none => some []) with
        | some l => some ((match cmpS T c a b (S.1, st, S.2.2) with | some S1 => [(t.toNat, S1)] | none => []) ++ l)
        | none => none) else none
      | _ => none
    | .tableswitch d lo hi offs => match S.2.1 with
      | a :: st => if isI a = true ∧ hi - lo + 1 = offs.size ∧ in32 lo lo = true ∧ in32 hi hi = true then some ((match cmpS T .lt a (cst lo) (S.1, st, S.2.2) with | some S1 => [(d.toNat, S1)] | none => []) ++ ((match cmpS T .gt a (cst hi) (S.1, st, S.2.2) with | some S1 => [(d.toNat, S1)] | none => []) ++ (List.range offs.size).filterMap (fun (k : Nat) => (cmpS T .eq a (cst (lo + (k : Int))) (S.1, st, S.2.2)).map (fun S1 => ((offs.getD k d).toNat, S1))))) else none
      | _ => none
    | .ireturn => match S.2.1 with
      | [a] => if isI a = true ∧ retA T rt c0 a S = true then some [] else none
      | _ => none
    | .lreturn => match S.2.1 with
      | [a] => if isJ a = true ∧ retA T rt c0 a S = true then some [] else none
      | _ => none
    | .areturn => match S.2.1 with
      | [some (.inr (.inl rs))] => if retA T rt c0 (some (.inr (.inl rs))) S = true then some [] else none
      | _ => none
    | .return_ => match S.2.1 with
      | [] => if rt = none ∧ c0.2.2.2.1 = none ∧ leR T S.2.2 c0.2.2.2.2.1 = true ∧ c0.2.2.2.2.2.2.isEmpty = true then some [] else none
      | _ => none
    | i => match absI sh T Tc W i S with
      | some S1 => absX is S1
      | none => none
end Abs
end
section
/-! THE CHECKER IS SOUND: values, locals, memory -/
theorem bm32 {z : Int} (h1 : -2147483648 ≤ z) (h2 : z ≤ 2147483647) : z.bmod (2 ^ 32) = z := by
  show z.bmod 4294967296 = z
  rw [Int.bmod_def]
  split <;> omega
theorem r32 (x : Int32) : -2147483648 ≤ x.toInt ∧ x.toInt ≤ 2147483647 := ⟨by have := x.le_toInt; omega, by have := x.toInt_lt; omega⟩
theorem r64 (x : Int64) : -9223372036854775808 ≤ x.toInt ∧ x.toInt ≤ 9223372036854775807 := ⟨by have := x.le_toInt; omega, by have := x.toInt_lt; omega⟩
theorem one_dv (x : Int) : ((1 : Nat) : Int) ∣ x := ⟨x, by omega⟩
theorem gN_hul {a : AI} {e : Option Int} {x : Int} (h : gN a e x) : (hul a e).1 ≤ x ∧ x ≤ (hul a e).2.1 ∧ ((hul a e).2.2 : Int) ∣ x - (hul a e).1 := by
  unfold gN at h
  cases e with
  | none =>
    rcases h with h | h
    · cases h
    · exact h
  | some y =>
    unfold hul
    by_cases hc : a.1 ≤ a.2.1
    · simp only [if_pos hc]
      rcases h with h | ⟨h1, h2, h3⟩
      · cases h
        refine ⟨?_, ?_, one_dv _⟩
        · split <;> omega
        · split <;> omega
      · refine ⟨?_, ?_, one_dv _⟩
        · split <;> omega
        · split <;> omega
    · simp only [if_neg hc]
      rcases h with h | ⟨h1, h2, h3⟩
      · cases h
        exact ⟨Int.le_refl _, Int.le_refl _, ⟨0, by omega⟩⟩
      · omega
theorem gN_i {lo hi x : Int} (h1 : lo ≤ x) (h2 : x ≤ hi) : gN (lo, hi, 1) none x := Or.inr ⟨h1, h2, one_dv _⟩
theorem gN_1 {a : AI} {x : Int} (h : gN a none x) (hc : a.1 = a.2.1) : x = a.1 := by
  rcases h with h | h
  · cases h
  · omega
section Sv
variable {L0 L : List Value} {m : Mm}
theorem gv_i {lo hi : Int} {x : Int32} (h1 : lo ≤ x.toInt) (h2 : x.toInt ≤ hi) : gv L0 L m (iA lo hi) (.int x) := ⟨x, rfl, gN_i h1 h2, Or.inl rfl, Or.inl rfl, fun _ q hq => by cases hq⟩
theorem gv_tI (x : Int32) : gv L0 L m tI (.int x) := gv_i (r32 x).1 (r32 x).2
theorem gv_tJ (x : Int64) : gv L0 L m tJ (.long x) := ⟨x, rfl, (r64 x).1, (r64 x).2, Or.inl rfl⟩
theorem gv_cst {n : Int} (h : in32 n n = true) : gv L0 L m (cst n) (.int (Int32.ofInt n)) := by
  unfold in32 at h
  simp only [Bool.and_eq_true, decide_eq_true_eq] at h
  have e : (Int32.ofInt n).toInt = n := Int32.toInt_ofInt_of_le (by omega) (by omega)
  exact ⟨_, rfl, by rw [e]; exact Or.inr ⟨Int.le_refl _, Int.le_refl _, ⟨0, by show n - n = _; omega⟩⟩, Or.inl rfl, Or.inl rfl, fun _ q hq => by cases hq⟩
theorem gv_clr {a : AV} {v : Value} (h : gv L0 L m a v) (L' : List Value) (m' : Mm) : gv L0 L' m' (clr a) v := by
  match a, h with
  | none, _ => trivial
  | some (.inl (ai, e, s, o, im)), ⟨x, hx, h1, h2, h3, h4⟩ => exact ⟨x, hx, h1, Or.inl rfl, h3, fun _ q hq => by cases hq⟩
  | some (.inr (.inl rs)), h => exact h
  | some (.inr (.inr (lo, hi, s))), ⟨x, hx, h1, h2, h3⟩ => exact ⟨x, hx, h1, h2, Or.inl rfl⟩
theorem gv_cle {a : AV} {v : Value} (h : gv L0 L m a v) (L1 L' : List Value) (m' : Mm) : gv L1 L' m' (cle a) v := by
  match a, h with
  | none, _ => trivial
  | some (.inl (ai, e, s, o, im)), ⟨x, hx, h1, h2, h3, h4⟩ => exact ⟨x, hx, h1, Or.inl rfl, Or.inl rfl, fun _ q hq => by cases hq⟩
  | some (.inr (.inl rs)), h => exact h
  | some (.inr (.inr (lo, hi, s))), ⟨x, hx, h1, h2, h3⟩ => exact ⟨x, hx, h1, h2, Or.inl rfl⟩
theorem gT_clr {as : List AV} {st : List Value} (h : gT L0 L m as st) (L' : List Value) (m' : Mm) : gT L0 L' m' (as.map clr) st := by
  induction as generalizing st with
  | nil => cases st with
    | nil => trivial
    | cons v st => exact h.elim
  | cons a as ih => cases st with
    | nil => exact h.elim
    | cons v st => exact ⟨gv_clr h.1 L' m', ih h.2⟩
theorem gT_cons {a : AV} {as : List AV} {st : List Value} (h : gT L0 L m (a :: as) st) : ∃ v vs, st = v :: vs ∧ gv L0 L m a v ∧ gT L0 L m as vs := by
  cases st with
  | nil => exact h.elim
  | cons v st => exact ⟨v, st, rfl, h.1, h.2⟩
theorem gT_nil {st : List Value} (h : gT L0 L m [] st) : st = [] := by
  cases st with
  | nil => rfl
  | cons v st => exact h.elim
theorem isI_v {a : AV} {v : Value} (h : isI a = true) (g : gv L0 L m a v) : ∃ x : Int32, v = .int x := by
  match a, g with
  | none, _ => cases h
  | some (.inl (ai, e, s, o, im)), ⟨x, hx, _⟩ => exact ⟨x, hx⟩
  | some (.inr (.inl rs)), _ => cases h
  | some (.inr (.inr _)), _ => cases h
theorem isJ_v {a : AV} {v : Value} (h : isJ a = true) (g : gv L0 L m a v) : ∃ x : Int64, v = .long x := by
  match a, g with
  | none, _ => cases h
  | some (.inl _), _ => cases h
  | some (.inr (.inl rs)), _ => cases h
  | some (.inr (.inr (lo, hi, s))), ⟨x, hx, _⟩ => exact ⟨x, hx⟩
theorem is1_v {a : AV} {v : Value} (h : is1 a = true) (g : gv L0 L m a v) : v.category = 1 := by
  match a, g with
  | none, _ => cases h
  | some (.inl (ai, e, s, o, im)), ⟨x, hx, _⟩ => subst hx; rfl
  | some (.inr (.inl rs)), ⟨x, hx, _⟩ => subst hx; rfl
  | some (.inr (.inr _)), _ => cases h
theorem cat_2 (v : Value) : v.category ≤ 2 := by cases v <;> first | exact (by decide : (1 : Nat) ≤ 2) | exact (by decide : (2 : Nat) ≤ 2)
theorem catA_v {a : AV} {v : Value} (g : gv L0 L m a v) : v.category ≤ catA a := by
  unfold catA
  split
  · rename_i h
    rw [is1_v h g]
    exact Nat.le_refl 1
  · exact cat_2 v
theorem gT_cat {as : List AV} {st : List Value} (h : gT L0 L m as st) : (st.map fun v => v.category).sum ≤ (as.map catA).sum := by
  induction as generalizing st with
  | nil => rw [gT_nil h]; exact Nat.le_refl _
  | cons a as ih =>
    obtain ⟨v, vs, rfl, h1, h2⟩ := gT_cons h
    have := ih h2
    have := catA_v h1
    simp only [List.map_cons, List.sum_cons]
    omega
/-! locals -/
theorem ld_set (L : List Value) (i j : Nat) (v : Value) : ldL (L.set i v) j = if i = j ∧ i < L.length then v else ldL L j := by
  unfold ldL
  rw [List.getD_eq_getElem?_getD, List.getD_eq_getElem?_getD, List.getElem?_set]
  by_cases h : i = j
  · subst h
    by_cases h2 : i < L.length
    · rw [if_pos rfl, if_pos h2, if_pos ⟨rfl, h2⟩]; rfl
    · rw [if_pos rfl, if_neg h2, if_neg (fun z => h2 z.2), List.getElem?_eq_none (by omega)]
  · rw [if_neg h, if_neg (fun z => h z.1)]
theorem gL_at {as : List AV} (h : gL L0 L m as) {i : Nat} {a : AV} (ha : as[i]? = some a) : gv L0 L m a (ldL L i) := h.2 i a ha
theorem map_clr_at {as : List AV} {i : Nat} {b : AV} (h : (as.map clr)[i]? = some b) : ∃ a, as[i]? = some a ∧ b = clr a := by
  rw [List.getElem?_map] at h
  cases ha : as[i]? with
  | none => rw [ha] at h; cases h
  | some a => rw [ha] at h; cases h; exact ⟨a, rfl, rfl⟩
theorem gL_clr {as : List AV} (h : gL L0 L m as) (m' : Mm) : gL L0 L m' (as.map clr) := by
  refine ⟨by rw [List.length_map]; exact h.1, fun i b hb => ?_⟩
  obtain ⟨a, h1, rfl⟩ := map_clr_at hb
  exact gv_clr (h.2 i a h1) _ _
theorem preA_len (as : List AV) (i : Nat) : (preA as i).length = as.length := by
  unfold preA
  split
  · rfl
  · split
    · rfl
    · rfl
    · rw [List.length_set]
theorem pre_id {k : Nat} (h : (ldL L k).category = 1) : preL L (k + 1) = L := by
  unfold preL
  have : ¬ (L.getD k noV).category = 2 := by
    intro z
    have e : (ldL L k).category = 2 := z
    omega
  simp only [if_neg this]
theorem pre_ld {k j : Nat} (h : k ≠ j) : ldL (preL L (k + 1)) j = ldL L j := by
  show ldL (if (L.getD k noV).category = 2 then L.set k noV else L) j = _
  split
  · rw [ld_set, if_neg (fun z => h z.1)]
  · rfl
theorem pre_ok {as : List AV} (h : gL L0 L m as) {i j : Nat} {b : AV} (hb : (preA (as.map clr) i)[j]? = some b) (L' : List Value) : gv L0 L' m b (ldL (preL L i) j) := by
  have key : ∀ b, (as.map clr)[j]? = some b → gv L0 L' m b (ldL L j) := fun b hb => by
    obtain ⟨a, h1, rfl⟩ := map_clr_at hb
    exact gv_clr (h.2 j a h1) _ _
  cases i with
  | zero => exact key b hb
  | succ k =>
    unfold preA at hb
    simp only at hb
    split at hb
    · rename_i q hq
      obtain ⟨a, h1, h2⟩ := map_clr_at hq
      have g := gv_clr (h.2 k a h1) L m
      rw [← h2] at g
      rw [pre_id (is1_v (a := some (.inl q)) rfl g)]
      exact key b hb
    · rename_i q hq
      obtain ⟨a, h1, h2⟩ := map_clr_at hq
      have g := gv_clr (h.2 k a h1) L m
      rw [← h2] at g
      rw [pre_id (is1_v (a := some (.inr (.inl q))) rfl g)]
      exact key b hb
    · rw [List.getElem?_set] at hb
      by_cases e : k = j
      · rw [if_pos e] at hb
        split at hb
        · cases hb; trivial
        · cases hb
      · rw [if_neg e] at hb
        rw [pre_ld e]
        exact key b hb
theorem gL_st {as : List AV} {a : AV} {v : Value} {i : Nat} (h : gL L0 L m as) (hv : gv L0 L m a v) (hi : i < L.length) : gL L0 (stL L i v) m ((preA (as.map clr) i).set i (clr a)) := by
  have hpl : (preA (as.map clr) i).length = L.length := by rw [preA_len, List.length_map]; exact h.1
  refine ⟨by rw [List.length_set, hpl]; unfold stL; rw [List.length_set, preL_len], fun j b hj => ?_⟩
  unfold stL
  rw [ld_set]
  rw [List.getElem?_set] at hj
  by_cases e : i = j
  · rw [if_pos e, if_pos (by rw [hpl]; exact hi)] at hj
    cases hj
    rw [if_pos ⟨e, by rw [preL_len]; exact hi⟩]
    exact gv_clr hv _ _
  · rw [if_neg e] at hj
    rw [if_neg (fun z => e z.1)]
    exact pre_ok h hj _
theorem gL_none {as : List AV} {i : Nat} (h : gL L0 L m as) : gL L0 (L.set i noV) m ((as.map clr).set i none) := by
  refine ⟨by rw [List.length_set, List.length_set, List.length_map]; exact h.1, fun j b hj => ?_⟩
  rw [ld_set]
  rw [List.getElem?_set] at hj
  by_cases e : i = j
  · rw [if_pos e] at hj
    split at hj
    · cases hj; trivial
    · cases hj
  · rw [if_neg e] at hj
    rw [if_neg (fun z => e z.1)]
    obtain ⟨a, h1, rfl⟩ := map_clr_at hj
    exact gv_clr (h.2 j a h1) _ _
end Sv
end
section
/-! THE CHECKER IS SOUND: numbers -/
section Sv
variable {L0 L : List Value} {m : Mm}
/-! numbers -/
theorem add_ok {a b c : AV} {v w : Value} (h : addA a b = some c) (ga : gv L0 L m a v) (gb : gv L0 L m b w) : ∃ x y : Int32, v = .int x ∧ w = .int y ∧ gv L0 L m c (.int (x + y)) := by
  unfold addA at h
  split at h
  · rename_i ai e s o im bi f s' o' im'
    obtain ⟨x, hx, a1, a2, a3, a4⟩ := ga
    obtain ⟨y, hy, b1, b2, b3, b4⟩ := gb
    refine ⟨x, y, hx, hy, ?_⟩
    have A := gN_hul a1
    have B := gN_hul b1
    split at h
    · rename_i hc
      obtain ⟨hc, rfl⟩ := hc
      have ey := gN_1 b1 hc
      split at h
      · rename_i hr
        unfold in32 at hr
        simp only [Bool.and_eq_true, decide_eq_true_eq] at hr
        have e1 : (x + y).toInt = x.toInt + bi.1 := by
          rw [Int32.toInt_add, ey]
          exact bm32 (by omega) (by omega)
        cases h
        refine ⟨x + y, rfl, Or.inr ⟨?_, ?_, ?_⟩, Or.inl rfl, ?_, fun _ q hq => by cases hq⟩
        · rw [e1]; show _ + _ ≤ _; omega
        · rw [e1]; show _ ≤ _ + _; omega
        · rw [e1]
          have e2 : x.toInt + bi.1 - ((hul ai e).1 + bi.1) = x.toInt - (hul ai e).1 := by omega
          show _ ∣ x.toInt + bi.1 - ((hul ai e).1 + bi.1)
          rw [e2]
          exact A.2.2
        · rw [e1]
          rcases a3 with a3 | ⟨z, a3, a5⟩
          · rw [if_pos a3]
            exact Or.inl rfl
          · by_cases ho : o.1 = 0
            · rw [if_pos ho]
              exact Or.inl rfl
            · rw [if_neg ho]
              exact Or.inr ⟨z, a3, by show _ = _ + (_ + _); omega⟩
      · cases h
        exact gv_tI _
    · split at h
      · rename_i hr
        unfold in32 at hr
        simp only [Bool.and_eq_true, decide_eq_true_eq] at hr
        have e1 : (x + y).toInt = x.toInt + y.toInt := by
          rw [Int32.toInt_add]
          exact bm32 (by omega) (by omega)
        cases h
        refine ⟨x + y, rfl, Or.inr ⟨?_, ?_, ?_⟩, Or.inl rfl, Or.inl rfl, fun _ q hq => by cases hq⟩
        · rw [e1]; show _ + _ ≤ _; omega
        · rw [e1]; show _ ≤ _ + _; omega
        · rw [e1]
          have e2 : x.toInt + y.toInt - ((hul ai e).1 + (hul bi f).1) = (x.toInt - (hul ai e).1) + (y.toInt - (hul bi f).1) := by omega
          show ((Nat.gcd (hul ai e).2.2 (hul bi f).2.2 : Nat) : Int) ∣ x.toInt + y.toInt - ((hul ai e).1 + (hul bi f).1)
          rw [e2]
          exact Int.dvd_add (Int.dvd_trans (Int.ofNat_dvd.mpr (Nat.gcd_dvd_left _ _)) A.2.2) (Int.dvd_trans (Int.ofNat_dvd.mpr (Nat.gcd_dvd_right _ _)) B.2.2)
      · cases h
        exact gv_tI _
  · cases h
theorem sub_ok {a b c : AV} {v w : Value} (h : subA a b = some c) (ga : gv L0 L m a v) (gb : gv L0 L m b w) : ∃ x y : Int32, v = .int x ∧ w = .int y ∧ gv L0 L m c (.int (x - y)) := by
  unfold subA at h
  split at h
  · rename_i ai e s o im bi f s' o' im'
    obtain ⟨x, hx, a1, a2, a3, a4⟩ := ga
    obtain ⟨y, hy, b1, b2, b3, b4⟩ := gb
    refine ⟨x, y, hx, hy, ?_⟩
    have A := gN_hul a1
    have B := gN_hul b1
    split at h
    · rename_i hc
      obtain ⟨hc, rfl⟩ := hc
      have ey := gN_1 b1 hc
      split at h
      · rename_i hr
        unfold in32 at hr
        simp only [Bool.and_eq_true, decide_eq_true_eq] at hr
        have e1 : (x - y).toInt = x.toInt - bi.1 := by
          rw [Int32.toInt_sub, ey]
          exact bm32 (by omega) (by omega)
        cases h
        refine ⟨x - y, rfl, Or.inr ⟨?_, ?_, ?_⟩, Or.inl rfl, ?_, fun _ q hq => by cases hq⟩
        · rw [e1]; show _ - _ ≤ _; omega
        · rw [e1]; show _ ≤ _ - _; omega
        · rw [e1]
          have e2 : x.toInt - bi.1 - ((hul ai e).1 - bi.1) = x.toInt - (hul ai e).1 := by omega
          show _ ∣ x.toInt - bi.1 - ((hul ai e).1 - bi.1)
          rw [e2]
          exact A.2.2
        · rw [e1]
          rcases a3 with a3 | ⟨z, a3, a5⟩
          · rw [if_pos a3]
            exact Or.inl rfl
          · by_cases ho : o.1 = 0
            · rw [if_pos ho]
              exact Or.inl rfl
            · rw [if_neg ho]
              exact Or.inr ⟨z, a3, by show _ = _ + (_ - _); omega⟩
      · split at h
        · rename_i hr
          unfold in32 at hr
          simp only [Bool.and_eq_true, decide_eq_true_eq] at hr
          have e1 : (x - y).toInt = x.toInt - bi.1 + 4294967296 := by
            rw [Int32.toInt_sub, ey]
            show (x.toInt - bi.1).bmod 4294967296 = _
            rw [Int.bmod_def]
            split <;> omega
          cases h
          exact gv_i (by omega) (by omega)
        · cases h
          exact gv_tI _
    · split at h
      · rename_i hr
        unfold in32 at hr
        simp only [Bool.and_eq_true, decide_eq_true_eq] at hr
        have e1 : (x - y).toInt = x.toInt - y.toInt := by
          rw [Int32.toInt_sub]
          exact bm32 (by omega) (by omega)
        cases h
        exact gv_i (by omega) (by omega)
      · cases h
        exact gv_tI _
  · cases h
theorem mul_bd {a b x y A B : Int} (h1 : 0 ≤ a) (h2 : 0 ≤ b) (h3 : a ≤ x) (h4 : b ≤ y) (h5 : x ≤ A) (h6 : y ≤ B) : a * b ≤ x * y ∧ x * y ≤ A * B := ⟨Int.mul_le_mul h3 h4 h2 (by omega), Int.mul_le_mul h5 h6 (by omega) (by omega)⟩
theorem mul_ok {a b c : AV} {v w : Value} (h : mulA a b = some c) (ga : gv L0 L m a v) (gb : gv L0 L m b w) : ∃ x y : Int32, v = .int x ∧ w = .int y ∧ gv L0 L m c (.int (x * y)) := by
  unfold mulA at h
  split at h
  · rename_i ai e s o im bi f s' o' im'
    obtain ⟨x, hx, a1, a2, a3, a4⟩ := ga
    obtain ⟨y, hy, b1, b2, b3, b4⟩ := gb
    refine ⟨x, y, hx, hy, ?_⟩
    have A := gN_hul a1
    have B := gN_hul b1
    split at h
    · rename_i hc
      obtain ⟨c1, c2, hr⟩ := hc
      unfold in32 at hr
      simp only [Bool.and_eq_true, decide_eq_true_eq] at hr
      have mb := mul_bd c1 c2 A.1 B.1 A.2.1 B.2.1
      have e1 : (x * y).toInt = x.toInt * y.toInt := by
        rw [Int32.toInt_mul]
        exact bm32 (by omega) (by omega)
      cases h
      refine ⟨x * y, rfl, Or.inr ⟨?_, ?_, ?_⟩, Or.inl rfl, Or.inl rfl, fun _ q hq => by cases hq⟩
      · rw [e1]; exact mb.1
      · rw [e1]; exact mb.2
      · rw [e1]
        show ((if bi.1 = bi.2.1 ∧ f = none then (hul ai e).2.2 * bi.1.toNat else if ai.1 = ai.2.1 ∧ e = none then (hul bi f).2.2 * ai.1.toNat else 1 : Nat) : Int) ∣ x.toInt * y.toInt - (hul ai e).1 * (hul bi f).1
        split
        · rename_i hk
          obtain ⟨k1, rfl⟩ := hk
          have ey := gN_1 b1 k1
          have eb : (hul bi none).1 = bi.1 := rfl
          rw [eb] at c2 ⊢
          rw [ey, ← Int.sub_mul, Int.natCast_mul, Int.toNat_of_nonneg c2]
          exact Int.mul_dvd_mul A.2.2 (Int.dvd_refl _)
        · split
          · rename_i hk
            obtain ⟨k1, rfl⟩ := hk
            have ex := gN_1 a1 k1
            have eb : (hul ai none).1 = ai.1 := rfl
            rw [eb] at c1 ⊢
            rw [ex, ← Int.mul_sub, Int.natCast_mul, Int.toNat_of_nonneg c1, Int.mul_comm]
            exact Int.mul_dvd_mul (Int.dvd_refl _) B.2.2
          · exact one_dv _
    · cases h
      exact gv_tI _
  · cases h
theorem div_i {x y : Int32} (h : 0 < y.toInt) : (x / y).toInt = x.toInt.tdiv y.toInt := Int32.toInt_div_of_ne_right x y (fun z => by rw [z] at h; exact absurd h (by decide))
theorem rem_i {x y : Int32} (h : 0 < y.toInt) : (x - x / y * y).toInt = x.toInt.tmod y.toInt := by
  have h1 := Int.tmod_add_mul_tdiv x.toInt y.toInt
  have r1 := r32 x
  have r2 := r32 y
  have hb : -y.toInt < x.toInt.tmod y.toInt ∧ x.toInt.tmod y.toInt < y.toInt := by
    have q1 := Int.tmod_lt_of_pos x.toInt h
    have q2 := Int.lt_tmod_of_pos x.toInt h
    omega
  have hs : 0 ≤ x.toInt → 0 ≤ x.toInt.tmod y.toInt := fun z => Int.tmod_nonneg _ z
  have hn : x.toInt ≤ 0 → x.toInt.tmod y.toInt ≤ 0 := fun z => by
    have := Int.tmod_nonneg (a := -x.toInt) y.toInt (by omega)
    rw [Int.neg_tmod] at this
    omega
  have hm : (x / y * y).toInt = y.toInt * x.toInt.tdiv y.toInt := by
    rw [Int32.toInt_mul, div_i h, Int.mul_comm]
    refine bm32 ?_ ?_
    · by_cases z : 0 ≤ x.toInt
      · have := hs z; omega
      · have := hn (by omega); omega
    · by_cases z : 0 ≤ x.toInt
      · have := hs z; omega
      · have := hn (by omega); omega
  rw [Int32.toInt_sub, hm]
  have e : x.toInt - y.toInt * x.toInt.tdiv y.toInt = x.toInt.tmod y.toInt := by omega
  rw [e]
  exact bm32 (by omega) (by omega)
theorem rem_ok {a b c : AV} {v w : Value} (h : remA a b = some c) (ga : gv L0 L m a v) (gb : gv L0 L m b w) : ∃ x y : Int32, v = .int x ∧ w = .int y ∧ ¬ y = 0 ∧ gv L0 L m c (.int (x - x / y * y)) := by
  unfold remA at h
  split at h
  · rename_i ai e s o im bi f s' o' im'
    obtain ⟨x, hx, a1, a2, a3, a4⟩ := ga
    obtain ⟨y, hy, b1, b2, b3, b4⟩ := gb
    have A := gN_hul a1
    have B := gN_hul b1
    split at h
    · rename_i hc
      have hy0 : 0 < y.toInt := by omega
      refine ⟨x, y, hx, hy, fun z => by rw [z] at hy0; exact absurd hy0 (by decide), ?_⟩
      cases h
      have q1 := Int.tmod_lt_of_pos x.toInt hy0
      have q2 := Int.lt_tmod_of_pos x.toInt hy0
      refine gv_i ?_ ?_
      · rw [rem_i hy0]
        split
        · exact Int.tmod_nonneg _ (by omega)
        · omega
      · rw [rem_i hy0]; omega
    · cases h
  · cases h
theorem div_ok {a b c : AV} {v w : Value} (h : divA a b = some c) (ga : gv L0 L m a v) (gb : gv L0 L m b w) : ∃ x y : Int32, v = .int x ∧ w = .int y ∧ ¬ y = 0 ∧ gv L0 L m c (.int (x / y)) := by
  unfold divA at h
  split at h
  · rename_i ai e s o im bi f s' o' im'
    obtain ⟨x, hx, a1, a2, a3, a4⟩ := ga
    obtain ⟨y, hy, b1, b2, b3, b4⟩ := gb
    have A := gN_hul a1
    have B := gN_hul b1
    split at h
    · rename_i hc
      have hy0 : 0 < y.toInt := by omega
      refine ⟨x, y, hx, hy, fun z => by rw [z] at hy0; exact absurd hy0 (by decide), ?_⟩
      split at h
      · rename_i hx0
        cases h
        refine gv_i ?_ ?_
        · rw [div_i hy0]
          exact Int.tdiv_nonneg (by omega) (by omega)
        · rw [div_i hy0]
          exact Int.le_trans (Int.tdiv_le_self _ (by omega)) A.2.1
      · cases h
        exact gv_tI _
    · cases h
  · cases h
theorem and_i {x y : Int32} (h : 0 ≤ y.toInt) : 0 ≤ (x &&& y).toInt ∧ (x &&& y).toInt ≤ y.toInt := by
  have e1 : (x &&& y).toInt = ((x.toBitVec &&& y.toBitVec).toInt) := rfl
  have e2 : y.toInt = y.toBitVec.toInt := rfl
  rw [e2] at h
  rw [e1, e2]
  have hy := BitVec.toInt_eq_toNat_cond y.toBitVec
  have hz := BitVec.toInt_eq_toNat_cond (x.toBitVec &&& y.toBitVec)
  have hle : (x.toBitVec &&& y.toBitVec).toNat ≤ y.toBitVec.toNat := by
    rw [BitVec.toNat_and]
    exact Nat.and_le_right
  have h3 := y.toBitVec.isLt
  split at hy
  · split at hz <;> omega
  · omega
theorem and_ok {a b c : AV} {v w : Value} (h : andA a b = some c) (ga : gv L0 L m a v) (gb : gv L0 L m b w) : ∃ x y : Int32, v = .int x ∧ w = .int y ∧ gv L0 L m c (.int (x &&& y)) := by
  unfold andA at h
  split at h
  · rename_i ai0 bi f s' o' im'
    obtain ⟨ai, e, s, o, im⟩ := ai0
    obtain ⟨x, hx, a1, a2, a3, a4⟩ := ga
    obtain ⟨y, hy, b1, b2, b3, b4⟩ := gb
    refine ⟨x, y, hx, hy, ?_⟩
    have B := gN_hul b1
    split at h
    · rename_i hc
      cases h
      have := and_i (x := x) (y := y) (by omega)
      exact gv_i (by omega) (by omega)
    · cases h
      exact gv_tI _
  · cases h
theorem nf_sh : ∀ l, l < 32 → ((1 : Int32) <<< (nI l &&& 31)).toBitVec = BitVec.twoPow 32 l := by decide +kernel
theorem shl_1 (k : Nat) (h : k < 31) : ((1 : Int32) <<< (nI k &&& 31)).toInt = ((2 ^ k : Nat) : Int) := by
  have e : ((1 : Int32) <<< (nI k &&& 31)).toBitVec = BitVec.twoPow 32 k := nf_sh k (by omega)
  have e1 : ((1 : Int32) <<< (nI k &&& 31)).toInt = ((1 : Int32) <<< (nI k &&& 31)).toBitVec.toInt := rfl
  have hp : 2 ^ k < 2 ^ 31 := Nat.pow_lt_pow_right (by omega) h
  have h31 : 2 ^ 31 = 2147483648 := by decide
  have h32 : 2 ^ 32 = 4294967296 := by decide
  rw [e1, e, BitVec.toInt_eq_toNat_cond, BitVec.toNat_twoPow]
  generalize 2 ^ k = q at hp ⊢
  rw [Nat.mod_eq_of_lt (by omega), if_pos (by omega)]
theorem i_nI {y : Int32} (h : 0 ≤ y.toInt) : y = nI y.toInt.toNat := by
  apply Int32.toInt_inj.mp
  have := (r32 y).2
  rw [nI_toInt (by omega)]
  omega
theorem pow_le2 {a b : Nat} (h : a ≤ b) : ((2 ^ a : Nat) : Int) ≤ ((2 ^ b : Nat) : Int) := Int.ofNat_le.mpr (Nat.pow_le_pow_right (by omega) h)
theorem shl_ok {a b c : AV} {v w : Value} (h : shlA a b = some c) (ga : gv L0 L m a v) (gb : gv L0 L m b w) : ∃ x y : Int32, v = .int x ∧ w = .int y ∧ gv L0 L m c (.int (x <<< (y &&& 31))) := by
  unfold shlA at h
  split at h
  · rename_i ai e s o im bi f s' o' im'
    obtain ⟨x, hx, a1, a2, a3, a4⟩ := ga
    obtain ⟨y, hy, b1, b2, b3, b4⟩ := gb
    refine ⟨x, y, hx, hy, ?_⟩
    have B := gN_hul b1
    split at h
    · rename_i hc
      obtain ⟨c1, c2, rfl, c4, c5⟩ := hc
      have ex : x.toInt = 1 := by
        have := gN_1 a1 (by omega)
        omega
      have ex2 : x = 1 := Int32.toInt_inj.mp (by rw [ex]; decide)
      cases h
      have ey := i_nI (y := y) (by omega)
      have e1 := shl_1 y.toInt.toNat (by omega)
      rw [← ey] at e1
      rw [ex2]
      refine gv_i ?_ ?_
      · rw [e1]
        exact pow_le2 (a := 0) (b := y.toInt.toNat) (by omega)
      · rw [e1]
        exact pow_le2 (by omega)
    · cases h
      exact gv_tI _
  · cases h
theorem any_ok {a b c : AV} {v w : Value} (h : anyA a b = some c) (ga : gv L0 L m a v) (gb : gv L0 L m b w) (f : Int32 → Int32 → Int32) : ∃ x y : Int32, v = .int x ∧ w = .int y ∧ gv L0 L m c (.int (f x y)) := by
  unfold anyA at h
  split at h
  · rename_i ai0 bi0
    obtain ⟨ai, e, s, o, im⟩ := ai0
    obtain ⟨bi, g, s', o', im'⟩ := bi0
    obtain ⟨x, hx, _⟩ := ga
    obtain ⟨y, hy, _⟩ := gb
    refine ⟨x, y, hx, hy, ?_⟩
    cases h
    exact gv_tI _
  · cases h
end Sv
end
section
/-! THE CHECKER IS SOUND: memory -/
section Sm
variable {T : List (List (Int × Int))} {m mE : Mm} {W : Wr}
theorem wI_at (m : Mm) (o j : Nat) (x : Int32) (o' j' : Nat) : (wI m o j x).1 o' j' = if o' = o ∧ j' = j then x else m.1 o' j' := by
  unfold wI
  simp only [va_up]
  by_cases h : o' = o
  · subst h
    rw [if_pos rfl]
    simp only [upd]
    by_cases h2 : j' = j
    · rw [if_pos h2, if_pos ⟨trivial, h2⟩]
    · rw [if_neg h2, if_neg (fun z => h2 z.2)]
  · rw [if_neg h, if_neg (fun z => h z.1)]
theorem wL_1 (m : Mm) (o j : Nat) (x : Int64) : (wL m o j x).1 = m.1 := rfl
theorem wL_at (m : Mm) (o j : Nat) (x : Int64) (o' j' : Nat) : (wL m o j x).2 o' j' = if o' = o ∧ j' = j then x else m.2 o' j' := by
  unfold wL
  simp only [va_up]
  by_cases h : o' = o
  · subst h
    rw [if_pos rfl]
    simp only [vp_updL]
    by_cases h2 : j' = j
    · rw [if_pos h2, if_pos ⟨trivial, h2⟩]
    · rw [if_neg h2, if_neg (fun z => h2 z.2)]
  · rw [if_neg h, if_neg (fun z => h z.1)]
theorem Inv_wI {o j : Nat} {x : Int32} (h : InvT T m) (h1 : (ivO T o j).1 ≤ x.toInt) (h2 : x.toInt ≤ (ivO T o j).2) : InvT T (wI m o j x) := by
  intro o' j'
  rw [wI_at]
  split
  · rename_i e
    rw [e.1, e.2]
    exact ⟨h1, h2⟩
  · exact h o' j'
theorem Inv_wL {o j : Nat} {x : Int64} (h : InvT T m) : InvT T (wL m o j x) := h
theorem cd_div {o j : Nat} (h : j < 200) : cd o j / 200 = o ∧ cd o j % 200 = j := by
  unfold cd
  omega
theorem cd_un (c : Nat) : cd (c / 200) (c % 200) = c := by
  unfold cd
  omega
theorem cel_cd (m : Mm) {o j : Nat} (h : j < 200) : cel m (cd o j) = (m.1 o j).toInt := by
  unfold cel
  rw [(cd_div h).1, (cd_div h).2]
theorem cel_wI {o j : Nat} {x : Int32} {c : Nat} (h : ¬ (c / 200 = o ∧ c % 200 = j)) : cel (wI m o j x) c = cel m c := by
  unfold cel
  rw [wI_at, if_neg h]
theorem lk_mem {c : Nat} {b : Int × Int} : ∀ {R : IM}, R.lookup c = some b → (c, b) ∈ R
  | [], h => by cases h
  | (k, a) :: R, h => by
    rw [List.lookup_cons] at h
    split at h
    · rename_i e
      have : c = k := by simpa using e
      cases h
      rw [this]
      exact List.mem_cons_self
    · exact List.mem_cons_of_mem _ (lk_mem h)
theorem celI_ok {R : IM} (hI : InvT T m) (hR : rho m R) (c : Nat) : (celI T R c).1 ≤ cel m c ∧ cel m c ≤ (celI T R c).2 := by
  unfold celI
  split
  · rename_i b hb
    exact hR _ (lk_mem hb)
  · exact hI _ _
theorem rho_drop {R : IM} {P : Nat → Bool} {m' : Mm} (hR : rho m R) (h : ∀ c, P c = false → cel m' c = cel m c) : rho m' (dropC R P) := by
  intro q hq
  unfold dropC at hq
  rw [List.mem_filter] at hq
  obtain ⟨h1, h2⟩ := hq
  rw [h q.1 (by simpa using h2)]
  exact hR q h1
theorem rho_app {R Q : IM} (h1 : rho m R) (h2 : rho m Q) : rho m (R ++ Q) := by
  intro q hq
  rcases List.mem_append.mp hq with h | h
  · exact h1 q h
  · exact h2 q h
theorem rho_nil : rho m [] := fun q hq => by cases hq
theorem rho_one {c : Nat} {lo hi : Int} (h1 : lo ≤ cel m c) (h2 : cel m c ≤ hi) : rho m [(c, lo, hi)] := fun q hq => by
  rw [List.mem_singleton] at hq
  subst hq
  exact ⟨h1, h2⟩
theorem frm_wI {o j : Nat} {x : Int32} (hj : j < 200) (h : frm W mE m) (hw : inW W o j = true) : frm W mE (wI m o j x) := by
  intro o' j' h1 h2 h3
  refine ⟨?_, (h o' j' h1 h2 h3).2⟩
  rw [wI_at, if_neg]
  · exact (h o' j' h1 h2 h3).1
  · rintro ⟨rfl, rfl⟩
    unfold inW at hw
    simp only [Bool.or_eq_true, List.contains_iff_mem] at hw
    rcases hw with hw | hw
    · exact h2 hw
    · exact h3 hw
theorem frm_wL {o j : Nat} {x : Int64} (hj : j < 200) (h : frm W mE m) (hw : inW W o j = true) : frm W mE (wL m o j x) := by
  intro o' j' h1 h2 h3
  refine ⟨(h o' j' h1 h2 h3).1, ?_⟩
  rw [wL_at, if_neg]
  · exact (h o' j' h1 h2 h3).2
  · rintro ⟨rfl, rfl⟩
    unfold inW at hw
    simp only [Bool.or_eq_true, List.contains_iff_mem] at hw
    rcases hw with hw | hw
    · exact h2 hw
    · exact h3 hw
theorem frm_tr {V : Wr} {m' : Mm} (h : frm W mE m) (hv : frm V m m') (hs : subW W V = true) : frm W mE m' := by
  intro o j h1 h2 h3
  unfold subW at hs
  simp only [Bool.and_eq_true, List.all_eq_true, Bool.or_eq_true, List.contains_iff_mem] at hs
  have k := hv o j h1 (fun z => h2 (hs.1 o z)) (fun z => by
    rcases hs.2 _ z with q | q
    · have e : (o * 200 + j) / 200 = o := by omega
      rw [e] at q
      exact h2 q
    · exact h3 q)
  exact ⟨k.1.trans (h o j h1 h2 h3).1, k.2.trans (h o j h1 h2 h3).2⟩
theorem frm_cel {V : Wr} {m' : Mm} (hv : frm V m m') {c : Nat} (h : inV V c = false) : cel m' c = cel m c := by
  unfold inV at h
  simp only [Bool.or_eq_false_iff] at h
  unfold cel
  rw [(hv (c / 200) (c % 200) (by omega) (fun z => by rw [← List.contains_iff_mem] at z; rw [z] at h; exact absurd h.1 (by decide)) (fun z => by
    have e : c / 200 * 200 + c % 200 = c := by omega
    rw [e, ← List.contains_iff_mem] at z
    rw [z] at h
    exact absurd h.2 (by decide))).1]
theorem cov_ok {b : Int × Int} {l : List (Int × Int)} (h : covB b l = true) {x : Int × Int} (hx : x ∈ l) : b.1 ≤ x.1 ∧ x.2 ≤ b.2 := by
  unfold covB at h
  have := List.all_eq_true.mp h x hx
  simpa using this
theorem iv_1 {o : Nat} (h : (T.getD o []).length = 1) (j : Nat) : ivO T o j = ivO T o 0 := by
  unfold ivO
  rw [h, Nat.mod_one, Nat.mod_one]
theorem ix_nat {x : Int32} (h : 0 ≤ x.toInt) : (x.toNatClampNeg : Int) = x.toInt := by
  have e : x.toInt.toNat = x.toNatClampNeg := Int32.toNat_toInt x
  omega
theorem inR_i {x : Int32} {n : Nat} (h1 : 0 ≤ x.toInt) (h2 : x.toInt < n) : inR x n = true := by
  unfold inR
  have e := ix_nat h1
  simp only [Bool.and_eq_true, decide_eq_true_eq]
  exact ⟨Int32.le_iff_toInt_le.mpr (by simpa using h1), by omega⟩
theorem pl_mem {a : AI} {x : Int32} (h0 : 0 ≤ a.1) (h1 : a.1 ≤ x.toInt) (h2 : x.toInt ≤ a.2.1) (h3 : (a.2.2 : Int) ∣ x.toInt - a.1) : x.toNatClampNeg ∈ plA a := by
  have e := ix_nat (x := x) (by omega)
  unfold plA
  obtain ⟨t, ht⟩ := h3
  split
  · rename_i hz
    rw [hz] at ht
    rw [List.mem_singleton]
    simp only [Int.natCast_zero, Int.zero_mul] at ht
    omega
  · rename_i hz
    have hs : (0 : Int) < (a.2.2 : Int) := by omega
    have ht0 : 0 ≤ t := by
      apply Int.not_lt.mp
      intro z
      have := Int.mul_neg_of_pos_of_neg hs z
      omega
    have et : ((a.2.2 * t.toNat : Nat) : Int) = x.toInt - a.1 := by
      rw [Int.natCast_mul, Int.toNat_of_nonneg ht0]
      exact ht.symm
    rw [List.mem_map]
    refine ⟨t.toNat, ?_, by omega⟩
    rw [List.mem_range]
    have : t.toNat ≤ (a.2.1 - a.1).toNat / a.2.2 := (Nat.le_div_iff_mul_le (by omega)).mpr (by rw [Nat.mul_comm]; omega)
    omega
variable {sh : List ShE}
theorem fk_get {k o t : Nat} (h : fk sh k o = some t) (m : Mm) : gfI sh k o m = some (fval m o (k % 100) t) := by
  unfold fk at h
  unfold gfI
  cases hs : sh[o]? with
  | none => rw [hs] at h; cases h
  | some e =>
    rw [hs] at h
    cases e with
    | inl p =>
      obtain ⟨ci, fs⟩ := p
      simp only at h ⊢
      split at h
      · rename_i hc
        rw [if_pos hc, h]
      · cases h
    | inr p => cases h
theorem get_ok {L0 L : List Value} {k : Nat} {rs : List Nat} {R : IM} {a : AV} (hI : InvT T m) (hR : rho m R) (h : getA sh T k rs R = some a) {r : Nat} (hr : r ∈ rs) : ∃ v, gfI sh k r m = some v ∧ gv L0 L m a v := by
  unfold getA at h
  have hj : k % 100 < 200 := by omega
  split at h
  · rename_i h1
    have h1 := List.all_eq_true.mp h1 r hr
    split at h
    · rename_i h2
      have c := cov_ok h2 (List.mem_map.mpr ⟨r, hr, rfl⟩)
      have b := celI_ok hI hR (cd r (k % 100))
      rw [cel_cd m hj] at b
      have ev : gfI sh k r m = some (.int (m.1 r (k % 100))) := by
        simp only [Bool.or_eq_true, beq_iff_eq] at h1
        rcases h1 with h1 | h1
        · exact fk_get h1 m
        · exact fk_get h1 m
      refine ⟨_, ev, ?_⟩
      cases h
      refine ⟨_, rfl, gN_i (by omega) (by omega), ?_, Or.inl rfl, fun _ q hq => by cases hq⟩
      split
      · rename_i o
        rw [List.mem_singleton] at hr
        subst hr
        exact Or.inr (Or.inr ⟨by omega, by rw [Nat.add_sub_cancel_left]; exact cel_cd m hj⟩)
      · exact Or.inl rfl
    · cases h
  · split at h
    · rename_i h1
      have h1 := List.all_eq_true.mp h1 r hr
      simp only [beq_iff_eq] at h1
      cases h
      exact ⟨_, fk_get h1 m, gv_tJ _⟩
    · split at h
      · rename_i h1
        have h1 := List.all_eq_true.mp h1 r hr
        cases h
        split at h1
        · rename_i t ht
          refine ⟨_, fk_get ht m, ?_⟩
          exact ⟨t, rfl, List.mem_map.mpr ⟨r, hr, by rw [ht]; rfl⟩⟩
        · cases h1
      · cases h
theorem pf_of {k o t : Nat} (h : fk sh k o = some t) (v : Value) (m : Mm) : pfI sh k o v m = (match t, v with
    | 0, .int x => some (wI m o (k % 100) x)
    | 1, .long x => some (wL m o (k % 100) x)
    | 2, .int x => if x = 0 ∨ x = 1 then some (wI m o (k % 100) x) else none
    | _, _ => none) := by
  unfold fk at h
  unfold pfI
  cases hs : sh[o]? with
  | none => rw [hs] at h; cases h
  | some e =>
    rw [hs] at h
    cases e with
    | inl p =>
      obtain ⟨ci, fs⟩ := p
      simp only at h ⊢
      split at h
      · rename_i hc
        rw [if_pos hc, h]
        rcases t with _ | _ | _ | t <;> cases v <;> rfl
      · cases h
    | inr p => cases h
theorem i01 {x : Int32} (h1 : 0 ≤ x.toInt) (h2 : x.toInt ≤ 1) : x = 0 ∨ x = 1 := by
  by_cases h : x.toInt = 0
  · exact Or.inl (Int32.toInt_inj.mp (by rw [h]; decide))
  · exact Or.inr (Int32.toInt_inj.mp (by have e : x.toInt = 1 := by omega
                                         rw [e]; decide))
theorem put_ok {L0 L : List Value} {k : Nat} {rs : List Nat} {R R' : IM} {a : AV} {v : Value} (hI : InvT T m) (hR : rho m R) (hf : frm W mE m) (h : putA sh T W k rs a R = some R') (ga : gv L0 L m a v) {r : Nat} (hr : r ∈ rs) : ∃ m', pfI sh k r v m = some m' ∧ InvT T m' ∧ rho m' R' ∧ frm W mE m' := by
  have hj : k % 100 < 200 := by omega
  match a, ga, h with
  | none, _, h => cases h
  | some (.inr (.inl _)), _, h => cases h
  | some (.inl (ai, e, s, o, im)), ⟨x, hx, a1, _⟩, h =>
    subst hx
    have A := gN_hul a1
    simp only [putA] at h
    split at h
    · rename_i h1
      have h1 := List.all_eq_true.mp h1 r hr
      simp only [Bool.and_eq_true, Bool.or_eq_true, beq_iff_eq, decide_eq_true_eq] at h1
      obtain ⟨⟨⟨h1, h2⟩, h3⟩, h4⟩ := h1
      have ev : pfI sh k r (.int x) m = some (wI m r (k % 100) x) := by
        rcases h1 with h1 | ⟨⟨h1, q1⟩, q2⟩
        · exact (pf_of h1 _ m).trans rfl
        · exact (pf_of h1 _ m).trans (if_pos (i01 (x := x) (by omega) (by omega)))
      refine ⟨_, ev, Inv_wI hI (by omega) (by omega), ?_, frm_wI hj hf h4⟩
      cases h
      apply rho_app
      · split
        · rename_i o
          rw [List.mem_singleton] at hr
          subst hr
          have e1 : cel (wI m r (k % 100) x) (cd r (k % 100)) = x.toInt := by
            rw [cel_cd _ hj, wI_at, if_pos ⟨rfl, rfl⟩]
          exact rho_one (by rw [e1]; omega) (by rw [e1]; omega)
        · exact rho_nil
      · apply rho_drop hR
        intro c hc
        apply cel_wI
        rintro ⟨e1, e2⟩
        have : c = cd r (k % 100) := by rw [← e1, ← e2]; exact (cd_un c).symm
        rw [List.any_eq_false] at hc
        exact hc r hr (by simpa using this)
    · cases h
  | some (.inr (.inr (lo, hi, s))), ⟨x, hx, _⟩, h =>
    subst hx
    simp only [putA] at h
    split at h
    · rename_i h1
      have h1 := List.all_eq_true.mp h1 r hr
      simp only [Bool.and_eq_true, beq_iff_eq] at h1
      refine ⟨_, pf_of h1.1 _ m, hI, ?_, frm_wL hj hf h1.2⟩
      cases h
      exact hR
    · cases h
theorem ald_ok {L0 L : List Value} {kd : Nat} {rs : List Nat} {R : IM} {a : AI} {c : AV} {x : Int32} (hI : InvT T m) (hR : rho m R) (h : aldA sh T kd rs a R = some c) (h1 : a.1 ≤ x.toInt) (h2 : x.toInt ≤ a.2.1) (h3 : (a.2.2 : Int) ∣ x.toInt - a.1) {r : Nat} (hr : r ∈ rs) : ∃ y, alI sh tb0 kd r x m = some y ∧ gv L0 L m c (.int y) := by
  unfold aldA at h
  split at h
  · rename_i ha
    have ha := List.all_eq_true.mp ha r hr
    simp only [Bool.and_eq_true] at ha
    obtain ⟨q1, q2⟩ := ha
    have key : ∃ y, alI sh tb0 kd r x m = some y ∧ (∃ b ∈ (arA sh T kd r a R).getD [], b.1 ≤ y.toInt ∧ y.toInt ≤ b.2) ∧ (r < 1000 → a.1 = a.2.1 → 0 ≤ a.1 ∧ a.1 < 200 ∧ y = m.1 r a.1.toNat ∨ tb0 r ≠ none) := by
      unfold arA at q1 ⊢
      unfold alI
      cases hs : sh[r]? with
      | none =>
        rw [hs] at q1
        simp only at q1 ⊢
        cases hq : tb0 r with
        | none => rw [hq] at q1; cases q1
        | some Q =>
          rw [hq] at q1
          simp only at q1 ⊢
          split at q1
          · rename_i hc
            obtain ⟨rfl, c1, c2⟩ := hc
            have hin : inR x Q.length = true := inR_i (by omega) (by omega)
            rw [if_pos ⟨rfl, hin⟩]
            refine ⟨_, rfl, ?_, fun _ _ => Or.inr (by simp)⟩
            have e := ix_nat (x := x) (by omega)
            have hl : x.toNatClampNeg < Q.length := by omega
            refine ⟨((Q.getD x.toNatClampNeg 0).toInt, (Q.getD x.toNatClampNeg 0).toInt), ?_, Int.le_refl _, Int.le_refl _⟩
            rw [if_pos ⟨rfl, c1, c2⟩]
            simp only [Option.getD_some]
            refine List.mem_map.mpr ⟨Q.getD x.toNatClampNeg 0, ?_, rfl⟩
            rw [List.getD_eq_getElem?_getD, List.getElem?_eq_getElem hl]
            exact List.getElem_mem hl
          · cases q1
      | some p =>
        rw [hs] at q1
        cases p with
        | inl p => cases q1
        | inr p =>
          obtain ⟨k, n, qs⟩ := p
          simp only at q1 ⊢
          split at q1
          · rename_i hc
            obtain ⟨rfl, c1, c2, c3⟩ := hc
            have hin : inR x n = true := inR_i (by omega) (by omega)
            have e := ix_nat (x := x) (by omega)
            rw [if_pos ⟨rfl, hin⟩]
            refine ⟨_, rfl, ?_, fun _ z => Or.inl ⟨c1, by omega, by
              have : x.toNatClampNeg = a.1.toNat := by omega
              rw [this]⟩⟩
            rw [if_pos ⟨rfl, c1, c2, c3⟩]
            simp only [Option.getD_some]
            split
            · rename_i hz
              refine ⟨_, List.mem_singleton.mpr rfl, ?_⟩
              have := hI r x.toNatClampNeg
              rw [iv_1 hz.1] at this
              exact this
            · refine ⟨_, List.mem_map.mpr ⟨_, pl_mem c1 h1 h2 h3, rfl⟩, ?_⟩
              have b := celI_ok hI hR (cd r x.toNatClampNeg)
              rw [cel_cd m (by omega)] at b
              exact b
          · cases q1
    obtain ⟨y, e1, ⟨b, hb, b1, b2⟩, e2⟩ := key
    refine ⟨y, e1, ?_⟩
    have cv := cov_ok q2 hb
    cases h
    refine ⟨_, rfl, gN_i (by omega) (by omega), ?_, Or.inl rfl, fun _ q hq => by cases hq⟩
    split
    · rename_i o
      rw [List.mem_singleton] at hr
      subst hr
      split
      · rename_i hz
        rcases e2 hz.2 hz.1 with ⟨z1, z2, z3⟩ | z
        · refine Or.inr (Or.inr ⟨by omega, ?_⟩)
          rw [Nat.add_sub_cancel_left, cel_cd m (by omega), z3]
        · exfalso
          apply z
          unfold tb0
          rw [if_neg (by omega), if_neg (by omega)]
      · exact Or.inl rfl
    · exact Or.inl rfl
  · cases h
theorem ast_ok {kd : Nat} {rs : List Nat} {R R' : IM} {a w : AI} {x y : Int32} (hI : InvT T m) (hR : rho m R) (hf : frm W mE m) (h : astA sh T W kd rs a w R = some R') (h1 : a.1 ≤ x.toInt) (h2 : x.toInt ≤ a.2.1) (h3 : (a.2.2 : Int) ∣ x.toInt - a.1) (w1 : w.1 ≤ y.toInt) (w2 : y.toInt ≤ w.2.1) {r : Nat} (hr : r ∈ rs) : ∃ m', asI sh kd r x y m = some m' ∧ InvT T m' ∧ rho m' R' ∧ frm W mE m' := by
  unfold astA at h
  split at h
  · rename_i ha
    have ha := List.all_eq_true.mp ha r hr
    simp only [Bool.and_eq_true] at ha
    obtain ⟨⟨⟨q1, q2⟩, q3⟩, q4⟩ := ha
    unfold asI
    cases hs : sh[r]? with
    | none => rw [hs] at q1; cases q1
    | some p =>
      rw [hs] at q1
      cases p with
      | inl p => cases q1
      | inr p =>
        obtain ⟨k, n, qs⟩ := p
        simp only [decide_eq_true_eq] at q1 ⊢
        obtain ⟨rfl, c1, c2, c3⟩ := q1
        have hin : inR x n = true := inR_i (by omega) (by omega)
        have e := ix_nat (x := x) (by omega)
        have hx : x.toNatClampNeg < 200 := by omega
        have hv : k = 0 ∨ y = 0 ∨ y = 1 := by
          simp only [Bool.or_eq_true, Bool.and_eq_true, beq_iff_eq, decide_eq_true_eq] at q3
          rcases q3 with q3 | q3
          · exact Or.inl q3
          · exact Or.inr (i01 (by omega) (by omega))
        rw [if_pos ⟨rfl, hin, hv⟩]
        have hb : (ivO T r x.toNatClampNeg).1 ≤ y.toInt ∧ y.toInt ≤ (ivO T r x.toNatClampNeg).2 := by
          split at q2
          · rename_i hz
            rw [iv_1 hz]
            simp only [Bool.and_eq_true, decide_eq_true_eq] at q2
            omega
          · have := List.all_eq_true.mp q2 _ (pl_mem c1 h1 h2 h3)
            simp only [Bool.and_eq_true, decide_eq_true_eq] at this
            omega
        have hin2 : inW W r x.toNatClampNeg = true := by
          unfold inW
          rw [Bool.or_eq_true] at q4 ⊢
          rcases q4 with q4 | q4
          · exact Or.inl q4
          · exact Or.inr (List.all_eq_true.mp q4 _ (pl_mem c1 h1 h2 h3))
        refine ⟨_, rfl, Inv_wI hI hb.1 hb.2, ?_, frm_wI hx hf hin2⟩
        cases h
        apply rho_app
        · split
          · rename_i o
            rw [List.mem_singleton] at hr
            subst hr
            split
            · rename_i hz
              have e2 : a.1.toNat = x.toNatClampNeg := by omega
              have e1 : cel (wI m r x.toNatClampNeg y) (cd r a.1.toNat) = y.toInt := by
                rw [e2, cel_cd _ hx, wI_at, if_pos ⟨rfl, rfl⟩]
              exact rho_one (by rw [e1]; omega) (by rw [e1]; omega)
            · exact rho_nil
          · exact rho_nil
        · apply rho_drop hR
          intro c hc
          apply cel_wI
          rintro ⟨e1, e2⟩
          rw [List.any_eq_false] at hc
          refine hc r hr ?_
          simp only [Bool.and_eq_true, beq_iff_eq, List.contains_iff_mem]
          exact ⟨e1, by rw [e2]; exact pl_mem c1 h1 h2 h3⟩
  · cases h
theorem alr_ok {L0 L : List Value} {rs : List Nat} {a : AI} {c : AV} {x : Int32} (h : alrA sh rs a = some c) (h1 : a.1 ≤ x.toInt) (h2 : x.toInt ≤ a.2.1) {r : Nat} (hr : r ∈ rs) : ∃ y, arI sh r x = some y ∧ gv L0 L m c (.ref y) := by
  unfold alrA at h
  split at h
  · rename_i o
    rw [List.mem_singleton] at hr
    subst hr
    unfold arI
    split at h
    · rename_i k n qs hs
      rw [hs]
      simp only
      split at h
      · rename_i hc
        obtain ⟨c0, c1, c2, c3⟩ := hc
        have hin : inR x n = true := inR_i (by omega) (by omega)
        have e := ix_nat (x := x) (by omega)
        rw [if_pos ⟨c0, hin⟩]
        have hl : x.toNatClampNeg < qs.length := by omega
        refine ⟨_, List.getElem?_eq_getElem hl, ?_⟩
        cases h
        refine ⟨_, rfl, ?_⟩
        split
        · rename_i hz
          have e2 : a.1.toNat = x.toNatClampNeg := by omega
          rw [List.mem_singleton, e2, List.getD_eq_getElem?_getD, List.getElem?_eq_getElem hl]
          rfl
        · exact List.getElem_mem hl
      · cases h
    · cases h
  · cases h
end Sm
end
section
/-! THE CHECKER IS SOUND: instructions -/
theorem leN_ok {a b : AI} {e f : Option Int} {x : Int} (h : leN a e b f = true) (g : gN a e x) : gN b f x := by
  unfold leN at h
  simp only [Bool.and_eq_true] at h
  obtain ⟨h1, h2⟩ := h
  rcases g with g | ⟨g1, g2, g3⟩
  · subst g
    simp only [Bool.or_eq_true, Bool.and_eq_true, beq_iff_eq, decide_eq_true_eq] at h1
    rcases h1 with h1 | ⟨⟨h3, h4⟩, h5⟩
    · exact Or.inl h1
    · refine Or.inr ⟨h3, h4, ?_⟩
      rw [h5]
      exact one_dv _
  · simp only [Bool.or_eq_true, Bool.and_eq_true, beq_iff_eq, decide_eq_true_eq] at h2
    rcases h2 with (⟨h3, h4⟩ | h3) | ⟨⟨h3, h4⟩, h5⟩
    · have : x = a.1 := by omega
      rw [this]
      exact Or.inl h4
    · omega
    · refine Or.inr ⟨by omega, by omega, ?_⟩
      rcases h5 with h5 | ⟨h5, h6⟩
      · rw [h5]
        exact one_dv _
      · have d1 : (b.2.2 : Int) ∣ a.1 - b.1 := Int.dvd_of_emod_eq_zero h6
        have d2 : (b.2.2 : Int) ∣ x - a.1 := by
          rcases h5 with h5 | h5
          · exact Int.dvd_trans (Int.ofNat_dvd.mpr (Nat.dvd_of_mod_eq_zero h5)) g3
          · have : x - a.1 = 0 := by omega
            rw [this]
            exact Int.dvd_zero _
        have e1 : x - b.1 = (x - a.1) + (a.1 - b.1) := by omega
        rw [e1]
        exact Int.dvd_add d2 d1
section Si
variable {L0 L : List Value} {m mE : Mm} {T : List (List (Int × Int))} {W : Wr}
theorem srcB_le {q q1 : Nat × Int × Int} (h : srcB L m q1) (h1 : q1.1 = q.1) (h2 : q.2.1 ≤ q1.2.1) (h3 : q1.2.2 ≤ q.2.2) : srcB L m q := by
  unfold srcB at h ⊢
  rw [h1] at h
  rcases h with ⟨a, b, y, c, d, e⟩ | ⟨a, b, c⟩
  · exact Or.inl ⟨a, b, y, c, by omega, by omega⟩
  · exact Or.inr ⟨a, by omega, by omega⟩
theorem leV_ok {a b : AV} {v : Value} (h : leV a b = true) (g : gv L0 L m a v) (L1 : List Value) : gv L1 L m b v := by
  unfold leV at h
  split at h
  · trivial
  · rename_i bi f s o im ai e s1 o1 im1
    obtain ⟨x, hx, g1, g2, g3, g4⟩ := g
    simp only [Bool.and_eq_true, Bool.or_eq_true, beq_iff_eq] at h
    obtain ⟨⟨⟨h1, h2⟩, h3⟩, h4⟩ := h
    refine ⟨x, hx, leN_ok h1 g1, ?_, Or.inl h3, fun hx0 q hq => ?_⟩
    · rcases h2 with h2 | h2
      · exact Or.inl h2
      · rw [h2]; exact g2
    · have k := List.all_eq_true.mp h4 q hq
      rw [List.any_eq_true] at k
      obtain ⟨q1, k1, k2⟩ := k
      simp only [Bool.and_eq_true, beq_iff_eq, decide_eq_true_eq] at k2
      exact srcB_le (g4 hx0 q1 k1) k2.1.1 k2.1.2 k2.2
  · rename_i rs rs1
    obtain ⟨r, hr, g1⟩ := g
    have k := List.all_eq_true.mp h r g1
    exact ⟨r, hr, List.contains_iff_mem.mp k⟩
  · rename_i lo hi s lo1 hi1 s1
    obtain ⟨x, hx, g1, g2, g3⟩ := g
    simp only [Bool.and_eq_true, Bool.or_eq_true, beq_iff_eq, decide_eq_true_eq] at h
    refine ⟨x, hx, by omega, by omega, ?_⟩
    rcases h.2 with h2 | h2
    · exact Or.inl h2
    · rw [h2]; exact g3
  · cases h
theorem leT_ok {as bs : List AV} {st : List Value} (h : leT as bs = true) (g : gT L0 L m as st) (L1 : List Value) : gT L1 L m bs st := by
  induction as generalizing bs st with
  | nil =>
    cases bs with
    | nil => rw [gT_nil g]; trivial
    | cons b bs => cases h
  | cons a as ih =>
    cases bs with
    | nil => cases h
    | cons b bs =>
      obtain ⟨v, vs, rfl, g1, g2⟩ := gT_cons g
      simp only [leT, Bool.and_eq_true] at h
      exact ⟨leV_ok h.1 g1 L1, ih h.2 g2⟩
theorem gT_cle {as : List AV} {st : List Value} (h : gT L0 L m as st) (L1 L' : List Value) (m' : Mm) : gT L1 L' m' (as.map cle) st := by
  induction as generalizing st with
  | nil => rw [gT_nil h]; trivial
  | cons a as ih =>
    obtain ⟨v, vs, rfl, g1, g2⟩ := gT_cons h
    exact ⟨gv_cle g1 _ _ _, ih g2⟩
theorem leR_ok {R Q : IM} (h : leR T R Q = true) (hI : InvT T m) (hR : rho m R) : rho m Q := by
  intro q hq
  unfold leR at h
  have k := List.all_eq_true.mp h q hq
  simp only [Bool.and_eq_true, decide_eq_true_eq] at k
  have b := celI_ok hI hR q.1
  omega
theorem gT_app {as bs : List AV} {st : List Value} (h : gT L0 L m (as ++ bs) st) : ∃ s1 s2, st = s1 ++ s2 ∧ gT L0 L m as s1 ∧ gT L0 L m bs s2 := by
  induction as generalizing st with
  | nil => exact ⟨[], st, rfl, trivial, h⟩
  | cons a as ih =>
    obtain ⟨v, vs, rfl, g1, g2⟩ := gT_cons h
    obtain ⟨s1, s2, rfl, g3, g4⟩ := ih g2
    exact ⟨v :: s1, s2, rfl, ⟨g1, g3⟩, g4⟩
theorem pop_ok {n : Nat} {st st' acc as : List AV} {vs va : List Value} (h : popA n st acc = some (as, st')) (g : gT L0 L m st vs) (ga : gT L0 L m acc va) : ∃ As vs', popN n vs va = some (As, vs') ∧ gT L0 L m as As ∧ gT L0 L m st' vs' := by
  induction n generalizing st acc vs va with
  | zero =>
    cases h
    exact ⟨va, vs, rfl, ga, g⟩
  | succ n ih =>
    cases st with
    | nil => cases h
    | cons a st =>
      obtain ⟨v, vs, rfl, g1, g2⟩ := gT_cons g
      exact ih h g2 ⟨g1, ga⟩
theorem gT_get {as : List AV} {st : List Value} (g : gT L0 L m as st) {i : Nat} {a : AV} (h : as[i]? = some a) : ∃ v, st[i]? = some v ∧ gv L0 L m a v := by
  induction as generalizing st i with
  | nil => cases h
  | cons b as ih =>
    obtain ⟨v, vs, rfl, g1, g2⟩ := gT_cons g
    cases i with
    | zero => cases h; exact ⟨v, rfl, g1⟩
    | succ i => exact ih g2 h
theorem imp_ok {as : List AV} {As : List Value} {V : Wr} {im : IM} {m' : Mm} {x : Int32} (g : gT L0 L m as As) (hf : frm V m m') (hi : impG im As (some (.int x)) m') (hx : x.toInt ≠ 0) : ∀ q ∈ impA as V im, srcB L m' q := by
  intro q hq
  unfold impA at hq
  rw [List.mem_filterMap] at hq
  obtain ⟨p, hp, h2⟩ := hq
  rcases hi x rfl hx p hp with ⟨hlt, w0, y, e1, e0, e2, e3⟩ | ⟨hge, e2, e3⟩
  case inr =>
    rw [if_pos hge] at h2
    cases h2
    exact Or.inr ⟨hge, e2, e3⟩
  rw [if_neg (by omega)] at h2
  split at h2
  · rename_i a ha
    split at h2
    · cases h2
    · rename_i hn
      simp only [Option.some.injEq] at h2
      subst h2
      obtain ⟨v, k1, k2⟩ := gT_get g ha
      rw [e1] at k1
      cases k1
      have key : srcV L m (srA a) y → srcB L m' (srA a, p.2) := fun g2 => by
        have hn1 : ¬ srA a = 0 := fun z => hn (Or.inl z)
        rcases g2 with g2 | ⟨g2, g5, w, g6, g7⟩ | ⟨g2, g5⟩
        · exact absurd g2 hn1
        · exact Or.inl ⟨g2, g5, w, g6, by show p.2.1 ≤ _; omega, by show _ ≤ p.2.2; omega⟩
        · have hv : inV V (srA a - 1000) = false := by
            cases hb : inV V (srA a - 1000) with
            | false => rfl
            | true => exact absurd (Or.inr ⟨g2, hb⟩) hn
          have e4 := frm_cel hf hv
          exact Or.inr ⟨g2, by show p.2.1 ≤ cel m' (srA a - 1000); omega, by show cel m' (srA a - 1000) ≤ p.2.2; omega⟩
      match a, k2, hn, key with
      | none, _, hn, _ => exact absurd (Or.inl rfl) hn
      | some (.inr (.inl _)), _, hn, _ => exact absurd (Or.inl rfl) hn
      | some (.inr (.inr (lo, hi, s))), ⟨z, hz, g1, g2, g3⟩, hn, key =>
        subst hz
        cases e0
        exact key g3
      | some (.inl (ai, e, s, o, im)), ⟨z, hz, g1, g2, g3, g4⟩, hn, key =>
        subst hz
        cases e0
        exact key g2
  · cases h2
theorem call_ok {Tc : List CE} {C : CallS} (hC : ∀ c ∈ Tc, Hd T C c) {z : Nat} {as st : List AV} {S S' : AS} {As vs : List Value} (h : calA T Tc W z as st S = some S') (hL : gL L0 L m S.1) (g : gT L0 L m as As) (gs : gT L0 L m st vs) (hI : InvT T m) (hR : rho m S.2.2) (hf : frm W mE m) : (vs.map fun v => v.category).sum ≤ 8 ∧ ∃ v m', C z As m = some (v, m') ∧ gZ T W mE L0 S' L (v.toList ++ vs) m' := by
  unfold calA at h
  split at h
  · rename_i c hc
    have hm := List.mem_of_find?_eq_some hc
    have hp := List.find?_some hc
    simp only [Bool.and_eq_true, beq_iff_eq] at hp
    obtain ⟨⟨rfl, p2⟩, p3⟩ := hp
    split at h
    · rename_i hs
      obtain ⟨hs, h8⟩ := hs
      refine ⟨Nat.le_trans (gT_cat gs) h8, ?_⟩
      obtain ⟨v, m', r1, r2, r3, r4, r5, r6⟩ := hC c hm As m (gT_cle (leT_ok p2 g []) _ _ _) hI (leR_ok p3 hI hR)
      refine ⟨v, m', r1, ?_⟩
      cases h
      refine ⟨gL_clr hL m', ?_, r3, rho_app r4 (rho_drop hR (fun q hq => frm_cel r5 hq)), frm_tr hf r5 hs⟩
      have gs' := gT_clr gs L m'
      show gT L0 L m' ((match c.2.2.2.1 with | none => [] | some b => [addIm (cle (some b)) (impA as c.2.2.2.2.2.1 c.2.2.2.2.2.2)]) ++ st.map clr) (v.toList ++ vs)
      generalize c.2.2.2.1 = ra at r2 ⊢
      cases ra with
      | none => cases v with
        | none => exact gs'
        | some v => exact r2.elim
      | some b => cases v with
        | none => exact r2.elim
        | some w =>
          refine ⟨?_, gs'⟩
          match b, r2 with
          | .inl (ai, e, s, o, im), ⟨x, hx, k1, k2, k3, k4⟩ =>
            subst hx
            exact ⟨x, rfl, k1, Or.inl rfl, Or.inl rfl, fun hx0 => imp_ok g r5 r6 hx0⟩
          | .inr (.inl rs), r2 => exact r2
          | .inr (.inr (lo, hi, s)), ⟨x, hx, k1, k2, k3⟩ => exact ⟨x, hx, k1, k2, Or.inl rfl⟩
    · cases h
  · cases h
theorem bop_ok {F : AV → AV → Option AV} {f : Int32 → Int32 → Int32} {P : Int32 → Prop} (hF : ∀ {a b c : AV} {v w : Value}, F a b = some c → gv L0 L m a v → gv L0 L m b w → ∃ x y : Int32, v = .int x ∧ w = .int y ∧ P y ∧ gv L0 L m c (.int (f x y))) {S S' : AS} {st : List Value} (h : bop F S = some S') (g : gZ T W mE L0 S L st m) : ∃ x y st0, st = .int y :: .int x :: st0 ∧ P y ∧ gZ T W mE L0 S' L (.int (f x y) :: st0) m := by
  obtain ⟨g1, g2, g3, g4, g5⟩ := g
  unfold bop at h
  split at h
  · rename_i b a st1 hs
    rw [hs] at g2
    obtain ⟨w, vs, rfl, k1, k2⟩ := gT_cons g2
    obtain ⟨v, vs, rfl, k3, k4⟩ := gT_cons k2
    split at h
    · rename_i c hc
      obtain ⟨x, y, rfl, rfl, hp, k5⟩ := hF hc k3 k1
      cases h
      exact ⟨x, y, vs, rfl, hp, g1, ⟨k5, k4⟩, g3, g4, g5⟩
    · cases h
  · cases h
end Si
section Sj
variable {L0 L st : List Value} {m mE : Mm} {T : List (List (Int × Int))} {W : Wr} {sh : List ShE}
theorem cpy_ok {S S' : AS} (h : cpyA sh T W S = some S') (g : gZ T W mE L0 S L st m) : ∃ n dp o1 sp o0 st0 m', st = .int n :: .int dp :: .ref o1 :: .int sp :: .ref o0 :: st0 ∧ (st0.map fun v => v.category).sum ≤ 8 ∧ cpI sh o0 o1 sp dp n m = some m' ∧ gZ T W mE L0 S' L st0 m' := by
  obtain ⟨g1, g2, g3, g4, g5⟩ := g
  unfold cpyA at h
  split at h
  · rename_i ni s1 o1' i1 di s2 o2' i2 o1 si s3 o3' i3 o0 st1 hs
    rw [hs] at g2
    obtain ⟨v1, vs, rfl, k1, ga2⟩ := gT_cons g2
    obtain ⟨v2, vs, rfl, k2, gb2⟩ := gT_cons ga2
    obtain ⟨v3, vs, rfl, k3, gc2⟩ := gT_cons gb2
    obtain ⟨v4, vs, rfl, k4, gd2⟩ := gT_cons gc2
    obtain ⟨v5, vs, rfl, k5, ge2⟩ := gT_cons gd2
    obtain ⟨n, rfl, n1, -⟩ := k1
    obtain ⟨dp, rfl, d1, -⟩ := k2
    obtain ⟨r1, rfl, e1⟩ := k3
    obtain ⟨sp, rfl, s1, -⟩ := k4
    obtain ⟨r0, rfl, e0⟩ := k5
    rw [List.mem_singleton] at e1 e0
    subst e1 e0
    split at h
    · rename_i hc
      unfold cpyC at hc
      simp only [Bool.and_eq_true, decide_eq_true_eq] at hc
      obtain ⟨⟨⟨⟨⟨⟨⟨⟨⟨⟨c1, c2⟩, c3⟩, c4⟩, c5⟩, c6⟩, c7⟩, c8⟩, c9⟩, c10⟩, c11⟩ := hc
      have en := gN_1 n1 c1
      have ed := gN_1 d1 (by omega)
      have es := gN_1 s1 (by omega)
      have qn := ix_nat (x := n) (by omega)
      have qd := ix_nat (x := dp) (by omega)
      have qs := ix_nat (x := sp) (by omega)
      split at c8
      · rename_i n0 l0 n1' l1 hs0 hs1
        simp only [Bool.and_eq_true, decide_eq_true_eq] at c8
        have z0 : ∀ x : Int32, 0 ≤ x.toInt → 0 ≤ x := fun x hx => Int32.le_iff_toInt_le.mpr (by simpa using hx)
        refine ⟨n, dp, r1, sp, r0, vs, (va_up m.1 r1 (va_cpy (m.1 r0) (m.1 r1) sp.toNatClampNeg dp.toNatClampNeg n.toNatClampNeg), m.2), rfl, Nat.le_trans (gT_cat ge2) c11, ?_, ?_⟩
        · unfold cpI
          rw [hs0, hs1]
          simp only
          rw [if_pos ⟨z0 _ (by omega), z0 _ (by omega), z0 _ (by omega), by omega, by omega, c7⟩]
        · cases h
          have eat : ∀ o j, (va_up m.1 r1 (va_cpy (m.1 r0) (m.1 r1) sp.toNatClampNeg dp.toNatClampNeg n.toNatClampNeg)) o j = if o = r1 ∧ j < n.toNatClampNeg then m.1 r0 j else m.1 o j := by
            intro o j
            simp only [va_up]
            by_cases ho : o = r1
            · subst ho
              rw [if_pos rfl]
              simp only [va_cpy]
              have zd : dp.toNatClampNeg = 0 := by omega
              have zs : sp.toNatClampNeg = 0 := by omega
              rw [zd, zs]
              by_cases hj : j < n.toNatClampNeg
              · rw [if_pos ⟨by omega, by omega⟩, if_pos ⟨trivial, hj⟩, Nat.sub_zero, Nat.zero_add]
              · rw [if_neg (fun z => hj (by omega)), if_neg (fun z => hj z.2)]
            · rw [if_neg ho, if_neg (fun z => ho z.1)]
          refine ⟨gL_clr g1 _, gT_clr ge2 _ _, ?_, (show rho _ (dropC S.2.2 (fun c => c / 200 == r1)) from rho_drop g4 ?_), ?_⟩
          · intro o j
            show (ivO T o j).1 ≤ ((va_up m.1 r1 (va_cpy (m.1 r0) (m.1 r1) sp.toNatClampNeg dp.toNatClampNeg n.toNatClampNeg)) o j).toInt ∧ ((va_up m.1 r1 (va_cpy (m.1 r0) (m.1 r1) sp.toNatClampNeg dp.toNatClampNeg n.toNatClampNeg)) o j).toInt ≤ _
            rw [eat]
            split
            · rename_i hz
              obtain ⟨rfl, hz⟩ := hz
              have k := List.all_eq_true.mp c9 j (List.mem_range.mpr (by omega))
              simp only [Bool.and_eq_true, decide_eq_true_eq] at k
              have b := g3 r0 j
              omega
            · exact g3 o j
          · intro c hc
            unfold cel
            show ((va_up m.1 r1 (va_cpy (m.1 r0) (m.1 r1) sp.toNatClampNeg dp.toNatClampNeg n.toNatClampNeg)) (c / 200) (c % 200)).toInt = _
            rw [eat, if_neg]
            rintro ⟨hz, -⟩
            rw [hz] at hc
            simp at hc
          · intro o j h1 h2 h3
            refine ⟨?_, (g5 o j h1 h2 h3).2⟩
            show (va_up m.1 r1 (va_cpy (m.1 r0) (m.1 r1) sp.toNatClampNeg dp.toNatClampNeg n.toNatClampNeg)) o j = _
            rw [eat, if_neg]
            · exact (g5 o j h1 h2 h3).1
            · rintro ⟨rfl, -⟩
              exact h2 (List.contains_iff_mem.mp c10)
      · cases c8
    · cases h
  · cases h
end Sj
end
section
/-! THE CHECKER IS SOUND: every plain instruction -/
section Sk
variable {L0 L st : List Value} {m mE : Mm} {T : List (List (Int × Int))} {W : Wr} {sh : List ShE} {Tc : List CE} {C : CallS}
theorem absI_ok (hC : ∀ c ∈ Tc, Hd T C c) {i : ClassFile.Instr} {S S' : AS} (h : absI sh T Tc W i S = some S') (g : gZ T W mE L0 S L st m) : ∃ L' st' m', sI sh tb0 mN mO C i L st m = some (L', st', m') ∧ gZ T W mE L0 S' L' st' m' := by
  obtain ⟨g1, g2, g3, g4, g5⟩ := id g
  unfold absI at h
  split at h
  · rename_i n
    split at h
    · rename_i hn
      cases h
      exact ⟨_, _, _, rfl, g1, ⟨gv_cst hn, g2⟩, g3, g4, g5⟩
    · cases h
  · rename_i n
    split at h
    · rename_i hn
      cases h
      have e : (Int64.ofInt n).toInt = n := Int64.toInt_ofInt_of_le (by omega) (by omega)
      exact ⟨_, _, _, rfl, g1, ⟨⟨_, rfl, by omega, by omega, Or.inl rfl⟩, g2⟩, g3, g4, g5⟩
    · cases h
  · cases h
    exact ⟨_, _, _, rfl, g1, ⟨⟨_, rfl, List.mem_singleton.mpr rfl⟩, g2⟩, g3, g4, g5⟩
  · rename_i k
    split at h
    · rename_i ai e s o im ha
      obtain ⟨x, hx, k1, k2, k3, k4⟩ := gL_at g1 ha
      split at h
      · cases h
        refine ⟨L, .int x :: st, m, ?_, g1, ⟨⟨x, rfl, k1, ?_, k3, k4⟩, g2⟩, g3, g4, g5⟩
        · simp only [sI, hx]
        · exact Or.inr (Or.inl ⟨by omega, by omega, x, hx, rfl⟩)
      · cases h
    · cases h
  · rename_i k
    split at h
    · rename_i a ha
      obtain ⟨lo, hi, s⟩ := a
      obtain ⟨x, hx, k1, k2, k3⟩ := gL_at g1 ha
      cases h
      refine ⟨L, .long x :: st, m, ?_, g1, ⟨⟨x, rfl, k1, k2, k3⟩, g2⟩, g3, g4, g5⟩
      simp only [sI, hx]
    · cases h
  · rename_i k
    split at h
    · rename_i a ha
      obtain ⟨x, hx, k1⟩ := gL_at g1 ha
      cases h
      refine ⟨L, .ref x :: st, m, ?_, g1, ⟨⟨x, rfl, k1⟩, g2⟩, g3, g4, g5⟩
      simp only [sI, hx]
    · cases h
  · rename_i k
    split at h
    · rename_i a st1 hs
      rw [hs] at g2
      obtain ⟨v, vs, rfl, k1, k2⟩ := gT_cons g2
      split at h
      · rename_i hc
        obtain ⟨x, rfl⟩ := isI_v hc.1 k1
        have hl : k < L.length := by rw [← g1.1]; exact hc.2
        cases h
        refine ⟨_, vs, m, ?_, gL_st g1 k1 hl, gT_clr k2 _ _, g3, g4, g5⟩
        simp only [sI, if_pos hl]
      · cases h
    · cases h
  · rename_i k
    split at h
    · rename_i a st1 hs
      rw [hs] at g2
      obtain ⟨v, vs, rfl, k1, k2⟩ := gT_cons g2
      split at h
      · rename_i hc
        obtain ⟨x, rfl, k3⟩ := id k1
        have hl : k < L.length := by rw [← g1.1]; exact hc
        cases h
        refine ⟨_, vs, m, ?_, gL_st g1 k1 hl, gT_clr k2 _ _, g3, g4, g5⟩
        simp only [sI, if_pos hl]
      · cases h
    · cases h
  · rename_i k
    split at h
    · rename_i a st1 hs
      rw [hs] at g2
      obtain ⟨v, vs, rfl, k1, k2⟩ := gT_cons g2
      split at h
      · rename_i hc
        obtain ⟨x, rfl⟩ := isJ_v hc.1 k1
        have hl : k + 1 < L.length := by rw [← g1.1]; exact hc.2
        cases h
        refine ⟨st2 L k (.long x), vs, m, by simp only [sI, if_pos hl], ?_, gT_clr k2 _ _, g3, g4, g5⟩
        have q := gL_none (i := k + 1) (gL_st g1 k1 (by omega : k < L.length))
        have e1 : st2 L k (.long x) = (stL L k (.long x)).set (k + 1) noV := rfl
        rw [e1]
        refine ⟨by have := q.1; simp only [List.length_set, List.length_map] at this ⊢; exact this, fun j b hj => ?_⟩
        have q2 := q.2 j
        rw [List.getElem?_set] at hj
        by_cases e : k + 1 = j
        · rw [if_pos e] at hj
          split at hj
          · cases hj; trivial
          · cases hj
        · rw [if_neg e] at hj
          have hj2 := hj
          rw [List.getElem?_set] at hj
          have q3 := gL_st g1 k1 (by omega : k < L.length)
          have q4 := q3.2 j b hj2
          rw [ld_set, if_neg (fun z => e z.1)]
          by_cases e2 : k = j
          · rw [if_pos e2] at hj
            split at hj
            · cases hj
              exact gv_clr (a := clr a) q4 _ _ |> fun z => by
                have : clr (clr a) = clr a := by
                  match a with
                  | none => rfl
                  | some (.inl _) => rfl
                  | some (.inr (.inl _)) => rfl
                  | some (.inr (.inr _)) => rfl
                rw [this] at z
                exact z
            · cases hj
          · rw [if_neg e2] at hj
            unfold stL
            rw [ld_set, if_neg (fun z => e2 z.1)]
            exact pre_ok g1 hj _
      · cases h
    · cases h
  · rename_i k n
    split at h
    · rename_i a ha
      split at h
      · rename_i hn
        split at h
        · rename_i c hc
          obtain ⟨x, y, hx, hy, k5⟩ := add_ok hc (gL_at g1 ha) (gv_cst (L0 := L0) (L := L) (m := m) hn)
          cases hy
          split at h
          · rename_i hl
            have hl : k < L.length := by rw [← g1.1]; exact hl
            cases h
            refine ⟨_, st, m, ?_, gL_st g1 k5 hl, gT_clr g2 _ _, g3, g4, g5⟩
            simp only [sI, hx, if_pos hl]
          · cases h
        · cases h
      · cases h
    · cases h
  · obtain ⟨x, y, s0, rfl, -, k⟩ := bop_ok (P := fun _ => True) (f := fun x y => x + y) (fun h1 h2 h3 => by
      obtain ⟨x, y, a, b, c⟩ := add_ok h1 h2 h3
      exact ⟨x, y, a, b, trivial, c⟩) h g
    exact ⟨_, _, _, rfl, k⟩
  · obtain ⟨x, y, s0, rfl, -, k⟩ := bop_ok (P := fun _ => True) (f := fun x y => x - y) (fun h1 h2 h3 => by
      obtain ⟨x, y, a, b, c⟩ := sub_ok h1 h2 h3
      exact ⟨x, y, a, b, trivial, c⟩) h g
    exact ⟨_, _, _, rfl, k⟩
  · obtain ⟨x, y, s0, rfl, -, k⟩ := bop_ok (P := fun _ => True) (f := fun x y => x * y) (fun h1 h2 h3 => by
      obtain ⟨x, y, a, b, c⟩ := mul_ok h1 h2 h3
      exact ⟨x, y, a, b, trivial, c⟩) h g
    exact ⟨_, _, _, rfl, k⟩
  · obtain ⟨x, y, s0, rfl, hy, k⟩ := bop_ok (P := fun y => ¬ y = 0) (f := fun x y => x / y) (fun h1 h2 h3 => div_ok h1 h2 h3) h g
    exact ⟨L, .int (x / y) :: s0, m, by simp only [sI, if_neg hy], k⟩
  · obtain ⟨x, y, s0, rfl, hy, k⟩ := bop_ok (P := fun y => ¬ y = 0) (f := fun x y => x - x / y * y) (fun h1 h2 h3 => rem_ok h1 h2 h3) h g
    exact ⟨L, .int (x - x / y * y) :: s0, m, by simp only [sI, if_neg hy], k⟩
  · obtain ⟨x, y, s0, rfl, -, k⟩ := bop_ok (P := fun _ => True) (f := fun x y => x &&& y) (fun h1 h2 h3 => by
      obtain ⟨x, y, a, b, c⟩ := and_ok h1 h2 h3
      exact ⟨x, y, a, b, trivial, c⟩) h g
    exact ⟨_, _, _, rfl, k⟩
  · obtain ⟨x, y, s0, rfl, -, k⟩ := bop_ok (P := fun _ => True) (f := fun x y => x ||| y) (fun h1 h2 h3 => by
      obtain ⟨x, y, a, b, c⟩ := any_ok h1 h2 h3 (fun x y => x ||| y)
      exact ⟨x, y, a, b, trivial, c⟩) h g
    exact ⟨_, _, _, rfl, k⟩
  · obtain ⟨x, y, s0, rfl, -, k⟩ := bop_ok (P := fun _ => True) (f := fun x y => x ^^^ y) (fun h1 h2 h3 => by
      obtain ⟨x, y, a, b, c⟩ := any_ok h1 h2 h3 (fun x y => x ^^^ y)
      exact ⟨x, y, a, b, trivial, c⟩) h g
    exact ⟨_, _, _, rfl, k⟩
  · obtain ⟨x, y, s0, rfl, -, k⟩ := bop_ok (P := fun _ => True) (f := fun x y => x <<< (y &&& 31)) (fun h1 h2 h3 => by
      obtain ⟨x, y, a, b, c⟩ := shl_ok h1 h2 h3
      exact ⟨x, y, a, b, trivial, c⟩) h g
    exact ⟨_, _, _, rfl, k⟩
  · obtain ⟨x, y, s0, rfl, -, k⟩ := bop_ok (P := fun _ => True) (f := fun x y => x >>> (y &&& 31)) (fun h1 h2 h3 => by
      obtain ⟨x, y, a, b, c⟩ := any_ok h1 h2 h3 (fun x y => x >>> (y &&& 31))
      exact ⟨x, y, a, b, trivial, c⟩) h g
    exact ⟨_, _, _, rfl, k⟩
  · obtain ⟨x, y, s0, rfl, -, k⟩ := bop_ok (P := fun _ => True) (f := fun x y => (x.toUInt32 >>> (y.toUInt32 &&& Int32.toUInt32 31)).toInt32) (fun h1 h2 h3 => by
      obtain ⟨x, y, a, b, c⟩ := any_ok h1 h2 h3 (fun x y => (x.toUInt32 >>> (y.toUInt32 &&& Int32.toUInt32 31)).toInt32)
      exact ⟨x, y, a, b, trivial, c⟩) h g
    exact ⟨_, _, _, rfl, k⟩
  · split at h
    · rename_i b a st1 hs
      rw [hs] at g2
      obtain ⟨w, vs, rfl, k1, k2⟩ := gT_cons g2
      obtain ⟨v, vs, rfl, k3, k4⟩ := gT_cons k2
      split at h
      · rename_i hc
        obtain ⟨x, rfl⟩ := isJ_v hc.1 k3
        obtain ⟨y, rfl⟩ := isJ_v hc.2 k1
        cases h
        exact ⟨_, _, _, rfl, g1, ⟨gv_tJ _, k4⟩, g3, g4, g5⟩
      · cases h
    · cases h
  · split at h
    · rename_i b a st1 hs
      rw [hs] at g2
      obtain ⟨w, vs, rfl, k1, k2⟩ := gT_cons g2
      obtain ⟨v, vs, rfl, k3, k4⟩ := gT_cons k2
      split at h
      · rename_i hc
        obtain ⟨x, rfl⟩ := isJ_v hc.1 k3
        obtain ⟨y, rfl⟩ := isJ_v hc.2 k1
        cases h
        exact ⟨_, _, _, rfl, g1, ⟨gv_tJ _, k4⟩, g3, g4, g5⟩
      · cases h
    · cases h
  · split at h
    · rename_i b a st1 hs
      rw [hs] at g2
      obtain ⟨w, vs, rfl, k1, k2⟩ := gT_cons g2
      obtain ⟨v, vs, rfl, k3, k4⟩ := gT_cons k2
      split at h
      · rename_i hc
        obtain ⟨x, rfl⟩ := isJ_v hc.1 k3
        obtain ⟨y, rfl⟩ := isJ_v hc.2 k1
        cases h
        exact ⟨_, _, _, rfl, g1, ⟨gv_tI _, k4⟩, g3, g4, g5⟩
      · cases h
    · cases h
  · split at h
    · rename_i ai e s o im st1 hs
      rw [hs] at g2
      obtain ⟨w, vs, rfl, k1, k2⟩ := gT_cons g2
      obtain ⟨x, rfl, q1, q2, -⟩ := k1
      have A := gN_hul q1
      cases h
      refine ⟨_, _, _, rfl, g1, ⟨⟨_, rfl, ?_, ?_, ?_⟩, k2⟩, g3, g4, g5⟩
      · rw [Int32.toInt_toInt64]; exact A.1
      · rw [Int32.toInt_toInt64]; exact A.2.1
      · rw [Int32.toInt_toInt64]; exact q2
    · cases h
  · split at h
    · rename_i a st1 hs
      rw [hs] at g2
      obtain ⟨w, vs, rfl, k1, k2⟩ := gT_cons g2
      split at h
      · rename_i hc
        obtain ⟨x, rfl⟩ := isJ_v hc k1
        cases h
        exact ⟨_, _, _, rfl, g1, ⟨gv_tI _, k2⟩, g3, g4, g5⟩
      · cases h
    · cases h
  · split at h
    · rename_i a st1 hs
      rw [hs] at g2
      obtain ⟨w, vs, rfl, k1, k2⟩ := gT_cons g2
      split at h
      · rename_i hc
        obtain ⟨x, rfl⟩ := isI_v hc k1
        cases h
        exact ⟨_, _, _, rfl, g1, ⟨gv_tI _, k2⟩, g3, g4, g5⟩
      · cases h
    · cases h
  · split at h
    · rename_i a st1 hs
      rw [hs] at g2
      obtain ⟨w, vs, rfl, k1, k2⟩ := gT_cons g2
      split at h
      · rename_i hc
        obtain ⟨x, rfl⟩ := isI_v hc k1
        cases h
        exact ⟨_, _, _, rfl, g1, ⟨gv_tI _, k2⟩, g3, g4, g5⟩
      · cases h
    · cases h
  · split at h
    · rename_i a st1 hs
      rw [hs] at g2
      obtain ⟨w, vs, rfl, k1, k2⟩ := gT_cons g2
      split at h
      · rename_i hc
        have hw := is1_v hc k1
        cases h
        exact ⟨L, w :: w :: vs, m, by simp only [sI, if_pos hw], g1, ⟨k1, k1, k2⟩, g3, g4, g5⟩
      · cases h
    · cases h
  · split at h
    · rename_i a b st1 hs
      rw [hs] at g2
      obtain ⟨w, vs, rfl, k1, k2⟩ := gT_cons g2
      obtain ⟨v, vs, rfl, k3, k4⟩ := gT_cons k2
      split at h
      · rename_i hc
        have hw := is1_v hc.1 k1
        have hv := is1_v hc.2 k3
        cases h
        exact ⟨L, w :: v :: w :: v :: vs, m, by simp only [sI, if_pos (And.intro hw hv)], g1, ⟨k1, k3, k1, k3, k4⟩, g3, g4, g5⟩
      · cases h
    · cases h
  · split at h
    · rename_i a st1 hs
      rw [hs] at g2
      obtain ⟨w, vs, rfl, k1, k2⟩ := gT_cons g2
      split at h
      · rename_i hc
        have hw := is1_v hc k1
        cases h
        exact ⟨L, vs, m, by simp only [sI, if_pos hw], g1, k2, g3, g4, g5⟩
      · cases h
    · cases h
  · split at h
    · rename_i a st1 hs
      rw [hs] at g2
      obtain ⟨w, vs, rfl, k1, k2⟩ := gT_cons g2
      split at h
      · rename_i hc
        obtain ⟨x, rfl⟩ := isJ_v hc k1
        cases h
        exact ⟨_, _, _, rfl, g1, k2, g3, g4, g5⟩
      · cases h
    · cases h
  · rename_i k
    split at h
    · rename_i rs st1 hs
      rw [hs] at g2
      obtain ⟨w, vs, rfl, k1, k2⟩ := gT_cons g2
      obtain ⟨r, rfl, hr⟩ := k1
      split at h
      · rename_i a ha
        obtain ⟨v, e1, e2⟩ := get_ok (L0 := L0) (L := L) g3 g4 ha hr
        cases h
        exact ⟨L, v :: vs, m, by simp only [sI, e1], g1, ⟨e2, k2⟩, g3, g4, g5⟩
      · cases h
    · cases h
  · rename_i k
    split at h
    · rename_i a rs st1 hs
      rw [hs] at g2
      obtain ⟨w, vs, rfl, k1, k2⟩ := gT_cons g2
      obtain ⟨v, vs, rfl, k3, k4⟩ := gT_cons k2
      obtain ⟨r, rfl, hr⟩ := k3
      split at h
      · rename_i R hR
        obtain ⟨m', e1, e2, e3, e4⟩ := put_ok g3 g4 g5 hR k1 hr
        cases h
        exact ⟨L, vs, m', by simp only [sI, e1], gL_clr g1 _, gT_clr k4 _ _, e2, e3, e4⟩
      · cases h
    · cases h
  · split at h
    · rename_i ai e s o im rs st1 hs
      rw [hs] at g2
      obtain ⟨w, vs, rfl, k1, k2⟩ := gT_cons g2
      obtain ⟨v, vs, rfl, k3, k4⟩ := gT_cons k2
      obtain ⟨r, rfl, hr⟩ := k3
      obtain ⟨x, rfl, q1, -⟩ := k1
      have A := gN_hul q1
      split at h
      · rename_i a ha
        obtain ⟨v, e1, e2⟩ := ald_ok (L0 := L0) (L := L) g3 g4 ha A.1 A.2.1 A.2.2 hr
        cases h
        exact ⟨L, .int v :: vs, m, by simp only [sI, e1], g1, ⟨e2, k4⟩, g3, g4, g5⟩
      · cases h
    · cases h
  · split at h
    · rename_i ai e s o im rs st1 hs
      rw [hs] at g2
      obtain ⟨w, vs, rfl, k1, k2⟩ := gT_cons g2
      obtain ⟨v, vs, rfl, k3, k4⟩ := gT_cons k2
      obtain ⟨r, rfl, hr⟩ := k3
      obtain ⟨x, rfl, q1, -⟩ := k1
      have A := gN_hul q1
      split at h
      · rename_i a ha
        obtain ⟨v, e1, e2⟩ := ald_ok (L0 := L0) (L := L) g3 g4 ha A.1 A.2.1 A.2.2 hr
        cases h
        exact ⟨L, .int v :: vs, m, by simp only [sI, e1], g1, ⟨e2, k4⟩, g3, g4, g5⟩
      · cases h
    · cases h
  · split at h
    · rename_i vi f s1 o1 im1 ai e s o im rs st1 hs
      rw [hs] at g2
      obtain ⟨w, vs, rfl, k0, g2⟩ := gT_cons g2
      obtain ⟨w, vs, rfl, k1, k2⟩ := gT_cons g2
      obtain ⟨v, vs, rfl, k3, k4⟩ := gT_cons k2
      obtain ⟨r, rfl, hr⟩ := k3
      obtain ⟨x, rfl, q1, -⟩ := k1
      obtain ⟨y, rfl, q2, -⟩ := k0
      have A := gN_hul q1
      have B := gN_hul q2
      split at h
      · rename_i R hR
        obtain ⟨m', e1, e2, e3, e4⟩ := ast_ok g3 g4 g5 hR A.1 A.2.1 A.2.2 B.1 B.2.1 hr
        cases h
        exact ⟨L, vs, m', by simp only [sI, e1], gL_clr g1 _, gT_clr k4 _ _, e2, e3, e4⟩
      · cases h
    · cases h
  · split at h
    · rename_i vi f s1 o1 im1 ai e s o im rs st1 hs
      rw [hs] at g2
      obtain ⟨w, vs, rfl, k0, g2⟩ := gT_cons g2
      obtain ⟨w, vs, rfl, k1, k2⟩ := gT_cons g2
      obtain ⟨v, vs, rfl, k3, k4⟩ := gT_cons k2
      obtain ⟨r, rfl, hr⟩ := k3
      obtain ⟨x, rfl, q1, -⟩ := k1
      obtain ⟨y, rfl, q2, -⟩ := k0
      have A := gN_hul q1
      have B := gN_hul q2
      split at h
      · rename_i R hR
        obtain ⟨m', e1, e2, e3, e4⟩ := ast_ok g3 g4 g5 hR A.1 A.2.1 A.2.2 B.1 B.2.1 hr
        cases h
        exact ⟨L, vs, m', by simp only [sI, e1], gL_clr g1 _, gT_clr k4 _ _, e2, e3, e4⟩
      · cases h
    · cases h
  · split at h
    · rename_i ai e s o im rs st1 hs
      rw [hs] at g2
      obtain ⟨w, vs, rfl, k1, k2⟩ := gT_cons g2
      obtain ⟨v, vs, rfl, k3, k4⟩ := gT_cons k2
      obtain ⟨r, rfl, hr⟩ := k3
      obtain ⟨x, rfl, q1, -⟩ := k1
      have A := gN_hul q1
      split at h
      · rename_i a ha
        obtain ⟨v, e1, e2⟩ := alr_ok (L0 := L0) (L := L) (m := m) ha A.1 A.2.1 hr
        cases h
        exact ⟨L, .ref v :: vs, m, by simp only [sI, e1], g1, ⟨e2, k4⟩, g3, g4, g5⟩
      · cases h
    · cases h
  · obtain ⟨n, dp, o1, sp, o0, st0, m', rfl, k1, k2, k3⟩ := cpy_ok h g
    exact ⟨L, st0, m', by simp only [sI, if_pos k1, k2], k3⟩
  · rename_i z
    split at h
    · rename_i as st1 hp
      obtain ⟨As, vs, e1, e2, e3⟩ := pop_ok (va := []) hp g2 trivial
      obtain ⟨k1, v, m', k2, k3⟩ := call_ok hC h g1 e2 e3 g3 g4 g5
      exact ⟨L, v.toList ++ vs, m', by simp only [sI, e1, if_pos k1, k2], k3⟩
    · cases h
  · rename_i z
    split at h
    · rename_i as rs st1 hp
      obtain ⟨As, vs, e1, e2, e3⟩ := pop_ok (va := []) hp g2 trivial
      obtain ⟨w, vs, rfl, k1, k2⟩ := gT_cons e3
      obtain ⟨r, rfl, hr⟩ := id k1
      split at h
      · rename_i hc
        have hcl := List.all_eq_true.mp hc r hr
        simp only [beq_iff_eq] at hcl
        obtain ⟨k3, v, m', k4, k5⟩ := call_ok hC (as := some (.inr (.inl rs)) :: as) (As := .ref r :: As) h g1 ⟨k1, e2⟩ k2 g3 g4 g5
        exact ⟨L, v.toList ++ vs, m', by simp only [sI, e1, if_pos (And.intro k3 hcl), k4], k5⟩
      · cases h
    · cases h
  · cases h
end Sk
end
section
/-! THE CHECKER IS SOUND: jumps, blocks, methods -/
def rel (c : ClassFile.Cond) (a b : Int) : Prop := match c with
  | .eq => a = b
  | .ne => a ≠ b
  | .lt => a < b
  | .ge => b ≤ a
  | .gt => b < a
  | .le => a ≤ b
theorem cmp_rel {c : ClassFile.Cond} {x y : Int32} (h : cmpB c x y = true) : rel c x.toInt y.toInt := by
  cases c <;> simp only [cmpB, decide_eq_true_eq] at h <;> simp only [rel]
  · rw [h]
  · exact fun z => h (Int32.toInt_inj.mp z)
  · exact Int32.lt_iff_toInt_lt.mp h
  · exact Int32.le_iff_toInt_le.mp h
  · exact Int32.lt_iff_toInt_lt.mp h
  · exact Int32.le_iff_toInt_le.mp h
theorem cmp_neg {c : ClassFile.Cond} {x y : Int32} (h : ¬ cmpB c x y = true) : cmpB (negC c) x y = true := by
  cases c <;> simp only [cmpB, decide_eq_true_eq, negC] at h ⊢
  · exact h
  · exact Decidable.not_not.mp h
  · exact Int32.not_lt.mp h
  · exact Int32.not_le.mp h
  · exact Int32.not_lt.mp h
  · exact Int32.not_le.mp h
theorem cmpI_ok {c : ClassFile.Cond} {a b : AI} {x y : Int} (h : rel c x y) (a1 : a.1 ≤ x) (a2 : x ≤ a.2.1) (b1 : b.1 ≤ y) (b2 : y ≤ b.2.1) : ((cmpI c a b).1.1 ≤ x ∧ x ≤ (cmpI c a b).1.2) ∧ ((cmpI c a b).2.1 ≤ y ∧ y ≤ (cmpI c a b).2.2) := by
  cases c <;> simp only [rel, cmpI] at h ⊢
  · omega
  · refine ⟨⟨?_, ?_⟩, ?_, ?_⟩ <;> split <;> omega
  · omega
  · omega
  · omega
  · omega
theorem neE_ok {c : ClassFile.Cond} {a b : AI} {e f : Option Int} {x y : Int} (h : c = .ne → x ≠ y) (ga : gN a e x) (gb : gN b f y) : gN a (neE c e b f) x := by
  unfold neE
  split
  · split
    · rename_i hc
      obtain ⟨h1, rfl, h3⟩ := hc
      have e1 := gN_1 gb h1
      rcases ga with ga | ga
      · rw [h3] at ga
        simp only [Option.some.injEq] at ga
        exact absurd (by omega) (h rfl)
      · exact Or.inr ga
    · exact ga
  · exact ga
theorem cutN_ok {a : AI} {e : Option Int} {lo hi x : Int} (g : gN a e x) (h1 : lo ≤ x) (h2 : x ≤ hi) : gN (cutN a e lo hi).1 (cutN a e lo hi).2 x := by
  rcases g with g | ⟨g1, g2, g3⟩
  · subst g
    refine Or.inl ?_
    simp only [cutN]
    rw [if_pos ⟨h1, h2⟩]
  · refine Or.inr ⟨?_, ?_, ?_⟩
    · simp only [cutN]
      split
      · split <;> omega
      · exact g1
    · simp only [cutN]
      split <;> omega
    · simp only [cutN]
      by_cases z : a.2.2 ≤ 1
      · simp only [if_pos z]
        have e : (if a.2.2 = 0 then 1 else a.2.2) = 1 := by split <;> omega
        rw [e]
        exact one_dv _
      · simp only [if_neg z]
        rw [if_neg (by omega)]
        exact g3
section Sl
variable {L0 L st : List Value} {m mE : Mm} {T : List (List (Int × Int))} {W : Wr} {sh : List ShE} {Tc : List CE} {C : CallS}
theorem cutS_ok {S : AS} {q : Nat × Int × Int} (g : gZ T W mE L0 S L st m) (h : q.1 ≠ 0 → srcB L m q) : gZ T W mE L0 (cutS T S q) L st m := by
  unfold cutS
  split
  · exact g
  · rename_i h0
    have hq := h h0
    obtain ⟨g1, g2, g3, g4, g5⟩ := g
    split
    · rename_i h1
      split
      · rename_i a ha
        rcases hq with ⟨q1, q2, y, q3, q4, q5⟩ | ⟨q1, -⟩
        · refine ⟨⟨by rw [List.length_set]; exact g1.1, fun j b hj => ?_⟩, g2, g3, g4, g5⟩
          rw [List.getElem?_set] at hj
          by_cases e : q.1 - 1 = j
          · rw [if_pos e] at hj
            split at hj
            · cases hj
              have k := g1.2 _ a ha
              subst e
              rw [q3] at k ⊢
              match a, k with
              | none, _ => trivial
              | some (.inl (ai, e, s, o, im)), ⟨x, hx, k1, k2, k3, k4⟩ =>
                cases hx
                exact ⟨y, rfl, cutN_ok k1 q4 q5, k2, k3, k4⟩
              | some (.inr (.inl rs)), k => exact k
              | some (.inr (.inr (lo, hi, s))), k => exact k
            · cases hj
          · rw [if_neg e] at hj
            exact g1.2 j b hj
        · omega
      · exact ⟨g1, g2, g3, g4, g5⟩
    · refine ⟨g1, g2, g3, ?_, g5⟩
      rcases hq with ⟨q1, q2, -⟩ | ⟨q1, q2, q3⟩
      · omega
      · intro p hp
        rcases List.mem_cons.mp hp with rfl | hp
        · have b := celI_ok g3 g4 (q.1 - 1000)
          refine ⟨?_, ?_⟩
          · show (if (celI T S.2.2 (q.1 - 1000)).1 < q.2.1 then q.2.1 else (celI T S.2.2 (q.1 - 1000)).1) ≤ cel m (q.1 - 1000)
            split <;> omega
          · show cel m (q.1 - 1000) ≤ (if q.2.2 < (celI T S.2.2 (q.1 - 1000)).2 then q.2.2 else (celI T S.2.2 (q.1 - 1000)).2)
            split <;> omega
        · exact g4 p hp
theorem cutO_ok {S : AS} {o : Nat × Int} {x lo hi : Int} (g : gZ T W mE L0 S L st m) (ho : orgV L0 o x) (h1 : lo ≤ x) (h2 : x ≤ hi) : gZ T W mE L0 (cutO T S o lo hi) L st m := by
  unfold cutO
  split
  · rename_i ai e s o2 im ha
    split
    · rename_i hc
      obtain ⟨c1, c2, c3, c4⟩ := hc
      refine cutS_ok g (fun _ => ?_)
      obtain ⟨y, hy, -, -, k3, -⟩ := g.1.2 _ _ ha
      rcases ho with ho | ⟨z, ho, hz⟩
      · exact absurd ho c1
      · rcases k3 with k3 | ⟨w, k3, k4⟩
        · omega
        · rw [c3, ho] at k3
          cases k3
          exact Or.inl ⟨by show 0 < o.1; omega, by show o.1 < 1000; omega, y, hy, by show lo - o.2 ≤ _; omega, by show _ ≤ hi - o.2; omega⟩
    · exact g
  · exact g
theorem src_B {s : Nat} {x lo hi : Int} (h : srcV L m s x) (h1 : lo ≤ x) (h2 : x ≤ hi) : s ≠ 0 → srcB L m (s, lo, hi) := by
  intro h0
  rcases h with h | ⟨a, b, y, c, d⟩ | ⟨a, b⟩
  · exact absurd h h0
  · exact Or.inl ⟨a, b, y, c, by show lo ≤ _; omega, by show _ ≤ hi; omega⟩
  · exact Or.inr ⟨a, by show lo ≤ cel m _; rw [b]; exact h1, by show cel m _ ≤ hi; rw [b]; exact h2⟩
theorem fold_ok {im : IM} {S : AS} (g : gZ T W mE L0 S L st m) (h : ∀ q ∈ im, srcB L m q) : gZ T W mE L0 (im.foldl (cutS T) S) L st m := by
  induction im generalizing S with
  | nil => exact g
  | cons q im ih => exact ih (cutS_ok g (fun _ => h q List.mem_cons_self)) (fun p hp => h p (List.mem_cons_of_mem _ hp))
theorem cmpS_ok {c : ClassFile.Cond} {a b : AV} {S : AS} {x y : Int32} (g : gZ T W mE L0 S L st m) (ga : gv L0 L m a (.int x)) (gb : gv L0 L m b (.int y)) (h : cmpB c x y = true) : ∃ S1, cmpS T c a b S = some S1 ∧ gZ T W mE L0 S1 L st m := by
  match a, b, ga, gb with
  | none, _, _, _ => exact ⟨S, rfl, g⟩
  | some (.inr _), _, _, _ => exact ⟨S, rfl, g⟩
  | some (.inl (ai, e, s, o, im)), none, _, _ => exact ⟨S, rfl, g⟩
  | some (.inl (ai, e, s, o, im)), some (.inr _), _, _ => exact ⟨S, rfl, g⟩
  | some (.inl (ai, e, s, o, im)), some (.inl (bi, f, t, o', im')), ⟨x', hx, a1, a2, a3, a4⟩, ⟨y', hy, b1, b2, b3, b4⟩ =>
    cases hx
    cases hy
    have r := cmp_rel h
    have A := gN_hul (neE_ok (c := c) (fun z => by rw [z] at r; exact r) a1 b1)
    have B := gN_hul (neE_ok (c := c) (fun z => by rw [z] at r; exact fun w => r w.symm) b1 a1)
    have k := cmpI_ok r A.1 A.2.1 B.1 B.2.1
    simp only [cmpS]
    rw [if_pos]
    · refine ⟨_, rfl, fold_ok (cutO_ok (cutO_ok (cutS_ok (cutS_ok g (src_B a2 k.1.1 k.1.2)) (src_B b2 k.2.1 k.2.2)) a3 k.1.1 k.1.2) b3 k.2.1 k.2.2) ?_⟩
      intro q hq
      cases c
      case ne =>
        simp only at hq
        split at hq
        · rename_i hz
          obtain ⟨z1, z2, rfl⟩ := hz
          refine a4 ?_ q hq
          have : y.toInt = 0 := by
            have := gN_1 b1 (by omega)
            omega
          have r2 : x.toInt ≠ y.toInt := r
          omega
        · cases hq
      all_goals cases hq
    · refine ⟨?_, ?_⟩
      · (repeat' split) <;> omega
      · (repeat' split) <;> omega
/-- what a run must come to -/
def PostR (T : List (List (Int × Int))) (mE : Mm) (c0 : CE) (r : Rs) : Prop := retG c0.2.2.2.1 r.1 ∧ InvT T r.2 ∧ rho r.2 c0.2.2.2.2.1 ∧ frm c0.2.2.2.2.2.1 mE r.2 ∧ c0.2.2.2.2.2.2 = []
theorem ret_ok {rt : Option FieldType} {c0 : CE} {a : AV} {S : AS} {v : Value} (h : retA T rt c0 a S = true) (ga : gv L0 L m a v) (hI : InvT T m) (hR : rho m S.2.2) (hf : frm c0.2.2.2.2.2.1 mE m) : PostR T mE c0 (some v, m) ∧ okRet rt a = true := by
  unfold retA at h
  simp only [Bool.and_eq_true] at h
  obtain ⟨⟨⟨⟨h1, h2⟩, h3⟩, h4⟩, h5⟩ := h
  refine ⟨⟨?_, hI, leR_ok h4 hI hR, hf, List.isEmpty_iff.mp h5⟩, h1⟩
  cases hc : c0.2.2.2.1 with
  | none => rw [hc] at h2; cases h2
  | some b =>
    rw [hc] at h3
    exact gv_cle (leV_ok h3 ga []) _ _ _
theorem ok_int {rt : Option FieldType} {a : AV} {x : Int32} (h : okRet rt a = true) (hi : isI a = true) (g : gv L0 L m a (.int x)) : okZ rt x = true := by
  unfold isI at hi
  split at hi
  · rename_i q
    obtain ⟨ai, e, s, o, im⟩ := q
    obtain ⟨x', hx, a1, -⟩ := g
    cases hx
    have A := gN_hul a1
    simp only [okRet] at h
    unfold okZ
    split at h
    · rfl
    · simp only [Bool.and_eq_true, decide_eq_true_eq] at h
      simp only [Bool.or_eq_true, decide_eq_true_eq]
      exact i01 (by omega) (by omega)
    · cases h
  · cases hi
theorem ok_lng {rt : Option FieldType} {a : AV} (h : okRet rt a = true) (hi : isJ a = true) : rt = some .long := by
  unfold isJ at hi
  split at hi
  · simp only [okRet] at h
    exact of_decide_eq_true h
  · cases hi
theorem absX_ok {rt : Option FieldType} {c0 : CE} (hC : ∀ c ∈ Tc, Hd T C c) {K : KS} : ∀ (is : List ClassFile.Instr) (S : AS) (L st : List Value) (m : Mm) (ex : List (Nat × AS)), absX sh T Tc c0.2.2.2.2.2.1 rt c0 is S = some ex → gZ T c0.2.2.2.2.2.1 mE L0 S L st m → (∀ q ∈ ex, ∀ L' st' m', gZ T c0.2.2.2.2.2.1 mE L0 q.2 L' st' m' → ∃ r, K q.1 L' st' m' = some r ∧ PostR T mE c0 r) → ∃ r, exI sh tb0 mN mO C rt K is L st m = some r ∧ PostR T mE c0 r := by
  intro is
  induction is with
  | nil => intro S L st m ex h; cases h
  | cons i is ih =>
    intro S L st m ex h g hK
    obtain ⟨g1, g2, g3, g4, g5⟩ := id g
    cases i
    case goto t =>
      simp only [absX] at h
      cases h
      exact hK (t.toNat, S) (List.mem_singleton.mpr rfl) L st m g
    case goto_w t =>
      simp only [absX] at h
      cases h
      exact hK (t.toNat, S) (List.mem_singleton.mpr rfl) L st m g
    case ifCond c t =>
      simp only [absX] at h
      split at h
      · rename_i a st1 hs
        rw [hs] at g2
        obtain ⟨v, vs, rfl, k1, k2⟩ := gT_cons g2
        split at h
        · rename_i hi
          obtain ⟨x, rfl⟩ := isI_v hi k1
          have g' : gZ T c0.2.2.2.2.2.1 mE L0 (S.1, st1, S.2.2) L vs m := ⟨g1, k2, g3, g4, g5⟩
          have k0 : gv L0 L m (cst 0) (.int (0 : Int32)) := gv_cst (n := 0) (by decide)
          split at h
          · rename_i l hl
            cases h
            simp only [exI]
            by_cases hb : cmpB c x 0 = true
            · rw [if_pos hb]
              obtain ⟨S1, e1, e2⟩ := cmpS_ok g' k1 k0 hb
              refine hK (t.toNat, S1) ?_ L vs m e2
              rw [e1]
              exact List.mem_append_left _ (List.mem_singleton.mpr rfl)
            · rw [if_neg hb]
              obtain ⟨S1, e1, e2⟩ := cmpS_ok g' k1 k0 (cmp_neg hb)
              rw [e1] at hl
              exact ih S1 L vs m l hl e2 (fun q hq => hK q (List.mem_append_right _ hq))
          · cases h
        · cases h
      · cases h
    case if_icmp c t =>
      simp only [absX] at h
      split at h
      · rename_i b a st1 hs
        rw [hs] at g2
        obtain ⟨w, vs, rfl, k0, kk⟩ := gT_cons g2
        obtain ⟨v, vs, rfl, k1, k2⟩ := gT_cons kk
        split at h
        · rename_i hi
          obtain ⟨x, rfl⟩ := isI_v hi.1 k1
          obtain ⟨y, rfl⟩ := isI_v hi.2 k0
          have g' : gZ T c0.2.2.2.2.2.1 mE L0 (S.1, st1, S.2.2) L vs m := ⟨g1, k2, g3, g4, g5⟩
          split at h
          · rename_i l hl
            cases h
            simp only [exI]
            by_cases hb : cmpB c x y = true
            · rw [if_pos hb]
              obtain ⟨S1, e1, e2⟩ := cmpS_ok g' k1 k0 hb
              refine hK (t.toNat, S1) ?_ L vs m e2
              rw [e1]
              exact List.mem_append_left _ (List.mem_singleton.mpr rfl)
            · rw [if_neg hb]
              obtain ⟨S1, e1, e2⟩ := cmpS_ok g' k1 k0 (cmp_neg hb)
              rw [e1] at hl
              exact ih S1 L vs m l hl e2 (fun q hq => hK q (List.mem_append_right _ hq))
          · cases h
        · cases h
      · cases h
    case tableswitch d lo hi offs =>
      simp only [absX] at h
      split at h
      · rename_i a st1 hs
        rw [hs] at g2
        obtain ⟨v, vs, rfl, k1, k2⟩ := gT_cons g2
        split at h
        · rename_i hc
          obtain ⟨hi1, hsz, hl32, hh32⟩ := hc
          obtain ⟨x, rfl⟩ := isI_v hi1 k1
          have g' : gZ T c0.2.2.2.2.2.1 mE L0 (S.1, st1, S.2.2) L vs m := ⟨g1, k2, g3, g4, g5⟩
          cases h
          simp only [exI]
          have rx := r32 x
          unfold swT
          by_cases hq : x.toInt < lo ∨ hi < x.toInt
          · rw [if_pos hq]
            rcases hq with hq | hq
            · have e : (Int32.ofInt lo).toInt = lo := by
                unfold in32 at hl32
                simp only [Bool.and_eq_true, decide_eq_true_eq] at hl32
                exact Int32.toInt_ofInt_of_le (by omega) (by omega)
              obtain ⟨S1, e1, e2⟩ := cmpS_ok (c := .lt) g' k1 (gv_cst hl32) (by simp only [cmpB, decide_eq_true_eq]; exact Int32.lt_iff_toInt_lt.mpr (by omega))
              refine hK (d.toNat, S1) ?_ L vs m e2
              rw [e1]
              exact List.mem_append_left _ (List.mem_singleton.mpr rfl)
            · have e : (Int32.ofInt hi).toInt = hi := by
                unfold in32 at hh32
                simp only [Bool.and_eq_true, decide_eq_true_eq] at hh32
                exact Int32.toInt_ofInt_of_le (by omega) (by omega)
              obtain ⟨S1, e1, e2⟩ := cmpS_ok (c := .gt) g' k1 (gv_cst hh32) (by simp only [cmpB, decide_eq_true_eq]; exact Int32.lt_iff_toInt_lt.mpr (by omega))
              refine hK (d.toNat, S1) ?_ L vs m e2
              rw [e1]
              exact List.mem_append_right _ (List.mem_append_left _ (List.mem_singleton.mpr rfl))
          · rw [if_neg hq]
            have hk : (x.toInt - lo).toNat < offs.size := by omega
            have ek : lo + ((x.toInt - lo).toNat : Int) = x.toInt := by omega
            have h32 : in32 (lo + ((x.toInt - lo).toNat : Int)) (lo + ((x.toInt - lo).toNat : Int)) = true := by
              rw [ek]
              unfold in32
              simp only [Bool.and_eq_true, decide_eq_true_eq]
              exact ⟨rx.1, rx.2⟩
            have e : (Int32.ofInt (lo + ((x.toInt - lo).toNat : Int))) = x := by
              rw [ek]
              exact Int32.ofInt_toInt x
            obtain ⟨S1, e1, e2⟩ := cmpS_ok (c := .eq) g' k1 (gv_cst h32) (by rw [e]; simp only [cmpB, decide_eq_true_eq])
            refine hK ((offs.getD (x.toInt - lo).toNat d).toNat, S1) ?_ L vs m e2
            refine List.mem_append_right _ (List.mem_append_right _ (List.mem_filterMap.mpr ⟨(x.toInt - lo).toNat, List.mem_range.mpr hk, ?_⟩))
            rw [e1]
            rfl
        · cases h
      · cases h
    case ireturn =>
      simp only [absX] at h
      split at h
      · rename_i a hs
        rw [hs] at g2
        obtain ⟨v, vs, rfl, k1, k2⟩ := gT_cons g2
        cases gT_nil k2
        split at h
        · rename_i hc
          obtain ⟨x, rfl⟩ := isI_v hc.1 k1
          obtain ⟨r1, r2⟩ := ret_ok hc.2 k1 g3 g4 g5
          refine ⟨_, ?_, r1⟩
          simp only [exI]
          rw [if_pos (ok_int r2 hc.1 k1)]
        · cases h
      · cases h
    case lreturn =>
      simp only [absX] at h
      split at h
      · rename_i a hs
        rw [hs] at g2
        obtain ⟨v, vs, rfl, k1, k2⟩ := gT_cons g2
        cases gT_nil k2
        split at h
        · rename_i hc
          obtain ⟨x, rfl⟩ := isJ_v hc.1 k1
          obtain ⟨r1, r2⟩ := ret_ok hc.2 k1 g3 g4 g5
          refine ⟨_, ?_, r1⟩
          simp only [exI]
          rw [if_pos (ok_lng r2 hc.1)]
        · cases h
      · cases h
    case areturn =>
      simp only [absX] at h
      split at h
      · rename_i rs hs
        rw [hs] at g2
        obtain ⟨v, vs, rfl, k1, k2⟩ := gT_cons g2
        cases gT_nil k2
        split at h
        · rename_i hc
          obtain ⟨x, rfl, hx⟩ := id k1
          obtain ⟨r1, r2⟩ := ret_ok hc k1 g3 g4 g5
          refine ⟨_, ?_, r1⟩
          simp only [exI]
          exact if_pos r2
        · cases h
      · cases h
    case return_ =>
      simp only [absX] at h
      split at h
      · rename_i hs
        rw [hs] at g2
        cases gT_nil g2
        split at h
        · rename_i hc
          obtain ⟨c1, c2, c3, c4⟩ := hc
          refine ⟨(none, m), by simp only [exI]; rw [if_pos c1], ?_, g3, leR_ok c3 g3 g4, g5, List.isEmpty_iff.mp c4⟩
          rw [c2]
          trivial
        · cases h
      · cases h
    case lookupswitch d ps =>
      simp only [absX, absI] at h
      cases h
    all_goals
      simp only [absX] at h
      split at h
      · rename_i S1 hS
        obtain ⟨L', st', m', e1, e2⟩ := absI_ok hC hS g
        simp only [exI]
        rw [e1]
        exact ih S1 L' st' m' ex h e2 hK
      · cases h
end Sl
end
section
/-! METHODS THAT THE CHECKER LETS PASS: they return -/
/-- a block's place, its state, its rank: a constant and a factor for each local -/
abbrev AnE : Type := Nat × AS × Int × List Int
def vI (v : Value) : Int := match v with
  | .int x => x.toInt
  | _ => 0
def rkF (f : Nat → Value) : Nat → List Int → Int
  | _, [] => 0
  | k, c :: cs => c * vI (f k) + rkF f (k + 1) cs
def ubA (c : Int) (a : AV) : Option Int := if c = 0 then some 0 else match a with
  | some (.inl (ai, e, _, _, _)) => some (if 0 ≤ c then c * (hul ai e).2.1 else c * (hul ai e).1)
  | _ => none
def ad2 (a b : Option Int) : Option Int := match a, b with
  | some x, some y => some (x + y)
  | _, _ => none
def ubL : List Int → List AV → Option Int
  | [], _ => some 0
  | _ :: _, [] => none
  | c :: cs, a :: as => ad2 (ubA c a) (ubL cs as)
def ogA (k : Nat) (a : AV) : Option Int := match a with
  | some (.inl (_, _, _, o, _)) => if o.1 = k + 1 then some o.2 else none
  | _ => none
/-- how far the rank rises at most: factors behind and ahead, values behind and ahead -/
def rkD (k : Nat) : List Int → List Int → List AV → List AV → Option Int
  | [], [], _, _ => some 0
  | c' :: cs', c :: cs, a' :: as', a :: as => ad2 (match ogA k a' with
    | some d => if c' = c then some (c * d) else ad2 (ubA c' a') (ubA (-c) a)
    | none => ad2 (ubA c' a') (ubA (-c) a)) (rkD (k + 1) cs' cs as' as)
  | _, _, _, _ => none
def orgA (as : List AV) : List AV := mapI (fun k a => match a with
  | some (.inl (ai, e, s, _, im)) => some (.inl (ai, e, s, (k + 1, 0), im))
  | a => a) 0 as
def argA : List AV → List AV
  | [] => []
  | a :: as => if isJ a = true then a :: none :: argA as else a :: argA as
def padA (n : Nat) (as : List AV) : List AV := argA as ++ List.replicate (n - (argA as).length) none
section Me
variable {L0 L st : List Value} {m mE : Mm} {T : List (List (Int × Int))} {sh : List ShE} {Tc : List CE} {C : CallS}
theorem ad2_some {a b : Option Int} {d : Int} (h : ad2 a b = some d) : ∃ x y, a = some x ∧ b = some y ∧ d = x + y := by
  unfold ad2 at h
  split at h
  · cases h; exact ⟨_, _, rfl, rfl, rfl⟩
  · cases h
theorem ubA_ok {c u : Int} {a : AV} {v : Value} (h : ubA c a = some u) (g : gv L0 L m a v) : c * vI v ≤ u := by
  unfold ubA at h
  split at h
  · rename_i hc
    cases h
    rw [hc]
    omega
  · split at h
    · rename_i ai e s o im
      obtain ⟨x, rfl, k1, -⟩ := g
      have A := gN_hul k1
      cases h
      show c * x.toInt ≤ _
      split
      · rename_i h0
        exact Int.mul_le_mul_of_nonneg_left A.2.1 h0
      · rename_i h0
        exact Int.mul_le_mul_of_nonpos_left (by omega) A.1
    · cases h
theorem ubL_ok {f : Nat → Value} : ∀ {cs : List Int} {as : List AV} {u : Int} (k : Nat), ubL cs as = some u → (∀ i a, as[i]? = some a → gv L0 L m a (f (k + i))) → rkF f k cs ≤ u
  | [], _, u, k, h, _ => by
    cases h
    exact Int.le_refl _
  | c :: cs, [], u, k, h, _ => by cases h
  | c :: cs, a :: as, u, k, h, g => by
    obtain ⟨x, y, h1, h2, rfl⟩ := ad2_some h
    have q1 := ubA_ok h1 (g 0 a rfl)
    have q2 := ubL_ok (f := f) (k + 1) h2 (fun i b hb => by
      have := g (i + 1) b hb
      rw [show k + 1 + i = k + (i + 1) by omega]
      exact this)
    show c * vI (f k) + rkF f (k + 1) cs ≤ _
    have e : f (k + 0) = f k := rfl
    rw [e] at q1
    omega
theorem rkD_ok {L1 : List Value} {m1 : Mm} : ∀ {cs' cs : List Int} {as' as : List AV} {d : Int} (k : Nat), rkD k cs' cs as' as = some d → (∀ i a, as'[i]? = some a → gv L0 L m a (ldL L (k + i))) → (∀ i a, as[i]? = some a → gv L1 L0 m1 a (ldL L0 (k + i))) → rkF (ldL L) k cs' - rkF (ldL L0) k cs ≤ d
  | [], [], _, _, d, k, h, _, _ => by
    cases h
    show (0 : Int) - 0 ≤ 0
    omega
  | [], _ :: _, _, _, d, k, h, _, _ => by cases h
  | _ :: _, [], _, _, d, k, h, _, _ => by cases h
  | c' :: cs', c :: cs, [], _, d, k, h, _, _ => by cases h
  | c' :: cs', c :: cs, _ :: _, [], d, k, h, _, _ => by cases h
  | c' :: cs', c :: cs, a' :: as', a :: as, d, k, h, g', g => by
    obtain ⟨x, y, h1, h2, rfl⟩ := ad2_some h
    have q2 := rkD_ok (k + 1) h2 (fun i b hb => by
      rw [show k + 1 + i = k + (i + 1) by omega]
      exact g' (i + 1) b hb) (fun i b hb => by
      rw [show k + 1 + i = k + (i + 1) by omega]
      exact g (i + 1) b hb)
    have ga' : gv L0 L m a' (ldL L k) := g' 0 a' rfl
    have ga : gv L1 L0 m1 a (ldL L0 k) := g 0 a rfl
    have key : ad2 (ubA c' a') (ubA (-c) a) = some x → c' * vI (ldL L k) - c * vI (ldL L0 k) ≤ x := fun z => by
      obtain ⟨p, q, z1, z2, rfl⟩ := ad2_some z
      have w1 := ubA_ok z1 ga'
      have w2 := ubA_ok z2 ga
      rw [Int.neg_mul] at w2
      omega
    have q1 : c' * vI (ldL L k) - c * vI (ldL L0 k) ≤ x := by
      split at h1
      · rename_i dd hd
        split at h1
        · rename_i hc
          cases h1
          unfold ogA at hd
          split at hd
          · rename_i ai e s o im
            split at hd
            · rename_i ho
              cases hd
              obtain ⟨w, hw, -, -, k3, -⟩ := ga'
              rcases k3 with k3 | ⟨y0, k3, k4⟩
              · omega
              · rw [ho] at k3
                rw [hw, show ldL L0 k = .int y0 from k3, hc]
                show c * w.toInt - c * y0.toInt ≤ c * o.2
                rw [k4, Int.mul_add]
                omega
            · cases hd
          · cases hd
        · exact key h1
      · exact key h1
    show c' * vI (ldL L k) + rkF (ldL L) (k + 1) cs' - (c * vI (ldL L0 k) + rkF (ldL L0) (k + 1) cs) ≤ _
    omega
theorem leT_len {as bs : List AV} (h : leT as bs = true) : as.length = bs.length := by
  induction as generalizing bs with
  | nil => cases bs with
    | nil => rfl
    | cons b bs => cases h
  | cons a as ih => cases bs with
    | nil => cases h
    | cons b bs =>
      simp only [leT, Bool.and_eq_true] at h
      simp only [List.length_cons, ih h.2]
theorem leT_at {as bs : List AV} (h : leT as bs = true) {i : Nat} {b : AV} (hb : bs[i]? = some b) : ∃ a, as[i]? = some a ∧ leV a b = true := by
  induction as generalizing bs i with
  | nil => cases bs with
    | nil => cases hb
    | cons b bs => cases h
  | cons a as ih => cases bs with
    | nil => cases h
    | cons c bs =>
      simp only [leT, Bool.and_eq_true] at h
      cases i with
      | zero => cases hb; exact ⟨a, rfl, h.1⟩
      | succ i => exact ih h.2 hb
theorem leL_ok {as bs : List AV} (h : leT as bs = true) (g : gL L0 L m as) (L1 : List Value) : gL L1 L m bs := by
  refine ⟨by rw [← leT_len h]; exact g.1, fun i b hb => ?_⟩
  obtain ⟨a, h1, h2⟩ := leT_at h hb
  exact leV_ok h2 (g.2 i a h1) L1
theorem org_ok {as : List AV} (g : gL L0 L m as) : gL L L m (orgA as) := by
  refine ⟨by unfold orgA; rw [mapI_len]; exact g.1, fun i b hb => ?_⟩
  unfold orgA at hb
  rw [mapI_get] at hb
  cases ha : as[i]? with
  | none => rw [ha] at hb; cases hb
  | some a =>
    rw [ha] at hb
    simp only [Option.map_some, Option.some.injEq] at hb
    subst hb
    have k := g.2 i a ha
    match a, k with
    | none, _ => trivial
    | some (.inl (ai, e, s, o, im)), ⟨x, hx, k1, k2, k3, k4⟩ => exact ⟨x, hx, k1, k2, Or.inr ⟨x, hx, by show _ = _ + (0 : Int); omega⟩, k4⟩
    | some (.inr (.inl rs)), k => exact k
    | some (.inr (.inr (lo, hi, s))), k => exact k
/-- an exit fits the next block's state, and the rank falls -/
def exOK (T : List (List (Int × Int))) (ann : List AnE) (e : AnE) (q : Nat × AS) : Bool := match ann.find? (fun p => p.1 == q.1) with
  | some p => leT q.2.1 p.2.1.1 && leT q.2.2.1 p.2.1.2.1 && leR T q.2.2.2 p.2.1.2.2 && (match rkD 0 p.2.2.2 e.2.2.2 q.2.1 e.2.1.1 with
    | some d => decide (p.2.2.1 - e.2.2.1 + d < 0)
    | none => false) && (match ubL (p.2.2.2.map (fun c => -c)) q.2.1 with
    | some u => decide (u ≤ p.2.2.1)
    | none => false)
  | none => false
def blkOK (sh : List ShE) (T : List (List (Int × Int))) (Tc : List CE) (rt : Option FieldType) (c0 : CE) (code : Nat → List ClassFile.Instr) (ann : List AnE) (e : AnE) : Bool := match absX sh T Tc c0.2.2.2.2.2.1 rt c0 (code e.1) (orgA e.2.1.1, e.2.1.2) with
  | some ex => ex.all (exOK T ann e)
  | none => false
def rkS (e : AnE) (L : List Value) : Int := e.2.2.1 + rkF (ldL L) 0 e.2.2.2
theorem rkF_neg (f : Nat → Value) : ∀ (cs : List Int) (k : Nat), rkF f k (cs.map (fun c => -c)) = - rkF f k cs
  | [], k => rfl
  | c :: cs, k => by
    show -c * vI (f k) + rkF f (k + 1) (cs.map (fun c => -c)) = -(c * vI (f k) + rkF f (k + 1) cs)
    rw [rkF_neg f cs (k + 1), Int.neg_mul]
    omega
/-- a run from any block whose state holds -/
theorem run_ok {rt : Option FieldType} {c0 : CE} {code : Nat → List ClassFile.Instr} {ann : List AnE} (hC : ∀ c ∈ Tc, Hd T C c) (hall : ann.all (blkOK sh T Tc rt c0 code ann) = true) : ∀ (n : Nat) (e : AnE), e ∈ ann → ∀ (L st : List Value) (m : Mm), (∀ L1, gZ T c0.2.2.2.2.2.1 mE L1 e.2.1 L st m) → (rkS e L).toNat ≤ n → ∃ r, rn sh tb0 mN mO C rt code e.1 L st m = some r ∧ PostR T mE c0 r := by
  intro n
  induction n using Nat.strongRecOn with
  | ind n ih =>
    intro e he L st m hg hn
    have hb := List.all_eq_true.mp hall e he
    unfold blkOK at hb
    split at hb
    · rename_i ex hex
      rw [rn_eq]
      obtain ⟨g1, g2, g3, g4, g5⟩ := hg L
      refine absX_ok (L0 := L) hC (code e.1) (orgA e.2.1.1, e.2.1.2) L st m ex hex ⟨org_ok g1, g2, g3, g4, g5⟩ ?_
      intro q hq L' st' m' hg'
      have hx := List.all_eq_true.mp hb q hq
      unfold exOK at hx
      split at hx
      · rename_i p hp
        have hm := List.mem_of_find?_eq_some hp
        have hpe := List.find?_some hp
        simp only [beq_iff_eq] at hpe
        simp only [Bool.and_eq_true] at hx
        obtain ⟨⟨⟨⟨x1, x2⟩, x3⟩, x4⟩, x5⟩ := hx
        obtain ⟨k1, k2, k3, k4, k5⟩ := hg'
        split at x4
        · rename_i d hd
          split at x5
          · rename_i u hu
            have r1 := rkD_ok (L := L') 0 hd (fun i a ha => by rw [Nat.zero_add]; exact k1.2 i a ha) (fun i a ha => by rw [Nat.zero_add]; exact g1.2 i a ha)
            have r2 := ubL_ok (f := ldL L') 0 hu (fun i a ha => by rw [Nat.zero_add]; exact k1.2 i a ha)
            rw [rkF_neg] at r2
            have x4 := of_decide_eq_true x4
            have x5 := of_decide_eq_true x5
            have hlt : (rkS p L').toNat < (rkS e L).toNat := by
              unfold rkS
              omega
            rw [← hpe]
            exact ih (rkS p L').toNat (by omega) p hm L' st' m' (fun L1 => ⟨leL_ok x1 k1 L1, leT_ok x2 k2 L1, k3, leR_ok x3 k3 k4, k5⟩) (Nat.le_refl _)
          · cases x5
        · cases x4
      · cases hx
    · cases hb
theorem argA_ok {as : List AV} {As : List Value} (g : gT L0 L m as As) (hk : as.all (fun a => is1 a || isJ a) = true) : (argA as).length = (argL As).length ∧ ∀ i a, (argA as)[i]? = some a → gv L0 L m a (ldL (argL As) i) := by
  induction as generalizing As with
  | nil => rw [gT_nil g]; exact ⟨rfl, fun i a h => by cases h⟩
  | cons a as ih =>
    obtain ⟨v, vs, rfl, g1, g2⟩ := gT_cons g
    rw [List.all_cons, Bool.and_eq_true] at hk
    obtain ⟨h1, h2⟩ := ih g2 hk.2
    by_cases hj : isJ a = true
    · obtain ⟨x, rfl⟩ := isJ_v hj g1
      have e1 : argA (a :: as) = a :: none :: argA as := by
        show (if isJ a = true then _ else _) = _
        rw [if_pos hj]
      have e2 : argL (.long x :: vs) = .long x :: noV :: argL vs := rfl
      rw [e1, e2]
      refine ⟨by simp only [List.length_cons, h1], fun i b hb => ?_⟩
      match i, hb with
      | 0, hb => cases hb; exact g1
      | 1, hb => cases hb; trivial
      | i + 2, hb => exact h2 i b hb
    · have hc : v.category = 1 := by
        have := hk.1
        rw [Bool.or_eq_true] at this
        rcases this with q | q
        · exact is1_v q g1
        · exact absurd q hj
      have e1 : argA (a :: as) = a :: argA as := by
        show (if isJ a = true then _ else _) = _
        rw [if_neg hj]
      have e2 : argL (v :: vs) = v :: argL vs := by
        show (if v.category = 2 then _ else _) = _
        rw [if_neg (by omega)]
      rw [e1, e2]
      refine ⟨by simp only [List.length_cons, h1], fun i b hb => ?_⟩
      match i, hb with
      | 0, hb => cases hb; exact g1
      | i + 1, hb => exact h2 i b hb
theorem pad_ok {as : List AV} {As : List Value} {n : Nat} (g : gT L0 L m as As) (hk : as.all (fun a => is1 a || isJ a) = true) (hn : (argA as).length ≤ n) : (initL n As).length = n ∧ (padA n as).length = n ∧ ∀ i a, (padA n as)[i]? = some a → gv L0 L m a (ldL (initL n As) i) := by
  obtain ⟨h1, h2⟩ := argA_ok g hk
  refine ⟨by unfold initL; rw [List.length_append, List.length_replicate]; omega, by unfold padA; rw [List.length_append, List.length_replicate]; omega, fun i a ha => ?_⟩
  unfold padA at ha
  by_cases hi : i < (argA as).length
  · rw [List.getElem?_append_left hi] at ha
    have := h2 i a ha
    have e : ldL (initL n As) i = ldL (argL As) i := by
      unfold initL ldL
      rw [List.getD_eq_getElem?_getD, List.getD_eq_getElem?_getD, List.getElem?_append_left (by omega)]
    rw [e]
    exact this
  · rw [List.getElem?_append_right (by omega), List.getElem?_replicate] at ha
    split at ha
    · cases ha; trivial
    · cases ha
theorem cle_cle (a : AV) : cle (cle a) = cle a := by
  match a with
  | none => rfl
  | some (.inl _) => rfl
  | some (.inr (.inl _)) => rfl
  | some (.inr (.inr _)) => rfl
theorem gT_free {as : List AV} {As : List Value} (g : gT L0 L m (as.map cle) As) (L1 L' : List Value) (m' : Mm) : gT L1 L' m' (as.map cle) As := by
  have := gT_cle g L1 L' m'
  rw [List.map_map, show (cle ∘ cle) = cle from funext cle_cle] at this
  exact this
/-- the whole check of a method against a contract -/
def chkM (sh : List ShE) (T : List (List (Int × Int))) (Tc : List CE) (c0 : CE) (ann : List AnE) : Bool := decide (c0.1 ≠ zX3_isWord) && decide (c0.1 + 1 < nZ) && (c0.2.1.map cle).all (fun a => is1 a || isJ a) && decide ((argA (c0.2.1.map cle)).length ≤ mX c0.1) && (match ann.find? (fun p => p.1 == 0) with
  | some p => leT (padA (mX c0.1) (c0.2.1.map cle)) p.2.1.1 && p.2.1.2.1.isEmpty && leR T c0.2.2.1 p.2.1.2.2
  | none => false) && ann.all (blkOK sh T Tc (mT c0.1) c0 (codeZ c0.1) ann) && c0.2.2.2.2.2.2.isEmpty
theorem chk_ok {wS : List Value → Mm → Option Rs} {d : Nat} {c0 : CE} {ann : List AnE} (hC : ∀ c ∈ Tc, Hd T (semZ sh wS d) c) (h : chkM sh T Tc c0 ann = true) : Hd T (semZ sh wS (d + 1)) c0 := by
  unfold chkM at h
  simp only [Bool.and_eq_true, decide_eq_true_eq] at h
  obtain ⟨⟨⟨⟨⟨⟨h1, h2⟩, h3⟩, h4⟩, h5⟩, h6⟩, h7⟩ := h
  intro As m hA hI hR
  have hlen := (argA_ok hA h3).1
  have es : semZ sh wS (d + 1) c0.1 As m = rn sh tb0 mN mO (semZ sh wS d) (mT c0.1) (codeZ c0.1) 0 (initL (mX c0.1) As) [] m := by
    show (if c0.1 = zX3_isWord then _ else _) = _
    rw [if_neg h1, if_pos ⟨by omega, h2⟩]
  split at h5
  · rename_i p hp
    have hm := List.mem_of_find?_eq_some hp
    have hpe := List.find?_some hp
    simp only [beq_iff_eq] at hpe
    simp only [Bool.and_eq_true] at h5
    obtain ⟨⟨q1, q2⟩, q3⟩ := h5
    have hst : p.2.1.2.1 = [] := List.isEmpty_iff.mp q2
    have hg : ∀ L1, gZ T c0.2.2.2.2.2.1 m L1 p.2.1 (initL (mX c0.1) As) [] m := by
      intro L1
      have k := pad_ok (n := mX c0.1) (gT_free hA [] (initL (mX c0.1) As) m) h3 h4
      refine ⟨leL_ok (L0 := []) q1 ⟨by rw [k.2.1, k.1], k.2.2⟩ L1, ?_, hI, leR_ok q3 hI hR, fun _ _ _ _ _ => ⟨rfl, rfl⟩⟩
      rw [hst]
      trivial
    obtain ⟨r, r1, r2⟩ := run_ok (mE := m) hC h6 _ p hm _ _ _ hg (Nat.le_refl _)
    rw [hpe] at r1
    obtain ⟨v, m'⟩ := r
    refine ⟨v, m', by rw [es]; exact r1, r2.1, r2.2.1, r2.2.2.1, r2.2.2.2.1, ?_⟩
    rw [r2.2.2.2.2]
    exact fun _ _ _ q hq => by cases hq
  · cases h5
end Me
/-- contracts that hold at every depth from k on -/
def Hall (T : List (List (Int × Int))) (wS : List Value → Mm → Option Rs) (k : Nat) (Tc : List CE) : Prop := ∀ d, ∀ c ∈ Tc, Hd T (semZ shP wS (d + k)) c
theorem Hall_up {T : List (List (Int × Int))} {wS : List Value → Mm → Option Rs} {k : Nat} {Tc : List CE} (h : Hall T wS k Tc) (j : Nat) : Hall T wS (k + j) Tc := fun d c hc => by
  have := h (d + j) c hc
  rw [show d + j + k = d + (k + j) by omega] at this
  exact this
theorem Hall_app {T : List (List (Int × Int))} {wS : List Value → Mm → Option Rs} {k : Nat} {A B : List CE} (h1 : Hall T wS k A) (h2 : Hall T wS k B) : Hall T wS k (A ++ B) := fun d c hc => by
  rcases List.mem_append.mp hc with h | h
  · exact h1 d c h
  · exact h2 d c h
theorem Hall_step {T : List (List (Int × Int))} {wS : List Value → Mm → Option Rs} {k : Nat} {Tc : List CE} (h : Hall T wS k Tc) (B : List (CE × List AnE)) (hB : B.all (fun b => chkM shP T Tc b.1 b.2) = true) : Hall T wS (k + 1) (B.map (fun b => b.1) ++ Tc) := by
  apply Hall_app
  · intro d c hc
    obtain ⟨b, h1, rfl⟩ := List.mem_map.mp hc
    exact chk_ok (h d) (List.all_eq_true.mp hB b h1)
  · exact Hall_up h 1
end
