/-! THE CHECKER: an abstract machine over bounds; what it lets pass returns -/
/-- bounds and stride (0: one number) -/
abbrev AI : Type := Int × Int × Nat
/-- what is known if a number isn't 0: a source and its bounds -/
abbrev IM : Type := List (Nat × Int × Int)
/-- a value: nothing known; a whole number: bounds, one number more that it may be, its source (0 none, k + 1 local k, 1000 + 200 o + j a cell), which local it was at the block's begin and how far off, what holds if it isn't 0; a reference; a long with bounds and source -/
abbrev AV : Type := Option ((AI × Option Int × Nat × (Nat × Int) × IM) ⊕ (List Nat ⊕ (Int × Int × Nat)))
/-- locals, stack, bounds of single cells -/
abbrev AS : Type := List AV × List AV × IM
def cel (m : Mm) (c : Nat) : Int := (m.1 (c / 200) (c % 200)).toInt
def gN (a : AI) (e : Option Int) (x : Int) : Prop := e = some x ∨ (a.1 ≤ x ∧ x ≤ a.2.1 ∧ (a.2.2 : Int) ∣ x - a.1)
def srcV (L : List Value) (m : Mm) (s : Nat) (x : Int) : Prop := s = 0 ∨ (0 < s ∧ s < 1000 ∧ ∃ y : Int32, ldL L (s - 1) = .int y ∧ y.toInt = x) ∨ (1000 ≤ s ∧ cel m (s - 1000) = x)
def srcB (L : List Value) (m : Mm) (q : Nat × Int × Int) : Prop := (0 < q.1 ∧ q.1 < 1000 ∧ ∃ y : Int32, ldL L (q.1 - 1) = .int y ∧ q.2.1 ≤ y.toInt ∧ y.toInt ≤ q.2.2) ∨ (1000 ≤ q.1 ∧ q.2.1 ≤ cel m (q.1 - 1000) ∧ cel m (q.1 - 1000) ≤ q.2.2)
def orgV (L0 : List Value) (o : Nat × Int) (x : Int) : Prop := o.1 = 0 ∨ ∃ y : Int32, ldL L0 (o.1 - 1) = .int y ∧ x = y.toInt + o.2
def gv (L0 L : List Value) (m : Mm) (a : AV) (v : Value) : Prop := match a with
  | none => True
  | some (.inl (ai, e, s, o, im)) => ∃ x : Int32, v = .int x ∧ gN ai e x.toInt ∧ srcV L m s x.toInt ∧ orgV L0 o x.toInt ∧ (x.toInt ≠ 0 → ∀ q ∈ im, srcB L m q)
  | some (.inr (.inl rs)) => ∃ r, v = .ref r ∧ r ∈ rs
  | some (.inr (.inr (lo, hi, s))) => ∃ x : Int64, v = .long x ∧ lo ≤ x.toInt ∧ x.toInt ≤ hi ∧ srcV L m s x.toInt
def gT (L0 L : List Value) (m : Mm) : List AV → List Value → Prop
  | [], [] => True
  | a :: as, v :: vs => gv L0 L m a v ∧ gT L0 L m as vs
  | _, _ => False
def rho (m : Mm) (R : IM) : Prop := ∀ q ∈ R, q.2.1 ≤ cel m q.1 ∧ cel m q.1 ≤ q.2.2
/-- what may be written: whole objects, single cells -/
abbrev Wr : Type := List Nat × List Nat
def frm (W : Wr) (mE m : Mm) : Prop := ∀ o j, j < 200 → o ∉ W.1 → o * 200 + j ∉ W.2 → m.1 o j = mE.1 o j ∧ m.2 o j = mE.2 o j
/-- the bounds of every cell: a row of bounds for each object, repeated -/
def ivO (T : List (List (Int × Int))) (o j : Nat) : Int × Int := (T.getD o []).getD (j % (T.getD o []).length) (-2147483648, 2147483647)
def InvT (T : List (List (Int × Int))) (m : Mm) : Prop := ∀ o j, (ivO T o j).1 ≤ (m.1 o j).toInt ∧ (m.1 o j).toInt ≤ (ivO T o j).2
def gL (L0 L : List Value) (m : Mm) (as : List AV) : Prop := as.length = L.length ∧ ∀ i a, as[i]? = some a → gv L0 L m a (ldL L i)
def gZ (T : List (List (Int × Int))) (W : Wr) (mE : Mm) (L0 : List Value) (S : AS) (L st : List Value) (m : Mm) : Prop := gL L0 L m S.1 ∧ gT L0 L m S.2.1 st ∧ InvT T m ∧ rho m S.2.2 ∧ frm W mE m
/-- without the origin too -/
def cle (a : AV) : AV := match a with
  | some (.inl (ai, e, _, _, _)) => some (.inl (ai, e, 0, (0, 0), []))
  | some (.inr (.inr (lo, hi, _))) => some (.inr (.inr (lo, hi, 0)))
  | a => a
/-- a contract: method, arguments, cells' bounds ahead, answer, cells' bounds behind, what it writes, what holds of arguments if the answer isn't 0 -/
abbrev CE : Type := Nat × List AV × IM × AV × IM × Wr × IM
def retG (a : AV) (v : Option Value) : Prop := match a, v with
  | none, none => True
  | some b, some v => gv [] [] (fun _ _ => 0, fun _ _ => 0) (cle (some b)) v
  | _, _ => False
def valI (v : Value) : Option Int := match v with
  | .int x => some x.toInt
  | .long x => some x.toInt
  | _ => none
def impG (im : IM) (As : List Value) (v : Option Value) (m' : Mm) : Prop := ∀ x : Int32, v = some (.int x) → x.toInt ≠ 0 → ∀ q ∈ im, (q.1 < 1000 ∧ ∃ (w : Value) (y : Int), As[q.1]? = some w ∧ valI w = some y ∧ q.2.1 ≤ y ∧ y ≤ q.2.2) ∨ (1000 ≤ q.1 ∧ q.2.1 ≤ cel m' (q.1 - 1000) ∧ cel m' (q.1 - 1000) ≤ q.2.2)
def Hd (T : List (List (Int × Int))) (C : CallS) (c : CE) : Prop := ∀ (As : List Value) (m : Mm), gT [] [] m (c.2.1.map cle) As → InvT T m → rho m c.2.2.1 → ∃ v m', C c.1 As m = some (v, m') ∧ retG c.2.2.2.1 v ∧ InvT T m' ∧ rho m' c.2.2.2.2.1 ∧ frm c.2.2.2.2.2.1 m m' ∧ impG c.2.2.2.2.2.2 As v m'
/-! what the abstract machine does -/
def cst (n : Int) : AV := some (.inl ((n, n, 0), none, 0, (0, 0), []))
def tI : AV := some (.inl ((-2147483648, 2147483647, 1), none, 0, (0, 0), []))
def iA (lo hi : Int) : AV := some (.inl ((lo, hi, 1), none, 0, (0, 0), []))
def tJ : AV := some (.inr (.inr (-9223372036854775808, 9223372036854775807, 0)))
def hul (a : AI) (e : Option Int) : AI := match e with
  | none => a
  | some x => if a.1 ≤ a.2.1 then (if x < a.1 then x else a.1, if a.2.1 < x then x else a.2.1, 1) else (x, x, 0)
def in32 (lo hi : Int) : Bool := decide (-2147483648 ≤ lo) && decide (hi ≤ 2147483647)
def clr (a : AV) : AV := match a with
  | some (.inl (ai, e, _, o, _)) => some (.inl (ai, e, 0, o, []))
  | some (.inr (.inr (lo, hi, _))) => some (.inr (.inr (lo, hi, 0)))
  | a => a
def preA (as : List AV) (i : Nat) : List AV := match i with
  | 0 => as
  | k + 1 => match as[k]? with
    | some (some (.inl _)) => as
    | some (some (.inr (.inl _))) => as
    | _ => as.set k none
def addA (a b : AV) : Option AV := match a, b with
  | some (.inl (ai, e, _, o, _)), some (.inl (bi, f, _, _, _)) => if bi.1 = bi.2.1 ∧ f = none then (if in32 ((hul ai e).1 + bi.1) ((hul ai e).2.1 + bi.1) = true then some (some (.inl (((hul ai e).1 + bi.1, (hul ai e).2.1 + bi.1, (hul ai e).2.2), none, 0, (if o.1 = 0 then (0, 0) else (o.1, o.2 + bi.1)), []))) else some tI)
    else if in32 ((hul ai e).1 + (hul bi f).1) ((hul ai e).2.1 + (hul bi f).2.1) = true then some (some (.inl (((hul ai e).1 + (hul bi f).1, (hul ai e).2.1 + (hul bi f).2.1, Nat.gcd (hul ai e).2.2 (hul bi f).2.2), none, 0, (0, 0), []))) else some tI
  | _, _ => none
def subA (a b : AV) : Option AV := match a, b with
  | some (.inl (ai, e, _, o, _)), some (.inl (bi, f, _, _, _)) => if bi.1 = bi.2.1 ∧ f = none then (if in32 ((hul ai e).1 - bi.1) ((hul ai e).2.1 - bi.1) = true then some (some (.inl (((hul ai e).1 - bi.1, (hul ai e).2.1 - bi.1, (hul ai e).2.2), none, 0, (if o.1 = 0 then (0, 0) else (o.1, o.2 - bi.1)), []))) else if in32 ((hul ai e).1 - bi.1 + 4294967296) ((hul ai e).2.1 - bi.1 + 4294967296) = true then some (iA ((hul ai e).1 - bi.1 + 4294967296) ((hul ai e).2.1 - bi.1 + 4294967296)) else some tI)
    else if in32 ((hul ai e).1 - (hul bi f).2.1) ((hul ai e).2.1 - (hul bi f).1) = true then some (iA ((hul ai e).1 - (hul bi f).2.1) ((hul ai e).2.1 - (hul bi f).1)) else some tI
  | _, _ => none
/-- a number times a number that isn't negative; a constant keeps the stride -/
def mulA (a b : AV) : Option AV := match a, b with
  | some (.inl (ai, e, _, _, _)), some (.inl (bi, f, _, _, _)) => if 0 ≤ (hul ai e).1 ∧ 0 ≤ (hul bi f).1 ∧ in32 ((hul ai e).1 * (hul bi f).1) ((hul ai e).2.1 * (hul bi f).2.1) = true then some (some (.inl (((hul ai e).1 * (hul bi f).1, (hul ai e).2.1 * (hul bi f).2.1, if bi.1 = bi.2.1 ∧ f = none then (hul ai e).2.2 * bi.1.toNat else if ai.1 = ai.2.1 ∧ e = none then (hul bi f).2.2 * ai.1.toNat else 1), none, 0, (0, 0), []))) else some tI
  | _, _ => none
def remA (a b : AV) : Option AV := match a, b with
  | some (.inl (ai, e, _, _, _)), some (.inl (bi, f, _, _, _)) => if 0 < (hul bi f).1 then some (iA (if 0 ≤ (hul ai e).1 then 0 else 1 - (hul bi f).2.1) ((hul bi f).2.1 - 1)) else none
  | _, _ => none
def divA (a b : AV) : Option AV := match a, b with
  | some (.inl (ai, e, _, _, _)), some (.inl (bi, f, _, _, _)) => if 0 < (hul bi f).1 then (if 0 ≤ (hul ai e).1 then some (iA 0 (hul ai e).2.1) else some tI) else none
  | _, _ => none
def andA (a b : AV) : Option AV := match a, b with
  | some (.inl _), some (.inl (bi, f, _, _, _)) => if 0 ≤ (hul bi f).1 then some (iA 0 (hul bi f).2.1) else some tI
  | _, _ => none
/-- one shifted -/
def shlA (a b : AV) : Option AV := match a, b with
  | some (.inl (ai, e, _, _, _)), some (.inl (bi, f, _, _, _)) => if ai.1 = 1 ∧ ai.2.1 = 1 ∧ e = none ∧ 0 ≤ (hul bi f).1 ∧ (hul bi f).2.1 ≤ 30 then some (iA 1 ((2 ^ (hul bi f).2.1.toNat : Nat) : Int)) else some tI
  | _, _ => none
def anyA (a b : AV) : Option AV := match a, b with
  | some (.inl _), some (.inl _) => some tI
  | _, _ => none
def bop (F : AV → AV → Option AV) (S : AS) : Option AS := match S.2.1 with
  | b :: a :: st => match F a b with
    | some c => some (S.1, c :: st, S.2.2)
    | none => none
  | _ => none
def wLo (S : AS) (i : Nat) (a : AV) (st : List AV) : AS := ((preA (S.1.map clr) i).set i (clr a), st.map clr, S.2.2)
def isI (a : AV) : Bool := match a with
  | some (.inl _) => true
  | _ => false
def isJ (a : AV) : Bool := match a with
  | some (.inr (.inr _)) => true
  | _ => false
def is1 (a : AV) : Bool := match a with
  | some (.inl _) => true
  | some (.inr (.inl _)) => true
  | _ => false
/-- words of a value, at most -/
def catA (a : AV) : Nat := if is1 a = true then 1 else 2
section Abs
variable (sh : List ShE) (T : List (List (Int × Int))) (Tc : List CE) (W : Wr)
/-- bounds of a cell -/
def celI (R : IM) (c : Nat) : Int × Int := match R.lookup c with
  | some b => b
  | none => ivO T (c / 200) (c % 200)
/-- the kind of field k of object o -/
def fk (k o : Nat) : Option Nat := match sh[o]? with
  | some (.inl (ci, fs)) => if ci = k / 100 then fs[k % 100]? else none
  | _ => none
def cd (o j : Nat) : Nat := o * 200 + j
/-- least and greatest of a row of bounds -/
def mnB (l : List (Int × Int)) : Int × Int := match l with
  | [] => (0, 0)
  | b :: l => l.foldl (fun x y => (if y.1 < x.1 then y.1 else x.1, if x.2 < y.2 then y.2 else x.2)) b
def covB (b : Int × Int) (l : List (Int × Int)) : Bool := l.all (fun x => decide (b.1 ≤ x.1) && decide (x.2 ≤ b.2))
def getA (k : Nat) (rs : List Nat) (R : IM) : Option AV :=
  if rs.all (fun o => fk sh k o == some 0 || fk sh k o == some 2) = true then (if covB (mnB (rs.map (fun o => celI T R (cd o (k % 100))))) (rs.map (fun o => celI T R (cd o (k % 100)))) = true then some (some (.inl (((mnB (rs.map (fun o => celI T R (cd o (k % 100))))).1, (mnB (rs.map (fun o => celI T R (cd o (k % 100))))).2, 1), none, (match rs with | [o] => 1000 + cd o (k % 100) | _ => 0), (0, 0), []))) else none)
  else if rs.all (fun o => fk sh k o == some 1) = true then some tJ
  else if rs.all (fun o => match fk sh k o with | some (_ + 3) => true | _ => false) = true then some (some (.inr (.inl (rs.map (fun o => (fk sh k o).getD 0 - 3)))))
  else none
def inW (o j : Nat) : Bool := W.1.contains o || W.2.contains (cd o j)
/-- forget single cells -/
def dropC (R : IM) (P : Nat → Bool) : IM := R.filter (fun q => !(P q.1))
def putA (k : Nat) (rs : List Nat) (a : AV) (R : IM) : Option IM := match a with
  | some (.inl (ai, e, _, _, _)) => if rs.all (fun o => (fk sh k o == some 0 || (fk sh k o == some 2 && decide (0 ≤ (hul ai e).1) && decide ((hul ai e).2.1 ≤ 1))) && decide ((ivO T o (k % 100)).1 ≤ (hul ai e).1) && decide ((hul ai e).2.1 ≤ (ivO T o (k % 100)).2) && inW W o (k % 100)) = true then some ((match rs with | [o] => [(cd o (k % 100), (hul ai e).1, (hul ai e).2.1)] | _ => []) ++ dropC R (fun c => rs.any (fun o => c == cd o (k % 100)))) else none
  | some (.inr (.inr _)) => if rs.all (fun o => fk sh k o == some 1 && inW W o (k % 100)) = true then some R else none
  | _ => none
/-- the places that an index may be -/
def plA (a : AI) : List Nat := if a.2.2 = 0 then [a.1.toNat] else (List.range ((a.2.1 - a.1).toNat / a.2.2 + 1)).map (fun t => a.1.toNat + a.2.2 * t)
/-- is o an array of kind kd that holds these places; bounds of what lies there -/
def arA (kd o : Nat) (a : AI) (R : IM) : Option (List (Int × Int)) := match sh[o]? with
  | some (.inr (k, n, _)) => if k = kd ∧ 0 ≤ a.1 ∧ a.2.1 < n ∧ n ≤ 200 then some (if (T.getD o []).length = 1 ∧ R = [] then [ivO T o 0] else (plA a).map (fun j => celI T R (cd o j))) else none
  | some (.inl _) => none
  | none => match tb0 o with
    | some Q => if kd = 0 ∧ 0 ≤ a.1 ∧ a.2.1 < Q.length then some (Q.map (fun x => (x.toInt, x.toInt))) else none
    | none => none
def aldA (kd : Nat) (rs : List Nat) (a : AI) (R : IM) : Option AV :=
  if rs.all (fun o => (arA sh T kd o a R).isSome && covB (mnB (rs.flatMap (fun o => (arA sh T kd o a R).getD []))) ((arA sh T kd o a R).getD [])) = true then some (some (.inl (((mnB (rs.flatMap (fun o => (arA sh T kd o a R).getD []))).1, (mnB (rs.flatMap (fun o => (arA sh T kd o a R).getD []))).2, 1), none, (match rs with | [o] => if a.1 = a.2.1 ∧ o < 1000 then 1000 + cd o a.1.toNat else 0 | _ => 0), (0, 0), []))) else none
def astA (kd : Nat) (rs : List Nat) (a v : AI) (R : IM) : Option IM :=
  if rs.all (fun o => (match sh[o]? with | some (.inr (k, n, _)) => decide (k = kd ∧ 0 ≤ a.1 ∧ a.2.1 < n ∧ n ≤ 200) | _ => false) && (if (T.getD o []).length = 1 then decide ((ivO T o 0).1 ≤ v.1) && decide (v.2.1 ≤ (ivO T o 0).2) else (plA a).all (fun j => decide ((ivO T o j).1 ≤ v.1) && decide (v.2.1 ≤ (ivO T o j).2))) && (kd == 0 || (decide (0 ≤ v.1) && decide (v.2.1 ≤ 1))) && (W.1.contains o || (plA a).all (fun j => W.2.contains (cd o j)))) = true then some ((match rs with | [o] => if a.1 = a.2.1 then [(cd o a.1.toNat, v.1, v.2.1)] else [] | _ => []) ++ dropC R (fun c => rs.any (fun o => c / 200 == o && (plA a).contains (c % 200)))) else none
def alrA (rs : List Nat) (a : AI) : Option AV := match rs with
  | [o] => match sh[o]? with
    | some (.inr (k, n, qs)) => if (k = 2 ∨ k = 3) ∧ 0 ≤ a.1 ∧ a.2.1 < n ∧ n = qs.length then some (some (.inr (.inl (if a.1 = a.2.1 then [qs.getD a.1.toNat 0] else qs)))) else none
    | _ => none
  | _ => none
/-- a copy of a whole stretch: from row o0 to row o1, as many, from 0 on -/
def cpyC (ni di si : AI) (o0 o1 : Nat) (st : List AV) : Bool := decide (ni.1 = ni.2.1) && decide (di.1 = 0) && decide (di.2.1 = 0) && decide (si.1 = 0) && decide (si.2.1 = 0) && decide (0 ≤ ni.1) && decide (o0 ≠ o1) && (match sh[o0]?, sh[o1]? with | some (.inr (0, n0, _)), some (.inr (0, n1, _)) => decide (ni.1 ≤ n0) && decide (ni.1 ≤ n1) | _, _ => false) && (List.range ni.1.toNat).all (fun j => decide ((ivO T o1 j).1 ≤ (ivO T o0 j).1) && decide ((ivO T o0 j).2 ≤ (ivO T o1 j).2)) && W.1.contains o1 && decide ((st.map catA).sum ≤ 8)
def cpyA (S : AS) : Option AS := match S.2.1 with
  | some (.inl (ni, none, _, _, _)) :: some (.inl (di, none, _, _, _)) :: some (.inr (.inl [o1])) :: some (.inl (si, none, _, _, _)) :: some (.inr (.inl [o0])) :: st => if cpyC sh T W ni di si o0 o1 st = true then some (S.1.map clr, st.map clr, dropC S.2.2 (fun c => c / 200 == o1)) else none
  | _ => none
/-- is a covered by b: for arguments, answers, blocks -/
def leN (a : AI) (e : Option Int) (b : AI) (f : Option Int) : Bool := (match e with | none => true | some x => f == some x || (decide (b.1 ≤ x) && decide (x ≤ b.2.1) && decide (b.2.2 = 1))) && ((decide (a.1 = a.2.1) && f == some a.1) || decide (a.2.1 < a.1) || (decide (b.1 ≤ a.1) && decide (a.2.1 ≤ b.2.1) && (b.2.2 == 1 || ((a.2.2 % b.2.2 == 0 || a.1 == a.2.1) && (a.1 - b.1) % (b.2.2 : Int) == 0))))
def leV (a b : AV) : Bool := match b, a with
  | none, _ => true
  | some (.inl (bi, f, s, o, im)), some (.inl (ai, e, s1, _, im1)) => leN ai e bi f && (s == 0 || s == s1) && o.1 == 0 && im.all (fun q => im1.any (fun q1 => q1.1 == q.1 && decide (q.2.1 ≤ q1.2.1) && decide (q1.2.2 ≤ q.2.2)))
  | some (.inr (.inl rs)), some (.inr (.inl rs1)) => rs1.all (fun r => rs.contains r)
  | some (.inr (.inr (lo, hi, s))), some (.inr (.inr (lo1, hi1, s1))) => decide (lo ≤ lo1) && decide (hi1 ≤ hi) && (s == 0 || s == s1)
  | _, _ => false
def leT : List AV → List AV → Bool
  | [], [] => true
  | a :: as, b :: bs => leV a b && leT as bs
  | _, _ => false
def leR (R Q : IM) : Bool := Q.all (fun q => decide (q.2.1 ≤ (celI T R q.1).1) && decide ((celI T R q.1).2 ≤ q.2.2))
def subW (V : Wr) : Bool := V.1.all (fun o => W.1.contains o) && V.2.all (fun c => W.1.contains (c / 200) || W.2.contains c)
def inV (V : Wr) (c : Nat) : Bool := V.1.contains (c / 200) || V.2.contains c
/-- the source of an argument -/
def srA (a : AV) : Nat := match a with
  | some (.inl (_, _, s, _, _)) => s
  | some (.inr (.inr (_, _, s))) => s
  | _ => 0
def impA (as : List AV) (V : Wr) (im : IM) : IM := im.filterMap (fun q => if 1000 ≤ q.1 then some q else match as[q.1]? with
  | some a => if srA a = 0 ∨ (1000 ≤ srA a ∧ inV V (srA a - 1000) = true) then none else some (srA a, q.2)
  | none => none)
def addIm (a : AV) (im : IM) : AV := match a with
  | some (.inl (ai, e, _, o, _)) => some (.inl (ai, e, 0, o, im))
  | a => a
def popA : Nat → List AV → List AV → Option (List AV × List AV)
  | 0, st, acc => some (acc, st)
  | _ + 1, [], _ => none
  | n + 1, v :: st, acc => popA n st (v :: acc)
/-- behind a call with arguments as, stack st -/
def calA (z : Nat) (as st : List AV) (S : AS) : Option AS := match Tc.find? (fun c => c.1 == z && leT as c.2.1 && leR T S.2.2 c.2.2.1) with
  | some c => if subW W c.2.2.2.2.2.1 = true ∧ (st.map catA).sum ≤ 8 then some (S.1.map clr, (match c.2.2.2.1 with | none => [] | some b => [addIm (cle (some b)) (impA as c.2.2.2.2.2.1 c.2.2.2.2.2.2)]) ++ st.map clr, c.2.2.2.2.1 ++ dropC S.2.2 (inV c.2.2.2.2.2.1)) else none
  | none => none
def absI (i : ClassFile.Instr) (S : AS) : Option AS := match i with
  | .sipush n => if in32 n n = true then some (S.1, cst n :: S.2.1, S.2.2) else none
  | .jsr n => if -9223372036854775808 ≤ n ∧ n ≤ 9223372036854775807 then some (S.1, some (.inr (.inr (n, n, 0))) :: S.2.1, S.2.2) else none
  | .getstatic k => some (S.1, some (.inr (.inl [k])) :: S.2.1, S.2.2)
  | .iload i => match S.1[i]? with
    | some (some (.inl (ai, e, _, o, im))) => if i < 900 then some (S.1, some (.inl (ai, e, i + 1, o, im)) :: S.2.1, S.2.2) else none
    | _ => none
  | .lload i => match S.1[i]? with
    | some (some (.inr (.inr a))) => some (S.1, some (.inr (.inr a)) :: S.2.1, S.2.2)
    | _ => none
  | .aload i => match S.1[i]? with
    | some (some (.inr (.inl a))) => some (S.1, some (.inr (.inl a)) :: S.2.1, S.2.2)
    | _ => none
  | .istore i => match S.2.1 with
    | a :: st => if isI a = true ∧ i < S.1.length then some (wLo S i a st) else none
    | _ => none
  | .astore i => match S.2.1 with
    | some (.inr (.inl a)) :: st => if i < S.1.length then some (wLo S i (some (.inr (.inl a))) st) else none
    | _ => none
  | .lstore i => match S.2.1 with
    | a :: st => if isJ a = true ∧ i + 1 < S.1.length then some (((preA (S.1.map clr) i).set i (clr a)).set (i + 1) none, st.map clr, S.2.2) else none
    | _ => none
  | .iinc i n => match S.1[i]? with
    | some a => if in32 n n = true then (match addA a (cst n) with
      | some c => if i < S.1.length then some (wLo S i c S.2.1) else none
      | none => none) else none
    | none => none
  | .iadd => bop addA S
  | .isub => bop subA S
  | .imul => bop mulA S
  | .idiv => bop divA S
  | .irem => bop remA S
  | .iand => bop andA S
  | .ior => bop anyA S
  | .ixor => bop anyA S
  | .ishl => bop shlA S
  | .ishr => bop anyA S
  | .iushr => bop anyA S
  | .ladd => match S.2.1 with
    | b :: a :: st => if isJ a = true ∧ isJ b = true then some (S.1, tJ :: st, S.2.2) else none
    | _ => none
  | .lmul => match S.2.1 with
    | b :: a :: st => if isJ a = true ∧ isJ b = true then some (S.1, tJ :: st, S.2.2) else none
    | _ => none
  | .lcmp => match S.2.1 with
    | b :: a :: st => if isJ a = true ∧ isJ b = true then some (S.1, tI :: st, S.2.2) else none
    | _ => none
  | .i2l => match S.2.1 with
    | some (.inl (ai, e, s, _, _)) :: st => some (S.1, some (.inr (.inr ((hul ai e).1, (hul ai e).2.1, s))) :: st, S.2.2)
    | _ => none
  | .l2i => match S.2.1 with
    | a :: st => if isJ a = true then some (S.1, tI :: st, S.2.2) else none
    | _ => none
  | .i2b => match S.2.1 with
    | a :: st => if isI a = true then some (S.1, tI :: st, S.2.2) else none
    | _ => none
  | .i2s => match S.2.1 with
    | a :: st => if isI a = true then some (S.1, tI :: st, S.2.2) else none
    | _ => none
  | .dup => match S.2.1 with
    | a :: st => if is1 a = true then some (S.1, a :: a :: st, S.2.2) else none
    | _ => none
  | .dup2 => match S.2.1 with
    | a :: b :: st => if is1 a = true ∧ is1 b = true then some (S.1, a :: b :: a :: b :: st, S.2.2) else none
    | _ => none
  | .pop => match S.2.1 with
    | a :: st => if is1 a = true then some (S.1, st, S.2.2) else none
    | _ => none
  | .pop2 => match S.2.1 with
    | a :: st => if isJ a = true then some (S.1, st, S.2.2) else none
    | _ => none
  | .getfield k => match S.2.1 with
    | some (.inr (.inl rs)) :: st => (match getA sh T k rs S.2.2 with
      | some a => some (S.1, a :: st, S.2.2)
      | none => none)
    | _ => none
  | .putfield k => match S.2.1 with
    | a :: some (.inr (.inl rs)) :: st => (match putA sh T W k rs a S.2.2 with
      | some R => some (S.1.map clr, st.map clr, R)
      | none => none)
    | _ => none
  | .iaload => match S.2.1 with
    | some (.inl (ai, e, _, _, _)) :: some (.inr (.inl rs)) :: st => (match aldA sh T 0 rs (hul ai e) S.2.2 with
      | some a => some (S.1, a :: st, S.2.2)
      | none => none)
    | _ => none
  | .baload => match S.2.1 with
    | some (.inl (ai, e, _, _, _)) :: some (.inr (.inl rs)) :: st => (match aldA sh T 1 rs (hul ai e) S.2.2 with
      | some a => some (S.1, a :: st, S.2.2)
      | none => none)
    | _ => none
  | .iastore => match S.2.1 with
    | some (.inl (vi, f, _, _, _)) :: some (.inl (ai, e, _, _, _)) :: some (.inr (.inl rs)) :: st => (match astA sh T W 0 rs (hul ai e) (hul vi f) S.2.2 with
      | some R => some (S.1.map clr, st.map clr, R)
      | none => none)
    | _ => none
  | .bastore => match S.2.1 with
    | some (.inl (vi, f, _, _, _)) :: some (.inl (ai, e, _, _, _)) :: some (.inr (.inl rs)) :: st => (match astA sh T W 1 rs (hul ai e) (hul vi f) S.2.2 with
      | some R => some (S.1.map clr, st.map clr, R)
      | none => none)
    | _ => none
  | .aaload => match S.2.1 with
    | some (.inl (ai, e, _, _, _)) :: some (.inr (.inl rs)) :: st => (match alrA sh rs (hul ai e) with
      | some a => some (S.1, a :: st, S.2.2)
      | none => none)
    | _ => none
  | .monitorenter => cpyA sh T W S
  | .invokestatic z => match popA (mN z) S.2.1 [] with
    | some (as, st) => calA T Tc W z as st S
    | none => none
  | .invokevirtual z => match popA (mN z) S.2.1 [] with
    | some (as, some (.inr (.inl rs)) :: st) => if rs.all (fun o => clO sh o == some (mO z)) = true then calA T Tc W z (some (.inr (.inl rs)) :: as) st S else none
    | _ => none
  | _ => none
/-! jumps -/
/-- a number's bounds cut down -/
def cutN (a : AI) (e : Option Int) (lo hi : Int) : AI × Option Int := ((if a.2.2 ≤ 1 then (if a.1 < lo then lo else a.1) else a.1, if hi < a.2.1 then hi else a.2.1, if a.2.2 = 0 then 1 else a.2.2), match e with
  | none => none
  | some x => if lo ≤ x ∧ x ≤ hi then some x else none)
def cutV (a : AV) (lo hi : Int) : AV := match a with
  | some (.inl (ai, e, s, o, im)) => some (.inl ((cutN ai e lo hi).1, (cutN ai e lo hi).2, s, o, im))
  | a => a
/-- a source's bounds cut down -/
def cutS (S : AS) (q : Nat × Int × Int) : AS := if q.1 = 0 then S else if q.1 < 1000 then (match S.1[q.1 - 1]? with
    | some a => (S.1.set (q.1 - 1) (cutV a q.2.1 q.2.2), S.2)
    | none => S) else (S.1, S.2.1, (q.1 - 1000, (if (celI T S.2.2 (q.1 - 1000)).1 < q.2.1 then q.2.1 else (celI T S.2.2 (q.1 - 1000)).1), (if q.2.2 < (celI T S.2.2 (q.1 - 1000)).2 then q.2.2 else (celI T S.2.2 (q.1 - 1000)).2)) :: S.2.2)
/-- the local that a number was reckoned from -/
def cutO (S : AS) (o : Nat × Int) (lo hi : Int) : AS := match S.1[o.1 - 1]? with
  | some (some (.inl (_, _, _, o2, _))) => if o.1 ≠ 0 ∧ o.1 < 900 ∧ o2.1 = o.1 ∧ o2.2 = 0 then cutS T S (o.1, lo - o.2, hi - o.2) else S
  | _ => S
/-- bounds of x and of y where 'x c y' holds -/
def cmpI (c : ClassFile.Cond) (a b : AI) : (Int × Int) × (Int × Int) := match c with
  | .eq => ((b.1, b.2.1), (a.1, a.2.1))
  | .ne => ((if b.1 = b.2.1 ∧ a.1 = b.1 then a.1 + 1 else a.1, if b.1 = b.2.1 ∧ a.2.1 = b.1 then a.2.1 - 1 else a.2.1), (if a.1 = a.2.1 ∧ b.1 = a.1 then b.1 + 1 else b.1, if a.1 = a.2.1 ∧ b.2.1 = a.1 then b.2.1 - 1 else b.2.1))
  | .lt => ((a.1, b.2.1 - 1), (a.1 + 1, b.2.1))
  | .ge => ((b.1, a.2.1), (b.1, a.2.1))
  | .gt => ((b.1 + 1, a.2.1), (b.1, a.2.1 - 1))
  | .le => ((a.1, b.2.1), (a.1, b.2.1))
def negC (c : ClassFile.Cond) : ClassFile.Cond := match c with
  | .eq => .ne
  | .ne => .eq
  | .lt => .ge
  | .ge => .lt
  | .gt => .le
  | .le => .gt
/-- 'not equal to one number' takes the one more away -/
def neE (c : ClassFile.Cond) (e : Option Int) (b : AI) (f : Option Int) : Option Int := match c with
  | .ne => if b.1 = b.2.1 ∧ f = none ∧ e = some b.1 then none else e
  | _ => e
/-- the state where 'x c y' holds: none if it can't -/
def cmpS (c : ClassFile.Cond) (a b : AV) (S : AS) : Option AS := match a, b with
  | some (.inl (ai, e, s, o, im)), some (.inl (bi, f, t, o', _)) =>
    let A := hul ai (neE c e bi f)
    let B := hul bi (neE c f ai e)
    let q := cmpI c A B
    if (if A.1 < q.1.1 then q.1.1 else A.1) ≤ (if q.1.2 < A.2.1 then q.1.2 else A.2.1) ∧ (if B.1 < q.2.1 then q.2.1 else B.1) ≤ (if q.2.2 < B.2.1 then q.2.2 else B.2.1) then
      some ((match c with
        | .ne => if bi.1 = 0 ∧ bi.2.1 = 0 ∧ f = none then im else []
        | _ => []).foldl (cutS T) (cutO T (cutO T (cutS T (cutS T S (s, q.1.1, q.1.2)) (t, q.2.1, q.2.2)) o q.1.1 q.1.2) o' q.2.1 q.2.2))
    else none
  | _, _ => some S
variable (rt : Option FieldType) (c0 : CE)
def okRet (a : AV) : Bool := match a with
  | some (.inl (ai, e, _, _, _)) => match rt with
    | some .int => true
    | some .boolean => decide (0 ≤ (hul ai e).1) && decide ((hul ai e).2.1 ≤ 1)
    | _ => false
  | some (.inr (.inl _)) => isRefT rt
  | some (.inr (.inr _)) => decide (rt = some .long)
  | none => false
def retA (a : AV) (S : AS) : Bool := okRet rt a && (c0.2.2.2.1).isSome && leV a c0.2.2.2.1 && leR T S.2.2 c0.2.2.2.2.1 && c0.2.2.2.2.2.2.isEmpty
/-- the jumps' states of a block; none: it doesn't pass -/
def absX : List ClassFile.Instr → AS → Option (List (Nat × AS))
  | [], _ => none
  | i :: is, S => match i with
    | .goto t => some [(t.toNat, S)]
    | .goto_w t => some [(t.toNat, S)]
    | .ifCond c t => match S.2.1 with
      | a :: st => if isI a = true then (match (match cmpS T (negC c) a (cst 0) (S.1, st, S.2.2) with | some S1 => absX is S1 | none => some []) with
        | some l => some ((match cmpS T c a (cst 0) (S.1, st, S.2.2) with | some S1 => [(t.toNat, S1)] | none => []) ++ l)
        | none => none) else none
      | _ => none
    | .if_icmp c t => match S.2.1 with
      | b :: a :: st => if isI a = true ∧ isI b = true then (match (match cmpS T (negC c) a b (S.1, st, S.2.2) with | some S1 => absX is S1 | none => some []) with
        | some l => some ((match cmpS T c a b (S.1, st, S.2.2) with | some S1 => [(t.toNat, S1)] | none => []) ++ l)
        | none => none) else none
      | _ => none
    | .tableswitch d lo hi offs => match S.2.1 with
      | a :: st => if isI a = true ∧ hi - lo + 1 = offs.size ∧ in32 lo lo = true ∧ in32 hi hi = true then some ((match cmpS T .lt a (cst lo) (S.1, st, S.2.2) with | some S1 => [(d.toNat, S1)] | none => []) ++ ((match cmpS T .gt a (cst hi) (S.1, st, S.2.2) with | some S1 => [(d.toNat, S1)] | none => []) ++ (List.range offs.size).filterMap (fun (k : Nat) => (cmpS T .eq a (cst (lo + (k : Int))) (S.1, st, S.2.2)).map (fun S1 => ((offs.getD k d).toNat, S1))))) else none
      | _ => none
    | .ireturn => match S.2.1 with
      | [a] => if isI a = true ∧ retA T rt c0 a S = true then some [] else none
      | _ => none
    | .lreturn => match S.2.1 with
      | [a] => if isJ a = true ∧ retA T rt c0 a S = true then some [] else none
      | _ => none
    | .areturn => match S.2.1 with
      | [some (.inr (.inl rs))] => if retA T rt c0 (some (.inr (.inl rs))) S = true then some [] else none
      | _ => none
    | .return_ => match S.2.1 with
      | [] => if rt = none ∧ c0.2.2.2.1 = none ∧ leR T S.2.2 c0.2.2.2.2.1 = true ∧ c0.2.2.2.2.2.2.isEmpty = true then some [] else none
      | _ => none
    | i => match absI sh T Tc W i S with
      | some S1 => absX is S1
      | none => none
end Abs
