/-! A LINE: what it tells, or its fault and the place -/
/-- is the name s to e the word j -/
def nmX (B : Nat → Int32) (s e j : Nat) : Bool := decide (e = s + lenS.getD j 0) && (List.range (lenS.getD j 0)).all (fun i => decide (B (s + i) = chS j i))
/-- which line the name begins (8: none) -/
def lnX (B : Nat → Int32) (s e : Nat) : Nat := if nmX B s e 0 = true then 0 else if nmX B s e 1 = true then 1 else if nmX B s e 2 = true then 2 else if nmX B s e 3 = true then 3 else if nmX B s e 4 = true then 4 else if nmX B s e 5 = true then 5 else if nmX B s e 6 = true then 6 else if nmX B s e 7 = true then 7 else 8
theorem lnX_le (B : Nat → Int32) (s e : Nat) : lnX B s e ≤ 8 := by
  unfold lnX
  (repeat' split) <;> omega
theorem nm_apart : ∀ i, i < 8 → ∀ j, j < 8 → i ≠ j → lenS.getD i 0 ≠ lenS.getD j 0 ∨ ∃ k, k < 4 ∧ k < lenS.getD i 0 ∧ k < lenS.getD j 0 ∧ chS i k ≠ chS j k := by decide +kernel
theorem nm_one {B : Nat → Int32} {s e i j : Nat} (hi : i < 8) (hj : j < 8) (h1 : nmX B s e i = true) (h2 : nmX B s e j = true) : i = j := by
  by_cases h : i = j
  · exact h
  · unfold nmX at h1 h2
    simp only [Bool.and_eq_true, decide_eq_true_eq] at h1 h2
    rcases nm_apart i hi j hj h with q | ⟨k, -, k1, k2, k3⟩
    · omega
    · have a := List.all_eq_true.mp h1.2 k (List.mem_range.mpr k1)
      have b := List.all_eq_true.mp h2.2 k (List.mem_range.mpr k2)
      simp only [decide_eq_true_eq] at a b
      exact absurd (a.symm.trans b) k3
theorem lnX_is {B : Nat → Int32} {s e j : Nat} (hj : j < 8) (h : nmX B s e j = true) : lnX B s e = j := by
  unfold lnX
  by_cases c0 : nmX B s e 0 = true
  · rw [if_pos c0]; exact nm_one (by omega) hj c0 h
  rw [if_neg c0]
  by_cases c1 : nmX B s e 1 = true
  · rw [if_pos c1]; exact nm_one (by omega) hj c1 h
  rw [if_neg c1]
  by_cases c2 : nmX B s e 2 = true
  · rw [if_pos c2]; exact nm_one (by omega) hj c2 h
  rw [if_neg c2]
  by_cases c3 : nmX B s e 3 = true
  · rw [if_pos c3]; exact nm_one (by omega) hj c3 h
  rw [if_neg c3]
  by_cases c4 : nmX B s e 4 = true
  · rw [if_pos c4]; exact nm_one (by omega) hj c4 h
  rw [if_neg c4]
  by_cases c5 : nmX B s e 5 = true
  · rw [if_pos c5]; exact nm_one (by omega) hj c5 h
  rw [if_neg c5]
  by_cases c6 : nmX B s e 6 = true
  · rw [if_pos c6]; exact nm_one (by omega) hj c6 h
  rw [if_neg c6]
  by_cases c7 : nmX B s e 7 = true
  · rw [if_pos c7]; exact nm_one (by omega) hj c7 h
  · match j, hj with
    | 0, _ => exact absurd h c0
    | 1, _ => exact absurd h c1
    | 2, _ => exact absurd h c2
    | 3, _ => exact absurd h c3
    | 4, _ => exact absurd h c4
    | 5, _ => exact absurd h c5
    | 6, _ => exact absurd h c6
    | 7, _ => exact absurd h c7
theorem lnX_no {B : Nat → Int32} {s e j : Nat} (hj : j < 8) (h : lnX B s e ≠ j) : nmX B s e j = false := by
  cases q : nmX B s e j with
  | false => rfl
  | true => exact absurd (lnX_is hj q) h
theorem lnX_yes {B : Nat → Int32} {s e j : Nat} (hj : j < 8) (h : lnX B s e = j) : nmX B s e j = true := by
  unfold lnX at h
  (repeat' split at h) <;> first | (subst h; assumption) | omega
/-- the fault of a token that can't stand there -/
def bad (t : Nat) : Int32 := if t = 4 then 1 else 2
abbrev Flt : Type := Int32 × Nat
/-- a number: its bounds, may it be 0 -/
def num1 (B : Nat → Int32) (hi : Int32) (z : Bool) (p : Nat) : Flt ⊕ (Int32 × Nat) :=
  if (lx B p).1 = 2 then (if hi < vq B (lx B p).2.1 (lx B p).2.2 ∨ (z = true ∧ vq B (lx B p).2.1 (lx B p).2.2 = 0) then .inl (3, (lx B p).2.1) else .inr (vq B (lx B p).2.1 (lx B p).2.2, (lx B p).2.2))
  else .inl (bad (lx B p).1, (lx B p).2.1)
def stp (B : Nat → Int32) (p : Nat) : Flt ⊕ Nat := if (lx B p).1 = 3 then .inr (lx B p).2.2 else .inl (bad (lx B p).1, (lx B p).2.1)
/-- the next place, villages, bodies, cells, what was told (bits 0 to 2: price, fine, round) -/
abbrev Lin : Type := Nat × Nat × Nat × (Nat → Int32) × Nat
def liV (B : Nat → Int32) (p V N : Nat) (f : Nat → Int32) (c : Nat) : Flt ⊕ Lin := match num1 B 99 false p with
  | .inl x => .inl x
  | .inr (a, p1) => match num1 B 9 false p1 with
    | .inl x => .inl x
    | .inr (b, p2) => match stp B p2 with
      | .inl x => .inl x
      | .inr p3 => .inr (p3, V + 1, N, upd (upd f (2 * V) a) (2 * V + 1) b, c)
def bdF (f : Nat → Int32) (N : Nat) (k a b e : Int32) : Nat → Int32 := upd (upd (upd (upd (upd f (8 + 5 * N) k) (8 + 5 * N + 1) a) (8 + 5 * N + 2) b) (8 + 5 * N + 3) e) 38 (nI (N + 1))
def liB (B : Nat → Int32) (k : Int32) (p V N : Nat) (f : Nat → Int32) (c : Nat) : Flt ⊕ Lin := match num1 B 3 false p with
  | .inl x => .inl x
  | .inr (a, p1) => match num1 B 9 false p1 with
    | .inl x => .inl x
    | .inr (b, p2) => match num1 B 9 false p2 with
      | .inl x => .inl x
      | .inr (e, p3) => match stp B p3 with
        | .inl x => .inl x
        | .inr p4 => .inr (p4, V, N + 1, bdF f N k a b e, c)
def liS (B : Nat → Int32) (cell : Nat) (hi : Int32) (z : Bool) (bit : Nat) (p V N : Nat) (f : Nat → Int32) (c : Nat) : Flt ⊕ Lin := match num1 B hi z p with
  | .inl x => .inl x
  | .inr (a, p1) => match stp B p1 with
    | .inl x => .inl x
    | .inr p2 => .inr (p2, V, N, upd f cell a, c + bit)
/-- was it told -/
def toldX (c k : Nat) : Bool := (k == 5 && c % 2 == 1) || (k == 6 && c / 2 % 2 == 1) || (k == 7 && c / 4 % 2 == 1)
def noRoom (k V N : Nat) : Bool := (k == 0 && Nat.ble 4 V) || (Nat.ble 1 k && Nat.ble k 4 && Nat.ble 6 N)
/-- the line of kind k, its numbers from p on -/
def liK (B : Nat → Int32) (k p V N : Nat) (f : Nat → Int32) (c : Nat) : Flt ⊕ Lin := match k with
  | 0 => liV B p V N f c
  | 1 => liB B 0 p V N f c
  | 2 => liB B 1 p V N f c
  | 3 => liB B 2 p V N f c
  | 4 => liB B 3 p V N f c
  | 5 => liS B 39 20 false 1 p V N f c
  | 6 => liS B 40 60 false 2 p V N f c
  | _ => liS B 41 9 true 4 p V N f c
/-- a line, from p on -/
def line (B : Nat → Int32) (p V N : Nat) (f : Nat → Int32) (c : Nat) : Flt ⊕ Lin :=
  if (lx B p).1 = 1 then
    (if lnX B (lx B p).2.1 (lx B p).2.2 = 8 then .inl (2, (lx B p).2.1)
    else if toldX c (lnX B (lx B p).2.1 (lx B p).2.2) = true then .inl (4, (lx B p).2.1)
    else if noRoom (lnX B (lx B p).2.1 (lx B p).2.2) V N = true then .inl (5, (lx B p).2.1)
    else liK B (lnX B (lx B p).2.1 (lx B p).2.2) (lx B p).2.2 V N f c)
  else .inl (bad (lx B p).1, (lx B p).2.1)
/-- the bits of what was told -/
def tlV (c : Nat) : Int32 := nI (32 * c)
theorem tl_is : ∀ c, c < 8 → ∀ k, k < 8 → ((tlV c >>> (nI k &&& 31)) &&& 1 = 1 ↔ toldX c k = true) ∧ ((tlV c >>> (nI k &&& 31)) &&& 1 = 0 ↔ toldX c k = false) := by decide +kernel
theorem tl_or : ∀ c, c < 8 → ∀ k, k < 8 → 5 ≤ k → toldX c k = false → tlV c ||| (1 <<< (nI k &&& 31)) = tlV (c + 2 ^ (k - 5)) ∧ c + 2 ^ (k - 5) < 8 := by decide +kernel
/-- lines from p on, at most q of them: a fault and its place; or how many, and what they tell -/
def prs (B : Nat → Int32) : Nat → Nat → Nat → Nat → Nat → (Nat → Int32) → Nat → Flt ⊕ (Nat × Nat × Nat × (Nat → Int32))
  | 0, _, _, _, _, _, _ => .inl (0, 0)
  | q + 1, p, L, V, N, f, c => if (lx B p).1 = 0 then (if (List.range N).all (fun b => decide (f (8 + 5 * b + 1) < nI V)) = true then .inr (L, V, N, f) else .inl (6, (lx B p).2.1))
    else match line B p V N f c with
      | .inl x => .inl x
      | .inr (p', V', N', f', c') => prs B q p' (L + 1) V' N' f' c'
