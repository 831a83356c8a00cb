/-! NIGHTS, as pure functions of the cells f (villages 0 to 7, bodies 8 to 37, 38 how many, 39 price, 40 fine, 41 round, 42 day, 43 ruined) -/
def fneed (k : Int32) : Int32 := if k = 0 then 2 else if k = 3 then 4 else 3
def mneed (k : Int32) : Int32 := if k = 2 then 0 else if k = 3 then 2 else 1
def posI (x : Int32) : Int32 := if x ≤ 0 then 0 else x
def lkF (f : Nat → Int32) (b : Nat) : Int32 := posI (fneed (f (8 + 5 * b)) - f (8 + 5 * b + 2))
def lkM (f : Nat → Int32) (b : Nat) : Int32 := posI (mneed (f (8 + 5 * b)) - f (8 + 5 * b + 3))
def lk (f : Nat → Int32) (b : Nat) : Int32 := lkF f b + lkM f b
/-- the first body of k from b on that lies at g (none: 9) -/
def fsB (f : Nat → Int32) (g : Int32) : Nat → Nat → Nat
  | 0, _ => 9
  | k + 1, b => if f (8 + 5 * b + 1) = g ∧ f (8 + 5 * b + 4) = 0 then b else fsB f g k (b + 1)
theorem fsB_lt (f : Nat → Int32) (g : Int32) : ∀ k b, fsB f g k b = 9 ∨ (b ≤ fsB f g k b ∧ fsB f g k b < b + k) := by
  intro k
  induction k with
  | zero => intro b; exact Or.inl rfl
  | succ k ih =>
    intro b
    unfold fsB
    split
    · exact Or.inr ⟨Nat.le_refl _, by omega⟩
    · rcases ih (b + 1) with h | h
      · exact Or.inl h
      · exact Or.inr ⟨by omega, by omega⟩
def nxV (V g : Nat) : Nat := if g + 1 < V then g + 1 else 0
/-- a village's turn: the cells, how often one was carried -/
def vgo (V N g : Nat) (f : Nat → Int32) (c : Int32) : (Nat → Int32) × Int32 :=
  if fsB f (nI g) N 0 = 9 then (f, c)
  else if lk f (fsB f (nI g) N 0) = 0 then (upd f (8 + 5 * fsB f (nI g) N 0 + 4) 1, c)
  else if f 39 * lk f (fsB f (nI g) N 0) < f 40 ∧ f 39 * lk f (fsB f (nI g) N 0) ≤ f (2 * g) then (upd (upd f (2 * g) (f (2 * g) - f 39 * lk f (fsB f (nI g) N 0))) (8 + 5 * fsB f (nI g) N 0 + 4) 1, c)
  else if V ≤ 1 then (f, c)
  else if f (2 * nxV V g + 1) = 0 then (upd f (8 + 5 * fsB f (nI g) N 0 + 1) (nI (nxV V g)), c + 1)
  else (upd f (2 * nxV V g + 1) (f (2 * nxV V g + 1) - 1), c)
/-- the crowner: from body b on -/
def crF (N : Nat) : Nat → Nat → (Nat → Int32) → Nat → Int32
  | 0, _, f => f
  | k + 1, b, f => if f (8 + 5 * b + 4) = 0 then crF N k (b + 1) (upd (upd f (2 * (f (8 + 5 * b + 1)).toNatClampNeg) (if f (2 * (f (8 + 5 * b + 1)).toNatClampNeg) < f 40 then 0 else f (2 * (f (8 + 5 * b + 1)).toNatClampNeg) - f 40)) (8 + 5 * b + 4) 2) else crF N k (b + 1) f
def crR (N : Nat) : Nat → Nat → (Nat → Int32) → Int32 → Int32
  | 0, _, _, r => r
  | k + 1, b, f, r => if f (8 + 5 * b + 4) = 0 then crR N k (b + 1) (upd (upd f (2 * (f (8 + 5 * b + 1)).toNatClampNeg) (if f (2 * (f (8 + 5 * b + 1)).toNatClampNeg) < f 40 then 0 else f (2 * (f (8 + 5 * b + 1)).toNatClampNeg) - f 40)) (8 + 5 * b + 4) 2) (if f (2 * (f (8 + 5 * b + 1)).toNatClampNeg) < f 40 then r ||| (1 <<< (f (8 + 5 * b + 1) &&& 31)) else r) else crR N k (b + 1) f r
/-- all villages' turns, from the i-th on -/
def vgs (V N : Nat) (t : Nat → Nat) : Nat → Nat → (Nat → Int32) → Int32 → (Nat → Int32) × Int32
  | 0, _, f, c => (f, c)
  | k + 1, i, f, c => vgs V N t k (i + 1) (vgo V N (t i) f c).1 (vgo V N (t i) f c).2
def remI (x y : Int32) : Int32 := x - x / y * y
/-- a night -/
def ngF (V N : Nat) (t : Nat → Nat) (f : Nat → Int32) (r : Int32) : Nat → Int32 :=
  if remI ((vgs V N t V 0 f 0).1 42 + 1) ((vgs V N t V 0 f 0).1 41) = 0 then upd (upd (crF N N 0 (vgs V N t V 0 f 0).1) 43 (crF N N 0 (vgs V N t V 0 f 0).1 43 ||| crR N N 0 (vgs V N t V 0 f 0).1 r)) 42 (crF N N 0 (vgs V N t V 0 f 0).1 42 + 1)
  else upd (vgs V N t V 0 f 0).1 42 ((vgs V N t V 0 f 0).1 42 + 1)
def ngC (V N : Nat) (t : Nat → Nat) (f : Nat → Int32) (c : Int32) : Int32 := (vgs V N t V 0 f c).2
def ngR (V N : Nat) (t : Nat → Nat) (f : Nat → Int32) (r : Int32) : Int32 :=
  if remI ((vgs V N t V 0 f 0).1 42 + 1) ((vgs V N t V 0 f 0).1 41) = 0 then crR N N 0 (vgs V N t V 0 f 0).1 r else r
theorem vgo_c (V N g : Nat) (f : Nat → Int32) (c c' : Int32) : (vgo V N g f c).1 = (vgo V N g f c').1 := by
  unfold vgo
  (repeat' split) <;> rfl
theorem vgs_c (V N : Nat) (t : Nat → Nat) : ∀ k i f c c', (vgs V N t k i f c).1 = (vgs V N t k i f c').1 := by
  intro k
  induction k with
  | zero => intro i f c c'; rfl
  | succ k ih =>
    intro i f c c'
    unfold vgs
    rw [vgo_c V N (t i) f c c']
    exact ih _ _ _ _
/-- kin is 0 to 9 -/
def KN (N : Nat) (f : Nat → Int32) : Prop := ∀ b, b < N → (∃ x, x < 10 ∧ f (8 + 5 * b + 2) = nI x) ∧ ∃ y, y < 10 ∧ f (8 + 5 * b + 3) = nI y
/-- where all bodies are, what kinds they are, what kin they have -/
def Atf (V N : Nat) (f : Nat → Int32) : Prop := (∀ b, b < N → ∃ a, a < V ∧ f (8 + 5 * b + 1) = nI a) ∧ (∀ b, b < N → ∃ k, k < 4 ∧ f (8 + 5 * b) = nI k) ∧ KN N f
theorem Atf_u {V N : Nat} {f : Nat → Int32} (h : Atf V N f) {j : Nat} (x : Int32) (hj : ∀ b, b < N → j ≠ 8 + 5 * b + 1 ∧ j ≠ 8 + 5 * b ∧ j ≠ 8 + 5 * b + 2 ∧ j ≠ 8 + 5 * b + 3) : Atf V N (upd f j x) := by
  refine ⟨fun b hb => ?_, fun b hb => ?_, fun b hb => ?_⟩
  · rw [upd_n _ _ (fun z => (hj b hb).1 z.symm)]; exact h.1 b hb
  · rw [upd_n _ _ (fun z => (hj b hb).2.1 z.symm)]; exact h.2.1 b hb
  · rw [upd_n _ _ (fun z => (hj b hb).2.2.1 z.symm), upd_n _ _ (fun z => (hj b hb).2.2.2 z.symm)]; exact h.2.2 b hb
theorem vgo_at {V N g : Nat} {f : Nat → Int32} (c : Int32) (h : Atf V N f) (hg : g < V) (hV : V ≤ 4) : Atf V N (vgo V N g f c).1 := by
  have hb := fsB_lt f (nI g) N 0
  have hx : nxV V g < V := by
    unfold nxV
    split <;> omega
  unfold vgo
  split
  · exact h
  · rename_i n9
    have hb : fsB f (nI g) N 0 < N := by
      rcases hb with z | z
      · exact absurd z n9
      · omega
    split
    · exact Atf_u h _ (fun b _ => by omega)
    · split
      · exact Atf_u (Atf_u h _ (fun b _ => by omega)) _ (fun b _ => by omega)
      · split
        · exact h
        · split
          · refine ⟨fun b hb2 => ?_, fun b hb2 => ?_, fun b hb2 => ?_⟩
            · show ∃ a, a < V ∧ upd f (8 + 5 * fsB f (nI g) N 0 + 1) (nI (nxV V g)) (8 + 5 * b + 1) = nI a
              by_cases e : b = fsB f (nI g) N 0
              · rw [e, upd_s]; exact ⟨_, hx, rfl⟩
              · rw [upd_n _ _ (by omega)]; exact h.1 b hb2
            · show ∃ k, k < 4 ∧ upd f (8 + 5 * fsB f (nI g) N 0 + 1) (nI (nxV V g)) (8 + 5 * b) = nI k
              rw [upd_n _ _ (by omega)]; exact h.2.1 b hb2
            · show (∃ x, x < 10 ∧ upd f (8 + 5 * fsB f (nI g) N 0 + 1) (nI (nxV V g)) (8 + 5 * b + 2) = nI x) ∧ ∃ y, y < 10 ∧ upd f (8 + 5 * fsB f (nI g) N 0 + 1) (nI (nxV V g)) (8 + 5 * b + 3) = nI y
              rw [upd_n _ _ (by omega), upd_n _ _ (by omega)]; exact h.2.2 b hb2
          · exact Atf_u h _ (fun b _ => by omega)
theorem vgo_o {V N g : Nat} {f : Nat → Int32} (c : Int32) (hg : g < V) (hV : V ≤ 4) (hN : N ≤ 6) {j : Nat} (hj : 38 ≤ j) : (vgo V N g f c).1 j = f j := by
  have hb := fsB_lt f (nI g) N 0
  have hx : nxV V g < V := by
    unfold nxV
    split <;> omega
  unfold vgo
  split
  · rfl
  · rename_i n9
    have hb : fsB f (nI g) N 0 < N := by
      rcases hb with z | z
      · exact absurd z n9
      · omega
    split
    · exact upd_n _ _ (by omega)
    · split
      · show upd (upd f _ _) _ _ j = f j
        rw [upd_n _ _ (by omega), upd_n _ _ (by omega)]
      · split
        · rfl
        · split
          · exact upd_n _ _ (by omega)
          · exact upd_n _ _ (by omega)
theorem vgs_at {V N : Nat} {t : Nat → Nat} (ht : ∀ i, i < V → t i < V) (hV : V ≤ 4) (hN : N ≤ 6) : ∀ k i f c, i + k = V → Atf V N f → Atf V N (vgs V N t k i f c).1 ∧ ∀ j, 38 ≤ j → (vgs V N t k i f c).1 j = f j := by
  intro k
  induction k with
  | zero => intro i f c _ h; exact ⟨h, fun _ _ => rfl⟩
  | succ k ih =>
    intro i f c hi h
    unfold vgs
    have a := ih (i + 1) (vgo V N (t i) f c).1 (vgo V N (t i) f c).2 (by omega) (vgo_at c h (ht i (by omega)) hV)
    exact ⟨a.1, fun j hj => (a.2 j hj).trans (vgo_o c (ht i (by omega)) hV hN hj)⟩
theorem at_cl {V N : Nat} {f : Nat → Int32} (h : Atf V N f) (hV : V ≤ 4) {b : Nat} (hb : b < N) : (f (8 + 5 * b + 1)).toNatClampNeg < V ∧ f (8 + 5 * b + 1) = nI (f (8 + 5 * b + 1)).toNatClampNeg := by
  obtain ⟨a, h1, h2⟩ := h.1 b hb
  rw [h2, nI_clamp (by omega)]
  exact ⟨h1, rfl⟩
theorem crF_at {V N : Nat} (hV : V ≤ 4) (hN : N ≤ 6) : ∀ k b f, b + k = N → Atf V N f → Atf V N (crF N k b f) ∧ ∀ j, 38 ≤ j → crF N k b f j = f j := by
  intro k
  induction k with
  | zero => intro b f _ h; exact ⟨h, fun _ _ => rfl⟩
  | succ k ih =>
    intro b f hb h
    have ac := (at_cl h hV (show b < N by omega)).1
    unfold crF
    split
    · have a := ih (b + 1) _ (by omega) (Atf_u (Atf_u h (j := 2 * (f (8 + 5 * b + 1)).toNatClampNeg) (if f (2 * (f (8 + 5 * b + 1)).toNatClampNeg) < f 40 then 0 else f (2 * (f (8 + 5 * b + 1)).toNatClampNeg) - f 40) (fun b _ => by omega)) (j := 8 + 5 * b + 4) 2 (fun b _ => by omega))
      refine ⟨a.1, fun j hj => (a.2 j hj).trans ?_⟩
      rw [upd_n _ _ (by omega), upd_n _ _ (by omega)]
    · exact ih (b + 1) f (by omega) h
theorem ng_at {V N : Nat} {t : Nat → Nat} (ht : ∀ i, i < V → t i < V) (hV : V ≤ 4) (hN : N ≤ 6) {f : Nat → Int32} (r : Int32) (h : Atf V N f) : Atf V N (ngF V N t f r) ∧ (∀ j, 38 ≤ j → j ≠ 42 → j ≠ 43 → ngF V N t f r j = f j) ∧ ngF V N t f r 42 = f 42 + 1 := by
  have a := vgs_at ht hV hN V 0 f 0 (by omega) h
  have b := crF_at hV hN N 0 _ (by omega) a.1
  unfold ngF
  split
  · refine ⟨Atf_u (Atf_u b.1 _ (fun b _ => by omega)) _ (fun b _ => by omega), fun j h1 h2 h3 => ?_, ?_⟩
    · rw [upd_n _ _ h2, upd_n _ _ h3, b.2 j h1, a.2 j h1]
    · rw [upd_s, b.2 42 (by omega), a.2 42 (by omega)]
  · refine ⟨Atf_u a.1 _ (fun b _ => by omega), fun j h1 h2 h3 => ?_, ?_⟩
    · rw [upd_n _ _ h2, a.2 j h1]
    · rw [upd_s, a.2 42 (by omega)]
/-! CW when single cells change -/
theorem CW_m {w V N : Nat} {f : Nat → Int32} {m : Mm} (h : CW w V N f m) {g : Nat} (hg : g < V) (x : Int32) : CW w V N (upd f (2 * g) x) (wI m (w + 1) g x) := by
  obtain ⟨c1, c2, c3, c4, c5, c6, c7, c8, c9, hg0, hb⟩ := h
  refine ⟨c1, c2, by rw [wI_o _ _ _ _ _ (by omega)]; exact c3, by rw [wI_o _ _ _ _ _ (by omega)]; exact c4, by rw [upd_n _ _ (by omega)]; exact c5, by rw [wI_o _ _ _ _ _ (by omega), upd_n _ _ (by omega)]; exact c6, by rw [wI_o _ _ _ _ _ (by omega), upd_n _ _ (by omega)]; exact c7, by rw [wI_o _ _ _ _ _ (by omega), upd_n _ _ (by omega)]; exact c8, by rw [wI_o _ _ _ _ _ (by omega), upd_n _ _ (by omega)]; exact c9, fun q hq => ?_, fun q hq => ?_⟩
  · rw [wI_o _ _ _ _ _ (show w + 2 ≠ w + 1 by omega), upd_n _ _ (show 2 * q + 1 ≠ 2 * g by omega)]
    by_cases e : q = g
    · subst e
      rw [wI_s, upd_s]
      exact ⟨rfl, (hg0 q hq).2⟩
    · rw [wI_j _ _ _ _ _ e, upd_n _ _ (by omega)]
      exact hg0 q hq
  · rw [wI_o _ _ _ _ _ (by omega), wI_o _ _ _ _ _ (by omega), wI_o _ _ _ _ _ (by omega), wI_o _ _ _ _ _ (by omega), wI_o _ _ _ _ _ (by omega), upd_n _ _ (by omega), upd_n _ _ (by omega), upd_n _ _ (by omega), upd_n _ _ (by omega), upd_n _ _ (by omega)]
    exact hb q hq
theorem CW_w {w V N : Nat} {f : Nat → Int32} {m : Mm} (h : CW w V N f m) {g : Nat} (hg : g < V) (x : Int32) : CW w V N (upd f (2 * g + 1) x) (wI m (w + 2) g x) := by
  obtain ⟨c1, c2, c3, c4, c5, c6, c7, c8, c9, hg0, hb⟩ := h
  refine ⟨c1, c2, by rw [wI_o _ _ _ _ _ (by omega)]; exact c3, by rw [wI_o _ _ _ _ _ (by omega)]; exact c4, by rw [upd_n _ _ (by omega)]; exact c5, by rw [wI_o _ _ _ _ _ (by omega), upd_n _ _ (by omega)]; exact c6, by rw [wI_o _ _ _ _ _ (by omega), upd_n _ _ (by omega)]; exact c7, by rw [wI_o _ _ _ _ _ (by omega), upd_n _ _ (by omega)]; exact c8, by rw [wI_o _ _ _ _ _ (by omega), upd_n _ _ (by omega)]; exact c9, fun q hq => ?_, fun q hq => ?_⟩
  · rw [wI_o _ _ _ _ _ (show w + 1 ≠ w + 2 by omega), upd_n _ _ (show 2 * q ≠ 2 * g + 1 by omega)]
    by_cases e : q = g
    · subst e
      rw [wI_s, upd_s]
      exact ⟨(hg0 q hq).1, rfl⟩
    · rw [wI_j _ _ _ _ _ e, upd_n _ _ (by omega)]
      exact hg0 q hq
  · rw [wI_o _ _ _ _ _ (by omega), wI_o _ _ _ _ _ (by omega), wI_o _ _ _ _ _ (by omega), wI_o _ _ _ _ _ (by omega), wI_o _ _ _ _ _ (by omega), upd_n _ _ (by omega), upd_n _ _ (by omega), upd_n _ _ (by omega), upd_n _ _ (by omega), upd_n _ _ (by omega)]
    exact hb q hq
theorem CW_f {w V N : Nat} {f : Nat → Int32} {m : Mm} (h : CW w V N f m) {b i : Nat} (hb : b < N) (hi : i < 5) (x : Int32) : CW w V N (upd f (8 + 5 * b + i) x) (wI m (w + 4 + i) b x) := by
  obtain ⟨c1, c2, c3, c4, c5, c6, c7, c8, c9, hg0, hb0⟩ := h
  refine ⟨c1, c2, by rw [wI_o _ _ _ _ _ (by omega)]; exact c3, by rw [wI_o _ _ _ _ _ (by omega)]; exact c4, by rw [upd_n _ _ (by omega)]; exact c5, by rw [wI_o _ _ _ _ _ (by omega), upd_n _ _ (by omega)]; exact c6, by rw [wI_o _ _ _ _ _ (by omega), upd_n _ _ (by omega)]; exact c7, by rw [wI_o _ _ _ _ _ (by omega), upd_n _ _ (by omega)]; exact c8, by rw [wI_o _ _ _ _ _ (by omega), upd_n _ _ (by omega)]; exact c9, fun q hq => ?_, fun q hq => ?_⟩
  · rw [wI_o _ _ _ _ _ (by omega), wI_o _ _ _ _ _ (by omega), upd_n _ _ (by omega), upd_n _ _ (by omega)]
    exact hg0 q hq
  · have key : ∀ j, j < 5 → m.1 (w + 4 + j) q = f (8 + 5 * q + j) → (wI m (w + 4 + i) b x).1 (w + 4 + j) q = upd f (8 + 5 * b + i) x (8 + 5 * q + j) := fun j hj e => by
      by_cases ej : j = i ∧ q = b
      · obtain ⟨rfl, rfl⟩ := ej
        rw [wI_s, upd_s]
      · rw [wI_at, if_neg (fun z => ej ⟨by omega, z.2⟩), upd_n _ _ (fun z => ej ⟨by omega, by omega⟩)]
        exact e
    obtain ⟨e0, e1, e2, e3, e4⟩ := hb0 q hq
    exact ⟨key 0 (by omega) e0, key 1 (by omega) e1, key 2 (by omega) e2, key 3 (by omega) e3, key 4 (by omega) e4⟩
theorem CW_d {w V N : Nat} {f : Nat → Int32} {m : Mm} (h : CW w V N f m) (x : Int32) : CW w V N (upd f 42 x) (wI m w 5 x) := by
  obtain ⟨c1, c2, c3, c4, c5, c6, c7, c8, c9, hg, hb⟩ := h
  refine ⟨c1, c2, by rw [wI_j _ _ _ _ _ (by omega)]; exact c3, by rw [wI_j _ _ _ _ _ (by omega)]; exact c4, by rw [upd_n _ _ (by omega)]; exact c5, by rw [wI_j _ _ _ _ _ (by omega), upd_n _ _ (by omega)]; exact c6, by rw [wI_j _ _ _ _ _ (by omega), upd_n _ _ (by omega)]; exact c7, by rw [wI_j _ _ _ _ _ (by omega), upd_n _ _ (by omega)]; exact c8, by rw [wI_s, upd_s], fun g hg2 => ?_, fun q hq => ?_⟩
  · rw [wI_o _ _ _ _ _ (by omega), wI_o _ _ _ _ _ (by omega), upd_n _ _ (by omega), upd_n _ _ (by omega)]
    exact hg g hg2
  · rw [wI_o _ _ _ _ _ (by omega), wI_o _ _ _ _ _ (by omega), wI_o _ _ _ _ _ (by omega), wI_o _ _ _ _ _ (by omega), wI_o _ _ _ _ _ (by omega), upd_n _ _ (by omega), upd_n _ _ (by omega), upd_n _ _ (by omega), upd_n _ _ (by omega), upd_n _ _ (by omega)]
    exact hb q hq
/-- cells that no world holds -/
theorem CW_n {w V N : Nat} {f : Nat → Int32} {m : Mm} (h : CW w V N f m) {j : Nat} (hj : 43 ≤ j) (x : Int32) : CW w V N (upd f j x) m := by
  obtain ⟨c1, c2, c3, c4, c5, c6, c7, c8, c9, hg, hb⟩ := h
  refine ⟨c1, c2, c3, c4, by rw [upd_n _ _ (by omega)]; exact c5, by rw [upd_n _ _ (by omega)]; exact c6, by rw [upd_n _ _ (by omega)]; exact c7, by rw [upd_n _ _ (by omega)]; exact c8, by rw [upd_n _ _ (by omega)]; exact c9, fun g hg2 => ?_, fun q hq => ?_⟩
  · rw [upd_n _ _ (by omega), upd_n _ _ (by omega)]
    exact hg g hg2
  · rw [upd_n _ _ (by omega), upd_n _ _ (by omega), upd_n _ _ (by omega), upd_n _ _ (by omega), upd_n _ _ (by omega)]
    exact hb q hq
/-- fields of a world that CW doesn't tell -/
theorem CW_6 {w V N : Nat} {f : Nat → Int32} {m : Mm} (h : CW w V N f m) {j : Nat} (hj : 6 ≤ j) (x : Int32) : CW w V N f (wI m w j x) := by
  obtain ⟨c1, c2, c3, c4, c5, c6, c7, c8, c9, hg, hb⟩ := h
  refine ⟨c1, c2, by rw [wI_j _ _ _ _ _ (by omega)]; exact c3, by rw [wI_j _ _ _ _ _ (by omega)]; exact c4, c5, by rw [wI_j _ _ _ _ _ (by omega)]; exact c6, by rw [wI_j _ _ _ _ _ (by omega)]; exact c7, by rw [wI_j _ _ _ _ _ (by omega)]; exact c8, by rw [wI_j _ _ _ _ _ (by omega)]; exact c9, fun g hg2 => ?_, fun q hq => ?_⟩
  · rw [wI_o _ _ _ _ _ (by omega), wI_o _ _ _ _ _ (by omega)]
    exact hg g hg2
  · rw [wI_o _ _ _ _ _ (by omega), wI_o _ _ _ _ _ (by omega), wI_o _ _ _ _ _ (by omega), wI_o _ _ _ _ _ (by omega), wI_o _ _ _ _ _ (by omega)]
    exact hb q hq
