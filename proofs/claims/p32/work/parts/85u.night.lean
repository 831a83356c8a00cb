section
/-! NIGHTS, as pure functions of the cells f (villages 0 to 7, bodies 8 to 37, 38 how many, 39 price, 40 fine, 41 round, 42 day, 43 ruined) -/
variable {kb : Nat}
def fneed (k : Int32) : Int32 := if k = 0 then 2 else if k = 3 then 4 else 3
def mneed (k : Int32) : Int32 := if k = 2 then 0 else if k = 3 then 2 else 1
def posI (x : Int32) : Int32 := if x ≤ 0 then 0 else x
def lkF (f : Nat → Int32) (b : Nat) : Int32 := posI (fneed (f (8 + 5 * b)) - f (8 + 5 * b + 2))
def lkM (f : Nat → Int32) (b : Nat) : Int32 := posI (mneed (f (8 + 5 * b)) - f (8 + 5 * b + 3))
def lk (f : Nat → Int32) (b : Nat) : Int32 := lkF f b + lkM f b
/-- the first body of k from b on that lies at g (none: 9) -/
def fsB (f : Nat → Int32) (g : Int32) : Nat → Nat → Nat
  | 0, _ => 9
  | k + 1, b => if f (8 + 5 * b + 1) = g ∧ f (8 + 5 * b + 4) = 0 then b else fsB f g k (b + 1)
theorem fsB_lt (f : Nat → Int32) (g : Int32) : ∀ k b, fsB f g k b = 9 ∨ (b ≤ fsB f g k b ∧ fsB f g k b < b + k) := by
  intro k
  induction k with
  | zero => intro b; exact Or.inl rfl
  | succ k ih =>
    intro b
    unfold fsB
    split
    · exact Or.inr ⟨Nat.le_refl _, by omega⟩
    · rcases ih (b + 1) with h | h
      · exact Or.inl h
      · exact Or.inr ⟨by omega, by omega⟩
def nxV (V g : Nat) : Nat := if g + 1 < V then g + 1 else 0
/-- a village's turn: the cells, how often one was carried -/
def vgo (V N g : Nat) (f : Nat → Int32) (c : Int32) : (Nat → Int32) × Int32 :=
  if fsB f (nI g) N 0 = 9 then (f, c)
  else if lk f (fsB f (nI g) N 0) = 0 then (upd f (8 + 5 * fsB f (nI g) N 0 + 4) 1, c)
  else if f 39 * lk f (fsB f (nI g) N 0) < f 40 ∧ f 39 * lk f (fsB f (nI g) N 0) ≤ f (2 * g) then (upd (upd f (2 * g) (f (2 * g) - f 39 * lk f (fsB f (nI g) N 0))) (8 + 5 * fsB f (nI g) N 0 + 4) 1, c)
  else if V ≤ 1 then (f, c)
  else if f (2 * nxV V g + 1) = 0 then (upd f (8 + 5 * fsB f (nI g) N 0 + 1) (nI (nxV V g)), c + 1)
  else (upd f (2 * nxV V g + 1) (f (2 * nxV V g + 1) - 1), c)
/-- the crowner: from body b on -/
def crF (N : Nat) : Nat → Nat → (Nat → Int32) → Nat → Int32
  | 0, _, f => f
  | k + 1, b, f => if f (8 + 5 * b + 4) = 0 then crF N k (b + 1) (upd (upd f (2 * (f (8 + 5 * b + 1)).toNatClampNeg) (if f (2 * (f (8 + 5 * b + 1)).toNatClampNeg) < f 40 then 0 else f (2 * (f (8 + 5 * b + 1)).toNatClampNeg) - f 40)) (8 + 5 * b + 4) 2) else crF N k (b + 1) f
def crR (N : Nat) : Nat → Nat → (Nat → Int32) → Int32 → Int32
  | 0, _, _, r => r
  | k + 1, b, f, r => if f (8 + 5 * b + 4) = 0 then crR N k (b + 1) (upd (upd f (2 * (f (8 + 5 * b + 1)).toNatClampNeg) (if f (2 * (f (8 + 5 * b + 1)).toNatClampNeg) < f 40 then 0 else f (2 * (f (8 + 5 * b + 1)).toNatClampNeg) - f 40)) (8 + 5 * b + 4) 2) (if f (2 * (f (8 + 5 * b + 1)).toNatClampNeg) < f 40 then r ||| (1 <<< (f (8 + 5 * b + 1) &&& 31)) else r) else crR N k (b + 1) f r
/-- all villages' turns, from the i-th on -/
def vgs (V N : Nat) (t : Nat → Nat) : Nat → Nat → (Nat → Int32) → Int32 → (Nat → Int32) × Int32
  | 0, _, f, c => (f, c)
  | k + 1, i, f, c => vgs V N t k (i + 1) (vgo V N (t i) f c).1 (vgo V N (t i) f c).2
def remI (x y : Int32) : Int32 := x - x / y * y
/-- a night -/
def ngF (V N : Nat) (t : Nat → Nat) (f : Nat → Int32) (r : Int32) : Nat → Int32 :=
  if remI ((vgs V N t V 0 f 0).1 42 + 1) ((vgs V N t V 0 f 0).1 41) = 0 then upd (upd (crF N N 0 (vgs V N t V 0 f 0).1) 43 (crF N N 0 (vgs V N t V 0 f 0).1 43 ||| crR N N 0 (vgs V N t V 0 f 0).1 r)) 42 (crF N N 0 (vgs V N t V 0 f 0).1 42 + 1)
  else upd (vgs V N t V 0 f 0).1 42 ((vgs V N t V 0 f 0).1 42 + 1)
def ngC (V N : Nat) (t : Nat → Nat) (f : Nat → Int32) (c : Int32) : Int32 := (vgs V N t V 0 f c).2
def ngR (V N : Nat) (t : Nat → Nat) (f : Nat → Int32) (r : Int32) : Int32 :=
  if remI ((vgs V N t V 0 f 0).1 42 + 1) ((vgs V N t V 0 f 0).1 41) = 0 then crR N N 0 (vgs V N t V 0 f 0).1 r else r
theorem vgo_c (V N g : Nat) (f : Nat → Int32) (c c' : Int32) : (vgo V N g f c).1 = (vgo V N g f c').1 := by
  unfold vgo
  (repeat' split) <;> rfl
theorem vgs_c (V N : Nat) (t : Nat → Nat) : ∀ k i f c c', (vgs V N t k i f c).1 = (vgs V N t k i f c').1 := by
  intro k
  induction k with
  | zero => intro i f c c'; rfl
  | succ k ih =>
    intro i f c c'
    unfold vgs
    rw [vgo_c V N (t i) f c c']
    exact ih _ _ _ _
/-- kin is 0 to 9 -/
def KNb (kb N : Nat) (f : Nat → Int32) : Prop := ∀ b, b < N → (∃ x, x < kb ∧ f (8 + 5 * b + 2) = nI x) ∧ ∃ y, y < kb ∧ f (8 + 5 * b + 3) = nI y
abbrev KN (N : Nat) (f : Nat → Int32) : Prop := KNb 10 N f
/-- where all bodies are, what kinds they are, what kin they have -/
def AtB (kb V N : Nat) (f : Nat → Int32) : Prop := (∀ b, b < N → ∃ a, a < V ∧ f (8 + 5 * b + 1) = nI a) ∧ (∀ b, b < N → ∃ k, k < 4 ∧ f (8 + 5 * b) = nI k) ∧ KNb kb N f
abbrev Atf (V N : Nat) (f : Nat → Int32) : Prop := AtB 10 V N f
theorem Atf_u {V N : Nat} {f : Nat → Int32} (h : AtB kb V N f) {j : Nat} (x : Int32) (hj : ∀ b, b < N → j ≠ 8 + 5 * b + 1 ∧ j ≠ 8 + 5 * b ∧ j ≠ 8 + 5 * b + 2 ∧ j ≠ 8 + 5 * b + 3) : AtB kb V N (upd f j x) := by
  refine ⟨fun b hb => ?_, fun b hb => ?_, fun b hb => ?_⟩
  · rw [upd_n _ _ (fun z => (hj b hb).1 z.symm)]; exact h.1 b hb
  · rw [upd_n _ _ (fun z => (hj b hb).2.1 z.symm)]; exact h.2.1 b hb
  · rw [upd_n _ _ (fun z => (hj b hb).2.2.1 z.symm), upd_n _ _ (fun z => (hj b hb).2.2.2 z.symm)]; exact h.2.2 b hb
theorem vgo_at {V N g : Nat} {f : Nat → Int32} (c : Int32) (h : AtB kb V N f) (hg : g < V) (hV : V ≤ 4) : AtB kb V N (vgo V N g f c).1 := by
  have hb := fsB_lt f (nI g) N 0
  have hx : nxV V g < V := by
    unfold nxV
    split <;> omega
  unfold vgo
  split
  · exact h
  · rename_i n9
    have hb : fsB f (nI g) N 0 < N := by
      rcases hb with z | z
      · exact absurd z n9
      · omega
    split
    · exact Atf_u h _ (fun b _ => by omega)
    · split
      · exact Atf_u (Atf_u h _ (fun b _ => by omega)) _ (fun b _ => by omega)
      · split
        · exact h
        · split
          · refine ⟨fun b hb2 => ?_, fun b hb2 => ?_, fun b hb2 => ?_⟩
            · show ∃ a, a < V ∧ upd f (8 + 5 * fsB f (nI g) N 0 + 1) (nI (nxV V g)) (8 + 5 * b + 1) = nI a
              by_cases e : b = fsB f (nI g) N 0
              · rw [e, upd_s]; exact ⟨_, hx, rfl⟩
              · rw [upd_n _ _ (by omega)]; exact h.1 b hb2
            · show ∃ k, k < 4 ∧ upd f (8 + 5 * fsB f (nI g) N 0 + 1) (nI (nxV V g)) (8 + 5 * b) = nI k
              rw [upd_n _ _ (by omega)]; exact h.2.1 b hb2
            · show (∃ x, x < kb ∧ upd f (8 + 5 * fsB f (nI g) N 0 + 1) (nI (nxV V g)) (8 + 5 * b + 2) = nI x) ∧ ∃ y, y < kb ∧ upd f (8 + 5 * fsB f (nI g) N 0 + 1) (nI (nxV V g)) (8 + 5 * b + 3) = nI y
              rw [upd_n _ _ (by omega), upd_n _ _ (by omega)]; exact h.2.2 b hb2
          · exact Atf_u h _ (fun b _ => by omega)
theorem vgo_o {V N g : Nat} {f : Nat → Int32} (c : Int32) (hg : g < V) (hV : V ≤ 4) (hN : N ≤ 6) {j : Nat} (hj : 38 ≤ j) : (vgo V N g f c).1 j = f j := by
  have hb := fsB_lt f (nI g) N 0
  have hx : nxV V g < V := by
    unfold nxV
    split <;> omega
  unfold vgo
  split
  · rfl
  · rename_i n9
    have hb : fsB f (nI g) N 0 < N := by
      rcases hb with z | z
      · exact absurd z n9
      · omega
    split
    · exact upd_n _ _ (by omega)
    · split
      · show upd (upd f _ _) _ _ j = f j
        rw [upd_n _ _ (by omega), upd_n _ _ (by omega)]
      · split
        · rfl
        · split
          · exact upd_n _ _ (by omega)
          · exact upd_n _ _ (by omega)
theorem vgs_at {V N : Nat} {t : Nat → Nat} (ht : ∀ i, i < V → t i < V) (hV : V ≤ 4) (hN : N ≤ 6) : ∀ k i f c, i + k = V → AtB kb V N f → AtB kb V N (vgs V N t k i f c).1 ∧ ∀ j, 38 ≤ j → (vgs V N t k i f c).1 j = f j := by
  intro k
  induction k with
  | zero => intro i f c _ h; exact ⟨h, fun _ _ => rfl⟩
  | succ k ih =>
    intro i f c hi h
    unfold vgs
    have a := ih (i + 1) (vgo V N (t i) f c).1 (vgo V N (t i) f c).2 (by omega) (vgo_at c h (ht i (by omega)) hV)
    exact ⟨a.1, fun j hj => (a.2 j hj).trans (vgo_o c (ht i (by omega)) hV hN hj)⟩
theorem at_cl {V N : Nat} {f : Nat → Int32} (h : AtB kb V N f) (hV : V ≤ 4) {b : Nat} (hb : b < N) : (f (8 + 5 * b + 1)).toNatClampNeg < V ∧ f (8 + 5 * b + 1) = nI (f (8 + 5 * b + 1)).toNatClampNeg := by
  obtain ⟨a, h1, h2⟩ := h.1 b hb
  rw [h2, nI_clamp (by omega)]
  exact ⟨h1, rfl⟩
theorem crF_at {V N : Nat} (hV : V ≤ 4) (hN : N ≤ 6) : ∀ k b f, b + k = N → AtB kb V N f → AtB kb V N (crF N k b f) ∧ ∀ j, 38 ≤ j → crF N k b f j = f j := by
  intro k
  induction k with
  | zero => intro b f _ h; exact ⟨h, fun _ _ => rfl⟩
  | succ k ih =>
    intro b f hb h
    have ac := (at_cl h hV (show b < N by omega)).1
    unfold crF
    split
    · have a := ih (b + 1) _ (by omega) (Atf_u (Atf_u h (j := 2 * (f (8 + 5 * b + 1)).toNatClampNeg) (if f (2 * (f (8 + 5 * b + 1)).toNatClampNeg) < f 40 then 0 else f (2 * (f (8 + 5 * b + 1)).toNatClampNeg) - f 40) (fun b _ => by omega)) (j := 8 + 5 * b + 4) 2 (fun b _ => by omega))
      refine ⟨a.1, fun j hj => (a.2 j hj).trans ?_⟩
      rw [upd_n _ _ (by omega), upd_n _ _ (by omega)]
    · exact ih (b + 1) f (by omega) h
theorem ng_at {V N : Nat} {t : Nat → Nat} (ht : ∀ i, i < V → t i < V) (hV : V ≤ 4) (hN : N ≤ 6) {f : Nat → Int32} (r : Int32) (h : AtB kb V N f) : AtB kb V N (ngF V N t f r) ∧ (∀ j, 38 ≤ j → j ≠ 42 → j ≠ 43 → ngF V N t f r j = f j) ∧ ngF V N t f r 42 = f 42 + 1 := by
  have a := vgs_at ht hV hN V 0 f 0 (by omega) h
  have b := crF_at hV hN N 0 _ (by omega) a.1
  unfold ngF
  split
  · refine ⟨Atf_u (Atf_u b.1 _ (fun b _ => by omega)) _ (fun b _ => by omega), fun j h1 h2 h3 => ?_, ?_⟩
    · rw [upd_n _ _ h2, upd_n _ _ h3, b.2 j h1, a.2 j h1]
    · rw [upd_s, b.2 42 (by omega), a.2 42 (by omega)]
  · refine ⟨Atf_u a.1 _ (fun b _ => by omega), fun j h1 h2 h3 => ?_, ?_⟩
    · rw [upd_n _ _ h2, a.2 j h1]
    · rw [upd_s, a.2 42 (by omega)]
/-! CW when single cells change -/
theorem CW_m {w V N : Nat} {f : Nat → Int32} {m : Mm} (h : CW w V N f m) {g : Nat} (hg : g < V) (x : Int32) : CW w V N (upd f (2 * g) x) (wI m (w + 1) g x) := by
  obtain ⟨c1, c2, c3, c4, c5, c6, c7, c8, c9, hg0, hb⟩ := h
  refine ⟨c1, c2, by rw [wI_o _ _ _ _ _ (by omega)]; exact c3, by rw [wI_o _ _ _ _ _ (by omega)]; exact c4, by rw [upd_n _ _ (by omega)]; exact c5, by rw [wI_o _ _ _ _ _ (by omega), upd_n _ _ (by omega)]; exact c6, by rw [wI_o _ _ _ _ _ (by omega), upd_n _ _ (by omega)]; exact c7, by rw [wI_o _ _ _ _ _ (by omega), upd_n _ _ (by omega)]; exact c8, by rw [wI_o _ _ _ _ _ (by omega), upd_n _ _ (by omega)]; exact c9, fun q hq => ?_, fun q hq => ?_⟩
  · rw [wI_o _ _ _ _ _ (show w + 2 ≠ w + 1 by omega), upd_n _ _ (show 2 * q + 1 ≠ 2 * g by omega)]
    by_cases e : q = g
    · subst e
      rw [wI_s, upd_s]
      exact ⟨rfl, (hg0 q hq).2⟩
    · rw [wI_j _ _ _ _ _ e, upd_n _ _ (by omega)]
      exact hg0 q hq
  · rw [wI_o _ _ _ _ _ (by omega), wI_o _ _ _ _ _ (by omega), wI_o _ _ _ _ _ (by omega), wI_o _ _ _ _ _ (by omega), wI_o _ _ _ _ _ (by omega), upd_n _ _ (by omega), upd_n _ _ (by omega), upd_n _ _ (by omega), upd_n _ _ (by omega), upd_n _ _ (by omega)]
    exact hb q hq
theorem CW_w {w V N : Nat} {f : Nat → Int32} {m : Mm} (h : CW w V N f m) {g : Nat} (hg : g < V) (x : Int32) : CW w V N (upd f (2 * g + 1) x) (wI m (w + 2) g x) := by
  obtain ⟨c1, c2, c3, c4, c5, c6, c7, c8, c9, hg0, hb⟩ := h
  refine ⟨c1, c2, by rw [wI_o _ _ _ _ _ (by omega)]; exact c3, by rw [wI_o _ _ _ _ _ (by omega)]; exact c4, by rw [upd_n _ _ (by omega)]; exact c5, by rw [wI_o _ _ _ _ _ (by omega), upd_n _ _ (by omega)]; exact c6, by rw [wI_o _ _ _ _ _ (by omega), upd_n _ _ (by omega)]; exact c7, by rw [wI_o _ _ _ _ _ (by omega), upd_n _ _ (by omega)]; exact c8, by rw [wI_o _ _ _ _ _ (by omega), upd_n _ _ (by omega)]; exact c9, fun q hq => ?_, fun q hq => ?_⟩
  · rw [wI_o _ _ _ _ _ (show w + 1 ≠ w + 2 by omega), upd_n _ _ (show 2 * q ≠ 2 * g + 1 by omega)]
    by_cases e : q = g
    · subst e
      rw [wI_s, upd_s]
      exact ⟨(hg0 q hq).1, rfl⟩
    · rw [wI_j _ _ _ _ _ e, upd_n _ _ (by omega)]
      exact hg0 q hq
  · rw [wI_o _ _ _ _ _ (by omega), wI_o _ _ _ _ _ (by omega), wI_o _ _ _ _ _ (by omega), wI_o _ _ _ _ _ (by omega), wI_o _ _ _ _ _ (by omega), upd_n _ _ (by omega), upd_n _ _ (by omega), upd_n _ _ (by omega), upd_n _ _ (by omega), upd_n _ _ (by omega)]
    exact hb q hq
theorem CW_f {w V N : Nat} {f : Nat → Int32} {m : Mm} (h : CW w V N f m) {b i : Nat} (hb : b < N) (hi : i < 5) (x : Int32) : CW w V N (upd f (8 + 5 * b + i) x) (wI m (w + 4 + i) b x) := by
  obtain ⟨c1, c2, c3, c4, c5, c6, c7, c8, c9, hg0, hb0⟩ := h
  refine ⟨c1, c2, by rw [wI_o _ _ _ _ _ (by omega)]; exact c3, by rw [wI_o _ _ _ _ _ (by omega)]; exact c4, by rw [upd_n _ _ (by omega)]; exact c5, by rw [wI_o _ _ _ _ _ (by omega), upd_n _ _ (by omega)]; exact c6, by rw [wI_o _ _ _ _ _ (by omega), upd_n _ _ (by omega)]; exact c7, by rw [wI_o _ _ _ _ _ (by omega), upd_n _ _ (by omega)]; exact c8, by rw [wI_o _ _ _ _ _ (by omega), upd_n _ _ (by omega)]; exact c9, fun q hq => ?_, fun q hq => ?_⟩
  · rw [wI_o _ _ _ _ _ (by omega), wI_o _ _ _ _ _ (by omega), upd_n _ _ (by omega), upd_n _ _ (by omega)]
    exact hg0 q hq
  · have key : ∀ j, j < 5 → m.1 (w + 4 + j) q = f (8 + 5 * q + j) → (wI m (w + 4 + i) b x).1 (w + 4 + j) q = upd f (8 + 5 * b + i) x (8 + 5 * q + j) := fun j hj e => by
      by_cases ej : j = i ∧ q = b
      · obtain ⟨rfl, rfl⟩ := ej
        rw [wI_s, upd_s]
      · rw [wI_at, if_neg (fun z => ej ⟨by omega, z.2⟩), upd_n _ _ (fun z => ej ⟨by omega, by omega⟩)]
        exact e
    obtain ⟨e0, e1, e2, e3, e4⟩ := hb0 q hq
    exact ⟨key 0 (by omega) e0, key 1 (by omega) e1, key 2 (by omega) e2, key 3 (by omega) e3, key 4 (by omega) e4⟩
theorem CW_d {w V N : Nat} {f : Nat → Int32} {m : Mm} (h : CW w V N f m) (x : Int32) : CW w V N (upd f 42 x) (wI m w 5 x) := by
  obtain ⟨c1, c2, c3, c4, c5, c6, c7, c8, c9, hg, hb⟩ := h
  refine ⟨c1, c2, by rw [wI_j _ _ _ _ _ (by omega)]; exact c3, by rw [wI_j _ _ _ _ _ (by omega)]; exact c4, by rw [upd_n _ _ (by omega)]; exact c5, by rw [wI_j _ _ _ _ _ (by omega), upd_n _ _ (by omega)]; exact c6, by rw [wI_j _ _ _ _ _ (by omega), upd_n _ _ (by omega)]; exact c7, by rw [wI_j _ _ _ _ _ (by omega), upd_n _ _ (by omega)]; exact c8, by rw [wI_s, upd_s], fun g hg2 => ?_, fun q hq => ?_⟩
  · rw [wI_o _ _ _ _ _ (by omega), wI_o _ _ _ _ _ (by omega), upd_n _ _ (by omega), upd_n _ _ (by omega)]
    exact hg g hg2
  · rw [wI_o _ _ _ _ _ (by omega), wI_o _ _ _ _ _ (by omega), wI_o _ _ _ _ _ (by omega), wI_o _ _ _ _ _ (by omega), wI_o _ _ _ _ _ (by omega), upd_n _ _ (by omega), upd_n _ _ (by omega), upd_n _ _ (by omega), upd_n _ _ (by omega), upd_n _ _ (by omega)]
    exact hb q hq
/-- cells that no world holds -/
theorem CW_n {w V N : Nat} {f : Nat → Int32} {m : Mm} (h : CW w V N f m) {j : Nat} (hj : 43 ≤ j) (x : Int32) : CW w V N (upd f j x) m := by
  obtain ⟨c1, c2, c3, c4, c5, c6, c7, c8, c9, hg, hb⟩ := h
  refine ⟨c1, c2, c3, c4, by rw [upd_n _ _ (by omega)]; exact c5, by rw [upd_n _ _ (by omega)]; exact c6, by rw [upd_n _ _ (by omega)]; exact c7, by rw [upd_n _ _ (by omega)]; exact c8, by rw [upd_n _ _ (by omega)]; exact c9, fun g hg2 => ?_, fun q hq => ?_⟩
  · rw [upd_n _ _ (by omega), upd_n _ _ (by omega)]
    exact hg g hg2
  · rw [upd_n _ _ (by omega), upd_n _ _ (by omega), upd_n _ _ (by omega), upd_n _ _ (by omega), upd_n _ _ (by omega)]
    exact hb q hq
/-- fields of a world that CW doesn't tell -/
theorem CW_6 {w V N : Nat} {f : Nat → Int32} {m : Mm} (h : CW w V N f m) {j : Nat} (hj : 6 ≤ j) (x : Int32) : CW w V N f (wI m w j x) := by
  obtain ⟨c1, c2, c3, c4, c5, c6, c7, c8, c9, hg, hb⟩ := h
  refine ⟨c1, c2, by rw [wI_j _ _ _ _ _ (by omega)]; exact c3, by rw [wI_j _ _ _ _ _ (by omega)]; exact c4, c5, by rw [wI_j _ _ _ _ _ (by omega)]; exact c6, by rw [wI_j _ _ _ _ _ (by omega)]; exact c7, by rw [wI_j _ _ _ _ _ (by omega)]; exact c8, by rw [wI_j _ _ _ _ _ (by omega)]; exact c9, fun g hg2 => ?_, fun q hq => ?_⟩
  · rw [wI_o _ _ _ _ _ (by omega), wI_o _ _ _ _ _ (by omega)]
    exact hg g hg2
  · rw [wI_o _ _ _ _ _ (by omega), wI_o _ _ _ _ _ (by omega), wI_o _ _ _ _ _ (by omega), wI_o _ _ _ _ _ (by omega), wI_o _ _ _ _ _ (by omega)]
    exact hb q hq
end
section
/-! THE CLASS' NIGHTS -/
variable {kb : Nat}
theorem al_f {k : Nat} (hk : k < 4) (m : Mm) : alI shP tb0 0 1000 (nI k) m = some (fneed (nI k)) := by
  have hs : shP[1000]? = none := rfl
  unfold alI
  rw [hs]
  match k, hk with
  | 0, _ => exact (by decide +kernel : (if (0 : Nat) = 0 ∧ inR (nI 0) 4 = true then some (([2, 3, 3, 4] : List Int32).getD (nI 0).toNatClampNeg 0) else none) = some (fneed (nI 0)))
  | 1, _ => exact (by decide +kernel : (if (0 : Nat) = 0 ∧ inR (nI 1) 4 = true then some (([2, 3, 3, 4] : List Int32).getD (nI 1).toNatClampNeg 0) else none) = some (fneed (nI 1)))
  | 2, _ => exact (by decide +kernel : (if (0 : Nat) = 0 ∧ inR (nI 2) 4 = true then some (([2, 3, 3, 4] : List Int32).getD (nI 2).toNatClampNeg 0) else none) = some (fneed (nI 2)))
  | 3, _ => exact (by decide +kernel : (if (0 : Nat) = 0 ∧ inR (nI 3) 4 = true then some (([2, 3, 3, 4] : List Int32).getD (nI 3).toNatClampNeg 0) else none) = some (fneed (nI 3)))
theorem al_m {k : Nat} (hk : k < 4) (m : Mm) : alI shP tb0 0 1001 (nI k) m = some (mneed (nI k)) := by
  have hs : shP[1001]? = none := rfl
  unfold alI
  rw [hs]
  match k, hk with
  | 0, _ => exact (by decide +kernel : (if (0 : Nat) = 0 ∧ inR (nI 0) 4 = true then some (([1, 1, 0, 2] : List Int32).getD (nI 0).toNatClampNeg 0) else none) = some (mneed (nI 0)))
  | 1, _ => exact (by decide +kernel : (if (0 : Nat) = 0 ∧ inR (nI 1) 4 = true then some (([1, 1, 0, 2] : List Int32).getD (nI 1).toNatClampNeg 0) else none) = some (mneed (nI 1)))
  | 2, _ => exact (by decide +kernel : (if (0 : Nat) = 0 ∧ inR (nI 2) 4 = true then some (([1, 1, 0, 2] : List Int32).getD (nI 2).toNatClampNeg 0) else none) = some (mneed (nI 2)))
  | 3, _ => exact (by decide +kernel : (if (0 : Nat) = 0 ∧ inR (nI 3) 4 = true then some (([1, 1, 0, 2] : List Int32).getD (nI 3).toNatClampNeg 0) else none) = some (mneed (nI 3)))
/-- a body's number, or NONE -/
def fbI (x : Nat) : Int32 := if x = 9 then -4 else nI x
theorem nI_n4 {b : Nat} (hb : b < 100) : ¬ nI b = -4 := fun z => by
  have q := congrArg Int32.toInt z
  rw [nI_toInt (by omega)] at q
  have q2 : (-4 : Int32).toInt = -4 := by decide
  omega
theorem nxV_lt {V g : Nat} (hg : g < V) : nxV V g < V := by
  unfold nxV
  split <;> omega
theorem nxV_ne {V g : Nat} (hg : g < V) (h : 1 < V) : nxV V g ≠ g := by
  unfold nxV
  split <;> omega
/-- what a night of the world w leaves -/
def WFr (w : Nat) (m m' : Mm) : Prop := (∀ q, q < w ∨ w + 8 < q → m'.1 q = m.1 q) ∧ m'.1 (w + 3) = m.1 (w + 3)
theorem WFr_rf {w : Nat} {m : Mm} : WFr w m m := ⟨fun _ _ => rfl, rfl⟩
theorem WFr_tr {w : Nat} {m m1 m2 : Mm} (h : WFr w m m1) (h2 : WFr w m1 m2) : WFr w m m2 := ⟨fun q hq => (h2.1 q hq).trans (h.1 q hq), h2.2.trans h.2⟩
theorem WFr_w {w : Nat} {m m1 : Mm} (h : WFr w m m1) {o : Nat} (j : Nat) (x : Int32) (h1 : w ≤ o) (h2 : o ≤ w + 8) (h3 : o ≠ w + 3) : WFr w m (wI m1 o j x) := by
  refine ⟨fun q hq => ?_, ?_⟩
  · rw [wI_n _ _ _ _ (by omega)]; exact h.1 q hq
  · rw [wI_n _ _ _ _ (by omega)]; exact h.2
section Ni
variable {w V N : Nat} {f : Nat → Int32} (wS : List Value → Mm → Option Rs) (d : Nat) {m : Mm}
theorem t_lacksC (hw : WSh shP w) (h : CW w V N f m) (ha : AtB kb V N f) {b : Nat} (hb : b < N) : semZ shP wS (d + 1) 32 [.ref w, .int (nI b)] m = some (some (.int (lk f b)), m) := by
  obtain ⟨c1, c2, -, -, -, -, -, -, -, -, hB⟩ := h
  obtain ⟨b1, b2, b3, b4, b5⟩ := hB b hb
  obtain ⟨k, hk, ek⟩ := ha.2.1 b hb
  have e2 : inR (nI b) 6 = true := inR_nI (by omega) (by omega)
  have e3 : (nI b).toNatClampNeg = b := nI_clamp (by omega)
  rw [ek] at b1
  rw [se_X5_lacks, r_X5_lacks_0]
  unfold lk lkF lkM posI
  rw [ek]
  by_cases h1 : fneed (nI k) - f (8 + 5 * b + 2) ≤ 0
  · by_cases h2 : mneed (nI k) - f (8 + 5 * b + 3) ≤ 0
    · simp only [EV, LV, CB, OI, OL, NP, CZ, popN, CT, OZ, List.map_nil, List.map_cons, List.sum_nil, List.sum_cons, Option.toList, List.nil_append, List.cons_append, Int.reduceToNat, Nat.reduceAdd, Nat.reduceLT, Nat.reduceLeDiff, List.length_cons, List.length_nil, Nat.zero_add, if_true, if_false, reduceIte, and_self, and_true, true_and, eq_self, reduceCtorEq, gW hw, aW hw, e2, e3, b1, b3, b4, al_f hk, al_m hk, h1, h2, r_X5_lacks_44, r_X5_lacks_53]
    · simp only [EV, LV, CB, OI, OL, NP, CZ, popN, CT, OZ, List.map_nil, List.map_cons, List.sum_nil, List.sum_cons, Option.toList, List.nil_append, List.cons_append, Int.reduceToNat, Nat.reduceAdd, Nat.reduceLT, Nat.reduceLeDiff, List.length_cons, List.length_nil, Nat.zero_add, if_true, if_false, reduceIte, and_self, and_true, true_and, eq_self, reduceCtorEq, gW hw, aW hw, e2, e3, b1, b3, b4, al_f hk, al_m hk, h1, h2, r_X5_lacks_44, r_X5_lacks_54]
  · by_cases h2 : mneed (nI k) - f (8 + 5 * b + 3) ≤ 0
    · simp only [EV, LV, CB, OI, OL, NP, CZ, popN, CT, OZ, List.map_nil, List.map_cons, List.sum_nil, List.sum_cons, Option.toList, List.nil_append, List.cons_append, Int.reduceToNat, Nat.reduceAdd, Nat.reduceLT, Nat.reduceLeDiff, List.length_cons, List.length_nil, Nat.zero_add, if_true, if_false, reduceIte, and_self, and_true, true_and, eq_self, reduceCtorEq, gW hw, aW hw, e2, e3, b1, b3, b4, al_f hk, al_m hk, h1, h2, r_X5_lacks_45, r_X5_lacks_53]
    · simp only [EV, LV, CB, OI, OL, NP, CZ, popN, CT, OZ, List.map_nil, List.map_cons, List.sum_nil, List.sum_cons, Option.toList, List.nil_append, List.cons_append, Int.reduceToNat, Nat.reduceAdd, Nat.reduceLT, Nat.reduceLeDiff, List.length_cons, List.length_nil, Nat.zero_add, if_true, if_false, reduceIte, and_self, and_true, true_and, eq_self, reduceCtorEq, gW hw, aW hw, e2, e3, b1, b3, b4, al_f hk, al_m hk, h1, h2, r_X5_lacks_45, r_X5_lacks_54]
theorem t_frC_l (hw : WSh shP w) (h : CW w V N f m) (x : Int32) : ∀ k b, b + k = N → rn shP tb0 mN mO (semZ shP wS d) (some .int) (codeZ 40) 2 [.ref w, .int x, .int (nI b)] [] m = some (some (.int (fbI (fsB f x k b))), m) := by
  intro k
  have c1 := h.2.2.2.1
  have hN := h.2.1
  induction k with
  | zero =>
    intro b hb
    have e1 : nI N ≤ nI b := nI_le (by omega) (by omega)
    rw [r_X5_firstLyingAt_2]
    simp only [EV, LV, CB, OI, OL, NP, CZ, popN, CT, OZ, List.map_nil, List.map_cons, List.sum_nil, List.sum_cons, Option.toList, List.nil_append, List.cons_append, Int.reduceToNat, Nat.reduceAdd, Nat.reduceLT, Nat.reduceLeDiff, List.length_cons, List.length_nil, Nat.zero_add, if_true, if_false, reduceIte, and_self, and_true, true_and, eq_self, reduceCtorEq, gW hw, c1, e1, r_X5_firstLyingAt_37]
    rfl
  | succ k ih =>
    intro b hb
    have e1 : ¬ nI N ≤ nI b := nI_ge (by omega) (by omega)
    have e2 : inR (nI b) 6 = true := inR_nI (by omega) (by omega)
    have e3 : (nI b).toNatClampNeg = b := nI_clamp (by omega)
    have e9 : ¬ b = 9 := by omega
    obtain ⟨-, b2, -, -, b5⟩ := h.2.2.2.2.2.2.2.2.2.2 b (by omega)
    rw [r_X5_firstLyingAt_2]
    unfold fsB
    by_cases q1 : f (8 + 5 * b + 1) = x
    · by_cases q2 : f (8 + 5 * b + 4) = 0
      · rw [if_pos ⟨q1, q2⟩]
        simp only [EV, LV, CB, OI, OL, NP, CZ, popN, CT, OZ, List.map_nil, List.map_cons, List.sum_nil, List.sum_cons, Option.toList, List.nil_append, List.cons_append, Int.reduceToNat, Nat.reduceAdd, Nat.reduceLT, Nat.reduceLeDiff, List.length_cons, List.length_nil, Nat.zero_add, if_true, if_false, reduceIte, and_self, and_true, true_and, eq_self, reduceCtorEq, gW hw, aW hw, c1, e1, e2, e3, b2, b5, q1, q2, not_true_eq_false, fbI, e9]
      · rw [if_neg (fun z => q2 z.2)]
        simp only [EV, LV, CB, OI, OL, NP, CZ, popN, CT, OZ, List.map_nil, List.map_cons, List.sum_nil, List.sum_cons, Option.toList, List.nil_append, List.cons_append, Int.reduceToNat, Nat.reduceAdd, Nat.reduceLT, Nat.reduceLeDiff, List.length_cons, List.length_nil, Nat.zero_add, if_true, if_false, reduceIte, and_self, and_true, true_and, eq_self, reduceCtorEq, gW hw, aW hw, c1, e1, e2, e3, b2, b5, q1, q2, not_true_eq_false, not_false_eq_true, r_X5_firstLyingAt_31, nI_1]
        exact ih (b + 1) (by omega)
    · rw [if_neg (fun z => q1 z.1)]
      simp only [EV, LV, CB, OI, OL, NP, CZ, popN, CT, OZ, List.map_nil, List.map_cons, List.sum_nil, List.sum_cons, Option.toList, List.nil_append, List.cons_append, Int.reduceToNat, Nat.reduceAdd, Nat.reduceLT, Nat.reduceLeDiff, List.length_cons, List.length_nil, Nat.zero_add, if_true, if_false, reduceIte, and_self, and_true, true_and, eq_self, reduceCtorEq, gW hw, aW hw, c1, e1, e2, e3, b2, q1, not_false_eq_true, r_X5_firstLyingAt_31, nI_1]
      exact ih (b + 1) (by omega)
theorem t_firstC (hw : WSh shP w) (h : CW w V N f m) (x : Int32) : semZ shP wS (d + 1) 40 [.ref w, .int x] m = some (some (.int (fbI (fsB f x N 0))), m) := by
  have i := t_frC_l wS d hw h x N 0 (by omega)
  rw [nI_0] at i
  rw [se_X5_firstLyingAt, r_X5_firstLyingAt_0]
  simp only [EV, LV, CB, OI, OL, NP, CZ, popN, CT, OZ, List.map_nil, List.map_cons, List.sum_nil, List.sum_cons, Option.toList, List.nil_append, List.cons_append, Int.reduceToNat, Nat.reduceAdd, Nat.reduceLT, Nat.reduceLeDiff, List.length_cons, List.length_nil, Nat.zero_add, if_true, if_false, reduceIte, and_self, and_true, true_and, eq_self, reduceCtorEq]
  exact i
theorem t_hand24 (hw : WSh shP w) (h : CW w V N f m) {b g x : Nat} (hb : b < N) (hx : x < V) : rn shP tb0 mN mO (semZ shP wS d) none (codeZ 41) 24 [.ref w, .int (nI b), .int (nI g), .int (nI x)] [] m = some (none, if f (2 * x + 1) = 0 then wI (wI m (w + 5) b (nI x)) w 7 (m.1 w 7 + 1) else wI m (w + 2) x (f (2 * x + 1) - 1)) := by
  obtain ⟨hV, hN, c0, c1, -, -, -, -, -, hG, -⟩ := h
  have g2 := (hG x hx).2
  have e2 : inR (nI b) 6 = true := inR_nI (by omega) (by omega)
  have e3 : (nI b).toNatClampNeg = b := nI_clamp (by omega)
  have e4 : inR (nI x) 4 = true := inR_nI (by omega) (by omega)
  have e5 : (nI x).toNatClampNeg = x := nI_clamp (by omega)
  have e7 : (wI m (w + 5) b (nI x)).1 w 7 = m.1 w 7 := wI_o _ _ _ _ _ (by omega)
  rw [r_X5_handOn_24]
  by_cases q : f (2 * x + 1) = 0
  · simp only [EV, LV, CB, OI, OL, NP, CZ, popN, CT, OZ, List.map_nil, List.map_cons, List.sum_nil, List.sum_cons, Option.toList, List.nil_append, List.cons_append, Int.reduceToNat, Nat.reduceAdd, Nat.reduceLT, Nat.reduceLeDiff, List.length_cons, List.length_nil, Nat.zero_add, if_true, if_false, reduceIte, and_self, and_true, true_and, eq_self, reduceCtorEq, gW hw, aW hw, sW hw, pW hw, e2, e3, e4, e5, e7, g2, q, not_true_eq_false, r_X5_handOn_63]
  · simp only [EV, LV, CB, OI, OL, NP, CZ, popN, CT, OZ, List.map_nil, List.map_cons, List.sum_nil, List.sum_cons, Option.toList, List.nil_append, List.cons_append, Int.reduceToNat, Nat.reduceAdd, Nat.reduceLT, Nat.reduceLeDiff, List.length_cons, List.length_nil, Nat.zero_add, if_true, if_false, reduceIte, and_self, and_true, true_and, eq_self, reduceCtorEq, gW hw, aW hw, sW hw, pW hw, e2, e3, e4, e5, e7, g2, q, not_false_eq_true, r_X5_handOn_53]
theorem t_handC (hw : WSh shP w) (h : CW w V N f m) {b g : Nat} (hb : b < N) (hg : g < V) : semZ shP wS (d + 1) 41 [.ref w, .int (nI b), .int (nI g)] m = some (none, if V ≤ 1 then m else if f (2 * nxV V g + 1) = 0 then wI (wI m (w + 5) b (nI (nxV V g))) w 7 (m.1 w 7 + 1) else wI m (w + 2) (nxV V g) (f (2 * nxV V g + 1) - 1)) := by
  have hV := h.1
  have c0 := h.2.2.1
  rw [se_X5_handOn, r_X5_handOn_0]
  by_cases h1 : g + 1 < V
  · have e1 : ¬ nI V ≤ nI (g + 1) := nI_ge h1 (by omega)
    have e2 : ¬ nI (g + 1) = nI g := fun z => by
      have := (nI_eq (by omega) (by omega)).mp z
      omega
    have ex : nxV V g = g + 1 := by
      unfold nxV
      rw [if_pos h1]
    have k := t_hand24 wS d hw h (b := b) (g := g) (x := g + 1) hb h1
    rw [if_neg (by omega), ex, ← k]
    simp only [EV, LV, CB, OI, OL, NP, CZ, popN, CT, OZ, List.map_nil, List.map_cons, List.sum_nil, List.sum_cons, Option.toList, List.nil_append, List.cons_append, Int.reduceToNat, Nat.reduceAdd, Nat.reduceLT, Nat.reduceLeDiff, List.length_cons, List.length_nil, Nat.zero_add, if_true, if_false, reduceIte, and_self, and_true, true_and, eq_self, reduceCtorEq, gW hw, c0, nI_1, e1]
    rw [r_X5_handOn_17]
    simp only [EV, LV, CB, OI, OL, NP, CZ, popN, CT, OZ, List.map_nil, List.map_cons, List.sum_nil, List.sum_cons, Option.toList, List.nil_append, List.cons_append, Int.reduceToNat, Nat.reduceAdd, Nat.reduceLT, Nat.reduceLeDiff, List.length_cons, List.length_nil, Nat.zero_add, if_true, if_false, reduceIte, and_self, and_true, true_and, eq_self, reduceCtorEq, e2, not_false_eq_true]
  · have e1 : nI V ≤ nI (g + 1) := nI_le (by omega) (by omega)
    have ex : nxV V g = 0 := by
      unfold nxV
      rw [if_neg h1]
    simp only [EV, LV, CB, OI, OL, NP, CZ, popN, CT, OZ, List.map_nil, List.map_cons, List.sum_nil, List.sum_cons, Option.toList, List.nil_append, List.cons_append, Int.reduceToNat, Nat.reduceAdd, Nat.reduceLT, Nat.reduceLeDiff, List.length_cons, List.length_nil, Nat.zero_add, if_true, if_false, reduceIte, and_self, and_true, true_and, eq_self, reduceCtorEq, gW hw, c0, nI_1, e1]
    rw [r_X5_handOn_16]
    by_cases hv : V ≤ 1
    · have q0 : nI g = 0 := by
        rw [show g = 0 by omega]
        exact nI_0
      rw [if_pos hv]
      simp only [EV, LV, CB, OI, OL, NP, CZ, popN, CT, OZ, List.map_nil, List.map_cons, List.sum_nil, List.sum_cons, Option.toList, List.nil_append, List.cons_append, Int.reduceToNat, Nat.reduceAdd, Nat.reduceLT, Nat.reduceLeDiff, List.length_cons, List.length_nil, Nat.zero_add, if_true, if_false, reduceIte, and_self, and_true, true_and, eq_self, reduceCtorEq, q0, not_true_eq_false]
    · have e2 : ¬ (0 : Int32) = nI g := fun z => by
        have := (nI_eq (a := 0) (b := g) (by omega) (by omega)).mp (nI_0.trans z)
        omega
      have k := t_hand24 wS d hw h (b := b) (g := g) (x := 0) hb (by omega)
      rw [if_neg hv, ex, ← k, nI_0]
      simp only [EV, LV, CB, OI, OL, NP, CZ, popN, CT, OZ, List.map_nil, List.map_cons, List.sum_nil, List.sum_cons, Option.toList, List.nil_append, List.cons_append, Int.reduceToNat, Nat.reduceAdd, Nat.reduceLT, Nat.reduceLeDiff, List.length_cons, List.length_nil, Nat.zero_add, if_true, if_false, reduceIte, and_self, and_true, true_and, eq_self, reduceCtorEq, e2, not_false_eq_true]
theorem t_turnC (hw : WSh shP w) (h : CW w V N f m) (ha : AtB kb V N f) {g : Nat} (hg : g < V) : ∃ m', semZ shP wS (d + 2) 39 [.ref w, .int (nI g)] m = some (none, m') ∧ CW w V N (vgo V N g f (m.1 w 7)).1 m' ∧ m'.1 w 7 = (vgo V N g f (m.1 w 7)).2 ∧ m'.1 w 6 = m.1 w 6 ∧ WFr w m m' := by
  have hf := t_firstC wS d hw h (nI g)
  have hV := h.1
  have hN := h.2.1
  have hx := nxV_lt hg
  have hbb := fsB_lt f (nI g) N 0
  unfold vgo
  obtain ⟨b, eb⟩ : ∃ b, b = fsB f (nI g) N 0 := ⟨_, rfl⟩
  rw [← eb] at hf hbb ⊢
  rw [se_X5_takeTurn, r_X5_takeTurn_0]
  by_cases q9 : b = 9
  · rw [if_pos q9]
    have e9 : fbI b = -4 := by
      unfold fbI
      rw [if_pos q9]
    refine ⟨m, ?_, h, rfl, rfl, WFr_rf⟩
    simp only [EV, LV, CB, OI, OL, NP, CZ, popN, CT, OZ, List.map_nil, List.map_cons, List.sum_nil, List.sum_cons, Option.toList, List.nil_append, List.cons_append, Int.reduceToNat, Nat.reduceAdd, Nat.reduceLT, Nat.reduceLeDiff, List.length_cons, List.length_nil, Nat.zero_add, if_true, if_false, reduceIte, and_self, and_true, true_and, eq_self, reduceCtorEq, gW hw, hf, e9, not_true_eq_false]
  · rw [if_neg q9]
    have hb : b < N := by omega
    have e9 : fbI b = nI b := by
      unfold fbI
      rw [if_neg q9]
    rw [e9] at hf
    have n4 : ¬ nI b = -4 := nI_n4 (by omega)
    have hl := t_lacksC wS d hw h ha hb
    have hh := t_handC wS d hw h hb hg
    have c2 := h.2.2.2.2.2.1
    have c3 := h.2.2.2.2.2.2.1
    have g1 := (h.2.2.2.2.2.2.2.2.2.1 g hg).1
    have e2 : inR (nI b) 6 = true := inR_nI (by omega) (by omega)
    have e3 : (nI b).toNatClampNeg = b := nI_clamp (by omega)
    have e4 : inR (nI g) 4 = true := inR_nI (by omega) (by omega)
    have e5 : (nI g).toNatClampNeg = g := nI_clamp (by omega)
    simp only [EV, LV, CB, OI, OL, NP, CZ, popN, CT, OZ, List.map_nil, List.map_cons, List.sum_nil, List.sum_cons, Option.toList, List.nil_append, List.cons_append, Int.reduceToNat, Nat.reduceAdd, Nat.reduceLT, Nat.reduceLeDiff, List.length_cons, List.length_nil, Nat.zero_add, if_true, if_false, reduceIte, and_self, and_true, true_and, eq_self, reduceCtorEq, gW hw, hf, n4, not_false_eq_true, r_X5_takeTurn_13, hl, c2]
    by_cases l0 : lk f b = 0
    · rw [if_pos l0]
      refine ⟨wI m (w + 8) b 1, ?_, CW_f h hb (i := 4) (by omega) 1, wI_o _ _ _ _ _ (by omega), wI_o _ _ _ _ _ (by omega), WFr_w WFr_rf _ _ (by omega) (by omega) (by omega)⟩
      simp only [EV, LV, CB, OI, OL, NP, CZ, popN, CT, OZ, List.map_nil, List.map_cons, List.sum_nil, List.sum_cons, Option.toList, List.nil_append, List.cons_append, Int.reduceToNat, Nat.reduceAdd, Nat.reduceLT, Nat.reduceLeDiff, List.length_cons, List.length_nil, Nat.zero_add, if_true, if_false, reduceIte, and_self, and_true, true_and, eq_self, reduceCtorEq, gW hw, sW hw, l0, not_true_eq_false, e2, e3, r_X5_takeTurn_88]
    · rw [if_neg l0]
      simp only [l0, not_false_eq_true, if_true, EV, LV, CB, OI, OL, NP, CZ, popN, CT, OZ, List.map_nil, List.map_cons, List.sum_nil, List.sum_cons, Option.toList, List.nil_append, List.cons_append, Int.reduceToNat, Nat.reduceAdd, Nat.reduceLT, Nat.reduceLeDiff, List.length_cons, List.length_nil, Nat.zero_add, if_true, if_false, reduceIte, and_self, and_true, true_and, eq_self, reduceCtorEq]
      rw [r_X5_takeTurn_41]
      by_cases p1 : f 39 * lk f b < f 40 ∧ f 39 * lk f b ≤ f (2 * g)
      · rw [if_pos p1]
        have n1 : ¬ f 40 ≤ f 39 * lk f b := Int32.not_le.mpr p1.1
        have n2 : ¬ f (2 * g) < f 39 * lk f b := Int32.not_lt.mpr p1.2
        have o1 : (w + 1 : Nat) ≠ w := by omega
        refine ⟨wI (wI m (w + 1) g (f (2 * g) - f 39 * lk f b)) (w + 8) b 1, ?_, CW_f (CW_m h hg _) hb (i := 4) (by omega) 1, by rw [wI_o _ _ _ _ _ (by omega), wI_o _ _ _ _ _ (by omega)], by rw [wI_o _ _ _ _ _ (by omega), wI_o _ _ _ _ _ (by omega)], WFr_w (WFr_w WFr_rf _ _ (by omega) (by omega) (by omega)) _ _ (by omega) (by omega) (by omega)⟩
        simp only [EV, LV, CB, OI, OL, NP, CZ, popN, CT, OZ, List.map_nil, List.map_cons, List.sum_nil, List.sum_cons, Option.toList, List.nil_append, List.cons_append, Int.reduceToNat, Nat.reduceAdd, Nat.reduceLT, Nat.reduceLeDiff, List.length_cons, List.length_nil, Nat.zero_add, if_true, if_false, reduceIte, and_self, and_true, true_and, eq_self, reduceCtorEq, gW hw, aW hw, sW hw, c3, g1, n1, n2, e2, e3, e4, e5, r_X5_takeTurn_88]
      · rw [if_neg p1]
        have go : exI shP tb0 mN mO (semZ shP wS (d + 1)) none (rn shP tb0 mN mO (semZ shP wS (d + 1)) none (codeZ 39)) [.iload 4, .aload 0, .getfield 503, .if_icmp .ge 82, .iload 4, .aload 0, .getfield 508, .iload 1, .iaload, .if_icmp .gt 82, .aload 0, .getfield 508, .iload 1, .dup2, .iaload, .iload 4, .isub, .iastore, .aload 0, .getfield 515, .iload 2, .sipush (1), .iastore, .goto 88] [.ref w, .int (nI g), .int (nI b), .int (lk f b), .int (f 39 * lk f b)] [] m = rn shP tb0 mN mO (semZ shP wS (d + 1)) none (codeZ 39) 82 [.ref w, .int (nI g), .int (nI b), .int (lk f b), .int (f 39 * lk f b)] [] m := by
          by_cases p2 : f 40 ≤ f 39 * lk f b
          · simp only [EV, LV, CB, OI, OL, NP, CZ, popN, CT, OZ, List.map_nil, List.map_cons, List.sum_nil, List.sum_cons, Option.toList, List.nil_append, List.cons_append, Int.reduceToNat, Nat.reduceAdd, Nat.reduceLT, Nat.reduceLeDiff, List.length_cons, List.length_nil, Nat.zero_add, if_true, if_false, reduceIte, and_self, and_true, true_and, eq_self, reduceCtorEq, gW hw, c3, p2]
          · have p3 : f (2 * g) < f 39 * lk f b := Int32.not_le.mp (fun z => p1 ⟨Int32.not_le.mp p2, z⟩)
            simp only [EV, LV, CB, OI, OL, NP, CZ, popN, CT, OZ, List.map_nil, List.map_cons, List.sum_nil, List.sum_cons, Option.toList, List.nil_append, List.cons_append, Int.reduceToNat, Nat.reduceAdd, Nat.reduceLT, Nat.reduceLeDiff, List.length_cons, List.length_nil, Nat.zero_add, if_true, if_false, reduceIte, and_self, and_true, true_and, eq_self, reduceCtorEq, gW hw, aW hw, c3, p2, g1, e4, e5, p3]
        rw [go, r_X5_takeTurn_82]
        simp only [EV, LV, CB, OI, OL, NP, CZ, popN, CT, OZ, List.map_nil, List.map_cons, List.sum_nil, List.sum_cons, Option.toList, List.nil_append, List.cons_append, Int.reduceToNat, Nat.reduceAdd, Nat.reduceLT, Nat.reduceLeDiff, List.length_cons, List.length_nil, Nat.zero_add, if_true, if_false, reduceIte, and_self, and_true, true_and, eq_self, reduceCtorEq, gW hw, hh]
        by_cases v1 : V ≤ 1
        · rw [if_pos v1, if_pos v1]
          exact ⟨m, rfl, h, rfl, rfl, WFr_rf⟩
        · rw [if_neg v1, if_neg v1]
          by_cases z : f (2 * nxV V g + 1) = 0
          · rw [if_pos z, if_pos z]
            refine ⟨_, rfl, CW_6 (CW_f h hb (i := 1) (by omega) _) (by omega) _, wI_s _ _ _ _, ?_, WFr_w (WFr_w WFr_rf _ _ (by omega) (by omega) (by omega)) _ _ (by omega) (by omega) (by omega)⟩
            rw [wI_j _ _ _ _ _ (by omega), wI_o _ _ _ _ _ (by omega)]
          · rw [if_neg z, if_neg z]
            exact ⟨_, rfl, CW_w h hx _, wI_o _ _ _ _ _ (by omega), wI_o _ _ _ _ _ (by omega), WFr_w WFr_rf _ _ (by omega) (by omega) (by omega)⟩
end Ni
section Nj
variable {w V N : Nat} (wS : List Value → Mm → Option Rs) (d : Nat)
/-- the villages' turns -/
theorem t_passL {t : Nat → Nat} (hw : WSh shP w) (ht : ∀ i, i < V → t i < V) : ∀ k i f m, i + k = V → CW w V N f m → AtB kb V N f → (∀ i, i < V → m.1 (w + 3) i = nI (t i)) → ∃ m', rn shP tb0 mN mO (semZ shP wS (d + 2)) none (codeZ 38) 2 [.ref w, .int (nI i)] [] m = rn shP tb0 mN mO (semZ shP wS (d + 2)) none (codeZ 38) 26 [.ref w, .int (nI V)] [] m' ∧ CW w V N (vgs V N t k i f (m.1 w 7)).1 m' ∧ m'.1 w 7 = (vgs V N t k i f (m.1 w 7)).2 ∧ m'.1 w 6 = m.1 w 6 ∧ WFr w m m' := by
  intro k
  induction k with
  | zero =>
    intro i f m hi h ha hT
    have hV := h.1
    have c0 := h.2.2.1
    have ei : i = V := by omega
    subst ei
    have e1 : nI i ≤ nI i := Int32.le_refl _
    refine ⟨m, ?_, h, rfl, rfl, WFr_rf⟩
    rw [r_X5_passOne_2]
    simp only [EV, LV, CB, OI, OL, NP, CZ, popN, CT, OZ, List.map_nil, List.map_cons, List.sum_nil, List.sum_cons, Option.toList, List.nil_append, List.cons_append, Int.reduceToNat, Nat.reduceAdd, Nat.reduceLT, Nat.reduceLeDiff, List.length_cons, List.length_nil, Nat.zero_add, if_true, if_false, reduceIte, and_self, and_true, true_and, eq_self, reduceCtorEq, gW hw, c0, e1]
  | succ k ih =>
    intro i f m hi h ha hT
    have hV := h.1
    have c0 := h.2.2.1
    have e1 : ¬ nI V ≤ nI i := nI_ge (by omega) (by omega)
    have e4 : inR (nI i) 4 = true := inR_nI (by omega) (by omega)
    have e5 : (nI i).toNatClampNeg = i := nI_clamp (by omega)
    have eT := hT i (by omega)
    obtain ⟨m1, r1, h1, h7, h6, hF⟩ := t_turnC wS d hw h ha (ht i (by omega))
    obtain ⟨m2, r2, k1, k7, k6, kF⟩ := ih (i + 1) _ m1 (by omega) h1 (vgo_at _ ha (ht i (by omega)) hV) (fun j hj => by rw [hF.2]; exact hT j hj)
    rw [h7] at k1 k7
    refine ⟨m2, ?_, k1, k7, k6.trans h6, WFr_tr hF kF⟩
    rw [r_X5_passOne_2]
    simp only [EV, LV, CB, OI, OL, NP, CZ, popN, CT, OZ, List.map_nil, List.map_cons, List.sum_nil, List.sum_cons, Option.toList, List.nil_append, List.cons_append, Int.reduceToNat, Nat.reduceAdd, Nat.reduceLT, Nat.reduceLeDiff, List.length_cons, List.length_nil, Nat.zero_add, if_true, if_false, reduceIte, and_self, and_true, true_and, eq_self, reduceCtorEq, gW hw, aW hw, c0, e1, e4, e5, eT, r1, nI_1]
    exact r2
/-- the crowner's -/
theorem t_fineL (hw : WSh shP w) : ∀ k b f m (v2 : Value), b + k = N → CW w V N f m → AtB kb V N f → ∃ m', rn shP tb0 mN mO (semZ shP wS d) none (codeZ 42) 2 [.ref w, .int (nI b), v2] [] m = some (none, m') ∧ CW w V N (crF N k b f) m' ∧ m'.1 w 6 = crR N k b f (m.1 w 6) ∧ m'.1 w 7 = m.1 w 7 ∧ WFr w m m' := by
  intro k
  induction k with
  | zero =>
    intro b f m v2 hb h ha
    have hN := h.2.1
    have c1 := h.2.2.2.1
    have e1 : nI N ≤ nI b := nI_le (by omega) (by omega)
    refine ⟨m, ?_, h, rfl, rfl, WFr_rf⟩
    rw [r_X5_fineAll_2]
    simp only [EV, LV, CB, OI, OL, NP, CZ, popN, CT, OZ, List.map_nil, List.map_cons, List.sum_nil, List.sum_cons, Option.toList, List.nil_append, List.cons_append, Int.reduceToNat, Nat.reduceAdd, Nat.reduceLT, Nat.reduceLeDiff, List.length_cons, List.length_nil, Nat.zero_add, if_true, if_false, reduceIte, and_self, and_true, true_and, eq_self, reduceCtorEq, gW hw, c1, e1, r_X5_fineAll_87]
  | succ k ih =>
    intro b f m v2 hb h ha
    have hV := h.1
    have hN := h.2.1
    have c1 := h.2.2.2.1
    have c3 := h.2.2.2.2.2.2.1
    have e1 : ¬ nI N ≤ nI b := nI_ge (by omega) (by omega)
    have e2 : inR (nI b) 6 = true := inR_nI (by omega) (by omega)
    have e3 : (nI b).toNatClampNeg = b := nI_clamp (by omega)
    obtain ⟨-, b2, -, -, b5⟩ := h.2.2.2.2.2.2.2.2.2.2 b (by omega)
    unfold crF crR
    by_cases q : f (8 + 5 * b + 4) = 0
    · rw [if_pos q, if_pos q]
      obtain ⟨a, ha1, ha2⟩ := ha.1 b (by omega)
      have ec : (f (8 + 5 * b + 1)).toNatClampNeg = a := by rw [ha2]; exact nI_clamp (by omega)
      rw [ec, ha2]
      rw [ha2] at b2
      have g1 := (h.2.2.2.2.2.2.2.2.2.1 a ha1).1
      have e4 : inR (nI a) 4 = true := inR_nI (by omega) (by omega)
      have e5 : (nI a).toNatClampNeg = a := nI_clamp (by omega)
      by_cases p : f (2 * a) < f 40
      · rw [if_pos p, if_pos p]
        have p' : ¬ f 40 ≤ f (2 * a) := Int32.not_le.mpr p
        have aa := Atf_u (Atf_u ha (j := 2 * a) 0 (fun b _ => by omega)) (j := 8 + 5 * b + 4) 2 (fun b _ => by omega)
        have hh := CW_f (CW_m (CW_6 h (j := 6) (by omega) (m.1 w 6 ||| 1 <<< (nI a &&& 31))) ha1 0) (show b < N by omega) (i := 4) (by omega) 2
        obtain ⟨m2, r2, k1, k6, k7, kF⟩ := ih (b + 1) _ _ (.int (nI a)) (by omega) hh aa
        rw [wI_o _ _ _ _ _ (by omega), wI_o _ _ _ _ _ (by omega), wI_s] at k6
        rw [wI_o _ _ _ _ _ (by omega), wI_o _ _ _ _ _ (by omega), wI_j _ _ _ _ _ (by omega)] at k7
        refine ⟨m2, ?_, k1, k6, k7, WFr_tr (WFr_w (WFr_w (WFr_w WFr_rf _ _ (by omega) (by omega) (by omega)) _ _ (by omega) (by omega) (by omega)) _ _ (by omega) (by omega) (by omega)) kF⟩
        rw [r_X5_fineAll_2]
        simp only [EV, LV, CB, OI, OL, NP, CZ, popN, CT, OZ, List.map_nil, List.map_cons, List.sum_nil, List.sum_cons, Option.toList, List.nil_append, List.cons_append, Int.reduceToNat, Nat.reduceAdd, Nat.reduceLT, Nat.reduceLeDiff, List.length_cons, List.length_nil, Nat.zero_add, if_true, if_false, reduceIte, and_self, and_true, true_and, eq_self, reduceCtorEq, gW hw, aW hw, sW hw, pW hw, c1, c3, e1, e2, e3, e4, e5, b2, b5, q, g1, p', not_true_eq_false, r_X5_fineAll_74, nI_1]
        exact r2
      · rw [if_neg p, if_neg p]
        have p' : f 40 ≤ f (2 * a) := Int32.not_lt.mp p
        have aa := Atf_u (Atf_u ha (j := 2 * a) (f (2 * a) - f 40) (fun b _ => by omega)) (j := 8 + 5 * b + 4) 2 (fun b _ => by omega)
        have hh := CW_f (CW_m h ha1 (f (2 * a) - f 40)) (show b < N by omega) (i := 4) (by omega) 2
        obtain ⟨m2, r2, k1, k6, k7, kF⟩ := ih (b + 1) _ _ (.int (nI a)) (by omega) hh aa
        rw [wI_o _ _ _ _ _ (by omega), wI_o _ _ _ _ _ (by omega)] at k6 k7
        refine ⟨m2, ?_, k1, k6, k7, WFr_tr (WFr_w (WFr_w WFr_rf _ _ (by omega) (by omega) (by omega)) _ _ (by omega) (by omega) (by omega)) kF⟩
        rw [r_X5_fineAll_2]
        simp only [EV, LV, CB, OI, OL, NP, CZ, popN, CT, OZ, List.map_nil, List.map_cons, List.sum_nil, List.sum_cons, Option.toList, List.nil_append, List.cons_append, Int.reduceToNat, Nat.reduceAdd, Nat.reduceLT, Nat.reduceLeDiff, List.length_cons, List.length_nil, Nat.zero_add, if_true, if_false, reduceIte, and_self, and_true, true_and, eq_self, reduceCtorEq, gW hw, aW hw, sW hw, pW hw, c1, c3, e1, e2, e3, e4, e5, b2, b5, q, g1, p', not_true_eq_false, r_X5_fineAll_61, nI_1]
        exact r2
    · rw [if_neg q, if_neg q]
      obtain ⟨m2, r2, k1, k6, k7, kF⟩ := ih (b + 1) f m v2 (by omega) h ha
      refine ⟨m2, ?_, k1, k6, k7, kF⟩
      rw [r_X5_fineAll_2]
      simp only [EV, LV, CB, OI, OL, NP, CZ, popN, CT, OZ, List.map_nil, List.map_cons, List.sum_nil, List.sum_cons, Option.toList, List.nil_append, List.cons_append, Int.reduceToNat, Nat.reduceAdd, Nat.reduceLT, Nat.reduceLeDiff, List.length_cons, List.length_nil, Nat.zero_add, if_true, if_false, reduceIte, and_self, and_true, true_and, eq_self, reduceCtorEq, gW hw, aW hw, c1, e1, e2, e3, b5, q, not_false_eq_true, r_X5_fineAll_81, nI_1]
      exact r2
theorem t_fineC {f : Nat → Int32} {m : Mm} (hw : WSh shP w) (h : CW w V N f m) (ha : AtB kb V N f) : ∃ m', semZ shP wS (d + 1) 42 [.ref w] m = some (none, m') ∧ CW w V N (crF N N 0 f) m' ∧ m'.1 w 6 = crR N N 0 f (m.1 w 6) ∧ m'.1 w 7 = m.1 w 7 ∧ WFr w m m' := by
  obtain ⟨m', r, k⟩ := t_fineL wS d hw N 0 f m noV (by omega) h ha
  refine ⟨m', ?_, k⟩
  rw [nI_0] at r
  rw [se_X5_fineAll, r_X5_fineAll_0]
  simp only [EV, LV, CB, OI, OL, NP, CZ, popN, CT, OZ, List.map_nil, List.map_cons, List.sum_nil, List.sum_cons, Option.toList, List.nil_append, List.cons_append, Int.reduceToNat, Nat.reduceAdd, Nat.reduceLT, Nat.reduceLeDiff, List.length_cons, List.length_nil, Nat.zero_add, if_true, if_false, reduceIte, and_self, and_true, true_and, eq_self, reduceCtorEq]
  exact r
theorem upd_cm (f : Nat → Int32) {i j : Nat} (x y : Int32) (h : i ≠ j) : upd (upd f i x) j y = upd (upd f j y) i x := by
  funext k
  unfold upd
  by_cases h1 : k = j
  · rw [if_pos h1, if_neg (by omega), if_pos h1]
  · rw [if_neg h1]
    by_cases h2 : k = i
    · rw [if_pos h2, if_pos h2]
    · rw [if_neg h2, if_neg h2, if_neg h1]
theorem cr_42 {V N : Nat} (hV : V ≤ 4) (hN : N ≤ 6) (x : Int32) : ∀ k b f r, b + k = N → AtB kb V N f → crF N k b (upd f 42 x) = upd (crF N k b f) 42 x ∧ crR N k b (upd f 42 x) r = crR N k b f r := by
  intro k
  induction k with
  | zero => intro b f r _ _; exact ⟨rfl, rfl⟩
  | succ k ih =>
    intro b f r hb ha
    have ac := (at_cl ha hV (show b < N by omega)).1
    unfold crF crR
    rw [upd_n f (j := 42) (i := 8 + 5 * b + 4) x (by omega), upd_n f (j := 42) (i := 8 + 5 * b + 1) x (by omega), upd_n f (j := 42) (i := 2 * (f (8 + 5 * b + 1)).toNatClampNeg) x (by omega), upd_n f (j := 42) (i := 40) x (by omega)]
    by_cases q : f (8 + 5 * b + 4) = 0
    · rw [if_pos q, if_pos q, if_pos q, if_pos q, upd_cm f x _ (show 42 ≠ 2 * (f (8 + 5 * b + 1)).toNatClampNeg by omega), upd_cm _ x _ (show 42 ≠ 8 + 5 * b + 4 by omega)]
      exact ih (b + 1) _ _ (by omega) (Atf_u (Atf_u ha _ (fun b _ => by omega)) _ (fun b _ => by omega))
    · rw [if_neg q, if_neg q, if_neg q, if_neg q]
      exact ih (b + 1) f r (by omega) ha
/-- a night -/
theorem t_nightC {t : Nat → Nat} {f : Nat → Int32} {m : Mm} (hw : WSh shP w) (ht : ∀ i, i < V → t i < V) (h : CW w V N f m) (ha : AtB kb V N f) (hT : ∀ i, i < V → m.1 (w + 3) i = nI (t i)) (hr : 0 < f 41) (r : Int32) : ∃ m', semZ shP wS (d + 3) 38 [.ref w] m = some (none, m') ∧ CW w V N (ngF V N t f r) m' ∧ m'.1 w 7 = ngC V N t f (m.1 w 7) ∧ m'.1 w 6 = ngR V N t f (m.1 w 6) ∧ WFr w m m' := by
  have hV := h.1
  have hN := h.2.1
  obtain ⟨m1, r1, h1, h7, h6, hF⟩ := t_passL wS d hw ht V 0 f m (by omega) h ha hT
  have av := vgs_at ht hV hN V 0 f (m.1 w 7) (by omega) ha
  have ec := vgs_c V N t V 0 f 0 (m.1 w 7)
  unfold ngF ngC ngR
  rw [ec]
  obtain ⟨F, eF⟩ : ∃ F, F = (vgs V N t V 0 f (m.1 w 7)).1 := ⟨_, rfl⟩
  rw [← eF] at h1 av ⊢
  have r41 : F 41 = f 41 := av.2 41 (by omega)
  have c4 := h1.2.2.2.2.2.2.2.1
  have c5 := h1.2.2.2.2.2.2.2.2.1
  have hd := CW_d h1 (F 42 + 1)
  have s5 : (wI m1 w 5 (F 42 + 1)).1 w 5 = F 42 + 1 := wI_s _ _ _ _
  have s4 : (wI m1 w 5 (F 42 + 1)).1 w 4 = F 41 := by rw [wI_j _ _ _ _ _ (by omega)]; exact c4
  have n0 : ¬ F 41 ≤ 0 := by rw [r41]; exact Int32.not_le.mpr hr
  have n1 : ¬ F 41 = 0 := fun z => n0 (by rw [z]; exact Int32.le_refl _)
  have hF5 : WFr w m (wI m1 w 5 (F 42 + 1)) := WFr_w hF _ _ (by omega) (by omega) (by omega)
  rw [se_X5_passOne, r_X5_passOne_0]
  rw [nI_0] at r1
  simp only [EV, LV, CB, OI, OL, NP, CZ, popN, CT, OZ, List.map_nil, List.map_cons, List.sum_nil, List.sum_cons, Option.toList, List.nil_append, List.cons_append, Int.reduceToNat, Nat.reduceAdd, Nat.reduceLT, Nat.reduceLeDiff, List.length_cons, List.length_nil, Nat.zero_add, if_true, if_false, reduceIte, and_self, and_true, true_and, eq_self, reduceCtorEq]
  rw [r1, r_X5_passOne_26]
  by_cases z : remI (F 42 + 1) (F 41) = 0
  · rw [if_pos z, if_pos z]
    obtain ⟨m2, r2, k1, k6, k7, kF⟩ := t_fineC wS (d + 1) hw hd (Atf_u av.1 (F 42 + 1) (fun b _ => by omega))
    have cr := cr_42 hV hN (F 42 + 1) N 0 F ((wI m1 w 5 (F 42 + 1)).1 w 6) (by omega) av.1
    have e42 : crF N N 0 F 42 = F 42 := (crF_at hV hN N 0 F (by omega) av.1).2 42 (by omega)
    rw [cr.1] at k1
    rw [cr.2, wI_j _ _ _ _ _ (by omega), h6] at k6
    rw [wI_j _ _ _ _ _ (by omega), h7] at k7
    refine ⟨m2, ?_, ?_, k7, k6, WFr_tr hF5 kF⟩
    · have z' : F 42 + 1 - (F 42 + 1) / F 41 * F 41 = 0 := z
      simp only [EV, LV, CB, OI, OL, NP, CZ, popN, CT, OZ, List.map_nil, List.map_cons, List.sum_nil, List.sum_cons, Option.toList, List.nil_append, List.cons_append, Int.reduceToNat, Nat.reduceAdd, Nat.reduceLT, Nat.reduceLeDiff, List.length_cons, List.length_nil, Nat.zero_add, if_true, if_false, reduceIte, and_self, and_true, true_and, eq_self, reduceCtorEq, gW hw, pW hw, c5, s5, s4, n0, n1, z', not_true_eq_false, r2]
    · rw [e42, upd_cm _ _ _ (show 43 ≠ 42 by omega)]
      exact CW_n k1 (by omega) _
  · rw [if_neg z, if_neg z]
    refine ⟨wI m1 w 5 (F 42 + 1), ?_, hd, ?_, ?_, hF5⟩
    · have z' : ¬ F 42 + 1 - (F 42 + 1) / F 41 * F 41 = 0 := z
      simp only [EV, LV, CB, OI, OL, NP, CZ, popN, CT, OZ, List.map_nil, List.map_cons, List.sum_nil, List.sum_cons, Option.toList, List.nil_append, List.cons_append, Int.reduceToNat, Nat.reduceAdd, Nat.reduceLT, Nat.reduceLeDiff, List.length_cons, List.length_nil, Nat.zero_add, if_true, if_false, reduceIte, and_self, and_true, true_and, eq_self, reduceCtorEq, gW hw, pW hw, c5, s5, s4, n0, n1, z', not_false_eq_true, r_X5_passOne_59]
    · rw [wI_j _ _ _ _ _ (by omega)]; exact h7
    · rw [wI_j _ _ _ _ _ (by omega)]; exact h6
/-- all means -/
def smM (f : Nat → Int32) : Nat → Nat → Int32 → Int32
  | 0, _, s => s
  | k + 1, g, s => smM f k (g + 1) (s + f (2 * g))
theorem t_meansC_l {f : Nat → Int32} {m : Mm} (hw : WSh shP w) (h : CW w V N f m) : ∀ k g s, g + k = V → rn shP tb0 mN mO (semZ shP wS d) (some .int) (codeZ 36) 4 [.ref w, .int s, .int (nI g)] [] m = some (some (.int (smM f k g s)), m) := by
  intro k
  have hV := h.1
  have c0 := h.2.2.1
  induction k with
  | zero =>
    intro g s hg
    have e1 : nI V ≤ nI g := nI_le (by omega) (by omega)
    rw [r_X5_allMeans_4]
    simp only [EV, LV, CB, OI, OL, NP, CZ, popN, CT, OZ, List.map_nil, List.map_cons, List.sum_nil, List.sum_cons, Option.toList, List.nil_append, List.cons_append, Int.reduceToNat, Nat.reduceAdd, Nat.reduceLT, Nat.reduceLeDiff, List.length_cons, List.length_nil, Nat.zero_add, if_true, if_false, reduceIte, and_self, and_true, true_and, eq_self, reduceCtorEq, gW hw, c0, e1, r_X5_allMeans_27]
    rfl
  | succ k ih =>
    intro g s hg
    have e1 : ¬ nI V ≤ nI g := nI_ge (by omega) (by omega)
    have e4 : inR (nI g) 4 = true := inR_nI (by omega) (by omega)
    have e5 : (nI g).toNatClampNeg = g := nI_clamp (by omega)
    have g1 := (h.2.2.2.2.2.2.2.2.2.1 g (by omega)).1
    rw [r_X5_allMeans_4]
    simp only [EV, LV, CB, OI, OL, NP, CZ, popN, CT, OZ, List.map_nil, List.map_cons, List.sum_nil, List.sum_cons, Option.toList, List.nil_append, List.cons_append, Int.reduceToNat, Nat.reduceAdd, Nat.reduceLT, Nat.reduceLeDiff, List.length_cons, List.length_nil, Nat.zero_add, if_true, if_false, reduceIte, and_self, and_true, true_and, eq_self, reduceCtorEq, gW hw, aW hw, c0, e1, e4, e5, g1, nI_1]
    exact ih (g + 1) _ (by omega)
theorem t_meansC {f : Nat → Int32} {m : Mm} (hw : WSh shP w) (h : CW w V N f m) : semZ shP wS (d + 1) 36 [.ref w] m = some (some (.int (smM f V 0 0)), m) := by
  have i := t_meansC_l wS d hw h V 0 0 (by omega)
  rw [nI_0] at i
  rw [se_X5_allMeans, r_X5_allMeans_0]
  simp only [EV, LV, CB, OI, OL, NP, CZ, popN, CT, OZ, List.map_nil, List.map_cons, List.sum_nil, List.sum_cons, Option.toList, List.nil_append, List.cons_append, Int.reduceToNat, Nat.reduceAdd, Nat.reduceLT, Nat.reduceLeDiff, List.length_cons, List.length_nil, Nat.zero_add, if_true, if_false, reduceIte, and_self, and_true, true_and, eq_self, reduceCtorEq]
  exact i
/-- n nights: the cells, how often carried, who is ruined -/
def nsF (V N : Nat) (t : Nat → Nat) : Nat → (Nat → Int32) → Int32 → Nat → Int32
  | 0, f, _ => f
  | k + 1, f, r => nsF V N t k (ngF V N t f r) (ngR V N t f r)
def nsC (V N : Nat) (t : Nat → Nat) : Nat → (Nat → Int32) → Int32 → Int32 → Int32
  | 0, _, _, c => c
  | k + 1, f, r, c => nsC V N t k (ngF V N t f r) (ngR V N t f r) (ngC V N t f c)
def nsR (V N : Nat) (t : Nat → Nat) : Nat → (Nat → Int32) → Int32 → Int32
  | 0, _, r => r
  | k + 1, f, r => nsR V N t k (ngF V N t f r) (ngR V N t f r)
/-- what a world that was ruined before is told -/
def nsQ (V N : Nat) (t : Nat → Nat) : Nat → (Nat → Int32) → Int32 → Int32 → Int32
  | 0, _, _, q => q
  | k + 1, f, r, q => nsQ V N t k (ngF V N t f r) (ngR V N t f r) (ngR V N t f q)
theorem t_pssC_l {t : Nat → Nat} (hw : WSh shP w) (ht : ∀ i, i < V → t i < V) (u : Int32) {n : Nat} (hn : n < 2 ^ 31) : ∀ k i f m r, i + k = n → CW w V N f m → AtB kb V N f → (∀ i, i < V → m.1 (w + 3) i = nI (t i)) → 0 < f 41 → ∃ m', rn shP tb0 mN mO (semZ shP wS (d + 3)) (some .int) (codeZ 37) 7 [.ref w, .int (nI n), .int u, .int (nI i)] [] m = rn shP tb0 mN mO (semZ shP wS (d + 3)) (some .int) (codeZ 37) 22 [.ref w, .int (nI n), .int u, .int (nI n)] [] m' ∧ CW w V N (nsF V N t k f r) m' ∧ m'.1 w 7 = nsC V N t k f r (m.1 w 7) ∧ m'.1 w 6 = nsQ V N t k f r (m.1 w 6) ∧ WFr w m m' ∧ AtB kb V N (nsF V N t k f r) := by
  intro k
  induction k with
  | zero =>
    intro i f m r hi h ha hT hr
    have ei : i = n := by omega
    subst ei
    have e1 : nI i ≤ nI i := Int32.le_refl _
    refine ⟨m, ?_, h, rfl, rfl, WFr_rf, ha⟩
    rw [r_X5_pass_7]
    simp only [EV, LV, CB, OI, OL, NP, CZ, popN, CT, OZ, List.map_nil, List.map_cons, List.sum_nil, List.sum_cons, Option.toList, List.nil_append, List.cons_append, Int.reduceToNat, Nat.reduceAdd, Nat.reduceLT, Nat.reduceLeDiff, List.length_cons, List.length_nil, Nat.zero_add, if_true, if_false, reduceIte, and_self, and_true, true_and, eq_self, reduceCtorEq, e1]
  | succ k ih =>
    intro i f m r hi h ha hT hr
    have e1 : ¬ nI n ≤ nI i := nI_ge (by omega) (by omega)
    have na := ng_at ht h.1 h.2.1 r ha
    obtain ⟨m1, r1, h1, h7, h6, hF⟩ := t_nightC wS d hw ht h ha hT hr r
    obtain ⟨m2, r2, k1, k7, k6, kF, kA⟩ := ih (i + 1) _ m1 (ngR V N t f r) (by omega) h1 na.1 (fun j hj => by rw [hF.2]; exact hT j hj) (by rw [na.2.1 41 (by omega) (by omega) (by omega)]; exact hr)
    rw [h6] at k6
    rw [h7] at k7
    refine ⟨m2, ?_, k1, k7, k6, WFr_tr hF kF, kA⟩
    rw [r_X5_pass_7]
    simp only [EV, LV, CB, OI, OL, NP, CZ, popN, CT, OZ, List.map_nil, List.map_cons, List.sum_nil, List.sum_cons, Option.toList, List.nil_append, List.cons_append, Int.reduceToNat, Nat.reduceAdd, Nat.reduceLT, Nat.reduceLeDiff, List.length_cons, List.length_nil, Nat.zero_add, if_true, if_false, reduceIte, and_self, and_true, true_and, eq_self, reduceCtorEq, gW hw, e1, r1, nI_1]
    exact r2
theorem t_passC {t : Nat → Nat} {f : Nat → Int32} {m : Mm} (hw : WSh shP w) (ht : ∀ i, i < V → t i < V) {n : Nat} (hn : n < 2 ^ 31) (h : CW w V N f m) (ha : AtB kb V N f) (hT : ∀ i, i < V → m.1 (w + 3) i = nI (t i)) (hr : 0 < f 41) (r : Int32) : ∃ m', semZ shP wS (d + 4) 37 [.ref w, .int (nI n)] m = some (some (.int (smM f V 0 0 - smM (nsF V N t n f r) V 0 0)), m') ∧ CW w V N (nsF V N t n f r) m' ∧ m'.1 w 7 = nsC V N t n f r (m.1 w 7) ∧ m'.1 w 6 = nsQ V N t n f r (m.1 w 6) ∧ WFr w m m' ∧ AtB kb V N (nsF V N t n f r) := by
  obtain ⟨m', r0, k1, k⟩ := t_pssC_l wS d hw ht (smM f V 0 0) hn n 0 f m r (by omega) h ha hT hr
  have s0 := t_meansC wS (d + 2) hw h
  have s1 := t_meansC wS (d + 2) hw k1
  refine ⟨m', ?_, k1, k⟩
  rw [nI_0] at r0
  rw [se_X5_pass, r_X5_pass_0]
  simp only [EV, LV, CB, OI, OL, NP, CZ, popN, CT, OZ, List.map_nil, List.map_cons, List.sum_nil, List.sum_cons, Option.toList, List.nil_append, List.cons_append, Int.reduceToNat, Nat.reduceAdd, Nat.reduceLT, Nat.reduceLeDiff, List.length_cons, List.length_nil, Nat.zero_add, if_true, if_false, reduceIte, and_self, and_true, true_and, eq_self, reduceCtorEq, gW hw, s0]
  rw [r0, r_X5_pass_22]
  simp only [EV, LV, CB, OI, OL, NP, CZ, popN, CT, OZ, List.map_nil, List.map_cons, List.sum_nil, List.sum_cons, Option.toList, List.nil_append, List.cons_append, Int.reduceToNat, Nat.reduceAdd, Nat.reduceLT, Nat.reduceLeDiff, List.length_cons, List.length_nil, Nat.zero_add, if_true, if_false, reduceIte, and_self, and_true, true_and, eq_self, reduceCtorEq, gW hw, s1]
end Nj
/-! who is ruined, told in two ways -/
theorem or_as (a b c : Int32) : a ||| b ||| c = a ||| (b ||| c) := Int32.or_assoc a b c
theorem crR_or (N : Nat) : ∀ k b f r, crR N k b f r = r ||| crR N k b f 0 := by
  intro k
  induction k with
  | zero =>
    intro b f r
    show r = r ||| 0
    rw [Int32.or_zero]
  | succ k ih =>
    intro b f r
    unfold crR
    split
    · split
      · rw [ih (b + 1) _ (r ||| _), ih (b + 1) _ (0 ||| _), Int32.zero_or, or_as]
      · rw [ih (b + 1) _ r]
    · rw [ih (b + 1) _ r]
theorem nsQ_43 {V N : Nat} {t : Nat → Nat} (ht : ∀ i, i < V → t i < V) (hV : V ≤ 4) (hN : N ≤ 6) : ∀ k f r, AtB kb V N f → f 43 ||| r = f 43 → nsQ V N t k f r (f 43) = nsF V N t k f r 43 := by
  intro k
  induction k with
  | zero => intro f r _ _; rfl
  | succ k ih =>
    intro f r ha hr
    have av := vgs_at ht hV hN V 0 f 0 (by omega) ha
    have bv := crF_at hV hN N 0 _ (by omega) av.1
    have q43 : ngF V N t f r 43 = ngR V N t f (f 43) ∧ ngF V N t f r 43 ||| ngR V N t f r = ngF V N t f r 43 := by
      unfold ngF ngR
      by_cases z : remI ((vgs V N t V 0 f 0).1 42 + 1) ((vgs V N t V 0 f 0).1 41) = 0
      · rw [if_pos z, if_pos z, if_pos z, upd_n _ _ (show 43 ≠ 42 by omega), upd_s, bv.2 43 (by omega), av.2 43 (by omega)]
        refine ⟨?_, ?_⟩
        · rw [crR_or N N 0 _ r, crR_or N N 0 _ (f 43), ← or_as, hr]
        · rw [or_as, Int32.or_self]
      · rw [if_neg z, if_neg z, if_neg z, upd_n _ _ (show 43 ≠ 42 by omega), av.2 43 (by omega)]
        exact ⟨rfl, hr⟩
    have na := ng_at ht hV hN r ha
    unfold nsQ nsF
    rw [← q43.1]
    exact ih _ _ na.1 q43.2
theorem nsQ_0 (V N : Nat) (t : Nat → Nat) : ∀ k f r, nsQ V N t k f r r = nsR V N t k f r := by
  intro k
  induction k with
  | zero => intro f r; rfl
  | succ k ih =>
    intro f r
    unfold nsQ nsR
    exact ih _ _
end
section
/-! THE MODEL'S NIGHTS -/
variable {kb : Nat}
theorem upd_id (f : Nat → Int32) (j : Nat) : upd f j (f j) = f := by
  funext i
  unfold upd
  by_cases h : i = j
  · rw [if_pos h, h]
  · rw [if_neg h]
theorem wI_r (m : Mm) (o j : Nat) (x : Int32) : (wI m o j x).1 o = upd (m.1 o) j x := by rw [wI_R, setR_s]
/-- what a night of the model leaves -/
def MFr (m m' : Mm) : Prop := (∀ q, q ≠ 70 → q ≠ 68 → m'.1 q = m.1 q) ∧ (∀ j, j ≠ 17 → j ≠ 18 → m'.1 68 j = m.1 68 j) ∧ m'.2 = m.2
theorem MFr_rf {m : Mm} : MFr m m := ⟨fun _ _ _ => rfl, fun _ _ _ => rfl, rfl⟩
theorem MFr_tr {m m1 m2 : Mm} (h : MFr m m1) (h2 : MFr m1 m2) : MFr m m2 := ⟨fun q q1 q2 => (h2.1 q q1 q2).trans (h.1 q q1 q2), fun j j1 j2 => (h2.2.1 j j1 j2).trans (h.2.1 j j1 j2), h2.2.2.trans h.2.2⟩
theorem MFr_w {m m1 : Mm} (h : MFr m m1) (j : Nat) (x : Int32) : MFr m (wI m1 70 j x) := by
  refine ⟨fun q q1 q2 => ?_, fun i i1 i2 => ?_, h.2.2⟩
  · rw [wI_n _ _ _ _ q1]; exact h.1 q q1 q2
  · rw [wI_o _ _ _ _ _ (by omega)]; exact h.2.1 i i1 i2
theorem MFr_f {m m1 : Mm} (h : MFr m m1) {j : Nat} (x : Int32) (hj : j = 17 ∨ j = 18) : MFr m (wI m1 68 j x) := by
  refine ⟨fun q q1 q2 => ?_, fun i i1 i2 => ?_, h.2.2⟩
  · rw [wI_n _ _ _ _ q2]; exact h.1 q q1 q2
  · rw [wI_j _ _ _ _ _ (by omega)]; exact h.2.1 i i1 i2
theorem ix_20 : ∀ g, g < 4 → (2 : Int32) * nI g + 0 = nI (2 * g) ∧ (2 : Int32) * nI g + 1 = nI (2 * g + 1) := by decide +kernel
theorem rm_nx : ∀ V, V < 5 → ∀ g, g < V → nI (g + 1) - nI (g + 1) / nI V * nI V = nI (nxV V g) := by decide +kernel
theorem in63 : inR 38 63 = true ∧ (38 : Int32).toNatClampNeg = 38 ∧ inR 39 63 = true ∧ (39 : Int32).toNatClampNeg = 39 ∧ inR 40 63 = true ∧ (40 : Int32).toNatClampNeg = 40 ∧ inR 41 63 = true ∧ (41 : Int32).toNatClampNeg = 41 ∧ inR 42 63 = true ∧ (42 : Int32).toNatClampNeg = 42 ∧ inR 43 63 = true ∧ (43 : Int32).toNatClampNeg = 43 := by decide +kernel
section Nm
variable {V N : Nat} {f : Nat → Int32} (wS : List Value → Mm → Option Rs) (d : Nat) {m : Mm}
theorem t_ofM {B K : Nat} (hB : B < 6) (hK : K < 5) (m : Mm) : semZ shP wS (d + 1) 125 [.ref 68, .int (nI B), .int (nI K)] m = some (some (.int (m.1 70 (8 + 5 * B + K))), m) := by
  have e := ix_85 B hB K hK
  have e2 : inR (nI (8 + 5 * B + K)) 63 = true := inR_nI (by omega) (by omega)
  have e3 : (nI (8 + 5 * B + K)).toNatClampNeg = 8 + 5 * B + K := nI_clamp (by omega)
  rw [se_X7_of, r_X7_of_0]
  simp only [EV, LV, CB, OI, OL, NP, CZ, popN, CT, OZ, List.map_nil, List.map_cons, List.sum_nil, List.sum_cons, Option.toList, List.nil_append, List.cons_append, Int.reduceToNat, Nat.reduceAdd, Nat.reduceLT, Nat.reduceLeDiff, List.length_cons, List.length_nil, Nat.zero_add, if_true, if_false, reduceIte, and_self, and_true, true_and, eq_self, reduceCtorEq, gM MP68, aM MP68, e, e2, e3]
theorem t_setM {B K : Nat} (hB : B < 6) (hK : K < 5) (v : Int32) (m : Mm) : semZ shP wS (d + 1) 126 [.ref 68, .int (nI B), .int (nI K), .int v] m = some (none, wI m 70 (8 + 5 * B + K) v) := t_becomesOf wS d MP68 hB hK v m
theorem t_needF (k : Int32) (m : Mm) : semZ shP wS (d + 1) 127 [.int k, .int 1] m = some (some (.int (fneed k)), m) := by
  have e10 : ¬ (1 : Int32) = 0 := by decide
  rw [se_X7_needOf, r_X7_needOf_0]
  unfold fneed
  by_cases h0 : k = 0
  · simp only [EV, LV, CB, OI, OL, NP, CZ, popN, CT, OZ, List.map_nil, List.map_cons, List.sum_nil, List.sum_cons, Option.toList, List.nil_append, List.cons_append, Int.reduceToNat, Nat.reduceAdd, Nat.reduceLT, Nat.reduceLeDiff, List.length_cons, List.length_nil, Nat.zero_add, if_true, if_false, reduceIte, and_self, and_true, true_and, eq_self, reduceCtorEq, e10, h0, not_true_eq_false, r_X7_needOf_22]
  · by_cases h3 : k = 3
    · simp only [EV, LV, CB, OI, OL, NP, CZ, popN, CT, OZ, List.map_nil, List.map_cons, List.sum_nil, List.sum_cons, Option.toList, List.nil_append, List.cons_append, Int.reduceToNat, Nat.reduceAdd, Nat.reduceLT, Nat.reduceLeDiff, List.length_cons, List.length_nil, Nat.zero_add, if_true, if_false, reduceIte, and_self, and_true, true_and, eq_self, reduceCtorEq, e10, h0, h3, not_false_eq_true, not_true_eq_false, r_X7_needOf_12, r_X7_needOf_22]
      rfl
    · simp only [EV, LV, CB, OI, OL, NP, CZ, popN, CT, OZ, List.map_nil, List.map_cons, List.sum_nil, List.sum_cons, Option.toList, List.nil_append, List.cons_append, Int.reduceToNat, Nat.reduceAdd, Nat.reduceLT, Nat.reduceLeDiff, List.length_cons, List.length_nil, Nat.zero_add, if_true, if_false, reduceIte, and_self, and_true, true_and, eq_self, reduceCtorEq, e10, h0, h3, not_false_eq_true, r_X7_needOf_12, r_X7_needOf_21]
theorem t_needM (k : Int32) (m : Mm) : semZ shP wS (d + 1) 127 [.int k, .int 0] m = some (some (.int (mneed k)), m) := by
  rw [se_X7_needOf, r_X7_needOf_0]
  simp only [EV, LV, CB, OI, OL, NP, CZ, popN, CT, OZ, List.map_nil, List.map_cons, List.sum_nil, List.sum_cons, Option.toList, List.nil_append, List.cons_append, Int.reduceToNat, Nat.reduceAdd, Nat.reduceLT, Nat.reduceLeDiff, List.length_cons, List.length_nil, Nat.zero_add, if_true, if_false, reduceIte, and_self, and_true, true_and, eq_self, reduceCtorEq, r_X7_needOf_23]
  unfold mneed
  by_cases h0 : k = 2
  · simp only [EV, LV, CB, OI, OL, NP, CZ, popN, CT, OZ, List.map_nil, List.map_cons, List.sum_nil, List.sum_cons, Option.toList, List.nil_append, List.cons_append, Int.reduceToNat, Nat.reduceAdd, Nat.reduceLT, Nat.reduceLeDiff, List.length_cons, List.length_nil, Nat.zero_add, if_true, if_false, reduceIte, and_self, and_true, true_and, eq_self, reduceCtorEq, h0, not_true_eq_false, r_X7_needOf_42]
  · by_cases h3 : k = 3
    · have n32 : ¬ (3 : Int32) = 2 := by decide
      simp only [EV, LV, CB, OI, OL, NP, CZ, popN, CT, OZ, List.map_nil, List.map_cons, List.sum_nil, List.sum_cons, Option.toList, List.nil_append, List.cons_append, Int.reduceToNat, Nat.reduceAdd, Nat.reduceLT, Nat.reduceLeDiff, List.length_cons, List.length_nil, Nat.zero_add, if_true, if_false, reduceIte, and_self, and_true, true_and, eq_self, reduceCtorEq, h3, n32, not_false_eq_true, not_true_eq_false, r_X7_needOf_32, r_X7_needOf_42]
    · simp only [EV, LV, CB, OI, OL, NP, CZ, popN, CT, OZ, List.map_nil, List.map_cons, List.sum_nil, List.sum_cons, Option.toList, List.nil_append, List.cons_append, Int.reduceToNat, Nat.reduceAdd, Nat.reduceLT, Nat.reduceLeDiff, List.length_cons, List.length_nil, Nat.zero_add, if_true, if_false, reduceIte, and_self, and_true, true_and, eq_self, reduceCtorEq, h0, h3, not_false_eq_true, r_X7_needOf_32, r_X7_needOf_41]
theorem t_lkF {b : Nat} (hb : b < 6) (m : Mm) : semZ shP wS (d + 2) 128 [.ref 68, .int (nI b), .int 1] m = some (some (.int (lkF (m.1 70) b)), m) := by
  have e10 : ¬ (1 : Int32) = 0 := by decide
  have o0 := t_ofM wS d hb (K := 0) (by omega) m
  have o0 : semZ shP wS (d + 1) 125 [.ref 68, .int (nI b), .int 0] m = some (some (.int (m.1 70 (8 + 5 * b))), m) := o0
  have o2 := t_ofM wS d hb (K := 2) (by omega) m
  have o2 : semZ shP wS (d + 1) 125 [.ref 68, .int (nI b), .int 2] m = some (some (.int (m.1 70 (8 + 5 * b + 2))), m) := o2
  rw [se_X7_lacksOf, r_X7_lacksOf_0]
  unfold lkF posI
  by_cases h : fneed (m.1 70 (8 + 5 * b)) - m.1 70 (8 + 5 * b + 2) ≤ 0
  · simp only [EV, LV, CB, OI, OL, NP, CZ, popN, CT, OZ, List.map_nil, List.map_cons, List.sum_nil, List.sum_cons, Option.toList, List.nil_append, List.cons_append, Int.reduceToNat, Nat.reduceAdd, Nat.reduceLT, Nat.reduceLeDiff, List.length_cons, List.length_nil, Nat.zero_add, if_true, if_false, reduceIte, and_self, and_true, true_and, eq_self, reduceCtorEq, gM MP68, o0, t_needF wS d, e10, r_X7_lacksOf_21, o2, h, r_X7_lacksOf_34]
  · simp only [EV, LV, CB, OI, OL, NP, CZ, popN, CT, OZ, List.map_nil, List.map_cons, List.sum_nil, List.sum_cons, Option.toList, List.nil_append, List.cons_append, Int.reduceToNat, Nat.reduceAdd, Nat.reduceLT, Nat.reduceLeDiff, List.length_cons, List.length_nil, Nat.zero_add, if_true, if_false, reduceIte, and_self, and_true, true_and, eq_self, reduceCtorEq, gM MP68, o0, t_needF wS d, e10, r_X7_lacksOf_21, o2, h, r_X7_lacksOf_35]
theorem t_lkM {b : Nat} (hb : b < 6) (m : Mm) : semZ shP wS (d + 2) 128 [.ref 68, .int (nI b), .int 0] m = some (some (.int (lkM (m.1 70) b)), m) := by
  have o0 := t_ofM wS d hb (K := 0) (by omega) m
  have o0 : semZ shP wS (d + 1) 125 [.ref 68, .int (nI b), .int 0] m = some (some (.int (m.1 70 (8 + 5 * b))), m) := o0
  have o2 := t_ofM wS d hb (K := 3) (by omega) m
  have o2 : semZ shP wS (d + 1) 125 [.ref 68, .int (nI b), .int 3] m = some (some (.int (m.1 70 (8 + 5 * b + 3))), m) := o2
  rw [se_X7_lacksOf, r_X7_lacksOf_0]
  unfold lkM posI
  by_cases h : mneed (m.1 70 (8 + 5 * b)) - m.1 70 (8 + 5 * b + 3) ≤ 0
  · simp only [EV, LV, CB, OI, OL, NP, CZ, popN, CT, OZ, List.map_nil, List.map_cons, List.sum_nil, List.sum_cons, Option.toList, List.nil_append, List.cons_append, Int.reduceToNat, Nat.reduceAdd, Nat.reduceLT, Nat.reduceLeDiff, List.length_cons, List.length_nil, Nat.zero_add, if_true, if_false, reduceIte, and_self, and_true, true_and, eq_self, reduceCtorEq, gM MP68, o0, t_needM wS d, r_X7_lacksOf_20, o2, h, r_X7_lacksOf_34]
  · simp only [EV, LV, CB, OI, OL, NP, CZ, popN, CT, OZ, List.map_nil, List.map_cons, List.sum_nil, List.sum_cons, Option.toList, List.nil_append, List.cons_append, Int.reduceToNat, Nat.reduceAdd, Nat.reduceLT, Nat.reduceLeDiff, List.length_cons, List.length_nil, Nat.zero_add, if_true, if_false, reduceIte, and_self, and_true, true_and, eq_self, reduceCtorEq, gM MP68, o0, t_needM wS d, r_X7_lacksOf_20, o2, h, r_X7_lacksOf_35]
theorem t_lacksM {b : Nat} (hb : b < 6) (m : Mm) : semZ shP wS (d + 3) 129 [.ref 68, .int (nI b)] m = some (some (.int (lk (m.1 70) b)), m) := by
  rw [se_X7_lacks, r_X7_lacks_0]
  simp only [EV, LV, CB, OI, OL, NP, CZ, popN, CT, OZ, List.map_nil, List.map_cons, List.sum_nil, List.sum_cons, Option.toList, List.nil_append, List.cons_append, Int.reduceToNat, Nat.reduceAdd, Nat.reduceLT, Nat.reduceLeDiff, List.length_cons, List.length_nil, Nat.zero_add, if_true, if_false, reduceIte, and_self, and_true, true_and, eq_self, reduceCtorEq, gM MP68, t_lkF wS d hb, t_lkM wS d hb]
  rfl
theorem t_frM_l (hN : N ≤ 6) (h38 : m.1 70 38 = nI N) (x : Int32) : ∀ k b, b + k = N → rn shP tb0 mN mO (semZ shP wS (d + 1)) (some .int) (codeZ 130) 2 [.ref 68, .int x, .int (nI b)] [] m = some (some (.int (fbI (fsB (m.1 70) x k b))), m) := by
  intro k
  have i38 := in63
  induction k with
  | zero =>
    intro b hb
    have e1 : nI N ≤ nI b := nI_le (by omega) (by omega)
    rw [r_X7_firstAt_2]
    simp only [EV, LV, CB, OI, OL, NP, CZ, popN, CT, OZ, List.map_nil, List.map_cons, List.sum_nil, List.sum_cons, Option.toList, List.nil_append, List.cons_append, Int.reduceToNat, Nat.reduceAdd, Nat.reduceLT, Nat.reduceLeDiff, List.length_cons, List.length_nil, Nat.zero_add, if_true, if_false, reduceIte, and_self, and_true, true_and, eq_self, reduceCtorEq, gM MP68, aM MP68, in63, h38, e1, r_X7_firstAt_40]
    rfl
  | succ k ih =>
    intro b hb
    have e1 : ¬ nI N ≤ nI b := nI_ge (by omega) (by omega)
    have e9 : ¬ b = 9 := by omega
    have o4 := t_ofM wS d (show b < 6 by omega) (K := 4) (by omega) m
    have o4 : semZ shP wS (d + 1) 125 [.ref 68, .int (nI b), .int 4] m = some (some (.int (m.1 70 (8 + 5 * b + 4))), m) := o4
    have o1 := t_ofM wS d (show b < 6 by omega) (K := 1) (by omega) m
    have o1 : semZ shP wS (d + 1) 125 [.ref 68, .int (nI b), .int 1] m = some (some (.int (m.1 70 (8 + 5 * b + 1))), m) := o1
    rw [r_X7_firstAt_2]
    unfold fsB
    by_cases q2 : m.1 70 (8 + 5 * b + 4) = 0
    · by_cases q1 : m.1 70 (8 + 5 * b + 1) = x
      · rw [if_pos ⟨q1, q2⟩]
        simp only [EV, LV, CB, OI, OL, NP, CZ, popN, CT, OZ, List.map_nil, List.map_cons, List.sum_nil, List.sum_cons, Option.toList, List.nil_append, List.cons_append, Int.reduceToNat, Nat.reduceAdd, Nat.reduceLT, Nat.reduceLeDiff, List.length_cons, List.length_nil, Nat.zero_add, if_true, if_false, reduceIte, and_self, and_true, true_and, eq_self, reduceCtorEq, gM MP68, aM MP68, in63, h38, e1, o4, o1, q1, q2, not_true_eq_false, fbI, e9]
      · rw [if_neg (fun z => q1 z.1)]
        simp only [EV, LV, CB, OI, OL, NP, CZ, popN, CT, OZ, List.map_nil, List.map_cons, List.sum_nil, List.sum_cons, Option.toList, List.nil_append, List.cons_append, Int.reduceToNat, Nat.reduceAdd, Nat.reduceLT, Nat.reduceLeDiff, List.length_cons, List.length_nil, Nat.zero_add, if_true, if_false, reduceIte, and_self, and_true, true_and, eq_self, reduceCtorEq, gM MP68, aM MP68, in63, h38, e1, o4, o1, q1, q2, not_true_eq_false, not_false_eq_true, r_X7_firstAt_34, nI_1]
        exact ih (b + 1) (by omega)
    · rw [if_neg (fun z => q2 z.2)]
      simp only [EV, LV, CB, OI, OL, NP, CZ, popN, CT, OZ, List.map_nil, List.map_cons, List.sum_nil, List.sum_cons, Option.toList, List.nil_append, List.cons_append, Int.reduceToNat, Nat.reduceAdd, Nat.reduceLT, Nat.reduceLeDiff, List.length_cons, List.length_nil, Nat.zero_add, if_true, if_false, reduceIte, and_self, and_true, true_and, eq_self, reduceCtorEq, gM MP68, aM MP68, in63, h38, e1, o4, q2, not_false_eq_true, r_X7_firstAt_34, nI_1]
      exact ih (b + 1) (by omega)
theorem t_firstM (hN : N ≤ 6) (h38 : m.1 70 38 = nI N) (x : Int32) : semZ shP wS (d + 2) 130 [.ref 68, .int x] m = some (some (.int (fbI (fsB (m.1 70) x N 0))), m) := by
  have i := t_frM_l wS d hN h38 x N 0 (by omega)
  rw [nI_0] at i
  rw [se_X7_firstAt, r_X7_firstAt_0]
  simp only [EV, LV, CB, OI, OL, NP, CZ, popN, CT, OZ, List.map_nil, List.map_cons, List.sum_nil, List.sum_cons, Option.toList, List.nil_append, List.cons_append, Int.reduceToNat, Nat.reduceAdd, Nat.reduceLT, Nat.reduceLeDiff, List.length_cons, List.length_nil, Nat.zero_add, if_true, if_false, reduceIte, and_self, and_true, true_and, eq_self, reduceCtorEq]
  exact i
theorem t_goM (hV : V ≤ 4) (hN : N ≤ 6) (h3 : m.1 68 3 = nI V) (h38 : m.1 70 38 = nI N) {g : Nat} (hg : g < V) : ∃ m', semZ shP wS (d + 4) 131 [.ref 68, .int (nI g)] m = some (none, m') ∧ m'.1 70 = (vgo V N g (m.1 70) (m.1 68 17)).1 ∧ m'.1 68 17 = (vgo V N g (m.1 70) (m.1 68 17)).2 ∧ m'.1 68 18 = m.1 68 18 ∧ MFr m m' := by
  have hf := t_firstM wS (d + 1) hN h38 (nI g)
  have hx := nxV_lt hg
  have hbb := fsB_lt (m.1 70) (nI g) N 0
  unfold vgo
  obtain ⟨b, eb⟩ : ∃ b, b = fsB (m.1 70) (nI g) N 0 := ⟨_, rfl⟩
  rw [← eb] at hf hbb ⊢
  rw [se_X7_villageGoes, r_X7_villageGoes_0]
  by_cases q9 : b = 9
  · rw [if_pos q9]
    have e9 : fbI b = -4 := by
      unfold fbI
      rw [if_pos q9]
    refine ⟨m, ?_, rfl, rfl, rfl, MFr_rf⟩
    simp only [EV, LV, CB, OI, OL, NP, CZ, popN, CT, OZ, List.map_nil, List.map_cons, List.sum_nil, List.sum_cons, Option.toList, List.nil_append, List.cons_append, Int.reduceToNat, Nat.reduceAdd, Nat.reduceLT, Nat.reduceLeDiff, List.length_cons, List.length_nil, Nat.zero_add, if_true, if_false, reduceIte, and_self, and_true, true_and, eq_self, reduceCtorEq, gM MP68, hf, e9, not_true_eq_false]
  · rw [if_neg q9]
    have hb : b < 6 := by omega
    have e9 : fbI b = nI b := by
      unfold fbI
      rw [if_neg q9]
    rw [e9] at hf
    have n4 : ¬ nI b = -4 := nI_n4 (by omega)
    have hl := t_lacksM wS d hb m
    have v0 : ¬ nI V = 0 := nI_ne0 (by omega) (by omega)
    have rx := rm_nx V (by omega) g hg
    have i0 := (ix_20 g (by omega)).1
    have i1 := (ix_20 (nxV V g) (by omega)).2
    have e4 : inR (nI (2 * g)) 63 = true := inR_nI (by omega) (by omega)
    have e5 : (nI (2 * g)).toNatClampNeg = 2 * g := nI_clamp (by omega)
    have e6 : inR (nI (2 * nxV V g + 1)) 63 = true := inR_nI (by omega) (by omega)
    have e7 : (nI (2 * nxV V g + 1)).toNatClampNeg = 2 * nxV V g + 1 := nI_clamp (by omega)
    have s4 : ∀ m, semZ shP wS (d + 3) 126 [.ref 68, .int (nI b), .int 4, .int 1] m = some (none, wI m 70 (8 + 5 * b + 4) 1) := fun m => t_setM wS (d + 2) hb (K := 4) (by omega) 1 m
    have s1 : ∀ m x, semZ shP wS (d + 3) 126 [.ref 68, .int (nI b), .int 1, .int x] m = some (none, wI m 70 (8 + 5 * b + 1) x) := fun m x => t_setM wS (d + 2) hb (K := 1) (by omega) x m
    simp only [EV, LV, CB, OI, OL, NP, CZ, popN, CT, OZ, List.map_nil, List.map_cons, List.sum_nil, List.sum_cons, Option.toList, List.nil_append, List.cons_append, Int.reduceToNat, Nat.reduceAdd, Nat.reduceLT, Nat.reduceLeDiff, List.length_cons, List.length_nil, Nat.zero_add, if_true, if_false, reduceIte, and_self, and_true, true_and, eq_self, reduceCtorEq, gM MP68, aM MP68, in63, hf, n4, not_false_eq_true, r_X7_villageGoes_13, hl, h3, nI_1, v0, rx]
    by_cases l0 : lk (m.1 70) b = 0
    · rw [if_pos l0]
      refine ⟨wI m 70 (8 + 5 * b + 4) 1, ?_, wI_r _ _ _ _, wI_o _ _ _ _ _ (by omega), wI_o _ _ _ _ _ (by omega), MFr_w MFr_rf _ _⟩
      simp only [EV, LV, CB, OI, OL, NP, CZ, popN, CT, OZ, List.map_nil, List.map_cons, List.sum_nil, List.sum_cons, Option.toList, List.nil_append, List.cons_append, Int.reduceToNat, Nat.reduceAdd, Nat.reduceLT, Nat.reduceLeDiff, List.length_cons, List.length_nil, Nat.zero_add, if_true, if_false, reduceIte, and_self, and_true, true_and, eq_self, reduceCtorEq, gM MP68, l0, not_true_eq_false, s4, r_X7_villageGoes_170]
    · rw [if_neg l0]
      simp only [l0, not_false_eq_true, if_true, EV, LV, CB, OI, OL, NP, CZ, popN, CT, OZ, List.map_nil, List.map_cons, List.sum_nil, List.sum_cons, Option.toList, List.nil_append, List.cons_append, Int.reduceToNat, Nat.reduceAdd, Nat.reduceLT, Nat.reduceLeDiff, List.length_cons, List.length_nil, Nat.zero_add, if_true, if_false, reduceIte, and_self, and_true, true_and, eq_self, reduceCtorEq]
      rw [r_X7_villageGoes_55]
      by_cases p1 : m.1 70 39 * lk (m.1 70) b < m.1 70 40 ∧ m.1 70 39 * lk (m.1 70) b ≤ m.1 70 (2 * g)
      · rw [if_pos p1]
        have n1 : ¬ m.1 70 40 ≤ m.1 70 39 * lk (m.1 70) b := Int32.not_le.mpr p1.1
        have n2 : ¬ m.1 70 (2 * g) < m.1 70 39 * lk (m.1 70) b := Int32.not_lt.mpr p1.2
        refine ⟨wI (wI m 70 (2 * g) (m.1 70 (2 * g) - m.1 70 39 * lk (m.1 70) b)) 70 (8 + 5 * b + 4) 1, ?_, by rw [wI_r, wI_r], by rw [wI_o _ _ _ _ _ (by omega), wI_o _ _ _ _ _ (by omega)], by rw [wI_o _ _ _ _ _ (by omega), wI_o _ _ _ _ _ (by omega)], MFr_w (MFr_w MFr_rf _ _) _ _⟩
        simp only [EV, LV, CB, OI, OL, NP, CZ, popN, CT, OZ, List.map_nil, List.map_cons, List.sum_nil, List.sum_cons, Option.toList, List.nil_append, List.cons_append, Int.reduceToNat, Nat.reduceAdd, Nat.reduceLT, Nat.reduceLeDiff, List.length_cons, List.length_nil, Nat.zero_add, if_true, if_false, reduceIte, and_self, and_true, true_and, eq_self, reduceCtorEq, gM MP68, aM MP68, sM MP68, in63, i0, n1, n2, e4, e5, s4, r_X7_villageGoes_170]
      · rw [if_neg p1]
        have go : exI shP tb0 mN mO (semZ shP wS (d + 3)) none (rn shP tb0 mN mO (semZ shP wS (d + 3)) none (codeZ 131)) [.iload 3, .aload 0, .getfield 701, .sipush (40), .iaload, .if_icmp .ge 104, .iload 3, .aload 0, .getfield 701, .sipush (2), .iload 1, .imul, .sipush (0), .iadd, .iaload, .if_icmp .gt 104, .aload 0, .getfield 701, .sipush (2), .iload 1, .imul, .sipush (0), .iadd, .dup2, .iaload, .iload 3, .isub, .iastore, .aload 0, .iload 2, .sipush (4), .sipush (1), .invokevirtual 126, .goto 170] [.ref 68, .int (nI g), .int (nI b), .int (m.1 70 39 * lk (m.1 70) b), .int (nI (nxV V g))] [] m = rn shP tb0 mN mO (semZ shP wS (d + 3)) none (codeZ 131) 104 [.ref 68, .int (nI g), .int (nI b), .int (m.1 70 39 * lk (m.1 70) b), .int (nI (nxV V g))] [] m := by
          by_cases p2 : m.1 70 40 ≤ m.1 70 39 * lk (m.1 70) b
          · simp only [EV, LV, CB, OI, OL, NP, CZ, popN, CT, OZ, List.map_nil, List.map_cons, List.sum_nil, List.sum_cons, Option.toList, List.nil_append, List.cons_append, Int.reduceToNat, Nat.reduceAdd, Nat.reduceLT, Nat.reduceLeDiff, List.length_cons, List.length_nil, Nat.zero_add, if_true, if_false, reduceIte, and_self, and_true, true_and, eq_self, reduceCtorEq, gM MP68, aM MP68, in63, p2]
          · have p3 : m.1 70 (2 * g) < m.1 70 39 * lk (m.1 70) b := Int32.not_le.mp (fun z => p1 ⟨Int32.not_le.mp p2, z⟩)
            simp only [EV, LV, CB, OI, OL, NP, CZ, popN, CT, OZ, List.map_nil, List.map_cons, List.sum_nil, List.sum_cons, Option.toList, List.nil_append, List.cons_append, Int.reduceToNat, Nat.reduceAdd, Nat.reduceLT, Nat.reduceLeDiff, List.length_cons, List.length_nil, Nat.zero_add, if_true, if_false, reduceIte, and_self, and_true, true_and, eq_self, reduceCtorEq, gM MP68, aM MP68, in63, p2, i0, e4, e5, p3]
        rw [go, r_X7_villageGoes_104]
        by_cases v1 : V ≤ 1
        · have w1 : nI V ≤ 1 := nI_le (b := 1) v1 (by omega)
          rw [if_pos v1]
          refine ⟨m, ?_, rfl, rfl, rfl, MFr_rf⟩
          simp only [EV, LV, CB, OI, OL, NP, CZ, popN, CT, OZ, List.map_nil, List.map_cons, List.sum_nil, List.sum_cons, Option.toList, List.nil_append, List.cons_append, Int.reduceToNat, Nat.reduceAdd, Nat.reduceLT, Nat.reduceLeDiff, List.length_cons, List.length_nil, Nat.zero_add, if_true, if_false, reduceIte, and_self, and_true, true_and, eq_self, reduceCtorEq, gM MP68, h3, w1, r_X7_villageGoes_147, r_X7_villageGoes_170]
        · have w1 : ¬ nI V ≤ 1 := nI_ge (a := 1) (by omega) (by omega)
          rw [if_neg v1]
          by_cases z : m.1 70 (2 * nxV V g + 1) = 0
          · rw [if_pos z]
            have q17 : (wI m 70 (8 + 5 * b + 1) (nI (nxV V g))).1 68 17 = m.1 68 17 := wI_o _ _ _ _ _ (by omega)
            refine ⟨wI (wI m 70 (8 + 5 * b + 1) (nI (nxV V g))) 68 17 (m.1 68 17 + 1), ?_, by rw [wI_n _ _ _ _ (by omega), wI_r], wI_s _ _ _ _, by rw [wI_j _ _ _ _ _ (by omega), wI_o _ _ _ _ _ (by omega)], MFr_f (MFr_w MFr_rf _ _) _ (Or.inl rfl)⟩
            simp only [EV, LV, CB, OI, OL, NP, CZ, popN, CT, OZ, List.map_nil, List.map_cons, List.sum_nil, List.sum_cons, Option.toList, List.nil_append, List.cons_append, Int.reduceToNat, Nat.reduceAdd, Nat.reduceLT, Nat.reduceLeDiff, List.length_cons, List.length_nil, Nat.zero_add, if_true, if_false, reduceIte, and_self, and_true, true_and, eq_self, reduceCtorEq, gM MP68, aM MP68, pM MP68, h3, w1, i1, e6, e7, z, not_true_eq_false, s1, q17, r_X7_villageGoes_170]
          · rw [if_neg z]
            refine ⟨wI m 70 (2 * nxV V g + 1) (m.1 70 (2 * nxV V g + 1) - 1), ?_, wI_r _ _ _ _, wI_o _ _ _ _ _ (by omega), wI_o _ _ _ _ _ (by omega), MFr_w MFr_rf _ _⟩
            simp only [EV, LV, CB, OI, OL, NP, CZ, popN, CT, OZ, List.map_nil, List.map_cons, List.sum_nil, List.sum_cons, Option.toList, List.nil_append, List.cons_append, Int.reduceToNat, Nat.reduceAdd, Nat.reduceLT, Nat.reduceLeDiff, List.length_cons, List.length_nil, Nat.zero_add, if_true, if_false, reduceIte, and_self, and_true, true_and, eq_self, reduceCtorEq, gM MP68, aM MP68, sM MP68, h3, w1, i1, e6, e7, z, not_false_eq_true, r_X7_villageGoes_147]
theorem t_flag1 (m : Mm) : semZ shP wS (d + 1) 102 [.int 1] m = some (some (.int 1), m) := by
  have e10 : ¬ (1 : Int32) = 0 := by decide
  rw [se_X7_flag, r_X7_flag_0]
  simp only [EV, LV, CB, OI, OL, NP, CZ, popN, CT, OZ, List.map_nil, List.map_cons, List.sum_nil, List.sum_cons, Option.toList, List.nil_append, List.cons_append, Int.reduceToNat, Nat.reduceAdd, Nat.reduceLT, Nat.reduceLeDiff, List.length_cons, List.length_nil, Nat.zero_add, if_true, if_false, reduceIte, and_self, and_true, true_and, eq_self, reduceCtorEq, e10, r_X7_flag_9]
theorem t_flag0 (m : Mm) : semZ shP wS (d + 1) 102 [.int 0] m = some (some (.int 0), m) := by
  rw [se_X7_flag, r_X7_flag_0]
  simp only [EV, LV, CB, OI, OL, NP, CZ, popN, CT, OZ, List.map_nil, List.map_cons, List.sum_nil, List.sum_cons, Option.toList, List.nil_append, List.cons_append, Int.reduceToNat, Nat.reduceAdd, Nat.reduceLT, Nat.reduceLeDiff, List.length_cons, List.length_nil, Nat.zero_add, if_true, if_false, reduceIte, and_self, and_true, true_and, eq_self, reduceCtorEq, r_X7_flag_8]
theorem or_sh0 (r y : Int32) : r ||| (0 : Int32) <<< y = r := by
  rw [Int32.zero_shiftLeft, Int32.or_zero]
end Nm
section Nn
variable {V N : Nat} (wS : List Value → Mm → Option Rs) (d : Nat)
theorem t_crM (hV : V ≤ 4) (hN : N ≤ 6) : ∀ k b m (v2 v3 : Value), b + k = N → m.1 70 38 = nI N → AtB kb V N (m.1 70) → ∃ m', rn shP tb0 mN mO (semZ shP wS (d + 1)) none (codeZ 132) 2 [.ref 68, .int (nI b), v2, v3] [] m = some (none, m') ∧ m'.1 70 = crF N k b (m.1 70) ∧ m'.1 68 18 = crR N k b (m.1 70) (m.1 68 18) ∧ m'.1 68 17 = m.1 68 17 ∧ MFr m m' := by
  intro k
  induction k with
  | zero =>
    intro b m v2 v3 hb h38 ha
    have e1 : nI N ≤ nI b := nI_le (by omega) (by omega)
    refine ⟨m, ?_, rfl, rfl, rfl, MFr_rf⟩
    rw [r_X7_crownerComes_2]
    simp only [EV, LV, CB, OI, OL, NP, CZ, popN, CT, OZ, List.map_nil, List.map_cons, List.sum_nil, List.sum_cons, Option.toList, List.nil_append, List.cons_append, Int.reduceToNat, Nat.reduceAdd, Nat.reduceLT, Nat.reduceLeDiff, List.length_cons, List.length_nil, Nat.zero_add, if_true, if_false, reduceIte, and_self, and_true, true_and, eq_self, reduceCtorEq, gM MP68, aM MP68, in63, h38, e1, r_X7_crownerComes_119]
  | succ k ih =>
    intro b m v2 v3 hb h38 ha
    have e1 : ¬ nI N ≤ nI b := nI_ge (by omega) (by omega)
    have hb6 : b < 6 := by omega
    have o4 := t_ofM wS d hb6 (K := 4) (by omega) m
    have o4 : semZ shP wS (d + 1) 125 [.ref 68, .int (nI b), .int 4] m = some (some (.int (m.1 70 (8 + 5 * b + 4))), m) := o4
    have o1 := t_ofM wS d hb6 (K := 1) (by omega) m
    have o1 : semZ shP wS (d + 1) 125 [.ref 68, .int (nI b), .int 1] m = some (some (.int (m.1 70 (8 + 5 * b + 1))), m) := o1
    have s4 : ∀ m, semZ shP wS (d + 1) 126 [.ref 68, .int (nI b), .int 4, .int 2] m = some (none, wI m 70 (8 + 5 * b + 4) 2) := fun m => t_setM wS d hb6 (K := 4) (by omega) 2 m
    unfold crF crR
    by_cases q : m.1 70 (8 + 5 * b + 4) = 0
    · rw [if_pos q, if_pos q]
      obtain ⟨a, ha1, ha2⟩ := ha.1 b (by omega)
      have ec : (m.1 70 (8 + 5 * b + 1)).toNatClampNeg = a := by rw [ha2]; exact nI_clamp (by omega)
      rw [ec, ha2]
      rw [ha2] at o1
      have i0 := (ix_20 a (by omega)).1
      have e4 : inR (nI (2 * a)) 63 = true := inR_nI (by omega) (by omega)
      have e5 : (nI (2 * a)).toNatClampNeg = 2 * a := nI_clamp (by omega)
      have e10 : ¬ (1 : Int32) = 0 := by decide
      by_cases p : m.1 70 (2 * a) < m.1 70 40
      · rw [if_pos p, if_pos p]
        have p' : ¬ m.1 70 40 ≤ m.1 70 (2 * a) := Int32.not_le.mpr p
        obtain ⟨M, eM⟩ : ∃ M, M = wI (wI (wI m 68 18 (m.1 68 18 ||| 1 <<< (nI a &&& 31))) 70 (2 * a) 0) 70 (8 + 5 * b + 4) 2 := ⟨_, rfl⟩
        have M70 : M.1 70 = upd (upd (m.1 70) (2 * a) 0) (8 + 5 * b + 4) 2 := by rw [eM, wI_r, wI_r, wI_n _ _ _ _ (by omega)]
        have M18 : M.1 68 18 = m.1 68 18 ||| 1 <<< (nI a &&& 31) := by rw [eM, wI_o _ _ _ _ _ (by omega), wI_o _ _ _ _ _ (by omega), wI_s]
        have M17 : M.1 68 17 = m.1 68 17 := by rw [eM, wI_o _ _ _ _ _ (by omega), wI_o _ _ _ _ _ (by omega), wI_j _ _ _ _ _ (by omega)]
        have MF : MFr m M := by rw [eM]; exact MFr_w (MFr_w (MFr_f MFr_rf _ (Or.inr rfl)) _ _) _ _
        obtain ⟨m2, r2, k1, k6, k7, kF⟩ := ih (b + 1) M (.int (nI a)) (.int 1) (by omega) (by rw [M70, upd_n _ _ (by omega), upd_n _ _ (by omega)]; exact h38) (by rw [M70]; exact Atf_u (Atf_u ha (j := 2 * a) 0 (fun b _ => by omega)) (j := 8 + 5 * b + 4) 2 (fun b _ => by omega))
        rw [M70] at k1 k6
        rw [M18] at k6
        rw [M17] at k7
        refine ⟨m2, ?_, k1, k6, k7, MFr_tr MF kF⟩
        rw [r_X7_crownerComes_2]
        simp only [EV, LV, CB, OI, OL, NP, CZ, popN, CT, OZ, List.map_nil, List.map_cons, List.sum_nil, List.sum_cons, Option.toList, List.nil_append, List.cons_append, Int.reduceToNat, Nat.reduceAdd, Nat.reduceLT, Nat.reduceLeDiff, List.length_cons, List.length_nil, Nat.zero_add, if_true, if_false, reduceIte, and_self, and_true, true_and, eq_self, reduceCtorEq, gM MP68, aM MP68, sM MP68, pM MP68, in63, h38, e1, o4, q, o1, i0, e4, e5, p', not_true_eq_false, r_X7_crownerComes_54, t_flag1 wS d, e10, r_X7_crownerComes_105, s4, nI_1]
        rw [eM] at r2
        exact r2
      · rw [if_neg p, if_neg p]
        have p' : m.1 70 40 ≤ m.1 70 (2 * a) := Int32.not_lt.mp p
        have w8 : wI m 68 18 (m.1 68 18) = m := by rw [wI_R, upd_id, setR_id]
        obtain ⟨M, eM⟩ : ∃ M, M = wI (wI m 70 (2 * a) (m.1 70 (2 * a) - m.1 70 40)) 70 (8 + 5 * b + 4) 2 := ⟨_, rfl⟩
        have M70 : M.1 70 = upd (upd (m.1 70) (2 * a) (m.1 70 (2 * a) - m.1 70 40)) (8 + 5 * b + 4) 2 := by rw [eM, wI_r, wI_r]
        have M18 : M.1 68 18 = m.1 68 18 := by rw [eM, wI_o _ _ _ _ _ (by omega), wI_o _ _ _ _ _ (by omega)]
        have M17 : M.1 68 17 = m.1 68 17 := by rw [eM, wI_o _ _ _ _ _ (by omega), wI_o _ _ _ _ _ (by omega)]
        have MF : MFr m M := by rw [eM]; exact MFr_w (MFr_w MFr_rf _ _) _ _
        obtain ⟨m2, r2, k1, k6, k7, kF⟩ := ih (b + 1) M (.int (nI a)) (.int 0) (by omega) (by rw [M70, upd_n _ _ (by omega), upd_n _ _ (by omega)]; exact h38) (by rw [M70]; exact Atf_u (Atf_u ha (j := 2 * a) _ (fun b _ => by omega)) (j := 8 + 5 * b + 4) 2 (fun b _ => by omega))
        rw [M70] at k1 k6
        rw [M18] at k6
        rw [M17] at k7
        refine ⟨m2, ?_, k1, k6, k7, MFr_tr MF kF⟩
        rw [r_X7_crownerComes_2]
        simp only [EV, LV, CB, OI, OL, NP, CZ, popN, CT, OZ, List.map_nil, List.map_cons, List.sum_nil, List.sum_cons, Option.toList, List.nil_append, List.cons_append, Int.reduceToNat, Nat.reduceAdd, Nat.reduceLT, Nat.reduceLeDiff, List.length_cons, List.length_nil, Nat.zero_add, if_true, if_false, reduceIte, and_self, and_true, true_and, eq_self, reduceCtorEq, gM MP68, aM MP68, sM MP68, pM MP68, in63, h38, e1, o4, q, o1, i0, e4, e5, p', not_true_eq_false, r_X7_crownerComes_53, t_flag0 wS d, or_sh0, w8, r_X7_crownerComes_87, s4, nI_1]
        rw [eM] at r2
        exact r2
    · rw [if_neg q, if_neg q]
      obtain ⟨m2, r2, k⟩ := ih (b + 1) m v2 v3 (by omega) h38 ha
      refine ⟨m2, ?_, k⟩
      rw [r_X7_crownerComes_2]
      simp only [EV, LV, CB, OI, OL, NP, CZ, popN, CT, OZ, List.map_nil, List.map_cons, List.sum_nil, List.sum_cons, Option.toList, List.nil_append, List.cons_append, Int.reduceToNat, Nat.reduceAdd, Nat.reduceLT, Nat.reduceLeDiff, List.length_cons, List.length_nil, Nat.zero_add, if_true, if_false, reduceIte, and_self, and_true, true_and, eq_self, reduceCtorEq, gM MP68, aM MP68, in63, h38, e1, o4, q, not_false_eq_true, r_X7_crownerComes_113, nI_1]
      exact r2
theorem t_crownM {m : Mm} (hV : V ≤ 4) (hN : N ≤ 6) (h38 : m.1 70 38 = nI N) (ha : AtB kb V N (m.1 70)) : ∃ m', semZ shP wS (d + 2) 132 [.ref 68] m = some (none, m') ∧ m'.1 70 = crF N N 0 (m.1 70) ∧ m'.1 68 18 = crR N N 0 (m.1 70) (m.1 68 18) ∧ m'.1 68 17 = m.1 68 17 ∧ MFr m m' := by
  obtain ⟨m', r, k⟩ := t_crM wS d hV hN N 0 m noV noV (by omega) h38 ha
  refine ⟨m', ?_, k⟩
  rw [nI_0] at r
  rw [se_X7_crownerComes, r_X7_crownerComes_0]
  simp only [EV, LV, CB, OI, OL, NP, CZ, popN, CT, OZ, List.map_nil, List.map_cons, List.sum_nil, List.sum_cons, Option.toList, List.nil_append, List.cons_append, Int.reduceToNat, Nat.reduceAdd, Nat.reduceLT, Nat.reduceLeDiff, List.length_cons, List.length_nil, Nat.zero_add, if_true, if_false, reduceIte, and_self, and_true, true_and, eq_self, reduceCtorEq]
  exact r
theorem t_gosM {t : Nat → Nat} (hV : V ≤ 4) (hN : N ≤ 6) (ht : ∀ i, i < V → t i < V) : ∀ k i m, i + k = V → m.1 68 3 = nI V → m.1 70 38 = nI N → AtB kb V N (m.1 70) → (∀ i, i < V → m.1 74 i = nI (t i)) → ∃ m', rn shP tb0 mN mO (semZ shP wS (d + 4)) none (codeZ 133) 2 [.ref 68, .int (nI i)] [] m = rn shP tb0 mN mO (semZ shP wS (d + 4)) none (codeZ 133) 26 [.ref 68, .int (nI V)] [] m' ∧ m'.1 70 = (vgs V N t k i (m.1 70) (m.1 68 17)).1 ∧ m'.1 68 17 = (vgs V N t k i (m.1 70) (m.1 68 17)).2 ∧ m'.1 68 18 = m.1 68 18 ∧ MFr m m' := by
  intro k
  induction k with
  | zero =>
    intro i m hi h3 h38 ha hT
    have ei : i = V := by omega
    subst ei
    have e1 : nI i ≤ nI i := Int32.le_refl _
    refine ⟨m, ?_, rfl, rfl, rfl, MFr_rf⟩
    rw [r_X7_nightGoes_2]
    simp only [EV, LV, CB, OI, OL, NP, CZ, popN, CT, OZ, List.map_nil, List.map_cons, List.sum_nil, List.sum_cons, Option.toList, List.nil_append, List.cons_append, Int.reduceToNat, Nat.reduceAdd, Nat.reduceLT, Nat.reduceLeDiff, List.length_cons, List.length_nil, Nat.zero_add, if_true, if_false, reduceIte, and_self, and_true, true_and, eq_self, reduceCtorEq, gM MP68, h3, e1]
  | succ k ih =>
    intro i m hi h3 h38 ha hT
    have e1 : ¬ nI V ≤ nI i := nI_ge (by omega) (by omega)
    have e4 : inR (nI i) 4 = true := inR_nI (by omega) (by omega)
    have e5 : (nI i).toNatClampNeg = i := nI_clamp (by omega)
    have eT := hT i (by omega)
    obtain ⟨m1, r1, h70, h17, h18, hF⟩ := t_goM wS d hV hN h3 h38 (ht i (by omega))
    obtain ⟨m2, r2, k70, k17, k18, kF⟩ := ih (i + 1) m1 (by omega) (by rw [hF.2.1 3 (by omega) (by omega)]; exact h3) (by rw [h70, vgo_o _ (ht i (by omega)) hV hN (by omega)]; exact h38) (by rw [h70]; exact vgo_at _ ha (ht i (by omega)) hV) (fun j hj => by rw [hF.1 74 (by omega) (by omega)]; exact hT j hj)
    rw [h70, h17] at k70 k17
    refine ⟨m2, ?_, k70, k17, k18.trans h18, MFr_tr hF kF⟩
    rw [r_X7_nightGoes_2]
    simp only [EV, LV, CB, OI, OL, NP, CZ, popN, CT, OZ, List.map_nil, List.map_cons, List.sum_nil, List.sum_cons, Option.toList, List.nil_append, List.cons_append, Int.reduceToNat, Nat.reduceAdd, Nat.reduceLT, Nat.reduceLeDiff, List.length_cons, List.length_nil, Nat.zero_add, if_true, if_false, reduceIte, and_self, and_true, true_and, eq_self, reduceCtorEq, gM MP68, aM MP68, h3, e1, e4, e5, eT, r1, nI_1]
    exact r2
theorem t_nightM {t : Nat → Nat} {m : Mm} (hV : V ≤ 4) (hN : N ≤ 6) (ht : ∀ i, i < V → t i < V) (h3 : m.1 68 3 = nI V) (h38 : m.1 70 38 = nI N) (ha : AtB kb V N (m.1 70)) (hT : ∀ i, i < V → m.1 74 i = nI (t i)) (hr : 0 < m.1 70 41) : ∃ m', semZ shP wS (d + 5) 133 [.ref 68] m = some (none, m') ∧ m'.1 70 = ngF V N t (m.1 70) (m.1 68 18) ∧ m'.1 68 17 = ngC V N t (m.1 70) (m.1 68 17) ∧ m'.1 68 18 = ngR V N t (m.1 70) (m.1 68 18) ∧ MFr m m' := by
  obtain ⟨m1, r1, h70, h17, h18, hF⟩ := t_gosM wS d hV hN ht V 0 m (by omega) h3 h38 ha hT
  have av := vgs_at ht hV hN V 0 (m.1 70) (m.1 68 17) (by omega) ha
  have ec := vgs_c V N t V 0 (m.1 70) 0 (m.1 68 17)
  unfold ngF ngC ngR
  rw [ec]
  rw [← h70] at av ⊢
  have r41 : m1.1 70 41 = m.1 70 41 := av.2 41 (by omega)
  have n1 : ¬ m1.1 70 41 = 0 := fun z => Int32.not_le.mpr hr (by rw [← r41, z]; exact Int32.le_refl _)
  have h38' : m1.1 70 38 = nI N := by rw [av.2 38 (by omega)]; exact h38
  rw [se_X7_nightGoes, r_X7_nightGoes_0]
  rw [nI_0] at r1
  simp only [EV, LV, CB, OI, OL, NP, CZ, popN, CT, OZ, List.map_nil, List.map_cons, List.sum_nil, List.sum_cons, Option.toList, List.nil_append, List.cons_append, Int.reduceToNat, Nat.reduceAdd, Nat.reduceLT, Nat.reduceLeDiff, List.length_cons, List.length_nil, Nat.zero_add, if_true, if_false, reduceIte, and_self, and_true, true_and, eq_self, reduceCtorEq]
  rw [r1, r_X7_nightGoes_26]
  by_cases z : remI (m1.1 70 42 + 1) (m1.1 70 41) = 0
  · rw [if_pos z, if_pos z]
    obtain ⟨m2, r2, k70, k18, k17, kF⟩ := t_crownM wS (d + 2) hV hN h38' av.1
    rw [h18] at k18
    rw [← k18, ← k70]
    refine ⟨wI (wI m2 70 43 (m2.1 70 43 ||| m2.1 68 18)) 70 42 (m2.1 70 42 + 1), ?_, by rw [wI_r, wI_r], ?_, ?_, MFr_tr hF (MFr_w (MFr_w kF _ _) _ _)⟩
    · have z' : m1.1 70 42 + 1 - (m1.1 70 42 + 1) / m1.1 70 41 * m1.1 70 41 = 0 := z
      have q42 : (wI m2 70 43 (m2.1 70 43 ||| m2.1 68 18)).1 70 42 = m2.1 70 42 := wI_j _ _ _ _ _ (by omega)
      simp only [EV, LV, CB, OI, OL, NP, CZ, popN, CT, OZ, List.map_nil, List.map_cons, List.sum_nil, List.sum_cons, Option.toList, List.nil_append, List.cons_append, Int.reduceToNat, Nat.reduceAdd, Nat.reduceLT, Nat.reduceLeDiff, List.length_cons, List.length_nil, Nat.zero_add, if_true, if_false, reduceIte, and_self, and_true, true_and, eq_self, reduceCtorEq, gM MP68, aM MP68, sM MP68, in63, n1, z', not_true_eq_false, r2, q42]
    · rw [wI_o _ _ _ _ _ (by omega), wI_o _ _ _ _ _ (by omega), k17]; exact h17
    · rw [wI_o _ _ _ _ _ (by omega), wI_o _ _ _ _ _ (by omega)]
  · rw [if_neg z, if_neg z]
    refine ⟨wI m1 70 42 (m1.1 70 42 + 1), ?_, wI_r _ _ _ _, ?_, ?_, MFr_w hF _ _⟩
    · have z' : ¬ m1.1 70 42 + 1 - (m1.1 70 42 + 1) / m1.1 70 41 * m1.1 70 41 = 0 := z
      simp only [EV, LV, CB, OI, OL, NP, CZ, popN, CT, OZ, List.map_nil, List.map_cons, List.sum_nil, List.sum_cons, Option.toList, List.nil_append, List.cons_append, Int.reduceToNat, Nat.reduceAdd, Nat.reduceLT, Nat.reduceLeDiff, List.length_cons, List.length_nil, Nat.zero_add, if_true, if_false, reduceIte, and_self, and_true, true_and, eq_self, reduceCtorEq, gM MP68, aM MP68, sM MP68, in63, n1, z', not_false_eq_true, r_X7_nightGoes_64]
    · rw [wI_o _ _ _ _ _ (by omega)]; exact h17
    · rw [wI_o _ _ _ _ _ (by omega)]; exact h18
theorem t_meansM_l {m : Mm} (hV : V ≤ 4) (h3 : m.1 68 3 = nI V) : ∀ k g s, g + k = V → rn shP tb0 mN mO (semZ shP wS d) (some .int) (codeZ 134) 4 [.ref 68, .int s, .int (nI g)] [] m = some (some (.int (smM (m.1 70) k g s)), m) := by
  intro k
  induction k with
  | zero =>
    intro g s hg
    have e1 : nI V ≤ nI g := nI_le (by omega) (by omega)
    rw [r_X7_allMeans_4]
    simp only [EV, LV, CB, OI, OL, NP, CZ, popN, CT, OZ, List.map_nil, List.map_cons, List.sum_nil, List.sum_cons, Option.toList, List.nil_append, List.cons_append, Int.reduceToNat, Nat.reduceAdd, Nat.reduceLT, Nat.reduceLeDiff, List.length_cons, List.length_nil, Nat.zero_add, if_true, if_false, reduceIte, and_self, and_true, true_and, eq_self, reduceCtorEq, gM MP68, h3, e1, r_X7_allMeans_31]
    rfl
  | succ k ih =>
    intro g s hg
    have e1 : ¬ nI V ≤ nI g := nI_ge (by omega) (by omega)
    have i0 := (ix_20 g (by omega)).1
    have e4 : inR (nI (2 * g)) 63 = true := inR_nI (by omega) (by omega)
    have e5 : (nI (2 * g)).toNatClampNeg = 2 * g := nI_clamp (by omega)
    rw [r_X7_allMeans_4]
    simp only [EV, LV, CB, OI, OL, NP, CZ, popN, CT, OZ, List.map_nil, List.map_cons, List.sum_nil, List.sum_cons, Option.toList, List.nil_append, List.cons_append, Int.reduceToNat, Nat.reduceAdd, Nat.reduceLT, Nat.reduceLeDiff, List.length_cons, List.length_nil, Nat.zero_add, if_true, if_false, reduceIte, and_self, and_true, true_and, eq_self, reduceCtorEq, gM MP68, aM MP68, h3, e1, i0, e4, e5, nI_1]
    exact ih (g + 1) _ (by omega)
theorem t_meansM {m : Mm} (hV : V ≤ 4) (h3 : m.1 68 3 = nI V) : semZ shP wS (d + 1) 134 [.ref 68] m = some (some (.int (smM (m.1 70) V 0 0)), m) := by
  have i := t_meansM_l wS d hV h3 V 0 0 (by omega)
  rw [nI_0] at i
  rw [se_X7_allMeans, r_X7_allMeans_0]
  simp only [EV, LV, CB, OI, OL, NP, CZ, popN, CT, OZ, List.map_nil, List.map_cons, List.sum_nil, List.sum_cons, Option.toList, List.nil_append, List.cons_append, Int.reduceToNat, Nat.reduceAdd, Nat.reduceLT, Nat.reduceLeDiff, List.length_cons, List.length_nil, Nat.zero_add, if_true, if_false, reduceIte, and_self, and_true, true_and, eq_self, reduceCtorEq]
  exact i
theorem t_paidM_l {t : Nat → Nat} (hV : V ≤ 4) (hN : N ≤ 6) (ht : ∀ i, i < V → t i < V) (u : Int32) {n : Nat} (hn : n < 2 ^ 31) : ∀ k i m, i + k = n → m.1 68 3 = nI V → m.1 70 38 = nI N → AtB kb V N (m.1 70) → (∀ i, i < V → m.1 74 i = nI (t i)) → 0 < m.1 70 41 → ∃ m', rn shP tb0 mN mO (semZ shP wS (d + 5)) (some .int) (codeZ 135) 17 [.ref 68, .int (nI n), .int u, .int (nI i)] [] m = rn shP tb0 mN mO (semZ shP wS (d + 5)) (some .int) (codeZ 135) 32 [.ref 68, .int (nI n), .int u, .int (nI n)] [] m' ∧ m'.1 70 = nsF V N t k (m.1 70) (m.1 68 18) ∧ m'.1 68 17 = nsC V N t k (m.1 70) (m.1 68 18) (m.1 68 17) ∧ m'.1 68 18 = nsR V N t k (m.1 70) (m.1 68 18) ∧ MFr m m' := by
  intro k
  induction k with
  | zero =>
    intro i m hi h3 h38 ha hT hr
    have ei : i = n := by omega
    subst ei
    have e1 : nI i ≤ nI i := Int32.le_refl _
    refine ⟨m, ?_, rfl, rfl, rfl, MFr_rf⟩
    rw [r_X7_paidIn_17]
    simp only [EV, LV, CB, OI, OL, NP, CZ, popN, CT, OZ, List.map_nil, List.map_cons, List.sum_nil, List.sum_cons, Option.toList, List.nil_append, List.cons_append, Int.reduceToNat, Nat.reduceAdd, Nat.reduceLT, Nat.reduceLeDiff, List.length_cons, List.length_nil, Nat.zero_add, if_true, if_false, reduceIte, and_self, and_true, true_and, eq_self, reduceCtorEq, e1]
  | succ k ih =>
    intro i m hi h3 h38 ha hT hr
    have e1 : ¬ nI n ≤ nI i := nI_ge (by omega) (by omega)
    have na := ng_at ht hV hN (m.1 68 18) ha
    obtain ⟨m1, r1, h70, h17, h18, hF⟩ := t_nightM wS d hV hN ht h3 h38 ha hT hr
    obtain ⟨m2, r2, k70, k17, k18, kF⟩ := ih (i + 1) m1 (by omega) (by rw [hF.2.1 3 (by omega) (by omega)]; exact h3) (by rw [h70, na.2.1 38 (by omega) (by omega) (by omega)]; exact h38) (by rw [h70]; exact na.1) (fun j hj => by rw [hF.1 74 (by omega) (by omega)]; exact hT j hj) (by rw [h70, na.2.1 41 (by omega) (by omega) (by omega)]; exact hr)
    rw [h70, h18] at k70 k18
    rw [h70, h18, h17] at k17
    refine ⟨m2, ?_, k70, k17, k18, MFr_tr hF kF⟩
    rw [r_X7_paidIn_17]
    simp only [EV, LV, CB, OI, OL, NP, CZ, popN, CT, OZ, List.map_nil, List.map_cons, List.sum_nil, List.sum_cons, Option.toList, List.nil_append, List.cons_append, Int.reduceToNat, Nat.reduceAdd, Nat.reduceLT, Nat.reduceLeDiff, List.length_cons, List.length_nil, Nat.zero_add, if_true, if_false, reduceIte, and_self, and_true, true_and, eq_self, reduceCtorEq, gM MP68, e1, r1, nI_1]
    exact r2
theorem t_paidM {t : Nat → Nat} {m : Mm} (hV : V ≤ 4) (hN : N ≤ 6) (ht : ∀ i, i < V → t i < V) {n : Nat} (hn : n < 2 ^ 31) (h3 : m.1 68 3 = nI V) (h38 : m.1 70 38 = nI N) (ha : AtB kb V N (m.1 70)) (hT : ∀ i, i < V → m.1 74 i = nI (t i)) (hr : 0 < m.1 70 41) : ∃ m', semZ shP wS (d + 6) 135 [.ref 68, .int (nI n)] m = some (some (.int (smM (m.1 70) V 0 0 - smM (nsF V N t n (m.1 70) 0) V 0 0)), m') ∧ m'.1 70 = nsF V N t n (m.1 70) 0 ∧ m'.1 68 17 = nsC V N t n (m.1 70) 0 0 ∧ m'.1 68 18 = nsR V N t n (m.1 70) 0 ∧ MFr m m' := by
  obtain ⟨M, eM⟩ : ∃ M, M = wI (wI m 68 17 0) 68 18 0 := ⟨_, rfl⟩
  have MF : MFr m M := by rw [eM]; exact MFr_f (MFr_f MFr_rf _ (Or.inl rfl)) _ (Or.inr rfl)
  have M70 : M.1 70 = m.1 70 := by rw [eM, wI_n _ _ _ _ (by omega), wI_n _ _ _ _ (by omega)]
  have M17 : M.1 68 17 = 0 := by rw [eM, wI_j _ _ _ _ _ (by omega), wI_s]
  have M18 : M.1 68 18 = 0 := by rw [eM, wI_s]
  obtain ⟨m', r, k70, k17, k18, kF⟩ := t_paidM_l wS d hV hN ht (smM (m.1 70) V 0 0) hn n 0 M (by omega) (by rw [MF.2.1 3 (by omega) (by omega)]; exact h3) (by rw [M70]; exact h38) (by rw [M70]; exact ha) (fun j hj => by rw [MF.1 74 (by omega) (by omega)]; exact hT j hj) (by rw [M70]; exact hr)
  rw [M70, M18] at k70 k18
  rw [M70, M18, M17] at k17
  have s0 := t_meansM wS (d + 4) hV h3
  have s1 := t_meansM wS (d + 4) (m := m') hV (by rw [kF.2.1 3 (by omega) (by omega), MF.2.1 3 (by omega) (by omega)]; exact h3)
  rw [k70] at s1
  refine ⟨m', ?_, k70, k17, k18, MFr_tr MF kF⟩
  rw [nI_0, eM] at r
  rw [se_X7_paidIn, r_X7_paidIn_0]
  simp only [EV, LV, CB, OI, OL, NP, CZ, popN, CT, OZ, List.map_nil, List.map_cons, List.sum_nil, List.sum_cons, Option.toList, List.nil_append, List.cons_append, Int.reduceToNat, Nat.reduceAdd, Nat.reduceLT, Nat.reduceLeDiff, List.length_cons, List.length_nil, Nat.zero_add, if_true, if_false, reduceIte, and_self, and_true, true_and, eq_self, reduceCtorEq, gM MP68, pM MP68, s0]
  rw [r, r_X7_paidIn_32]
  simp only [EV, LV, CB, OI, OL, NP, CZ, popN, CT, OZ, List.map_nil, List.map_cons, List.sum_nil, List.sum_cons, Option.toList, List.nil_append, List.cons_append, Int.reduceToNat, Nat.reduceAdd, Nat.reduceLT, Nat.reduceLeDiff, List.length_cons, List.length_nil, Nat.zero_add, if_true, if_false, reduceIte, and_self, and_true, true_and, eq_self, reduceCtorEq, gM MP68, s1]
end Nn
end
section
/-! MEANS, price, fine: their bounds -/
variable {kb : Nat}
def MB (V : Nat) (f : Nat → Int32) : Prop := (∀ g, g < V → ∃ x, x < 100 ∧ f (2 * g) = nI x) ∧ (∃ p, p < 21 ∧ f 39 = nI p) ∧ ∃ q, q < 61 ∧ f 40 = nI q
/-- bounds kept, means no more -/
def ML (V : Nat) (f f' : Nat → Int32) : Prop := (∀ g, g < V → ∃ x y, y ≤ x ∧ x < 100 ∧ f (2 * g) = nI x ∧ f' (2 * g) = nI y) ∧ f' 39 = f 39 ∧ f' 40 = f 40
theorem ML_rf {V : Nat} {f : Nat → Int32} (h : MB V f) : ML V f f := ⟨fun g hg => by obtain ⟨x, hx, ex⟩ := h.1 g hg; exact ⟨x, x, Nat.le_refl _, hx, ex, ex⟩, rfl, rfl⟩
theorem ML_tr {V : Nat} {f f1 f2 : Nat → Int32} (h : ML V f f1) (h2 : ML V f1 f2) : ML V f f2 := by
  refine ⟨fun g hg => ?_, h2.2.1.trans h.2.1, h2.2.2.trans h.2.2⟩
  obtain ⟨x, y, a1, a2, a3, a4⟩ := h.1 g hg
  obtain ⟨x', y', b1, b2, b3, b4⟩ := h2.1 g hg
  have : y = x' := (nI_eq (by omega) (by omega)).mp (a4.symm.trans b3)
  exact ⟨x, y', by omega, a2, a3, b4⟩
theorem ML_mb {V : Nat} {f f' : Nat → Int32} (h : MB V f) (h2 : ML V f f') : MB V f' := ⟨fun g hg => by obtain ⟨x, y, a1, a2, a3, a4⟩ := h2.1 g hg; exact ⟨y, by omega, a4⟩, by rw [h2.2.1]; exact h.2.1, by rw [h2.2.2]; exact h.2.2⟩
theorem MB_e {V : Nat} {f f' : Nat → Int32} (h : MB V f) (hV : V ≤ 4) (hf : ∀ j, j < 44 → f' j = f j) : MB V f' := ⟨fun g hg => by rw [hf _ (by omega)]; exact h.1 g hg, by rw [hf 39 (by omega)]; exact h.2.1, by rw [hf 40 (by omega)]; exact h.2.2⟩
theorem MB_u {V : Nat} {f : Nat → Int32} (h : MB V f) {j : Nat} (x : Int32) (hj : ∀ g, g < V → j ≠ 2 * g) (h9 : j ≠ 39) (h0 : j ≠ 40) : MB V (upd f j x) := ⟨fun g hg => by rw [upd_n _ _ (Ne.symm (hj g hg))]; exact h.1 g hg, by rw [upd_n _ _ (Ne.symm h9)]; exact h.2.1, by rw [upd_n _ _ (Ne.symm h0)]; exact h.2.2⟩
theorem MB_m {V : Nat} {f : Nat → Int32} (h : MB V f) {g x : Nat} (hg : g < V) (hV : V ≤ 4) (hx : x < 100) : MB V (upd f (2 * g) (nI x)) := by
  refine ⟨fun i hi => ?_, by rw [upd_n _ _ (by omega)]; exact h.2.1, by rw [upd_n _ _ (by omega)]; exact h.2.2⟩
  by_cases e : i = g
  · subst e; rw [upd_s]; exact ⟨x, hx, rfl⟩
  · rw [upd_n _ _ (by omega)]; exact h.1 i hi
theorem MB_p {V : Nat} {f : Nat → Int32} (h : MB V f) (hV : V ≤ 4) {p : Nat} (hp : p < 21) : MB V (upd f 39 (nI p)) := ⟨fun g hg => by rw [upd_n _ _ (by omega)]; exact h.1 g hg, ⟨p, hp, upd_s _ _ _⟩, by rw [upd_n _ _ (by omega)]; exact h.2.2⟩
theorem MB_q {V : Nat} {f : Nat → Int32} (h : MB V f) (hV : V ≤ 4) {q : Nat} (hq : q < 61) : MB V (upd f 40 (nI q)) := ⟨fun g hg => by rw [upd_n _ _ (by omega)]; exact h.1 g hg, by rw [upd_n _ _ (by omega)]; exact h.2.1, ⟨q, hq, upd_s _ _ _⟩⟩
theorem ML_u {V : Nat} {f : Nat → Int32} (h : MB V f) {j : Nat} (x : Int32) (hj : ∀ g, g < V → j ≠ 2 * g) (h9 : j ≠ 39) (h0 : j ≠ 40) : ML V f (upd f j x) := ⟨fun g hg => by rw [upd_n _ _ (Ne.symm (hj g hg))]; obtain ⟨x, hx, ex⟩ := h.1 g hg; exact ⟨x, x, Nat.le_refl _, hx, ex, ex⟩, upd_n _ _ (Ne.symm h9), upd_n _ _ (Ne.symm h0)⟩
theorem ML_m {V : Nat} {f : Nat → Int32} (h : MB V f) {g y : Nat} (hg : g < V) (hV : V ≤ 4) (hy : ∀ x, x < 100 → f (2 * g) = nI x → y ≤ x) : ML V f (upd f (2 * g) (nI y)) := by
  refine ⟨fun i hi => ?_, upd_n _ _ (by omega), upd_n _ _ (by omega)⟩
  obtain ⟨x, hx, ex⟩ := h.1 i hi
  by_cases e : i = g
  · subst e; rw [upd_s]; exact ⟨x, y, hy x hx ex, hx, ex, rfl⟩
  · rw [upd_n _ _ (by omega)]; exact ⟨x, x, Nat.le_refl _, hx, ex, ex⟩
theorem lk_key : ∀ k, k < 4 → ∀ x, x < 100 → ((posI (fneed (nI k) - nI x)).toNatClampNeg ≤ 4 ∧ posI (fneed (nI k) - nI x) = nI (posI (fneed (nI k) - nI x)).toNatClampNeg) ∧ (posI (mneed (nI k) - nI x)).toNatClampNeg ≤ 2 ∧ posI (mneed (nI k) - nI x) = nI (posI (mneed (nI k) - nI x)).toNatClampNeg := by decide +kernel
theorem lk_b {V N : Nat} {f : Nat → Int32} (h : AtB kb V N f) (hk : kb ≤ 100) {b : Nat} (hb : b < N) : ∃ l, l ≤ 6 ∧ lk f b = nI l := by
  obtain ⟨k, hk4, ek⟩ := h.2.1 b hb
  obtain ⟨⟨x, hx, ex⟩, y, hy, ey⟩ := h.2.2 b hb
  unfold lk lkF lkM
  rw [ek, ex, ey]
  have a := (lk_key k hk4 x (by omega)).1
  have c := (lk_key k hk4 y (by omega)).2
  rw [a.2, c.2, nI_add]
  exact ⟨_, by omega, rfl⟩
theorem vgo_ml {V N g : Nat} {f : Nat → Int32} (c : Int32) (h : AtB kb V N f) (hk : kb ≤ 100) (hm : MB V f) (hg : g < V) (hV : V ≤ 4) (hN : N ≤ 6) : ML V f (vgo V N g f c).1 := by
  have hb := fsB_lt f (nI g) N 0
  have hx : nxV V g < V := nxV_lt hg
  unfold vgo
  split
  · exact ML_rf hm
  · rename_i n9
    have hb : fsB f (nI g) N 0 < N := by
      rcases hb with z | z
      · exact absurd z n9
      · omega
    split
    · exact ML_u hm _ (fun g hg => by omega) (by omega) (by omega)
    · split
      · rename_i cc
        obtain ⟨l, hl, el⟩ := lk_b h hk hb
        obtain ⟨p, hp, ep⟩ := hm.2.1
        obtain ⟨x, hx2, ex⟩ := hm.1 g hg
        have pl : p * l ≤ 120 := Nat.le_trans (Nat.mul_le_mul (show p ≤ 20 by omega) hl) (by omega)
        have e1 : f 39 * lk f (fsB f (nI g) N 0) = nI (p * l) := by rw [ep, el, nI_mul]
        have c2 := cc.2
        rw [e1, ex, Int32.le_iff_toInt_le, nI_toInt (by omega), nI_toInt (by omega)] at c2
        rw [e1, ex, nI_sub (by omega)]
        have m1 : ML V f (upd f (2 * g) (nI (x - p * l))) := ML_m hm hg hV (fun x' h1 h2 => by
          have := (nI_eq (by omega) (by omega)).mp (ex.symm.trans h2)
          omega)
        exact ML_tr m1 (ML_u (ML_mb hm m1) _ (fun g hg => by omega) (by omega) (by omega))
      · split
        · exact ML_rf hm
        · split
          · exact ML_u hm _ (fun g hg => by omega) (by omega) (by omega)
          · exact ML_u hm _ (fun g hg => by omega) (by omega) (by omega)
theorem vgs_ml {V N : Nat} {t : Nat → Nat} (ht : ∀ i, i < V → t i < V) (hV : V ≤ 4) (hN : N ≤ 6) (hk : kb ≤ 100) : ∀ k i f c, i + k = V → AtB kb V N f → MB V f → ML V f (vgs V N t k i f c).1 := by
  intro k
  induction k with
  | zero => intro i f c _ _ hm; exact ML_rf hm
  | succ k ih =>
    intro i f c hi h hm
    have m1 := vgo_ml c h hk hm (ht i (by omega)) hV hN
    unfold vgs
    exact ML_tr m1 (ih (i + 1) _ _ (by omega) (vgo_at c h (ht i (by omega)) hV) (ML_mb hm m1))
theorem cr_st {V N b a : Nat} {f : Nat → Int32} (hm : MB V f) (ha : a < V) (hV : V ≤ 4) : ML V f (upd (upd f (2 * a) (if f (2 * a) < f 40 then 0 else f (2 * a) - f 40)) (8 + 5 * b + 4) 2) ∨ 6 ≤ b := by
  by_cases hb : 6 ≤ b
  · exact Or.inr hb
  · refine Or.inl ?_
    obtain ⟨x, hx, ex⟩ := hm.1 a ha
    obtain ⟨q, hq, eq⟩ := hm.2.2
    have key : ∃ y, y ≤ x ∧ (if f (2 * a) < f 40 then 0 else f (2 * a) - f 40) = nI y := by
      rw [ex, eq]
      split
      · exact ⟨0, by omega, rfl⟩
      · rename_i c
        rw [Int32.lt_iff_toInt_lt, nI_toInt (by omega), nI_toInt (by omega)] at c
        exact ⟨x - q, by omega, nI_sub (by omega)⟩
    obtain ⟨y, hy, ey⟩ := key
    rw [ey]
    have m1 : ML V f (upd f (2 * a) (nI y)) := ML_m hm ha hV (fun x' h1 h2 => by
      have := (nI_eq (by omega) (by omega)).mp (ex.symm.trans h2)
      omega)
    exact ML_tr m1 (ML_u (ML_mb hm m1) _ (fun g hg => by omega) (by omega) (by omega))
theorem crF_ml {V N : Nat} (hV : V ≤ 4) (hN : N ≤ 6) : ∀ k b f, b + k = N → AtB kb V N f → MB V f → ML V f (crF N k b f) := by
  intro k
  induction k with
  | zero => intro b f _ _ hm; exact ML_rf hm
  | succ k ih =>
    intro b f hb h hm
    unfold crF
    split
    · have ha := at_cl h hV (show b < N by omega)
      have m1 := (cr_st (N := N) (b := b) hm ha.1 hV).resolve_right (by omega)
      have a1 := Atf_u (Atf_u h (j := 2 * (f (8 + 5 * b + 1)).toNatClampNeg) (if f (2 * (f (8 + 5 * b + 1)).toNatClampNeg) < f 40 then 0 else f (2 * (f (8 + 5 * b + 1)).toNatClampNeg) - f 40) (fun b _ => by omega)) (j := 8 + 5 * b + 4) 2 (fun b _ => by omega)
      exact ML_tr m1 (ih (b + 1) _ (by omega) a1 (ML_mb hm m1))
    · exact ih (b + 1) f (by omega) h hm
theorem ng_ml {V N : Nat} {t : Nat → Nat} (ht : ∀ i, i < V → t i < V) (hV : V ≤ 4) (hN : N ≤ 6) (hk : kb ≤ 100) {f : Nat → Int32} (r : Int32) (h : AtB kb V N f) (hm : MB V f) : ML V f (ngF V N t f r) := by
  have m1 := vgs_ml ht hV hN hk V 0 f 0 (by omega) h hm
  have a1 := (vgs_at ht hV hN V 0 f 0 (by omega) h).1
  have mm := ML_mb hm m1
  unfold ngF
  split
  · have m2 := crF_ml hV hN N 0 _ (by omega) a1 mm
    have m3 := ML_mb mm m2
    have m4 := ML_u m3 (j := 43) (crF N N 0 (vgs V N t V 0 f 0).1 43 ||| crR N N 0 (vgs V N t V 0 f 0).1 r) (fun g hg => by omega) (by omega) (by omega)
    exact ML_tr m1 (ML_tr m2 (ML_tr m4 (ML_u (ML_mb m3 m4) _ (fun g hg => by omega) (by omega) (by omega))))
  · exact ML_tr m1 (ML_u mm _ (fun g hg => by omega) (by omega) (by omega))
theorem ns_ml {V N : Nat} {t : Nat → Nat} (ht : ∀ i, i < V → t i < V) (hV : V ≤ 4) (hN : N ≤ 6) (hk : kb ≤ 100) : ∀ n f r, AtB kb V N f → MB V f → ML V f (nsF V N t n f r) := by
  intro n
  induction n with
  | zero => intro f r _ hm; exact ML_rf hm
  | succ n ih =>
    intro f r h hm
    have m1 := ng_ml ht hV hN hk r h hm
    unfold nsF
    exact ML_tr m1 (ih _ _ (ng_at ht hV hN r h).1 (ML_mb hm m1))
theorem smM_b {V : Nat} {f f' : Nat → Int32} (h : ML V f f') : ∀ k g a b, g + k = V → b ≤ a → ∃ u w, w ≤ u ∧ u ≤ a + 99 * k ∧ a - b ≤ u - w ∧ smM f k g (nI a) = nI u ∧ smM f' k g (nI b) = nI w := by
  intro k
  induction k with
  | zero => intro g a b _ hb; exact ⟨a, b, hb, by omega, Nat.le_refl _, rfl, rfl⟩
  | succ k ih =>
    intro g a b hg hb
    obtain ⟨x, y, a1, a2, a3, a4⟩ := h.1 g (by omega)
    obtain ⟨u, w, b1, b2, b3, b4, b5⟩ := ih (g + 1) (a + x) (b + y) (by omega) (by omega)
    unfold smM
    rw [a3, a4, nI_add, nI_add]
    exact ⟨u, w, b1, by omega, by omega, b4, b5⟩
/-- what is paid is 0 to 396 -/
theorem pd_b {V N n : Nat} {f : Nat → Int32} (hV : V ≤ 4) (hN : N ≤ 6) (hk : kb ≤ 100) (h : AtB kb V N f) (hm : MB V f) : ∃ u, u ≤ 396 ∧ smM f V 0 0 - smM (nsF V N id n f 0) V 0 0 = nI u := by
  obtain ⟨u, w, b1, b2, -, b4, b5⟩ := smM_b (ns_ml (t := id) (fun i hi => hi) hV hN hk n f 0 h hm) V 0 0 0 (by omega) (Nat.le_refl _)
  rw [nI_0] at b4 b5
  rw [b4, b5, nI_sub b1]
  exact ⟨u - w, by omega, rfl⟩
end
section
/-! THE LAND in both -/
theorem CW_e {w V N : Nat} {f f' : Nat → Int32} {m m' : Mm} (h : CW w V N f m) (hf : ∀ j, j < 44 → f' j = f j) (hm : ∀ o j, w ≤ o → o ≤ w + 8 → j < 200 → m'.1 o j = m.1 o j) : CW w V N f' m' := by
  obtain ⟨h1, h2, c3, c4, c5, c6, c7, c8, c9, hg, hb⟩ := h
  refine ⟨h1, h2, ?_, ?_, ?_, ?_, ?_, ?_, ?_, fun g g4 => ?_, fun b b6 => ?_⟩
  · rw [hm w 0 (by omega) (by omega) (by omega)]; exact c3
  · rw [hm w 1 (by omega) (by omega) (by omega)]; exact c4
  · rw [hf 38 (by omega)]; exact c5
  · rw [hm w 2 (by omega) (by omega) (by omega), hf 39 (by omega)]; exact c6
  · rw [hm w 3 (by omega) (by omega) (by omega), hf 40 (by omega)]; exact c7
  · rw [hm w 4 (by omega) (by omega) (by omega), hf 41 (by omega)]; exact c8
  · rw [hm w 5 (by omega) (by omega) (by omega), hf 42 (by omega)]; exact c9
  · rw [hm (w + 1) g (by omega) (by omega) (by omega), hm (w + 2) g (by omega) (by omega) (by omega), hf (2 * g) (by omega), hf (2 * g + 1) (by omega)]
    exact hg g g4
  · rw [hm (w + 4) b (by omega) (by omega) (by omega), hm (w + 5) b (by omega) (by omega) (by omega), hm (w + 6) b (by omega) (by omega) (by omega), hm (w + 7) b (by omega) (by omega) (by omega), hm (w + 8) b (by omega) (by omega) (by omega), hf (8 + 5 * b) (by omega), hf (8 + 5 * b + 1) (by omega), hf (8 + 5 * b + 2) (by omega), hf (8 + 5 * b + 3) (by omega), hf (8 + 5 * b + 4) (by omega)]
    exact hb b b6
theorem Atf_e {V N : Nat} {f f' : Nat → Int32} (h : Atf V N f) (hN : N ≤ 6) (hf : ∀ j, j < 44 → f' j = f j) : Atf V N f' := by
  refine ⟨fun b hb => ?_, fun b hb => ?_, fun b hb => ?_⟩
  · rw [hf _ (by omega)]; exact h.1 b hb
  · rw [hf _ (by omega)]; exact h.2.1 b hb
  · rw [hf (8 + 5 * b + 2) (by omega), hf (8 + 5 * b + 3) (by omega)]; exact h.2.2 b hb
/-- bodies, means, price, fine -/
def ALd (V N : Nat) (f : Nat → Int32) : Prop := Atf V N f ∧ MB V f
theorem ALd_e {V N : Nat} {f f' : Nat → Int32} (h : ALd V N f) (hV : V ≤ 4) (hN : N ≤ 6) (hf : ∀ j, j < 44 → f' j = f j) : ALd V N f' := ⟨Atf_e h.1 hN hf, MB_e h.2 hV hf⟩
/-- the land that is now -/
def LNow (V N : Nat) (m : Mm) : Prop := m.1 68 3 = nI V ∧ CW 1 V N (m.1 69) m ∧ m.1 1 6 = m.1 69 43 ∧ (∀ j, j < 4 → m.1 4 j = nI j) ∧ ALd V N (m.1 69)
/-- what was seen: of the class at w, of the model from o on -/
def LSn (w o N : Nat) (m : Mm) : Prop := ∃ K, K ≤ 6 ∧ m.1 w 0 = nI K ∧ m.1 69 (o + 44) = nI K ∧ ∀ i, i < K → m.1 (w + 1) i = m.1 69 (o + 45 + 3 * i) ∧ m.1 (w + 2) i = m.1 69 (o + 46 + 3 * i) ∧ m.1 (w + 3) i = m.1 69 (o + 47 + 3 * i) ∧ ∃ b, b < N ∧ m.1 (w + 1) i = nI b
/-- image k -/
def LIm (V k : Nat) (m : Mm) : Prop := (m.1 (32 + 14 * k) 0 = 0 ∧ m.1 71 k = 0) ∨ (m.1 (32 + 14 * k) 0 = 1 ∧ m.1 71 k = 1 ∧ ∃ N, CW (33 + 14 * k) V N (fun j => m.1 69 (63 * (k + 1) + j)) m ∧ m.1 (33 + 14 * k) 6 = m.1 69 (63 * (k + 1) + 43) ∧ (∀ j, j < 4 → m.1 (33 + 14 * k + 3) j = nI j) ∧ ALd V N (fun j => m.1 69 (63 * (k + 1) + j)) ∧ LSn (42 + 14 * k) (63 * (k + 1)) N m)
def LND (m : Mm) : Prop := ∃ V N, LNow V N m ∧ LSn 19 0 N m ∧ LIm V 0 m ∧ LIm V 1 m
/-- what was torn -/
def LTo (m : Mm) : Prop := m.1 0 9 = m.1 68 27
theorem gp8 {o : Nat} (j : Nat) (h1 : 1 ≤ o) (h2 : o ≤ 9) : grp 8 o j = true := by
  simp only [grp, Bool.and_eq_true, Nat.ble_eq]
  exact ⟨h1, h2⟩
theorem gp9 {j : Nat} (h : j ≤ 43) : grp 9 69 j = true := by
  have : Nat.ble j 43 = true := Nat.ble_eq.mpr h
  simp only [grp, this, Bool.and_self, Bool.or_true, beq_self_eq_true]
theorem gp93 : grp 9 68 3 = true := rfl
theorem gp10 {o : Nat} (j : Nat) (h1 : 19 ≤ o) (h2 : o ≤ 22) : grp 10 o j = true := by
  simp only [grp, Bool.and_eq_true, Nat.ble_eq]
  exact ⟨h1, h2⟩
theorem gp11 {j : Nat} (h1 : 44 ≤ j) (h2 : j ≤ 62) : grp 11 69 j = true := by
  have a : Nat.ble 44 j = true := Nat.ble_eq.mpr h1
  have b : Nat.ble j 62 = true := Nat.ble_eq.mpr h2
  simp only [grp, a, b, Bool.and_self, beq_self_eq_true]
theorem gp12 {o : Nat} (j : Nat) (h1 : 32 ≤ o) (h2 : o ≤ 59) : grp 12 o j = true := by
  simp only [grp, Bool.and_eq_true, Nat.ble_eq]
  exact ⟨h1, h2⟩
theorem gp13 {j : Nat} (h1 : 63 ≤ j) (h2 : j ≤ 188) : grp 13 69 j = true := by
  have a : Nat.ble 63 j = true := Nat.ble_eq.mpr h1
  have b : Nat.ble j 188 = true := Nat.ble_eq.mpr h2
  simp only [grp, a, b, Bool.and_self, beq_self_eq_true, Bool.or_true]
theorem gp131 (j : Nat) : grp 13 71 j = true := rfl
theorem LNow_Kp {q : List Nat} {V N : Nat} {m m' : Mm} (h : LNow V N m) (hk : Kp q m m') (h8 : 8 ∈ q) (h9 : 9 ∈ q) : LNow V N m' := by
  obtain ⟨a1, a2, a3, a4, a5⟩ := h
  have e9 : ∀ j, j < 44 → m'.1 69 j = m.1 69 j := fun j hj => Kp_at hk h9 (by omega) (gp9 (by omega))
  refine ⟨by rw [Kp_at hk h9 (by omega) gp93]; exact a1, CW_e a2 e9 (fun o j h1 h2 hj => Kp_at hk h8 hj (gp8 j (by omega) (by omega))), ?_, fun j hj => ?_, ALd_e a5 a2.1 a2.2.1 e9⟩
  · rw [Kp_at hk h8 (by omega) (gp8 6 (by omega) (by omega)), e9 43 (by omega)]; exact a3
  · rw [Kp_at hk h8 (by omega) (gp8 j (by omega) (by omega))]; exact a4 j hj
theorem LSn_e {w o N : Nat} {m m' : Mm} (h : LSn w o N m) (hm : ∀ p j, w ≤ p → p ≤ w + 3 → j < 200 → m'.1 p j = m.1 p j) (hf : ∀ j, 44 ≤ j → j ≤ 62 → m'.1 69 (o + j) = m.1 69 (o + j)) : LSn w o N m' := by
  obtain ⟨K, k6, a1, a2, a3⟩ := h
  refine ⟨K, k6, by rw [hm w 0 (by omega) (by omega) (by omega)]; exact a1, by rw [hf 44 (by omega) (by omega)]; exact a2, fun i hi => ?_⟩
  have f1 := hf (45 + 3 * i) (by omega) (by omega)
  have f2 := hf (46 + 3 * i) (by omega) (by omega)
  have f3 := hf (47 + 3 * i) (by omega) (by omega)
  rw [← Nat.add_assoc] at f1 f2 f3
  rw [hm (w + 1) i (by omega) (by omega) (by omega), hm (w + 2) i (by omega) (by omega) (by omega), hm (w + 3) i (by omega) (by omega) (by omega), f1, f2, f3]
  exact a3 i hi
theorem LSn_Kp {q : List Nat} {N : Nat} {m m' : Mm} (h : LSn 19 0 N m) (hk : Kp q m m') (h10 : 10 ∈ q) (h11 : 11 ∈ q) : LSn 19 0 N m' := LSn_e h (fun p j h1 h2 hj => Kp_at hk h10 hj (gp10 j (by omega) (by omega))) (fun j h1 h2 => Kp_at hk h11 (by omega) (gp11 (by omega) (by omega)))
theorem LSn_N {w o N N' : Nat} {m : Mm} (h : LSn w o N m) (hN : N ≤ N') : LSn w o N' m := by
  obtain ⟨K, k6, a1, a2, a3⟩ := h
  refine ⟨K, k6, a1, a2, fun i hi => ?_⟩
  obtain ⟨b1, b2, b3, b, b4, b5⟩ := a3 i hi
  exact ⟨b1, b2, b3, b, by omega, b5⟩
theorem LIm_Kp {q : List Nat} {V k : Nat} {m m' : Mm} (h : LIm V k m) (hk2 : k < 2) (hk : Kp q m m') (h12 : 12 ∈ q) (h13 : 13 ∈ q) : LIm V k m' := by
  have e0 : ∀ o j, 32 ≤ o → o ≤ 59 → j < 200 → m'.1 o j = m.1 o j := fun o j h1 h2 hj => Kp_at hk h12 hj (gp12 j h1 h2)
  have e1 : m'.1 71 k = m.1 71 k := Kp_at hk h13 (by omega) (gp131 k)
  have e9 : ∀ j, j < 63 → m'.1 69 (63 * (k + 1) + j) = m.1 69 (63 * (k + 1) + j) := fun j hj => Kp_at hk h13 (by omega) (gp13 (by omega) (by omega))
  rcases h with ⟨a1, a2⟩ | ⟨a1, a2, N, a3, a4, a5, a6, a7⟩
  · exact Or.inl ⟨by rw [e0 _ 0 (by omega) (by omega) (by omega)]; exact a1, by rw [e1]; exact a2⟩
  · refine Or.inr ⟨by rw [e0 _ 0 (by omega) (by omega) (by omega)]; exact a1, by rw [e1]; exact a2, N, CW_e a3 (fun j hj => e9 j (by omega)) (fun o j h1 h2 hj => e0 o j (by omega) (by omega) hj), ?_, fun j hj => ?_, ALd_e a6 a3.1 a3.2.1 (fun j hj => e9 j (by omega)), LSn_e a7 (fun p j h1 h2 hj => e0 p j (by omega) (by omega) hj) (fun j h1 h2 => e9 j (by omega))⟩
    · rw [e0 _ 6 (by omega) (by omega) (by omega), e9 43 (by omega)]; exact a4
    · rw [e0 _ j (by omega) (by omega) (by omega)]; exact a5 j hj
theorem LND_Kp {q : List Nat} {m m' : Mm} (h : LND m) (hk : Kp q m m') (h8 : 8 ∈ q) (h9 : 9 ∈ q) (h10 : 10 ∈ q) (h11 : 11 ∈ q) (h12 : 12 ∈ q) (h13 : 13 ∈ q) : LND m' := by
  obtain ⟨V, N, a1, a2, a3, a4⟩ := h
  exact ⟨V, N, LNow_Kp a1 hk h8 h9, LSn_Kp a2 hk h10 h11, LIm_Kp a3 (by omega) hk h12 h13, LIm_Kp a4 (by omega) hk h12 h13⟩
theorem LTo_Kp {q : List Nat} {m m' : Mm} (h : LTo m) (hk : Kp q m m') (h6 : 6 ∈ q) (h7 : 7 ∈ q) : LTo m' := by
  unfold LTo
  rw [Kp_at hk h6 (by omega) (show grp 6 0 9 = true from rfl), Kp_at hk h7 (by omega) (show grp 7 68 27 = true from rfl)]
  exact h
end
section
/-! THE LAND behind a text -/
theorem line_44 {B : Nat → Int32} {p V N : Nat} {f : Nat → Int32} {c : Nat} (hV : V ≤ 4) (hN : N ≤ 6) {y : Lin} (e : line B p V N f c = .inr y) : y.2.2.2.1 44 = f 44 ∧ y.2.1 ≤ 4 ∧ y.2.2.1 ≤ 6 := by
  have lv : ∀ y : Lin, V < 4 → liV B (lx B p).2.2 V N f c = .inr y → y.2.2.2.1 44 = f 44 ∧ y.2.1 ≤ 4 ∧ y.2.2.1 ≤ 6 := by
    intro y hV e
    unfold liV at e
    split at e
    · cases e
    · split at e
      · cases e
      · split at e
        · cases e
        · cases e
          refine ⟨?_, by show V + 1 ≤ 4; omega, hN⟩
          show upd (upd f (2 * V) _) (2 * V + 1) _ 44 = f 44
          rw [upd_n _ _ (by omega), upd_n _ _ (by omega)]
  have lb : ∀ (k : Int32) (y : Lin), N < 6 → liB B k (lx B p).2.2 V N f c = .inr y → y.2.2.2.1 44 = f 44 ∧ y.2.1 ≤ 4 ∧ y.2.2.1 ≤ 6 := by
    intro k y hN6 e
    unfold liB at e
    split at e
    · cases e
    · split at e
      · cases e
      · split at e
        · cases e
        · split at e
          · cases e
          · cases e
            refine ⟨?_, hV, by show N + 1 ≤ 6; omega⟩
            show bdF f N k _ _ _ 44 = f 44
            unfold bdF
            rw [upd_n _ _ (by omega), upd_n _ _ (by omega), upd_n _ _ (by omega), upd_n _ _ (by omega), upd_n _ _ (by omega)]
  have ls : ∀ (cell : Nat) (hi : Int32) (z : Bool) (bit : Nat) (y : Lin), cell < 44 → liS B cell hi z bit (lx B p).2.2 V N f c = .inr y → y.2.2.2.1 44 = f 44 ∧ y.2.1 ≤ 4 ∧ y.2.2.1 ≤ 6 := by
    intro cell hi z bit y hc e
    unfold liS at e
    split at e
    · cases e
    · split at e
      · cases e
      · cases e
        refine ⟨?_, hV, hN⟩
        show upd f cell _ 44 = f 44
        rw [upd_n _ _ (by omega)]
  unfold line at e
  split at e
  · split at e
    · cases e
    · split at e
      · cases e
      · split at e
        · cases e
        · rename_i hr
          generalize lnX B (lx B p).2.1 (lx B p).2.2 = k at e hr
          have hr : noRoom k V N = false := by simpa using hr
          unfold liK at e
          split at e
          · exact lv y (nr_V hr) e
          · exact lb _ y (nr_N (by omega) (by omega) hr) e
          · exact lb _ y (nr_N (by omega) (by omega) hr) e
          · exact lb _ y (nr_N (by omega) (by omega) hr) e
          · exact lb _ y (nr_N (by omega) (by omega) hr) e
          · exact ls _ _ _ _ y (by omega) e
          · exact ls _ _ _ _ y (by omega) e
          · exact ls _ _ _ _ y (by omega) e
  · cases e
theorem prs_44 (B : Nat → Int32) : ∀ q p L V N f c y, V ≤ 4 → N ≤ 6 → prs B q p L V N f c = .inr y → y.2.2.2 44 = f 44 ∧ y.2.1 ≤ 4 ∧ y.2.2.1 ≤ 6 ∧ ∀ b, b < y.2.2.1 → y.2.2.2 (8 + 5 * b + 1) < nI y.2.1 := by
  intro q
  induction q with
  | zero => intro p L V N f c y _ _ e; cases e
  | succ q ih =>
    intro p L V N f c y hV hN e
    unfold prs at e
    split at e
    · split at e
      · rename_i ha
        cases e
        refine ⟨rfl, hV, hN, fun b hb => ?_⟩
        have := List.all_eq_true.mp ha b (List.mem_range.mpr hb)
        exact of_decide_eq_true this
      · cases e
    · split at e
      · cases e
      · rename_i p' V' N' f' c' e2
        have l := line_44 hV hN e2
        have i := ih _ _ _ _ _ _ _ l.2.1 l.2.2 e
        exact ⟨i.1.trans l.1, i.2⟩
theorem iv_at : (∀ b, b < 6 → ivO TV 69 (8 + 5 * b + 1) = (0, 3) ∧ ivO TV 69 (8 + 5 * b) = (0, 3)) ∧ ivO TV 69 41 = (1, 9) := by decide +kernel
theorem LND_text {m m1 m2 : Mm} {v : Int32} {B g : Nat → Int32} (hL : LND m) (hI : InvT TV m2) (h1 : TxC m m1 v (prs B 160 0 0 0 0 (dr0 g) 0)) (h2 : TxM m1 m2 v (prs B 160 0 0 0 0 (dr0 g) 0)) (hk : ∀ y, prs B 160 0 0 0 0 (dr0 g) 0 = .inr y → KN y.2.2.1 y.2.2.2 ∧ MB y.2.1 y.2.2.2) (k1 : Kp (qx [0, 2, 8, 10, 12]) m m1) (k : Kp (qx [1, 3, 9, 11, 13]) m1 m2) : LND m2 := by
  have x1 := h1.2
  have x2 := h2.2
  have e8 : ∀ o j, 1 ≤ o → o ≤ 9 → j < 200 → m2.1 o j = m1.1 o j := fun o j a b hj => Kp_at k (g := 8) (by decide) hj (gp8 j a b)
  have e10 : ∀ o j, 19 ≤ o → o ≤ 22 → j < 200 → m2.1 o j = m1.1 o j := fun o j a b hj => Kp_at k (g := 10) (by decide) hj (gp10 j a b)
  have e12 : ∀ o j, 32 ≤ o → o ≤ 59 → j < 200 → m2.1 o j = m1.1 o j := fun o j a b hj => Kp_at k (g := 12) (by decide) hj (gp12 j a b)
  cases e : prs B 160 0 0 0 0 (dr0 g) 0 with
  | inl x =>
    rw [e] at x1 x2
    obtain ⟨-, -, -, x1⟩ := x1
    obtain ⟨-, -, x2, x3⟩ := x2
    have q1 : ∀ o, o < 10 ∨ 18 < o → o ≠ 23 → o ≠ 24 → o ≠ 26 → o ≠ 68 → o ≠ 72 → m2.1 o = m.1 o := fun o a b c d e f => (x2 o e f).trans (x1 o a b c d)
    have q9 : m2.1 69 = m.1 69 := q1 69 (by omega) (by omega) (by omega) (by omega) (by omega) (by omega)
    have q71 : m2.1 71 = m.1 71 := q1 71 (by omega) (by omega) (by omega) (by omega) (by omega) (by omega)
    have q3 : m2.1 68 3 = m.1 68 3 := by rw [x3, x1 68 (by omega) (by omega) (by omega) (by omega)]
    obtain ⟨V, N, a1, a2, a3, a4⟩ := hL
    have im : ∀ k, k < 2 → LIm V k m → LIm V k m2 := by
      intro k hk h
      have e0 : ∀ o j, 32 ≤ o → o ≤ 59 → j < 200 → m2.1 o j = m.1 o j := fun o j h1 h2 hj => by rw [q1 o (by omega) (by omega) (by omega) (by omega) (by omega) (by omega)]
      rcases h with ⟨b1, b2⟩ | ⟨b1, b2, N, b3, b4, b5, b6, b7⟩
      · exact Or.inl ⟨by rw [e0 _ 0 (by omega) (by omega) (by omega)]; exact b1, by rw [q71]; exact b2⟩
      · refine Or.inr ⟨by rw [e0 _ 0 (by omega) (by omega) (by omega)]; exact b1, by rw [q71]; exact b2, N, CW_e b3 (fun j hj => by rw [q9]) (fun o j h1 h2 hj => e0 o j (by omega) (by omega) hj), by rw [e0 _ 6 (by omega) (by omega) (by omega), q9]; exact b4, fun j hj => by rw [e0 _ j (by omega) (by omega) (by omega)]; exact b5 j hj, ALd_e b6 b3.1 b3.2.1 (fun j hj => by rw [q9]), LSn_e b7 (fun p j h1 h2 hj => e0 p j (by omega) (by omega) hj) (fun j h1 h2 => by rw [q9])⟩
    refine ⟨V, N, ⟨q3.trans a1.1, CW_e a1.2.1 (fun j hj => by rw [q9]) (fun o j h1 h2 hj => by rw [q1 o (by omega) (by omega) (by omega) (by omega) (by omega) (by omega)]), ?_, fun j hj => ?_, ALd_e a1.2.2.2.2 a1.2.1.1 a1.2.1.2.1 (fun j hj => by rw [q9])⟩, LSn_e a2 (fun p j h1 h2 hj => by rw [q1 p (by omega) (by omega) (by omega) (by omega) (by omega) (by omega)]) (fun j h1 h2 => by rw [q9]), im 0 (by omega) a3, im 1 (by omega) a4⟩
    · rw [q1 1 (by omega) (by omega) (by omega) (by omega) (by omega) (by omega), q9]; exact a1.2.2.1
    · rw [q1 4 (by omega) (by omega) (by omega) (by omega) (by omega) (by omega)]; exact a1.2.2.2.1 j hj
  | inr y =>
    rw [e] at x1 x2
    obtain ⟨-, -, c1, c2, c3, c4, c5, c6⟩ := x1
    obtain ⟨-, -, d1, d2, d3, d4⟩ := x2
    have p := prs_44 B 160 0 0 0 0 (dr0 g) 0 y (by omega) (by omega) e
    have f44 : dr0 g 44 = 0 := by
      unfold dr0
      rw [upd_n _ _ (by omega), upd_n _ _ (by omega), upd_n _ _ (by omega)]
      rfl
    have c2' : CW 1 y.2.1 y.2.2.1 (m2.1 69) m2 := CW_e c1 (fun j hj => d2 j (by omega)) (fun o j h1 h2 hj => e8 o j (by omega) (by omega) hj)
    refine ⟨y.2.1, y.2.2.1, ⟨d1, c2', ?_, fun j hj => ?_, ⟨fun b hb => ?_, fun b hb => ?_, fun b hb => ?_⟩, MB_e (hk y e).2 c2'.1 (fun j hj => d2 j (by omega))⟩, ⟨0, by omega, ?_, ?_, fun i hi => by omega⟩, Or.inl ⟨?_, d3⟩, Or.inl ⟨?_, d4⟩⟩
    · rw [e8 1 6 (by omega) (by omega) (by omega), d2 43 (by omega)]; exact c2
    · rw [e8 4 j (by omega) (by omega) (by omega)]; exact c3 j hj
    · have i := hI 69 (8 + 5 * b + 1)
      rw [(iv_at.1 b (by omega)).1] at i
      have q := p.2.2.2 b hb
      rw [← d2 _ (by omega), Int32.lt_iff_toInt_lt, nI_toInt (by omega)] at q
      exact ⟨(m2.1 69 (8 + 5 * b + 1)).toInt.toNat, by omega, i_nI i.1⟩
    · have i := hI 69 (8 + 5 * b)
      rw [(iv_at.1 b (by omega)).2] at i
      have i2 := i.2
      have i1 := i.1
      simp only at i1 i2
      exact ⟨(m2.1 69 (8 + 5 * b)).toInt.toNat, by omega, i_nI i.1⟩
    · rw [d2 (8 + 5 * b + 2) (by omega), d2 (8 + 5 * b + 3) (by omega)]; exact (hk y e).1 b hb
    · rw [e10 19 0 (by omega) (by omega) (by omega), c4]; rfl
    · rw [Nat.zero_add, d2 44 (by omega), p.1, f44]; rfl
    · rw [e12 _ 0 (by omega) (by omega) (by omega)]; exact c5
    · rw [e12 _ 0 (by omega) (by omega) (by omega)]; exact c6
end
section
/-! THE KIN that a text tells: 0 to 9 -/
theorem num1_q {B : Nat → Int32} {n : Nat} {hi : Int32} {z : Bool} {p : Nat} (hB : Tp B n) (hp : p ≤ n) {a : Int32} {p1 : Nat} (h : num1 B hi z p = .inr (a, p1)) : p1 ≤ n ∧ ¬ hi < a := by
  have hb := lx_b hB hp
  unfold num1 at h
  split at h
  · split at h
    · cases h
    · rename_i q
      cases h
      exact ⟨hb.2.2.1, fun z => q (Or.inl z)⟩
  · cases h
theorem num1_k {B : Nat → Int32} {n : Nat} {z : Bool} {p : Nat} (hB : Tp B n) (hp : p ≤ n) {a : Int32} {p1 : Nat} (h : num1 B 9 z p = .inr (a, p1)) : ∃ x, x < 10 ∧ a = nI x := by
  have h1 := num1_v hB hp h
  have h2 := (num1_q hB hp h).2
  have h1 : 0 ≤ a := h1
  rw [Int32.le_iff_toInt_le, show (0 : Int32).toInt = 0 from by decide] at h1
  rw [Int32.lt_iff_toInt_lt, show (9 : Int32).toInt = 9 from by decide] at h2
  exact ⟨a.toInt.toNat, by omega, i_nI h1⟩
theorem stp_p {B : Nat → Int32} {n p p1 : Nat} (hB : Tp B n) (hp : p ≤ n) (h : stp B p = .inr p1) : p1 ≤ n := by
  have hb := lx_b hB hp
  unfold stp at h
  split at h
  · cases h
    exact hb.2.2.1
  · cases h
theorem KN_u {f : Nat → Int32} {N : Nat} (h : KN N f) {j : Nat} (x : Int32) (hj : j < 8 ∨ 38 ≤ j) (hN : N ≤ 6) : KN N (upd f j x) := fun b hb => by
  rw [upd_n _ _ (by omega), upd_n _ _ (by omega)]
  exact h b hb
theorem line_kn {B : Nat → Int32} {n p V N : Nat} {f : Nat → Int32} {c : Nat} (hB : Tp B n) (hp : p ≤ n) (hV : V ≤ 4) (hN : N ≤ 6) (h : KN N f) {y : Lin} (e : line B p V N f c = .inr y) : KN y.2.2.1 y.2.2.2.1 ∧ y.1 ≤ n := by
  have hb := lx_b hB hp
  have lv : ∀ y : Lin, V < 4 → liV B (lx B p).2.2 V N f c = .inr y → KN y.2.2.1 y.2.2.2.1 ∧ y.1 ≤ n := by
    intro y hV e
    unfold liV at e
    split at e
    · cases e
    · rename_i a p1 e1
      have q1 := (num1_q hB hb.2.2.1 e1).1
      split at e
      · cases e
      · rename_i b p2 e2
        have q2 := (num1_q hB q1 e2).1
        split at e
        · cases e
        · rename_i p3 e3
          cases e
          exact ⟨KN_u (KN_u h _ (by omega) hN) _ (by omega) hN, stp_p hB q2 e3⟩
  have lb : ∀ (k : Int32) (y : Lin), N < 6 → liB B k (lx B p).2.2 V N f c = .inr y → KN y.2.2.1 y.2.2.2.1 ∧ y.1 ≤ n := by
    intro k y hN6 e
    unfold liB at e
    split at e
    · cases e
    · rename_i a p1 e1
      have q1 := (num1_q hB hb.2.2.1 e1).1
      split at e
      · cases e
      · rename_i b p2 e2
        have q2 := (num1_q hB q1 e2).1
        have v2 := num1_k hB q1 e2
        split at e
        · cases e
        · rename_i g p3 e3
          have q3 := (num1_q hB q2 e3).1
          have v3 := num1_k hB q2 e3
          split at e
          · cases e
          · rename_i p4 e4
            cases e
            refine ⟨fun i hi => ?_, stp_p hB q3 e4⟩
            have hi : i < N + 1 := hi
            show (∃ x, x < 10 ∧ bdF f N k a b g (8 + 5 * i + 2) = nI x) ∧ ∃ y, y < 10 ∧ bdF f N k a b g (8 + 5 * i + 3) = nI y
            unfold bdF
            by_cases q : i = N
            · subst q
              rw [upd_n _ _ (show 8 + 5 * i + 2 ≠ 38 by omega), upd_n _ _ (show 8 + 5 * i + 2 ≠ 8 + 5 * i + 3 by omega), upd_s, upd_n _ _ (show 8 + 5 * i + 3 ≠ 38 by omega), upd_s]
              exact ⟨v2, v3⟩
            · have z : ∀ t, t < 5 → upd (upd (upd (upd (upd f (8 + 5 * N) k) (8 + 5 * N + 1) a) (8 + 5 * N + 2) b) (8 + 5 * N + 3) g) 38 (nI (N + 1)) (8 + 5 * i + t) = f (8 + 5 * i + t) := fun t ht => by rw [upd_n _ _ (by omega), upd_n _ _ (by omega), upd_n _ _ (by omega), upd_n _ _ (by omega), upd_n _ _ (by omega)]
              rw [z 2 (by omega), z 3 (by omega)]
              exact h i (by omega)
  have ls : ∀ (cell : Nat) (hi : Int32) (z : Bool) (bit : Nat) (y : Lin), 38 ≤ cell → liS B cell hi z bit (lx B p).2.2 V N f c = .inr y → KN y.2.2.1 y.2.2.2.1 ∧ y.1 ≤ n := by
    intro cell hi z bit y hc e
    unfold liS at e
    split at e
    · cases e
    · rename_i a p1 e1
      have q1 := (num1_q hB hb.2.2.1 e1).1
      split at e
      · cases e
      · rename_i p2 e2
        cases e
        exact ⟨KN_u h _ (by omega) hN, stp_p hB q1 e2⟩
  unfold line at e
  split at e
  · split at e
    · cases e
    · split at e
      · cases e
      · split at e
        · cases e
        · rename_i hr
          generalize lnX B (lx B p).2.1 (lx B p).2.2 = k at e hr
          have hr : noRoom k V N = false := by simpa using hr
          unfold liK at e
          split at e
          · exact lv y (nr_V hr) e
          · exact lb _ y (nr_N (by omega) (by omega) hr) e
          · exact lb _ y (nr_N (by omega) (by omega) hr) e
          · exact lb _ y (nr_N (by omega) (by omega) hr) e
          · exact lb _ y (nr_N (by omega) (by omega) hr) e
          · exact ls _ _ _ _ y (by omega) e
          · exact ls _ _ _ _ y (by omega) e
          · exact ls _ _ _ _ y (by omega) e
  · cases e
theorem prs_kn {B : Nat → Int32} {n : Nat} (hB : Tp B n) : ∀ q p L V N f c y, p ≤ n → V ≤ 4 → N ≤ 6 → KN N f → prs B q p L V N f c = .inr y → KN y.2.2.1 y.2.2.2 := by
  intro q
  induction q with
  | zero => intro p L V N f c y _ _ _ _ e; cases e
  | succ q ih =>
    intro p L V N f c y hp hV hN hK e
    unfold prs at e
    split at e
    · split at e
      · cases e
        exact hK
      · cases e
    · split at e
      · cases e
      · rename_i p' V' N' f' c' e2
        have l := line_44 hV hN e2
        have k := line_kn hB hp hV hN hK e2
        exact ih _ _ _ _ _ _ _ k.2 l.2.1 l.2.2 k.1 e
/-! MEANS, price, fine that a text tells -/
theorem num1_h {B : Nat → Int32} {n : Nat} {hi : Int32} {z : Bool} {p : Nat} (hB : Tp B n) (hp : p ≤ n) {a : Int32} {p1 : Nat} (h : num1 B hi z p = .inr (a, p1)) {M : Nat} (hM : M < 1000) (eh : hi = nI M) : ∃ x, x < M + 1 ∧ a = nI x := by
  have h1 := num1_v hB hp h
  have h2 := (num1_q hB hp h).2
  have h1 : 0 ≤ a := h1
  rw [Int32.le_iff_toInt_le, show (0 : Int32).toInt = 0 from by decide] at h1
  rw [Int32.lt_iff_toInt_lt, eh, nI_toInt (by omega)] at h2
  exact ⟨a.toInt.toNat, by omega, i_nI h1⟩
theorem line_mb {B : Nat → Int32} {n p V N : Nat} {f : Nat → Int32} {c : Nat} (hB : Tp B n) (hp : p ≤ n) (hV : V ≤ 4) (hN : N ≤ 6) (h : MB V f) {y : Lin} (e : line B p V N f c = .inr y) : MB y.2.1 y.2.2.2.1 := by
  have hb := lx_b hB hp
  have lv : ∀ y : Lin, V < 4 → liV B (lx B p).2.2 V N f c = .inr y → MB y.2.1 y.2.2.2.1 := by
    intro y hV e
    unfold liV at e
    split at e
    · cases e
    · rename_i a p1 e1
      obtain ⟨x, hx, ex⟩ := num1_h hB hb.2.2.1 e1 (M := 99) (by omega) rfl
      split at e
      · cases e
      · split at e
        · cases e
        · cases e
          refine ⟨fun g hg => ?_, ?_, ?_⟩
          · have hg : g < V + 1 := hg
            show ∃ x, x < 100 ∧ upd (upd f (2 * V) a) (2 * V + 1) _ (2 * g) = nI x
            rw [upd_n _ _ (by omega)]
            by_cases q : g = V
            · subst q; rw [upd_s]; exact ⟨x, hx, ex⟩
            · rw [upd_n _ _ (by omega)]; exact h.1 g (by omega)
          · show ∃ p, p < 21 ∧ upd (upd f (2 * V) a) (2 * V + 1) _ 39 = nI p
            rw [upd_n _ _ (by omega), upd_n _ _ (by omega)]; exact h.2.1
          · show ∃ q, q < 61 ∧ upd (upd f (2 * V) a) (2 * V + 1) _ 40 = nI q
            rw [upd_n _ _ (by omega), upd_n _ _ (by omega)]; exact h.2.2
  have lb : ∀ (k : Int32) (y : Lin), N < 6 → liB B k (lx B p).2.2 V N f c = .inr y → MB y.2.1 y.2.2.2.1 := by
    intro k y hN6 e
    unfold liB at e
    split at e
    · cases e
    · split at e
      · cases e
      · split at e
        · cases e
        · split at e
          · cases e
          · cases e
            show MB V (bdF f N k _ _ _)
            unfold bdF
            exact MB_u (MB_u (MB_u (MB_u (MB_u h _ (fun g hg => by omega) (by omega) (by omega)) _ (fun g hg => by omega) (by omega) (by omega)) _ (fun g hg => by omega) (by omega) (by omega)) _ (fun g hg => by omega) (by omega) (by omega)) _ (fun g hg => by omega) (by omega) (by omega)
  have ls : ∀ (cell M : Nat) (z : Bool) (bit : Nat) (y : Lin), ((cell = 39 ∧ M = 20) ∨ (cell = 40 ∧ M = 60) ∨ (cell = 41 ∧ M = 9)) → liS B cell (nI M) z bit (lx B p).2.2 V N f c = .inr y → MB y.2.1 y.2.2.2.1 := by
    intro cell M z bit y hc e
    unfold liS at e
    split at e
    · cases e
    · rename_i a p1 e1
      obtain ⟨x, hx, ex⟩ := num1_h hB hb.2.2.1 e1 (M := M) (by omega) rfl
      split at e
      · cases e
      · cases e
        show MB V (upd f cell a)
        rcases hc with ⟨rfl, rfl⟩ | ⟨rfl, rfl⟩ | ⟨rfl, rfl⟩
        · rw [ex]; exact MB_p h hV hx
        · rw [ex]; exact MB_q h hV hx
        · exact MB_u h _ (fun g hg => by omega) (by omega) (by omega)
  unfold line at e
  split at e
  · split at e
    · cases e
    · split at e
      · cases e
      · split at e
        · cases e
        · rename_i hr
          generalize lnX B (lx B p).2.1 (lx B p).2.2 = k at e hr
          have hr : noRoom k V N = false := by simpa using hr
          unfold liK at e
          split at e
          · exact lv y (nr_V hr) e
          · exact lb _ y (nr_N (by omega) (by omega) hr) e
          · exact lb _ y (nr_N (by omega) (by omega) hr) e
          · exact lb _ y (nr_N (by omega) (by omega) hr) e
          · exact lb _ y (nr_N (by omega) (by omega) hr) e
          · exact ls 39 20 _ _ y (by omega) e
          · exact ls 40 60 _ _ y (by omega) e
          · exact ls 41 9 _ _ y (by omega) e
  · cases e
theorem prs_mb {B : Nat → Int32} {n : Nat} (hB : Tp B n) : ∀ q p L V N f c y, p ≤ n → V ≤ 4 → N ≤ 6 → KN N f → MB V f → prs B q p L V N f c = .inr y → MB y.2.1 y.2.2.2 := by
  intro q
  induction q with
  | zero => intro p L V N f c y _ _ _ _ _ e; cases e
  | succ q ih =>
    intro p L V N f c y hp hV hN hK hM e
    unfold prs at e
    split at e
    · split at e
      · cases e
        exact hM
      · cases e
    · split at e
      · cases e
      · rename_i p' V' N' f' c' e2
        have l := line_44 hV hN e2
        have k := line_kn hB hp hV hN hK e2
        have m := line_mb hB hp hV hN hM e2
        exact ih _ _ _ _ _ _ _ k.2 l.2.1 l.2.2 k.1 m e
theorem dr0_mb (g : Nat → Int32) : MB 0 (dr0 g) := by
  unfold dr0
  refine ⟨fun g hg => by omega, ⟨5, by omega, ?_⟩, ⟨46, by omega, ?_⟩⟩
  · rw [upd_n _ _ (by omega), upd_n _ _ (by omega), upd_s]; rfl
  · rw [upd_n _ _ (by omega), upd_s]; rfl
theorem hk_text {B g : Nat → Int32} {n : Nat} (hB : Tp B n) : ∀ y, prs B 160 0 0 0 0 (dr0 g) 0 = .inr y → KN y.2.2.1 y.2.2.2 ∧ MB y.2.1 y.2.2.2 := fun y e => ⟨prs_kn hB 160 0 0 0 0 (dr0 g) 0 y (by omega) (by omega) (by omega) (fun b hb => by omega) e, prs_mb hB 160 0 0 0 0 (dr0 g) 0 y (by omega) (by omega) (by omega) (fun b hb => by omega) (dr0_mb g) e⟩
end
section
/-! ANSWERS of both: what is changed -/
theorem bd_i : ∀ V, V < 7 → (nI V - 1).toInt = (V : Int) - 1 := by decide +kernel
theorem ltm {V : Nat} (hV : V < 7) (v : Int32) : (decide (0 ≤ v.toInt64) && decide (v.toInt64 ≤ (nI V - 1).toInt64)) = (decide (0 ≤ v) && decide (v < nI V)) := by
  rw [dec64 v 0 (nI V - 1) 0 (nI V - 1).toInt64 (by decide) rfl]
  congr 1
  rw [decide_eq_decide, Int32.le_iff_toInt_le, Int32.lt_iff_toInt_lt, bd_i V hV, nI_toInt (by omega)]
  omega
theorem in_lt {V : Nat} {v : Int32} (h : (decide (0 ≤ v) && decide (v < nI V)) = true) (hV : V < 100) : ∃ a, a < V ∧ v = nI a := by
  simp only [Bool.and_eq_true, decide_eq_true_eq] at h
  obtain ⟨I, hI, rfl⟩ := nI_of (Int32.not_lt.mpr h.1)
  have h5 := Int32.lt_iff_toInt_lt.mp h.2
  rw [nI_toInt hI, nI_toInt (by omega)] at h5
  exact ⟨I, by omega, rfl⟩
/-- a cell of the land that is now, in both -/
theorem LNow_u {V N N' j : Nat} {x : Int32} {m m1 : Mm} (h : LNow V N m) (hj : j < 43) (hC : CW 1 V N' (upd (m.1 69) j x) m1) (hA : ALd V N' (upd (m.1 69) j x)) (e3 : m1.1 68 3 = m.1 68 3) (e9 : m1.1 69 = m.1 69) (e6 : m1.1 1 6 = m.1 1 6) (e4 : m1.1 4 = m.1 4) : LNow V N' (wI m1 69 j x) := by
  obtain ⟨h3, -, h6, hT, -⟩ := h
  have q9 : (wI m1 69 j x).1 69 = upd (m.1 69) j x := by rw [wI_r, e9]
  refine ⟨by rw [wI_o _ _ _ _ _ (by omega), e3]; exact h3, ?_, ?_, fun i hi => by rw [wI_o _ _ _ _ _ (by omega), e4]; exact hT i hi, by rw [q9]; exact hA⟩
  · rw [q9]
    exact CW_e hC (fun _ _ => rfl) (fun o i a b _ => wI_o _ _ _ _ _ (by omega))
  · rw [q9, upd_n _ _ (by omega), wI_o _ _ _ _ _ (by omega), e6]; exact h6
section Bg
variable {wS : List Value → Mm → Option Rs} (d : Nat) {V N : Nat} {m : Mm}
theorem t_becomes {j : Nat} (hj : j < 189) (x : Int32) (m : Mm) : semZ shP wS (d + 1) 142 [.ref 68, .int (nI j), .int x] m = some (some (.int (m.1 69 j)), wI m 69 j x) := by
  have e2 : inR (nI j) 189 = true := inR_nI hj (by omega)
  have e3 : (nI j).toNatClampNeg = j := nI_clamp (by omega)
  rw [se_X7_becomes, r_X7_becomes_0]
  simp only [EV, LV, CB, OI, OL, NP, CZ, popN, CT, OZ, List.map_nil, List.map_cons, List.sum_nil, List.sum_cons, Option.toList, List.nil_append, List.cons_append, Int.reduceToNat, Nat.reduceAdd, Nat.reduceLT, Nat.reduceLeDiff, List.length_cons, List.length_nil, Nat.zero_add, if_true, if_false, reduceIte, and_self, and_true, true_and, eq_self, reduceCtorEq, gM MP68, aM MP68, sM MP68, e2, e3]
/-- grant of both -/
theorem b_grant (g a v : Int32) (h : LNow V N m) : ∃ x m1 m2, semZ shP wS (d + 30) 50 [.ref 0, .int g, .int a, .int v] m = some (some (.int x), m1) ∧ semZ shP wS (d + 30) 143 [.ref 68, .int g, .int a, .int v] m1 = some (some (.int x), m2) ∧ LNow V N m2 := by
  have h0 := h
  obtain ⟨h3, hC, h6, hT, hA, hMB⟩ := h
  have hV := hC.1
  have hN := hC.2.1
  have c0 := hC.2.2.1
  have e10 : ¬ (1 : Int32) = 0 := by decide
  have l1 := ltm (V := V) (by omega) g
  have d1 := dec64 a 0 1 0 1 (by decide) (by decide)
  have d2 := dec64 v 0 99 0 99 (by decide) (by decide)
  have d3 := dec64 v 0 9 0 9 (by decide) (by decide)
  rw [se_X6_grant, r_X6_grant_0]
  cases hg : (decide (0 ≤ g) && decide (g < nI V)) with
  | false =>
    refine ⟨-1, m, m, ?_, ?_, h0⟩
    · simp only [EV, LV, CB, OI, OL, NP, CZ, popN, CT, OZ, List.map_nil, List.map_cons, List.sum_nil, List.sum_cons, Option.toList, List.nil_append, List.cons_append, Int.reduceToNat, Nat.reduceAdd, Nat.reduceLT, Nat.reduceLeDiff, List.length_cons, List.length_nil, Nat.zero_add, if_true, if_false, reduceIte, and_self, and_true, true_and, eq_self, reduceCtorEq, gP0, gW WP1, t_hasVillage wS (d + 28) WP1, c0, hg, bI_f, r_X6_grant_20]
    · rw [se_X7_grant, r_X7_grant_0]
      simp only [EV, LV, CB, OI, OL, NP, CZ, popN, CT, OZ, List.map_nil, List.map_cons, List.sum_nil, List.sum_cons, Option.toList, List.nil_append, List.cons_append, Int.reduceToNat, Nat.reduceAdd, Nat.reduceLT, Nat.reduceLeDiff, List.length_cons, List.length_nil, Nat.zero_add, if_true, if_false, reduceIte, and_self, and_true, true_and, eq_self, reduceCtorEq, gM MP68, t_isVillage wS (d + 27) MP68, h3, l1, hg, bI_f, r_X7_grant_50]
  | true =>
    obtain ⟨G, hG, rfl⟩ := in_lt hg (by omega)
    have e4 : inR (nI G) 4 = true := inR_nI (by omega) (by omega)
    have e5 : (nI G).toNatClampNeg = G := nI_clamp (by omega)
    have gg := hC.2.2.2.2.2.2.2.2.2.1 G hG
    cases ha : (decide (0 ≤ a) && decide (a ≤ 1)) with
    | false =>
      refine ⟨-1, m, m, ?_, ?_, h0⟩
      · simp only [EV, LV, CB, OI, OL, NP, CZ, popN, CT, OZ, List.map_nil, List.map_cons, List.sum_nil, List.sum_cons, Option.toList, List.nil_append, List.cons_append, Int.reduceToNat, Nat.reduceAdd, Nat.reduceLT, Nat.reduceLeDiff, List.length_cons, List.length_nil, Nat.zero_add, if_true, if_false, reduceIte, and_self, and_true, true_and, eq_self, reduceCtorEq, gP0, gW WP1, t_hasVillage wS (d + 28) WP1, c0, hg, bI_t, e10, t_within wS (d + 28), ha, bI_f, not_true_eq_false]
      · rw [se_X7_grant, r_X7_grant_0]
        simp only [EV, LV, CB, OI, OL, NP, CZ, popN, CT, OZ, List.map_nil, List.map_cons, List.sum_nil, List.sum_cons, Option.toList, List.nil_append, List.cons_append, Int.reduceToNat, Nat.reduceAdd, Nat.reduceLT, Nat.reduceLeDiff, List.length_cons, List.length_nil, Nat.zero_add, if_true, if_false, reduceIte, and_self, and_true, true_and, eq_self, reduceCtorEq, gM MP68, t_isVillage wS (d + 27) MP68, h3, l1, hg, bI_t, e10, t_isPart wS (d + 27), d1, ha, bI_f, r_X7_grant_50]
    | true =>
      obtain ⟨A, hA1, rfl⟩ := in_nI (N := 1) (by decide) ha
      match A, hA1 with
      | 0, _ =>
        rw [nI_0] at ha ⊢
        cases hv : (decide (0 ≤ v) && decide (v ≤ 99)) with
        | false =>
          refine ⟨-1, m, m, ?_, ?_, h0⟩
          · simp only [EV, LV, CB, OI, OL, NP, CZ, popN, CT, OZ, List.map_nil, List.map_cons, List.sum_nil, List.sum_cons, Option.toList, List.nil_append, List.cons_append, Int.reduceToNat, Nat.reduceAdd, Nat.reduceLT, Nat.reduceLeDiff, List.length_cons, List.length_nil, Nat.zero_add, if_true, if_false, reduceIte, and_self, and_true, true_and, eq_self, reduceCtorEq, gP0, gW WP1, t_hasVillage wS (d + 28) WP1, c0, hg, bI_t, e10, not_false_eq_true, t_within wS (d + 28), ha, not_true_eq_false, r_X6_grant_22, r_X6_grant_35, hv, bI_f]
          · rw [se_X7_grant, r_X7_grant_0]
            rw [nI_0] at d1
            simp only [EV, LV, CB, OI, OL, NP, CZ, popN, CT, OZ, List.map_nil, List.map_cons, List.sum_nil, List.sum_cons, Option.toList, List.nil_append, List.cons_append, Int.reduceToNat, Nat.reduceAdd, Nat.reduceLT, Nat.reduceLeDiff, List.length_cons, List.length_nil, Nat.zero_add, if_true, if_false, reduceIte, and_self, and_true, true_and, eq_self, reduceCtorEq, gM MP68, t_isVillage wS (d + 27) MP68, h3, l1, hg, bI_t, e10, t_isPart wS (d + 27), d1, ha, not_true_eq_false, r_X7_grant_31, t_in wS (d + 28), d2, hv, bI_f, r_X7_grant_50]
        | true =>
          have ix : (2 : Int32) * nI G + 0 = nI (2 * G) := (ix_20 G (by omega)).1
          have tb := t_becomes (wS := wS) (d + 28) (j := 2 * G) (by omega) v (wI m 2 G v)
          refine ⟨m.1 69 (2 * G), wI m 2 G v, wI (wI m 2 G v) 69 (2 * G) v, ?_, ?_, LNow_u h0 (by omega) (CW_m hC hG v) ⟨Atf_u hA _ (fun b _ => by omega), by obtain ⟨x, hx, rfl⟩ := in_nI (N := 99) (by decide) hv; exact MB_m hMB hG hC.1 (by omega)⟩ (wI_o _ _ _ _ _ (by omega)) (wI_n _ _ _ _ (by omega)) (wI_o _ _ _ _ _ (by omega)) (wI_n _ _ _ _ (by omega))⟩
          · simp only [EV, LV, CB, OI, OL, NP, CZ, popN, CT, OZ, List.map_nil, List.map_cons, List.sum_nil, List.sum_cons, Option.toList, List.nil_append, List.cons_append, Int.reduceToNat, Nat.reduceAdd, Nat.reduceLT, Nat.reduceLeDiff, List.length_cons, List.length_nil, Nat.zero_add, if_true, if_false, reduceIte, and_self, and_true, true_and, eq_self, reduceCtorEq, gP0, gW WP1, aW WP1, sW WP1, t_hasVillage wS (d + 28) WP1, c0, hg, bI_t, e10, not_false_eq_true, t_within wS (d + 28), ha, not_true_eq_false, r_X6_grant_22, r_X6_grant_35, hv, r_X6_grant_43, r_X6_grant_64, e4, e5, gg.1]
          · have q3 : (wI m 2 G v).1 68 3 = nI V := by rw [wI_o _ _ _ _ _ (by omega)]; exact h3
            have q9 : (wI m 2 G v).1 69 (2 * G) = m.1 69 (2 * G) := wI_o _ _ _ _ _ (by omega)
            rw [q9] at tb
            rw [nI_0] at d1
            rw [se_X7_grant, r_X7_grant_0]
            simp only [EV, LV, CB, OI, OL, NP, CZ, popN, CT, OZ, List.map_nil, List.map_cons, List.sum_nil, List.sum_cons, Option.toList, List.nil_append, List.cons_append, Int.reduceToNat, Nat.reduceAdd, Nat.reduceLT, Nat.reduceLeDiff, List.length_cons, List.length_nil, Nat.zero_add, if_true, if_false, reduceIte, and_self, and_true, true_and, eq_self, reduceCtorEq, gM MP68, t_isVillage wS (d + 27) MP68, q3, l1, hg, bI_t, e10, t_isPart wS (d + 27), d1, ha, not_true_eq_false, r_X7_grant_31, t_in wS (d + 28), d2, hv, ix, tb, r_X7_grant_51]
      | 1, _ =>
        have n1 : nI 1 = 1 := by decide
        rw [n1] at ha ⊢
        cases hv : (decide (0 ≤ v) && decide (v ≤ 9)) with
        | false =>
          refine ⟨-1, m, m, ?_, ?_, h0⟩
          · simp only [EV, LV, CB, OI, OL, NP, CZ, popN, CT, OZ, List.map_nil, List.map_cons, List.sum_nil, List.sum_cons, Option.toList, List.nil_append, List.cons_append, Int.reduceToNat, Nat.reduceAdd, Nat.reduceLT, Nat.reduceLeDiff, List.length_cons, List.length_nil, Nat.zero_add, if_true, if_false, reduceIte, and_self, and_true, true_and, eq_self, reduceCtorEq, gP0, gW WP1, t_hasVillage wS (d + 28) WP1, c0, hg, bI_t, e10, not_false_eq_true, t_within wS (d + 28), ha, not_true_eq_false, r_X6_grant_22, r_X6_grant_33, hv, bI_f]
          · rw [se_X7_grant, r_X7_grant_0]
            rw [n1] at d1
            simp only [EV, LV, CB, OI, OL, NP, CZ, popN, CT, OZ, List.map_nil, List.map_cons, List.sum_nil, List.sum_cons, Option.toList, List.nil_append, List.cons_append, Int.reduceToNat, Nat.reduceAdd, Nat.reduceLT, Nat.reduceLeDiff, List.length_cons, List.length_nil, Nat.zero_add, if_true, if_false, reduceIte, and_self, and_true, true_and, eq_self, reduceCtorEq, gM MP68, t_isVillage wS (d + 27) MP68, h3, l1, hg, bI_t, e10, not_false_eq_true, t_isPart wS (d + 27), d1, ha, r_X7_grant_28, t_in wS (d + 28), d3, hv, bI_f, r_X7_grant_50]
        | true =>
          have ix : (2 : Int32) * nI G + 1 = nI (2 * G + 1) := (ix_20 G (by omega)).2
          have tb := t_becomes (wS := wS) (d + 28) (j := 2 * G + 1) (by omega) v (wI m 3 G v)
          refine ⟨m.1 69 (2 * G + 1), wI m 3 G v, wI (wI m 3 G v) 69 (2 * G + 1) v, ?_, ?_, LNow_u h0 (by omega) (CW_w hC hG v) ⟨Atf_u hA _ (fun b _ => by omega), MB_u hMB _ (fun g hg => by omega) (by omega) (by omega)⟩ (wI_o _ _ _ _ _ (by omega)) (wI_n _ _ _ _ (by omega)) (wI_o _ _ _ _ _ (by omega)) (wI_n _ _ _ _ (by omega))⟩
          · simp only [EV, LV, CB, OI, OL, NP, CZ, popN, CT, OZ, List.map_nil, List.map_cons, List.sum_nil, List.sum_cons, Option.toList, List.nil_append, List.cons_append, Int.reduceToNat, Nat.reduceAdd, Nat.reduceLT, Nat.reduceLeDiff, List.length_cons, List.length_nil, Nat.zero_add, if_true, if_false, reduceIte, and_self, and_true, true_and, eq_self, reduceCtorEq, gP0, gW WP1, aW WP1, sW WP1, t_hasVillage wS (d + 28) WP1, c0, hg, bI_t, e10, not_false_eq_true, t_within wS (d + 28), ha, not_true_eq_false, r_X6_grant_22, r_X6_grant_33, hv, r_X6_grant_43, r_X6_grant_57, e4, e5, gg.2]
          · have q3 : (wI m 3 G v).1 68 3 = nI V := by rw [wI_o _ _ _ _ _ (by omega)]; exact h3
            have q9 : (wI m 3 G v).1 69 (2 * G + 1) = m.1 69 (2 * G + 1) := wI_o _ _ _ _ _ (by omega)
            rw [q9] at tb
            rw [n1] at d1
            rw [se_X7_grant, r_X7_grant_0]
            simp only [EV, LV, CB, OI, OL, NP, CZ, popN, CT, OZ, List.map_nil, List.map_cons, List.sum_nil, List.sum_cons, Option.toList, List.nil_append, List.cons_append, Int.reduceToNat, Nat.reduceAdd, Nat.reduceLT, Nat.reduceLeDiff, List.length_cons, List.length_nil, Nat.zero_add, if_true, if_false, reduceIte, and_self, and_true, true_and, eq_self, reduceCtorEq, gM MP68, t_isVillage wS (d + 27) MP68, q3, l1, hg, bI_t, e10, not_false_eq_true, t_isPart wS (d + 27), d1, ha, r_X7_grant_28, t_in wS (d + 28), d3, hv, ix, tb, r_X7_grant_51]
end Bg
end
section
/-! set, alter of both -/
theorem CW_r {w V N : Nat} {f : Nat → Int32} {m : Mm} (h : CW w V N f m) {i : Nat} (h2 : 2 ≤ i) (h5 : i ≤ 5) (x : Int32) : CW w V N (upd f (37 + i) x) (wI m w i x) := by
  obtain ⟨c1, c2, c3, c4, c5, c6, c7, c8, c9, hg, hb⟩ := h
  have key : ∀ k, m.1 w k = f (37 + k) → (wI m w i x).1 w k = upd f (37 + i) x (37 + k) := fun k e => by
    by_cases q : k = i
    · rw [q, wI_s, upd_s]
    · rw [wI_j _ _ _ _ _ q, upd_n _ _ (by omega)]; exact e
  refine ⟨c1, c2, by rw [wI_j _ _ _ _ _ (by omega)]; exact c3, by rw [wI_j _ _ _ _ _ (by omega)]; exact c4, by rw [upd_n _ _ (by omega)]; exact c5, key 2 c6, key 3 c7, key 4 c8, key 5 c9, fun g hg2 => ?_, fun q hq => ?_⟩
  · rw [wI_o _ _ _ _ _ (by omega), wI_o _ _ _ _ _ (by omega), upd_n _ _ (by omega), upd_n _ _ (by omega)]
    exact hg g hg2
  · rw [wI_o _ _ _ _ _ (by omega), wI_o _ _ _ _ _ (by omega), wI_o _ _ _ _ _ (by omega), wI_o _ _ _ _ _ (by omega), wI_o _ _ _ _ _ (by omega), upd_n _ _ (by omega), upd_n _ _ (by omega), upd_n _ _ (by omega), upd_n _ _ (by omega), upd_n _ _ (by omega)]
    exact hb q hq
section Bs
variable {wS : List Value → Mm → Option Rs} (d : Nat) {V N : Nat} {m : Mm}
/-- set of both -/
theorem b_set (a v : Int32) (h : LNow V N m) : ∃ x m1 m2, semZ shP wS (d + 30) 53 [.ref 0, .int a, .int v] m = some (some (.int x), m1) ∧ semZ shP wS (d + 30) 146 [.ref 68, .int a, .int v] m1 = some (some (.int x), m2) ∧ LNow V N m2 := by
  have h0 := h
  obtain ⟨h3, hC, h6, hT, hA, hMB⟩ := h
  have hN := hC.2.1
  have c2 := hC.2.2.2.2.2.1
  have c3 := hC.2.2.2.2.2.2.1
  have c4 := hC.2.2.2.2.2.2.2.1
  have e10 : ¬ (1 : Int32) = 0 := by decide
  have n23 : ¬ (2 : Int32) = 3 := by decide
  have n24 : ¬ (2 : Int32) = 4 := by decide
  have n32 : ¬ (3 : Int32) = 2 := by decide
  have n34 : ¬ (3 : Int32) = 4 := by decide
  have n42 : ¬ (4 : Int32) = 2 := by decide
  have n43 : ¬ (4 : Int32) = 3 := by decide
  have d1 := dec64 v 0 20 0 20 (by decide) (by decide)
  have d2 := dec64 v 0 60 0 60 (by decide) (by decide)
  have d3 := dec64 v 1 9 1 9 (by decide) (by decide)
  have i39 : (39 : Int32) + 2 - 2 = nI 39 := by decide
  have i40 : (39 : Int32) + 3 - 2 = nI 40 := by decide
  have i41 : (39 : Int32) + 4 - 2 = nI 41 := by decide
  rw [se_X6_set, r_X6_set_0]
  by_cases a2 : a = 2
  · subst a2
    cases hv : (decide (0 ≤ v) && decide (v ≤ 20)) with
    | false =>
      refine ⟨-1, m, m, ?_, ?_, h0⟩
      · simp only [EV, LV, CB, OI, OL, NP, CZ, popN, CT, OZ, List.map_nil, List.map_cons, List.sum_nil, List.sum_cons, Option.toList, List.nil_append, List.cons_append, Int.reduceToNat, Nat.reduceAdd, Nat.reduceLT, Nat.reduceLeDiff, List.length_cons, List.length_nil, Nat.zero_add, if_true, if_false, reduceIte, and_self, and_true, true_and, eq_self, reduceCtorEq, not_true_eq_false, not_false_eq_true, n23, n24, t_within wS (d + 28), hv, bI_f, r_X6_set_34, r_X6_set_68, r_X6_set_102]
      · rw [se_X7_set, r_X7_set_0]
        simp only [EV, LV, CB, OI, OL, NP, CZ, popN, CT, OZ, List.map_nil, List.map_cons, List.sum_nil, List.sum_cons, Option.toList, List.nil_append, List.cons_append, Int.reduceToNat, Nat.reduceAdd, Nat.reduceLT, Nat.reduceLeDiff, List.length_cons, List.length_nil, Nat.zero_add, if_true, if_false, reduceIte, and_self, and_true, true_and, eq_self, reduceCtorEq, not_true_eq_false, t_in wS (d + 28), d1, hv, bI_f, r_X7_set_56, r_X7_set_75]
    | true =>
      have tb := t_becomes (wS := wS) (d + 28) (j := 39) (by omega) v (wI m 1 2 v)
      rw [wI_o _ _ _ _ _ (by omega)] at tb
      refine ⟨m.1 69 39, wI m 1 2 v, wI (wI m 1 2 v) 69 39 v, ?_, ?_, LNow_u h0 (by omega) (CW_r hC (i := 2) (by omega) (by omega) v) ⟨Atf_u hA _ (fun b _ => by omega), by obtain ⟨x, hx, rfl⟩ := in_nI (N := 20) (by decide) hv; exact MB_p hMB hC.1 (by omega)⟩ (wI_o _ _ _ _ _ (by omega)) (wI_n _ _ _ _ (by omega)) (wI_j _ _ _ _ _ (by omega)) (wI_n _ _ _ _ (by omega))⟩
      · simp only [EV, LV, CB, OI, OL, NP, CZ, popN, CT, OZ, List.map_nil, List.map_cons, List.sum_nil, List.sum_cons, Option.toList, List.nil_append, List.cons_append, Int.reduceToNat, Nat.reduceAdd, Nat.reduceLT, Nat.reduceLeDiff, List.length_cons, List.length_nil, Nat.zero_add, if_true, if_false, reduceIte, and_self, and_true, true_and, eq_self, reduceCtorEq, gP0, gW WP1, pW WP1, not_true_eq_false, t_within wS (d + 28), hv, bI_t, e10, c2, r_X6_set_104]
      · rw [se_X7_set, r_X7_set_0]
        simp only [EV, LV, CB, OI, OL, NP, CZ, popN, CT, OZ, List.map_nil, List.map_cons, List.sum_nil, List.sum_cons, Option.toList, List.nil_append, List.cons_append, Int.reduceToNat, Nat.reduceAdd, Nat.reduceLT, Nat.reduceLeDiff, List.length_cons, List.length_nil, Nat.zero_add, if_true, if_false, reduceIte, and_self, and_true, true_and, eq_self, reduceCtorEq, gM MP68, not_true_eq_false, t_in wS (d + 28), d1, hv, bI_t, e10, r_X7_set_56, i39, tb, r_X7_set_76]
  · by_cases a3 : a = 3
    · subst a3
      cases hv : (decide (0 ≤ v) && decide (v ≤ 60)) with
      | false =>
        refine ⟨-1, m, m, ?_, ?_, h0⟩
        · simp only [EV, LV, CB, OI, OL, NP, CZ, popN, CT, OZ, List.map_nil, List.map_cons, List.sum_nil, List.sum_cons, Option.toList, List.nil_append, List.cons_append, Int.reduceToNat, Nat.reduceAdd, Nat.reduceLT, Nat.reduceLeDiff, List.length_cons, List.length_nil, Nat.zero_add, if_true, if_false, reduceIte, and_self, and_true, true_and, eq_self, reduceCtorEq, not_true_eq_false, not_false_eq_true, n32, n34, t_within wS (d + 28), hv, bI_f, r_X6_set_34, r_X6_set_68, r_X6_set_102]
        · rw [se_X7_set, r_X7_set_0]
          simp only [EV, LV, CB, OI, OL, NP, CZ, popN, CT, OZ, List.map_nil, List.map_cons, List.sum_nil, List.sum_cons, Option.toList, List.nil_append, List.cons_append, Int.reduceToNat, Nat.reduceAdd, Nat.reduceLT, Nat.reduceLeDiff, List.length_cons, List.length_nil, Nat.zero_add, if_true, if_false, reduceIte, and_self, and_true, true_and, eq_self, reduceCtorEq, n32, not_true_eq_false, not_false_eq_true, t_in wS (d + 28), d2, hv, bI_f, r_X7_set_17, r_X7_set_56, r_X7_set_75]
      | true =>
        have tb := t_becomes (wS := wS) (d + 28) (j := 40) (by omega) v (wI m 1 3 v)
        rw [wI_o _ _ _ _ _ (by omega)] at tb
        refine ⟨m.1 69 40, wI m 1 3 v, wI (wI m 1 3 v) 69 40 v, ?_, ?_, LNow_u h0 (by omega) (CW_r hC (i := 3) (by omega) (by omega) v) ⟨Atf_u hA _ (fun b _ => by omega), by obtain ⟨x, hx, rfl⟩ := in_nI (N := 60) (by decide) hv; exact MB_q hMB hC.1 (by omega)⟩ (wI_o _ _ _ _ _ (by omega)) (wI_n _ _ _ _ (by omega)) (wI_j _ _ _ _ _ (by omega)) (wI_n _ _ _ _ (by omega))⟩
        · simp only [EV, LV, CB, OI, OL, NP, CZ, popN, CT, OZ, List.map_nil, List.map_cons, List.sum_nil, List.sum_cons, Option.toList, List.nil_append, List.cons_append, Int.reduceToNat, Nat.reduceAdd, Nat.reduceLT, Nat.reduceLeDiff, List.length_cons, List.length_nil, Nat.zero_add, if_true, if_false, reduceIte, and_self, and_true, true_and, eq_self, reduceCtorEq, gP0, gW WP1, pW WP1, n32, not_true_eq_false, not_false_eq_true, t_within wS (d + 28), hv, bI_t, e10, c3, r_X6_set_34, r_X6_set_104]
        · rw [se_X7_set, r_X7_set_0]
          simp only [EV, LV, CB, OI, OL, NP, CZ, popN, CT, OZ, List.map_nil, List.map_cons, List.sum_nil, List.sum_cons, Option.toList, List.nil_append, List.cons_append, Int.reduceToNat, Nat.reduceAdd, Nat.reduceLT, Nat.reduceLeDiff, List.length_cons, List.length_nil, Nat.zero_add, if_true, if_false, reduceIte, and_self, and_true, true_and, eq_self, reduceCtorEq, gM MP68, n32, not_true_eq_false, not_false_eq_true, t_in wS (d + 28), d2, hv, bI_t, e10, r_X7_set_17, r_X7_set_56, i40, tb, r_X7_set_76]
    · by_cases a4 : a = 4
      · subst a4
        cases hv : (decide (1 ≤ v) && decide (v ≤ 9)) with
        | false =>
          refine ⟨-1, m, m, ?_, ?_, h0⟩
          · simp only [EV, LV, CB, OI, OL, NP, CZ, popN, CT, OZ, List.map_nil, List.map_cons, List.sum_nil, List.sum_cons, Option.toList, List.nil_append, List.cons_append, Int.reduceToNat, Nat.reduceAdd, Nat.reduceLT, Nat.reduceLeDiff, List.length_cons, List.length_nil, Nat.zero_add, if_true, if_false, reduceIte, and_self, and_true, true_and, eq_self, reduceCtorEq, not_true_eq_false, not_false_eq_true, n42, n43, t_within wS (d + 28), hv, bI_f, r_X6_set_34, r_X6_set_68, r_X6_set_102]
          · rw [se_X7_set, r_X7_set_0]
            simp only [EV, LV, CB, OI, OL, NP, CZ, popN, CT, OZ, List.map_nil, List.map_cons, List.sum_nil, List.sum_cons, Option.toList, List.nil_append, List.cons_append, Int.reduceToNat, Nat.reduceAdd, Nat.reduceLT, Nat.reduceLeDiff, List.length_cons, List.length_nil, Nat.zero_add, if_true, if_false, reduceIte, and_self, and_true, true_and, eq_self, reduceCtorEq, n42, n43, not_true_eq_false, not_false_eq_true, t_in wS (d + 28), d3, hv, bI_f, r_X7_set_17, r_X7_set_34, r_X7_set_55, r_X7_set_75]
        | true =>
          have tb := t_becomes (wS := wS) (d + 28) (j := 41) (by omega) v (wI m 1 4 v)
          rw [wI_o _ _ _ _ _ (by omega)] at tb
          refine ⟨m.1 69 41, wI m 1 4 v, wI (wI m 1 4 v) 69 41 v, ?_, ?_, LNow_u h0 (by omega) (CW_r hC (i := 4) (by omega) (by omega) v) ⟨Atf_u hA _ (fun b _ => by omega), MB_u hMB _ (fun g hg => by have := hC.1; omega) (by omega) (by omega)⟩ (wI_o _ _ _ _ _ (by omega)) (wI_n _ _ _ _ (by omega)) (wI_j _ _ _ _ _ (by omega)) (wI_n _ _ _ _ (by omega))⟩
          · simp only [EV, LV, CB, OI, OL, NP, CZ, popN, CT, OZ, List.map_nil, List.map_cons, List.sum_nil, List.sum_cons, Option.toList, List.nil_append, List.cons_append, Int.reduceToNat, Nat.reduceAdd, Nat.reduceLT, Nat.reduceLeDiff, List.length_cons, List.length_nil, Nat.zero_add, if_true, if_false, reduceIte, and_self, and_true, true_and, eq_self, reduceCtorEq, gP0, gW WP1, pW WP1, n42, n43, not_true_eq_false, not_false_eq_true, t_within wS (d + 28), hv, bI_t, e10, c4, r_X6_set_34, r_X6_set_68, r_X6_set_104]
          · rw [se_X7_set, r_X7_set_0]
            simp only [EV, LV, CB, OI, OL, NP, CZ, popN, CT, OZ, List.map_nil, List.map_cons, List.sum_nil, List.sum_cons, Option.toList, List.nil_append, List.cons_append, Int.reduceToNat, Nat.reduceAdd, Nat.reduceLT, Nat.reduceLeDiff, List.length_cons, List.length_nil, Nat.zero_add, if_true, if_false, reduceIte, and_self, and_true, true_and, eq_self, reduceCtorEq, gM MP68, n42, n43, not_true_eq_false, not_false_eq_true, t_in wS (d + 28), d3, hv, bI_t, e10, r_X7_set_17, r_X7_set_34, r_X7_set_56, i41, tb, r_X7_set_76]
      · refine ⟨-1, m, m, ?_, ?_, h0⟩
        · simp only [EV, LV, CB, OI, OL, NP, CZ, popN, CT, OZ, List.map_nil, List.map_cons, List.sum_nil, List.sum_cons, Option.toList, List.nil_append, List.cons_append, Int.reduceToNat, Nat.reduceAdd, Nat.reduceLT, Nat.reduceLeDiff, List.length_cons, List.length_nil, Nat.zero_add, if_true, if_false, reduceIte, and_self, and_true, true_and, eq_self, reduceCtorEq, a2, a3, a4, not_false_eq_true, r_X6_set_34, r_X6_set_68, r_X6_set_102]
        · rw [se_X7_set, r_X7_set_0]
          simp only [EV, LV, CB, OI, OL, NP, CZ, popN, CT, OZ, List.map_nil, List.map_cons, List.sum_nil, List.sum_cons, Option.toList, List.nil_append, List.cons_append, Int.reduceToNat, Nat.reduceAdd, Nat.reduceLT, Nat.reduceLeDiff, List.length_cons, List.length_nil, Nat.zero_add, if_true, if_false, reduceIte, and_self, and_true, true_and, eq_self, reduceCtorEq, a2, a3, a4, not_false_eq_true, r_X7_set_17, r_X7_set_34, r_X7_set_55, r_X7_set_75]
end Bs
end
section
/-! alter of both -/
def mayA (V : Nat) (a v : Int32) : Bool := if a = 0 then (decide (0 ≤ v) && decide (v ≤ 3)) else if a = 1 then (decide (0 ≤ v) && decide (v < nI V)) else ((decide (2 ≤ a) && decide (a ≤ 3)) && (decide (0 ≤ v) && decide (v ≤ 9)))
theorem sw_row : ∀ k, k < 4 → swT 43 0 2 #[28, 33, 38] (nI k) = ([28, 33, 38, 43] : List Nat).getD k 43 := by decide +kernel
theorem sw_may : ∀ k, k < 4 → swL 44 (#[((0 : Int), (28 : Int)), (1, 35)] : Array (Int × Int)).toList (nI k) = ([28, 35, 44, 44] : List Nat).getD k 44 := by decide +kernel
theorem mayA_n {V : Nat} {a v : Int32} (h : (decide (0 ≤ a) && decide (a ≤ 3)) = false) : mayA V a v = false := by
  unfold mayA
  have n0 : ¬ a = 0 := fun z => by rw [z] at h; exact absurd h (by decide)
  have n1 : ¬ a = 1 := fun z => by rw [z] at h; exact absurd h (by decide)
  rw [if_neg n0, if_neg n1]
  cases h2 : (decide (2 ≤ a) && decide (a ≤ 3)) with
  | false => rfl
  | true =>
    have hb := wi_i h2
    rw [show (2 : Int32).toInt = 2 from by decide, show (3 : Int32).toInt = 3 from by decide] at hb
    have : (decide (0 ≤ a) && decide (a ≤ 3)) = true := by
      simp only [Bool.and_eq_true, decide_eq_true_eq, Int32.le_iff_toInt_le]
      rw [show (0 : Int32).toInt = 0 from by decide, show (3 : Int32).toInt = 3 from by decide]
      omega
    rw [this] at h
    cases h
theorem CW_at {w V N : Nat} {f : Nat → Int32} {m : Mm} (h : CW w V N f m) {B A : Nat} (hB : B < N) (hA : A < 4) : m.1 (w + 4 + A) B = f (8 + 5 * B + A) := by
  obtain ⟨b0, b1, b2, b3, -⟩ := h.2.2.2.2.2.2.2.2.2.2 B hB
  clear h hB
  match A, hA with
  | 0, _ => exact b0
  | 1, _ => exact b1
  | 2, _ => exact b2
  | 3, _ => exact b3
theorem arr1 : ∀ A, A < 4 → shP[1 + 4 + A]? = some (.inr (0, 6, []))
  | 0, _ => rfl
  | 1, _ => rfl
  | 2, _ => rfl
  | 3, _ => rfl
section Ba
variable {wS : List Value → Mm → Option Rs} (d : Nat) {V N : Nat} {m : Mm}
theorem t_row {w : Nat} (hw : WSh shP w) {A : Nat} (hA : A < 4) (m : Mm) : semZ shP wS (d + 1) 30 [.ref w, .int (nI A)] m = some (some (.ref (w + 4 + A)), m) := by
  rw [se_X5_bodyRow, r_X5_bodyRow_0]
  simp only [EV, LV, CB, OI, OL, NP, CZ, popN, CT, OZ, List.map_nil, List.map_cons, List.sum_nil, List.sum_cons, Option.toList, List.nil_append, List.cons_append, Int.reduceToNat, Nat.reduceAdd, Nat.reduceLT, Nat.reduceLeDiff, List.length_cons, List.length_nil, Nat.zero_add, if_true, if_false, reduceIte, and_self, and_true, true_and, eq_self, reduceCtorEq, sw_row A hA]
  match A, hA with
  | 0, _ =>
    show rn shP tb0 mN mO (semZ shP wS d) _ (codeZ 30) 28 [.ref w, .int (nI 0)] [] m = _
    simp only [EV, LV, CB, OI, OL, NP, CZ, popN, CT, OZ, List.map_nil, List.map_cons, List.sum_nil, List.sum_cons, Option.toList, List.nil_append, List.cons_append, Int.reduceToNat, Nat.reduceAdd, Nat.reduceLT, Nat.reduceLeDiff, List.length_cons, List.length_nil, Nat.zero_add, if_true, if_false, reduceIte, and_self, and_true, true_and, eq_self, reduceCtorEq, gW hw, r_X5_bodyRow_28, Nat.add_zero]
  | 1, _ =>
    show rn shP tb0 mN mO (semZ shP wS d) _ (codeZ 30) 33 [.ref w, .int (nI 1)] [] m = _
    simp only [EV, LV, CB, OI, OL, NP, CZ, popN, CT, OZ, List.map_nil, List.map_cons, List.sum_nil, List.sum_cons, Option.toList, List.nil_append, List.cons_append, Int.reduceToNat, Nat.reduceAdd, Nat.reduceLT, Nat.reduceLeDiff, List.length_cons, List.length_nil, Nat.zero_add, if_true, if_false, reduceIte, and_self, and_true, true_and, eq_self, reduceCtorEq, gW hw, r_X5_bodyRow_33]
  | 2, _ =>
    show rn shP tb0 mN mO (semZ shP wS d) _ (codeZ 30) 38 [.ref w, .int (nI 2)] [] m = _
    simp only [EV, LV, CB, OI, OL, NP, CZ, popN, CT, OZ, List.map_nil, List.map_cons, List.sum_nil, List.sum_cons, Option.toList, List.nil_append, List.cons_append, Int.reduceToNat, Nat.reduceAdd, Nat.reduceLT, Nat.reduceLeDiff, List.length_cons, List.length_nil, Nat.zero_add, if_true, if_false, reduceIte, and_self, and_true, true_and, eq_self, reduceCtorEq, gW hw, r_X5_bodyRow_38]
  | 3, _ =>
    show rn shP tb0 mN mO (semZ shP wS d) _ (codeZ 30) 43 [.ref w, .int (nI 3)] [] m = _
    simp only [EV, LV, CB, OI, OL, NP, CZ, popN, CT, OZ, List.map_nil, List.map_cons, List.sum_nil, List.sum_cons, Option.toList, List.nil_append, List.cons_append, Int.reduceToNat, Nat.reduceAdd, Nat.reduceLT, Nat.reduceLeDiff, List.length_cons, List.length_nil, Nat.zero_add, if_true, if_false, reduceIte, and_self, and_true, true_and, eq_self, reduceCtorEq, gW hw, r_X5_bodyRow_43]
theorem t_may {A : Nat} (hA : A < 4) (c0 : m.1 1 0 = nI V) (v : Int32) : semZ shP wS (d + 2) 52 [.ref 0, .int (nI A), .int v] m = some (some (.int (bI (mayA V (nI A) v))), m) := by
  rw [se_X6_mayBecome, r_X6_mayBecome_0]
  simp only [EV, LV, CB, OI, OL, NP, CZ, popN, CT, OZ, List.map_nil, List.map_cons, List.sum_nil, List.sum_cons, Option.toList, List.nil_append, List.cons_append, Int.reduceToNat, Nat.reduceAdd, Nat.reduceLT, Nat.reduceLeDiff, List.length_cons, List.length_nil, Nat.zero_add, if_true, if_false, reduceIte, and_self, and_true, true_and, eq_self, reduceCtorEq, sw_may A hA]
  match A, hA with
  | 0, _ =>
    show rn shP tb0 mN mO (semZ shP wS (d + 1)) _ (codeZ 52) 28 [.ref 0, .int (nI 0), .int v] [] m = _
    simp only [EV, LV, CB, OI, OL, NP, CZ, popN, CT, OZ, List.map_nil, List.map_cons, List.sum_nil, List.sum_cons, Option.toList, List.nil_append, List.cons_append, Int.reduceToNat, Nat.reduceAdd, Nat.reduceLT, Nat.reduceLeDiff, List.length_cons, List.length_nil, Nat.zero_add, if_true, if_false, reduceIte, and_self, and_true, true_and, eq_self, reduceCtorEq, t_within wS d, r_X6_mayBecome_28, okb]
    rfl
  | 1, _ =>
    show rn shP tb0 mN mO (semZ shP wS (d + 1)) _ (codeZ 52) 35 [.ref 0, .int (nI 1), .int v] [] m = _
    simp only [EV, LV, CB, OI, OL, NP, CZ, popN, CT, OZ, List.map_nil, List.map_cons, List.sum_nil, List.sum_cons, Option.toList, List.nil_append, List.cons_append, Int.reduceToNat, Nat.reduceAdd, Nat.reduceLT, Nat.reduceLeDiff, List.length_cons, List.length_nil, Nat.zero_add, if_true, if_false, reduceIte, and_self, and_true, true_and, eq_self, reduceCtorEq, gP0, gW WP1, t_hasVillage wS d WP1, c0, r_X6_mayBecome_35, okb]
    rfl
  | 2, _ =>
    show rn shP tb0 mN mO (semZ shP wS (d + 1)) _ (codeZ 52) 44 [.ref 0, .int (nI 2), .int v] [] m = _
    simp only [EV, LV, CB, OI, OL, NP, CZ, popN, CT, OZ, List.map_nil, List.map_cons, List.sum_nil, List.sum_cons, Option.toList, List.nil_append, List.cons_append, Int.reduceToNat, Nat.reduceAdd, Nat.reduceLT, Nat.reduceLeDiff, List.length_cons, List.length_nil, Nat.zero_add, if_true, if_false, reduceIte, and_self, and_true, true_and, eq_self, reduceCtorEq, t_within wS d, r_X6_mayBecome_44, okb]
    rfl
  | 3, _ =>
    show rn shP tb0 mN mO (semZ shP wS (d + 1)) _ (codeZ 52) 44 [.ref 0, .int (nI 3), .int v] [] m = _
    simp only [EV, LV, CB, OI, OL, NP, CZ, popN, CT, OZ, List.map_nil, List.map_cons, List.sum_nil, List.sum_cons, Option.toList, List.nil_append, List.cons_append, Int.reduceToNat, Nat.reduceAdd, Nat.reduceLT, Nat.reduceLeDiff, List.length_cons, List.length_nil, Nat.zero_add, if_true, if_false, reduceIte, and_self, and_true, true_and, eq_self, reduceCtorEq, t_within wS d, r_X6_mayBecome_44, okb]
    rfl
theorem al59 (C : CallS) (L : List Value) (m : Mm) : rn shP tb0 mN mO C (some .int) (codeZ 145) 59 L [] m = rn shP tb0 mN mO C (some .int) (codeZ 145) 60 L [.int 0] m := by
  rw [r_X7_alter_59, r_X7_alter_60]
  rfl
theorem al_in (hV : V ≤ 4) (h3 : m.1 68 3 = nI V) (b a v : Int32) : semZ shP wS (d + 4) 145 [.ref 68, .int b, .int a, .int v] m = rn shP tb0 mN mO (semZ shP wS (d + 3)) (some .int) (codeZ 145) 60 [.ref 68, .int b, .int a, .int v, noV] [.int (bI (mayA V a v))] m := by
  have l1 := ltm (V := V) (by omega) v
  have d1 := dec64 v 0 3 0 3 (by decide) (by decide)
  have d2 := dec64 a 2 3 2 3 (by decide) (by decide)
  have d3 := dec64 v 0 9 0 9 (by decide) (by decide)
  have e10 : ¬ (1 : Int32) = 0 := by decide
  rw [se_X7_alter, r_X7_alter_0]
  unfold mayA
  by_cases a0 : a = 0
  · rw [if_pos a0]
    simp only [EV, LV, CB, OI, OL, NP, CZ, popN, CT, OZ, List.map_nil, List.map_cons, List.sum_nil, List.sum_cons, Option.toList, List.nil_append, List.cons_append, Int.reduceToNat, Nat.reduceAdd, Nat.reduceLT, Nat.reduceLeDiff, List.length_cons, List.length_nil, Nat.zero_add, if_true, if_false, reduceIte, and_self, and_true, true_and, eq_self, reduceCtorEq, a0, not_true_eq_false, t_in wS (d + 2), d1]
  · rw [if_neg a0]
    by_cases a1 : a = 1
    · rw [if_pos a1]
      subst a1
      simp only [EV, LV, CB, OI, OL, NP, CZ, popN, CT, OZ, List.map_nil, List.map_cons, List.sum_nil, List.sum_cons, Option.toList, List.nil_append, List.cons_append, Int.reduceToNat, Nat.reduceAdd, Nat.reduceLT, Nat.reduceLeDiff, List.length_cons, List.length_nil, Nat.zero_add, if_true, if_false, reduceIte, and_self, and_true, true_and, eq_self, reduceCtorEq, e10, not_false_eq_true, not_true_eq_false, gM MP68, r_X7_alter_16, t_isVillage wS (d + 1) MP68, h3, l1]
    · rw [if_neg a1]
      cases h2 : (decide (2 ≤ a) && decide (a ≤ 3)) with
      | false =>
        simp only [EV, LV, CB, OI, OL, NP, CZ, popN, CT, OZ, List.map_nil, List.map_cons, List.sum_nil, List.sum_cons, Option.toList, List.nil_append, List.cons_append, Int.reduceToNat, Nat.reduceAdd, Nat.reduceLT, Nat.reduceLeDiff, List.length_cons, List.length_nil, Nat.zero_add, if_true, if_false, reduceIte, and_self, and_true, true_and, eq_self, reduceCtorEq, a0, a1, not_false_eq_true, r_X7_alter_16, r_X7_alter_29, t_in wS (d + 2), d2, h2, bI_f, Bool.false_and]
        exact al59 _ _ _
      | true =>
        cases h9 : (decide (0 ≤ v) && decide (v ≤ 9)) with
        | false =>
          simp only [EV, LV, CB, OI, OL, NP, CZ, popN, CT, OZ, List.map_nil, List.map_cons, List.sum_nil, List.sum_cons, Option.toList, List.nil_append, List.cons_append, Int.reduceToNat, Nat.reduceAdd, Nat.reduceLT, Nat.reduceLeDiff, List.length_cons, List.length_nil, Nat.zero_add, if_true, if_false, reduceIte, and_self, and_true, true_and, eq_self, reduceCtorEq, a0, a1, not_false_eq_true, r_X7_alter_16, r_X7_alter_29, t_in wS (d + 2), d2, d3, h2, h9, bI_t, bI_f, e10, Bool.and_false]
          exact al59 _ _ _
        | true => simp only [EV, LV, CB, OI, OL, NP, CZ, popN, CT, OZ, List.map_nil, List.map_cons, List.sum_nil, List.sum_cons, Option.toList, List.nil_append, List.cons_append, Int.reduceToNat, Nat.reduceAdd, Nat.reduceLT, Nat.reduceLeDiff, List.length_cons, List.length_nil, Nat.zero_add, if_true, if_false, reduceIte, and_self, and_true, true_and, eq_self, reduceCtorEq, a0, a1, not_false_eq_true, r_X7_alter_16, r_X7_alter_29, t_in wS (d + 2), d2, d3, h2, h9, bI_t, e10, Bool.and_self]
theorem t_lies {B : Nat} (hB : B < 6) (m : Mm) : semZ shP wS (d + 1) 144 [.ref 68, .int (nI B)] m = some (some (.int (bI (decide (m.1 69 (8 + 5 * B + 4) = 0)))), m) := by
  have e := ix_85 B hB 4 (by omega)
  have e : (8 : Int32) + 5 * nI B + 4 = nI (8 + 5 * B + 4) := e
  have e2 : inR (nI (8 + 5 * B + 4)) 189 = true := inR_nI (by omega) (by omega)
  have e3 : (nI (8 + 5 * B + 4)).toNatClampNeg = 8 + 5 * B + 4 := nI_clamp (by omega)
  have o1 : okZ (some .boolean) 1 = true := by decide
  have o0 : okZ (some .boolean) 0 = true := by decide
  rw [se_X7_liesStill, r_X7_liesStill_0]
  by_cases q : m.1 69 (8 + 5 * B + 4) = 0
  · rw [decide_eq_true q]
    simp only [EV, LV, CB, OI, OL, NP, CZ, popN, CT, OZ, List.map_nil, List.map_cons, List.sum_nil, List.sum_cons, Option.toList, List.nil_append, List.cons_append, Int.reduceToNat, Nat.reduceAdd, Nat.reduceLT, Nat.reduceLeDiff, List.length_cons, List.length_nil, Nat.zero_add, if_true, if_false, reduceIte, and_self, and_true, true_and, eq_self, reduceCtorEq, gM MP68, aM MP68, e, e2, e3, q, not_true_eq_false, r_X7_liesStill_21, bI_t, o1]
  · rw [decide_eq_false q]
    simp only [EV, LV, CB, OI, OL, NP, CZ, popN, CT, OZ, List.map_nil, List.map_cons, List.sum_nil, List.sum_cons, Option.toList, List.nil_append, List.cons_append, Int.reduceToNat, Nat.reduceAdd, Nat.reduceLT, Nat.reduceLeDiff, List.length_cons, List.length_nil, Nat.zero_add, if_true, if_false, reduceIte, and_self, and_true, true_and, eq_self, reduceCtorEq, gM MP68, aM MP68, e, e2, e3, q, not_false_eq_true, r_X7_liesStill_20, bI_f, o0]
theorem Atf_v {f : Nat → Int32} (h : Atf V N f) (hV : V ≤ 4) {B A : Nat} (hB : B < N) (hA : A < 4) {v : Int32} (hm : mayA V (nI A) v = true) : Atf V N (upd f (8 + 5 * B + A) v) := by
  match A, hA, hm with
  | 0, _, hm =>
    have hm : (decide (0 ≤ v) && decide (v ≤ nI 3)) = true := hm
    obtain ⟨k, hk, rfl⟩ := in_nI (by omega) hm
    refine ⟨fun b hb => ?_, fun b hb => ?_, fun b hb => ?_⟩
    · rw [upd_n _ _ (by omega)]; exact h.1 b hb
    · by_cases e : b = B
      · rw [e]; exact ⟨k, by omega, upd_s _ _ _⟩
      · rw [upd_n _ _ (by omega)]; exact h.2.1 b hb
    · rw [upd_n _ _ (by omega), upd_n _ _ (by omega)]; exact h.2.2 b hb
  | 1, _, hm =>
    have hm : (decide (0 ≤ v) && decide (v < nI V)) = true := hm
    obtain ⟨k, hk, rfl⟩ := in_lt hm (by omega)
    refine ⟨fun b hb => ?_, fun b hb => ?_, fun b hb => ?_⟩
    · by_cases e : b = B
      · rw [e]; exact ⟨k, hk, upd_s _ _ _⟩
      · rw [upd_n _ _ (by omega)]; exact h.1 b hb
    · rw [upd_n _ _ (by omega)]; exact h.2.1 b hb
    · rw [upd_n _ _ (by omega), upd_n _ _ (by omega)]; exact h.2.2 b hb
  | 2, _, hm =>
    have hm : (decide (0 ≤ v) && decide (v ≤ nI 9)) = true := hm
    obtain ⟨k, hk, rfl⟩ := in_nI (by omega) hm
    refine ⟨fun b hb => ?_, fun b hb => ?_, fun b hb => ?_⟩
    · rw [upd_n _ _ (by omega)]; exact h.1 b hb
    · rw [upd_n _ _ (by omega)]; exact h.2.1 b hb
    · rw [upd_n _ _ (show 8 + 5 * b + 3 ≠ 8 + 5 * B + 2 by omega)]
      by_cases e : b = B
      · rw [e, upd_s]; exact ⟨⟨k, by omega, rfl⟩, (h.2.2 B hB).2⟩
      · rw [upd_n _ _ (by omega)]; exact h.2.2 b hb
  | 3, _, hm =>
    have hm : (decide (0 ≤ v) && decide (v ≤ nI 9)) = true := hm
    obtain ⟨k, hk, rfl⟩ := in_nI (by omega) hm
    refine ⟨fun b hb => ?_, fun b hb => ?_, fun b hb => ?_⟩
    · rw [upd_n _ _ (by omega)]; exact h.1 b hb
    · rw [upd_n _ _ (by omega)]; exact h.2.1 b hb
    · rw [upd_n _ _ (show 8 + 5 * b + 2 ≠ 8 + 5 * B + 3 by omega)]
      by_cases e : b = B
      · rw [e, upd_s]; exact ⟨(h.2.2 B hB).1, k, by omega, rfl⟩
      · rw [upd_n _ _ (by omega)]; exact h.2.2 b hb
theorem b_alter (b a v : Int32) (h : LNow V N m) : ∃ x m1 m2, semZ shP wS (d + 30) 51 [.ref 0, .int b, .int a, .int v] m = some (some (.int x), m1) ∧ semZ shP wS (d + 30) 145 [.ref 68, .int b, .int a, .int v] m1 = some (some (.int x), m2) ∧ LNow V N m2 := by
  have h0 := h
  obtain ⟨h3, hC, h6, hT, hA, hMB⟩ := h
  have hV := hC.1
  have hN := hC.2.1
  have c0 := hC.2.2.1
  have c1 := hC.2.2.2.1
  have c38 := hC.2.2.2.2.1
  have e10 : ¬ (1 : Int32) = 0 := by decide
  have l1 := ltm (V := N) (by omega) b
  have al := al_in (wS := wS) (d + 26) hV h3 b a v
  have al : semZ shP wS (d + 30) 145 [.ref 68, .int b, .int a, .int v] m = _ := al
  rw [se_X6_alter, r_X6_alter_0]
  cases hb : (decide (0 ≤ b) && decide (b < nI N)) with
  | false =>
    refine ⟨-1, m, m, ?_, ?_, h0⟩
    · simp only [EV, LV, CB, OI, OL, NP, CZ, popN, CT, OZ, List.map_nil, List.map_cons, List.sum_nil, List.sum_cons, Option.toList, List.nil_append, List.cons_append, Int.reduceToNat, Nat.reduceAdd, Nat.reduceLT, Nat.reduceLeDiff, List.length_cons, List.length_nil, Nat.zero_add, if_true, if_false, reduceIte, and_self, and_true, true_and, eq_self, reduceCtorEq, gP0, gW WP1, t_hasBody wS (d + 28) WP1, c1, hb, bI_f, r_X6_alter_29]
    · rw [al, r_X7_alter_60]
      simp only [EV, LV, CB, OI, OL, NP, CZ, popN, CT, OZ, List.map_nil, List.map_cons, List.sum_nil, List.sum_cons, Option.toList, List.nil_append, List.cons_append, Int.reduceToNat, Nat.reduceAdd, Nat.reduceLT, Nat.reduceLeDiff, List.length_cons, List.length_nil, Nat.zero_add, if_true, if_false, reduceIte, and_self, and_true, true_and, eq_self, reduceCtorEq, gM MP68, t_isBody wS (d + 27) MP68, c38, l1, hb, bI_f, r_X7_alter_75]
  | true =>
    obtain ⟨B, hB, rfl⟩ := in_lt hb (by omega)
    cases ha : (decide (0 ≤ a) && decide (a ≤ 3)) with
    | false =>
      rw [mayA_n ha] at al
      refine ⟨-1, m, m, ?_, ?_, h0⟩
      · simp only [EV, LV, CB, OI, OL, NP, CZ, popN, CT, OZ, List.map_nil, List.map_cons, List.sum_nil, List.sum_cons, Option.toList, List.nil_append, List.cons_append, Int.reduceToNat, Nat.reduceAdd, Nat.reduceLT, Nat.reduceLeDiff, List.length_cons, List.length_nil, Nat.zero_add, if_true, if_false, reduceIte, and_self, and_true, true_and, eq_self, reduceCtorEq, gP0, gW WP1, t_hasBody wS (d + 28) WP1, c1, hb, bI_t, e10, t_within wS (d + 28), ha, bI_f, r_X6_alter_29]
      · rw [al, r_X7_alter_60]
        simp only [EV, LV, CB, OI, OL, NP, CZ, popN, CT, OZ, List.map_nil, List.map_cons, List.sum_nil, List.sum_cons, Option.toList, List.nil_append, List.cons_append, Int.reduceToNat, Nat.reduceAdd, Nat.reduceLT, Nat.reduceLeDiff, List.length_cons, List.length_nil, Nat.zero_add, if_true, if_false, reduceIte, and_self, and_true, true_and, eq_self, reduceCtorEq, gM MP68, t_isBody wS (d + 27) MP68, c38, l1, hb, bI_t, bI_f, e10, not_true_eq_false]
    | true =>
      obtain ⟨A, hA1, rfl⟩ := in_nI (N := 3) (by decide) ha
      have hA1 : A < 4 := by omega
      have tm := t_may (wS := wS) (d + 27) hA1 c0 v
      cases hq : mayA V (nI A) v with
      | false =>
        rw [hq] at al tm
        refine ⟨-1, m, m, ?_, ?_, h0⟩
        · simp only [EV, LV, CB, OI, OL, NP, CZ, popN, CT, OZ, List.map_nil, List.map_cons, List.sum_nil, List.sum_cons, Option.toList, List.nil_append, List.cons_append, Int.reduceToNat, Nat.reduceAdd, Nat.reduceLT, Nat.reduceLeDiff, List.length_cons, List.length_nil, Nat.zero_add, if_true, if_false, reduceIte, and_self, and_true, true_and, eq_self, reduceCtorEq, gP0, gW WP1, t_hasBody wS (d + 28) WP1, c1, hb, bI_t, e10, t_within wS (d + 28), ha, tm, bI_f, not_true_eq_false]
        · rw [al, r_X7_alter_60]
          simp only [EV, LV, CB, OI, OL, NP, CZ, popN, CT, OZ, List.map_nil, List.map_cons, List.sum_nil, List.sum_cons, Option.toList, List.nil_append, List.cons_append, Int.reduceToNat, Nat.reduceAdd, Nat.reduceLT, Nat.reduceLeDiff, List.length_cons, List.length_nil, Nat.zero_add, if_true, if_false, reduceIte, and_self, and_true, true_and, eq_self, reduceCtorEq, gM MP68, t_isBody wS (d + 27) MP68, c38, l1, hb, bI_t, bI_f, e10, not_true_eq_false]
      | true =>
        rw [hq] at al tm
        have e4 : inR (nI B) 6 = true := inR_nI (by omega) (by omega)
        have e5 : (nI B).toNatClampNeg = B := nI_clamp (by omega)
        obtain ⟨b0, b1, b2, b3, b4⟩ := hC.2.2.2.2.2.2.2.2.2.2 B hB
        by_cases q : m.1 69 (8 + 5 * B + 4) = 0
        · have rw1 := t_row (wS := wS) (d + 28) WP1 hA1 m
          have ix := ix_85 B (by omega) A (by omega)
          have bA : m.1 (1 + 4 + A) B = m.1 69 (8 + 5 * B + A) := CW_at hC hB hA1
          have arr := arr1 A hA1
          have tb := t_becomes (wS := wS) (d + 28) (j := 8 + 5 * B + A) (by omega) v (wI m (1 + 4 + A) B v)
          rw [wI_o _ _ _ _ _ (by omega)] at tb
          have q3 : (wI m (1 + 4 + A) B v).1 68 3 = nI V := by rw [wI_o _ _ _ _ _ (by omega)]; exact h3
          have q38 : (wI m (1 + 4 + A) B v).1 69 38 = nI N := by rw [wI_o _ _ _ _ _ (by omega)]; exact c38
          have q4 : decide ((wI m (1 + 4 + A) B v).1 69 (8 + 5 * B + 4) = 0) = true := by rw [wI_o _ _ _ _ _ (by omega)]; exact decide_eq_true q
          have al2 := al_in (wS := wS) (d + 26) hV q3 (nI B) (nI A) v
          have al2 : semZ shP wS (d + 30) 145 [.ref 68, .int (nI B), .int (nI A), .int v] (wI m (1 + 4 + A) B v) = _ := al2
          rw [hq] at al2
          refine ⟨m.1 69 (8 + 5 * B + A), wI m (1 + 4 + A) B v, wI (wI m (1 + 4 + A) B v) 69 (8 + 5 * B + A) v, ?_, ?_, LNow_u h0 (by omega) (CW_f hC hB (by omega) v) ⟨Atf_v hA hV hB hA1 hq, MB_u hMB _ (fun g hg => by omega) (by omega) (by omega)⟩ (wI_o _ _ _ _ _ (by omega)) (wI_n _ _ _ _ (by omega)) (wI_o _ _ _ _ _ (by omega)) (wI_n _ _ _ _ (by omega))⟩
          · have g1 := al_of arr
            have g2 := as_of arr
            simp only [EV, LV, CB, OI, OL, NP, CZ, popN, CT, OZ, List.map_nil, List.map_cons, List.sum_nil, List.sum_cons, Option.toList, List.nil_append, List.cons_append, Int.reduceToNat, Nat.reduceAdd, Nat.reduceLT, Nat.reduceLeDiff, List.length_cons, List.length_nil, Nat.zero_add, if_true, if_false, reduceIte, and_self, and_true, true_and, eq_self, reduceCtorEq, gP0, gW WP1, aW WP1, t_hasBody wS (d + 28) WP1, c1, hb, bI_t, e10, t_within wS (d + 28), ha, tm, not_false_eq_true, r_X6_alter_31, e4, e5, b4, q, r_X6_alter_46, rw1]
            simp only [g1, g2, e4, e5, bA, if_true, EV, LV, CB, OI, OL, NP, CZ, popN, CT, OZ, List.map_nil, List.map_cons, List.sum_nil, List.sum_cons, Option.toList, List.nil_append, List.cons_append, Int.reduceToNat, Nat.reduceAdd, Nat.reduceLT, Nat.reduceLeDiff, List.length_cons, List.length_nil, Nat.zero_add, if_true, if_false, reduceIte, and_self, and_true, true_and, eq_self, reduceCtorEq]
          · rw [al2, r_X7_alter_60]
            simp only [EV, LV, CB, OI, OL, NP, CZ, popN, CT, OZ, List.map_nil, List.map_cons, List.sum_nil, List.sum_cons, Option.toList, List.nil_append, List.cons_append, Int.reduceToNat, Nat.reduceAdd, Nat.reduceLT, Nat.reduceLeDiff, List.length_cons, List.length_nil, Nat.zero_add, if_true, if_false, reduceIte, and_self, and_true, true_and, eq_self, reduceCtorEq, gM MP68, t_isBody wS (d + 27) MP68, q38, l1, hb, bI_t, e10, not_false_eq_true, r_X7_alter_77, t_lies (d + 28) (show B < 6 by omega), q4, ix, tb, r_X7_alter_103]
        · refine ⟨-2, m, m, ?_, ?_, h0⟩
          · simp only [EV, LV, CB, OI, OL, NP, CZ, popN, CT, OZ, List.map_nil, List.map_cons, List.sum_nil, List.sum_cons, Option.toList, List.nil_append, List.cons_append, Int.reduceToNat, Nat.reduceAdd, Nat.reduceLT, Nat.reduceLeDiff, List.length_cons, List.length_nil, Nat.zero_add, if_true, if_false, reduceIte, and_self, and_true, true_and, eq_self, reduceCtorEq, gP0, gW WP1, aW WP1, t_hasBody wS (d + 28) WP1, c1, hb, bI_t, e10, t_within wS (d + 28), ha, tm, not_false_eq_true, r_X6_alter_31, e4, e5, b4, q]
          · rw [al, r_X7_alter_60]
            simp only [EV, LV, CB, OI, OL, NP, CZ, popN, CT, OZ, List.map_nil, List.map_cons, List.sum_nil, List.sum_cons, Option.toList, List.nil_append, List.cons_append, Int.reduceToNat, Nat.reduceAdd, Nat.reduceLT, Nat.reduceLeDiff, List.length_cons, List.length_nil, Nat.zero_add, if_true, if_false, reduceIte, and_self, and_true, true_and, eq_self, reduceCtorEq, gM MP68, t_isBody wS (d + 27) MP68, c38, l1, hb, bI_t, e10, not_false_eq_true, r_X7_alter_77, t_lies (d + 28) (show B < 6 by omega), decide_eq_false q, bI_f, r_X7_alter_101]
end Ba
end
section
/-! find, nights of both -/
theorem CW_x {w V N : Nat} {f : Nat → Int32} {m : Mm} (h : CW w V N f m) (hN : N < 6) (x : Int32) : CW w V N (upd f (8 + 5 * N + 4) x) m := by
  obtain ⟨c1, c2, c3, c4, c5, c6, c7, c8, c9, hg, hb⟩ := h
  refine ⟨c1, c2, c3, c4, by rw [upd_n _ _ (by omega)]; exact c5, by rw [upd_n _ _ (by omega)]; exact c6, by rw [upd_n _ _ (by omega)]; exact c7, by rw [upd_n _ _ (by omega)]; exact c8, by rw [upd_n _ _ (by omega)]; exact c9, fun g hg2 => ?_, fun q hq => ?_⟩
  · rw [upd_n _ _ (by omega), upd_n _ _ (by omega)]
    exact hg g hg2
  · rw [upd_n _ _ (by omega), upd_n _ _ (by omega), upd_n _ _ (by omega), upd_n _ _ (by omega), upd_n _ _ (by omega)]
    exact hb q hq
def fdF (f : Nat → Int32) (N : Nat) (k g a b : Int32) : Nat → Int32 := upd (upd (upd (upd (upd (upd f (8 + 5 * N) k) (8 + 5 * N + 1) g) (8 + 5 * N + 2) a) (8 + 5 * N + 3) b) (8 + 5 * N + 4) 0) 38 (nI (N + 1))
theorem bdF_4 (f : Nat → Int32) (N : Nat) (k g a b : Int32) : bdF (upd f (8 + 5 * N + 4) 0) N k g a b = fdF f N k g a b := by
  unfold bdF fdF
  rw [upd_cm f 0 k (show 8 + 5 * N + 4 ≠ 8 + 5 * N by omega), upd_cm _ 0 g (show 8 + 5 * N + 4 ≠ 8 + 5 * N + 1 by omega), upd_cm _ 0 a (show 8 + 5 * N + 4 ≠ 8 + 5 * N + 2 by omega), upd_cm _ 0 b (show 8 + 5 * N + 4 ≠ 8 + 5 * N + 3 by omega)]
theorem fdF_at {V N : Nat} {f : Nat → Int32} (h : Atf V N f) (hN : N < 6) {K G : Nat} (hK : K < 4) (hG : G < V) {x y : Nat} (hx : x < 10) (hy : y < 10) : Atf V (N + 1) (fdF f N (nI K) (nI G) (nI x) (nI y)) := by
  unfold fdF
  refine ⟨fun c hc => ?_, fun c hc => ?_, fun c hc => ?_⟩
  · by_cases e : c = N
    · rw [e, upd_n _ _ (by omega), upd_n _ _ (by omega), upd_n _ _ (by omega), upd_n _ _ (by omega), upd_s]
      exact ⟨G, hG, rfl⟩
    · rw [upd_n _ _ (by omega), upd_n _ _ (by omega), upd_n _ _ (by omega), upd_n _ _ (by omega), upd_n _ _ (by omega), upd_n _ _ (by omega)]
      exact h.1 c (by omega)
  · by_cases e : c = N
    · rw [e, upd_n _ _ (by omega), upd_n _ _ (by omega), upd_n _ _ (by omega), upd_n _ _ (by omega), upd_n _ _ (by omega), upd_s]
      exact ⟨K, hK, rfl⟩
    · rw [upd_n _ _ (by omega), upd_n _ _ (by omega), upd_n _ _ (by omega), upd_n _ _ (by omega), upd_n _ _ (by omega), upd_n _ _ (by omega)]
      exact h.2.1 c (by omega)
  · by_cases e : c = N
    · rw [e, upd_n _ _ (show 8 + 5 * N + 2 ≠ 38 by omega), upd_n _ _ (show 8 + 5 * N + 2 ≠ 8 + 5 * N + 4 by omega), upd_n _ _ (show 8 + 5 * N + 2 ≠ 8 + 5 * N + 3 by omega), upd_s, upd_n _ _ (show 8 + 5 * N + 3 ≠ 38 by omega), upd_n _ _ (show 8 + 5 * N + 3 ≠ 8 + 5 * N + 4 by omega), upd_s]
      exact ⟨⟨x, hx, rfl⟩, y, hy, rfl⟩
    · have z : ∀ i, i < 5 → upd (upd (upd (upd (upd (upd f (8 + 5 * N) (nI K)) (8 + 5 * N + 1) (nI G)) (8 + 5 * N + 2) (nI x)) (8 + 5 * N + 3) (nI y)) (8 + 5 * N + 4) 0) 38 (nI (N + 1)) (8 + 5 * c + i) = f (8 + 5 * c + i) := fun i hi => by rw [upd_n _ _ (by omega), upd_n _ _ (by omega), upd_n _ _ (by omega), upd_n _ _ (by omega), upd_n _ _ (by omega), upd_n _ _ (by omega)]
      rw [z 2 (by omega), z 3 (by omega)]
      exact h.2.2 c (by omega)
theorem fdF_mb {V N : Nat} {f : Nat → Int32} (h : MB V f) (hV : V ≤ 4) (hN : N < 6) (k g a b : Int32) : MB V (fdF f N k g a b) := by
  unfold fdF
  exact MB_u (MB_u (MB_u (MB_u (MB_u (MB_u h _ (fun g hg => by omega) (by omega) (by omega)) _ (fun g hg => by omega) (by omega) (by omega)) _ (fun g hg => by omega) (by omega) (by omega)) _ (fun g hg => by omega) (by omega) (by omega)) _ (fun g hg => by omega) (by omega) (by omega)) _ (fun g hg => by omega) (by omega) (by omega)
theorem LNow_g {V N N' : Nat} {F : Nat → Int32} {m m1 m2 : Mm} (h : LNow V N m) (q9 : ∀ j, j < 44 → m2.1 69 j = F j) (hC : CW 1 V N' F m1) (hA : ALd V N' F) (e6 : m1.1 1 6 = F 43) (e4 : m1.1 4 = m.1 4) (e3 : m2.1 68 3 = m.1 68 3) (eo : ∀ o, 1 ≤ o → o ≤ 9 → m2.1 o = m1.1 o) : LNow V N' m2 := by
  obtain ⟨h3, -, -, hT, -⟩ := h
  refine ⟨by rw [e3]; exact h3, CW_e hC q9 (fun o j a b _ => by rw [eo o (by omega) (by omega)]), ?_, fun j hj => by rw [eo 4 (by omega) (by omega), e4]; exact hT j hj, ALd_e hA hC.1 hC.2.1 q9⟩
  rw [eo 1 (by omega) (by omega), q9 43 (by omega)]
  exact e6
section Bf
variable {wS : List Value → Mm → Option Rs} (d : Nat) {V N : Nat} {m : Mm}
theorem t_addF {w : Nat} (hw : WSh shP w) (h0 : m.1 w 1 = nI 6) (k v a b : Int32) : semZ shP wS (d + 1) 29 [.ref w, .int k, .int v, .int a, .int b] m = some (some (.int 0), m) := by
  have e1 : ¬ nI 6 < (6 : Int32) := by decide
  rw [se_X5_addBody, r_X5_addBody_0]
  simp only [EV, LV, CB, OI, OL, NP, CZ, popN, CT, OZ, List.map_nil, List.map_cons, List.sum_nil, List.sum_cons, Option.toList, List.nil_append, List.cons_append, Int.reduceToNat, Nat.reduceAdd, Nat.reduceLT, Nat.reduceLeDiff, List.length_cons, List.length_nil, Nat.zero_add, if_true, if_false, reduceIte, and_self, and_true, true_and, eq_self, reduceCtorEq, gW hw, h0, e1]
/-- find of both -/
theorem b_find (k g a b : Int32) (h : LNow V N m) : ∃ x m1 m2, semZ shP wS (d + 30) 54 [.ref 0, .int k, .int g, .int a, .int b] m = some (some (.int x), m1) ∧ semZ shP wS (d + 30) 147 [.ref 68, .int k, .int g, .int a, .int b] m1 = some (some (.int x), m2) ∧ ∃ N', N ≤ N' ∧ LNow V N' m2 := by
  have h0 := h
  obtain ⟨h3, hC, h6, hT, hA, hMB⟩ := h
  have hV := hC.1
  have hN := hC.2.1
  have c0 := hC.2.2.1
  have c1 := hC.2.2.2.1
  have c38 := hC.2.2.2.2.1
  have e10 : ¬ (1 : Int32) = 0 := by decide
  have l1 := ltm (V := V) (by omega) g
  have d1 := dec64 k 0 3 0 3 (by decide) (by decide)
  have d2 := dec64 a 0 9 0 9 (by decide) (by decide)
  have d3 := dec64 b 0 9 0 9 (by decide) (by decide)
  rw [se_X6_find, r_X6_find_0]
  simp only [EV, LV, CB, OI, OL, NP, CZ, popN, CT, OZ, List.map_nil, List.map_cons, List.sum_nil, List.sum_cons, Option.toList, List.nil_append, List.cons_append, Int.reduceToNat, Nat.reduceAdd, Nat.reduceLT, Nat.reduceLeDiff, List.length_cons, List.length_nil, Nat.zero_add, if_true, if_false, reduceIte, and_self, and_true, true_and, eq_self, reduceCtorEq, gP0]
  rw [se_X6_addFound, r_X6_addFound_0]
  cases hk : (decide (0 ≤ k) && decide (k ≤ 3)) with
  | false =>
    refine ⟨-1, m, m, ?_, ?_, N, Nat.le_refl _, h0⟩
    · simp only [EV, LV, CB, OI, OL, NP, CZ, popN, CT, OZ, List.map_nil, List.map_cons, List.sum_nil, List.sum_cons, Option.toList, List.nil_append, List.cons_append, Int.reduceToNat, Nat.reduceAdd, Nat.reduceLT, Nat.reduceLeDiff, List.length_cons, List.length_nil, Nat.zero_add, if_true, if_false, reduceIte, and_self, and_true, true_and, eq_self, reduceCtorEq, t_within wS (d + 27), hk, bI_f, r_X6_addFound_20]
    · rw [se_X7_find, r_X7_find_0]
      simp only [EV, LV, CB, OI, OL, NP, CZ, popN, CT, OZ, List.map_nil, List.map_cons, List.sum_nil, List.sum_cons, Option.toList, List.nil_append, List.cons_append, Int.reduceToNat, Nat.reduceAdd, Nat.reduceLT, Nat.reduceLeDiff, List.length_cons, List.length_nil, Nat.zero_add, if_true, if_false, reduceIte, and_self, and_true, true_and, eq_self, reduceCtorEq, t_in wS (d + 28), d1, hk, bI_f, r_X7_find_45]
  | true =>
    cases hg : (decide (0 ≤ g) && decide (g < nI V)) with
    | false =>
      refine ⟨-1, m, m, ?_, ?_, N, Nat.le_refl _, h0⟩
      · simp only [EV, LV, CB, OI, OL, NP, CZ, popN, CT, OZ, List.map_nil, List.map_cons, List.sum_nil, List.sum_cons, Option.toList, List.nil_append, List.cons_append, Int.reduceToNat, Nat.reduceAdd, Nat.reduceLT, Nat.reduceLeDiff, List.length_cons, List.length_nil, Nat.zero_add, if_true, if_false, reduceIte, and_self, and_true, true_and, eq_self, reduceCtorEq, t_within wS (d + 27), hk, bI_t, e10, gP0, gW WP1, t_hasVillage wS (d + 27) WP1, c0, hg, bI_f, not_true_eq_false]
      · rw [se_X7_find, r_X7_find_0]
        simp only [EV, LV, CB, OI, OL, NP, CZ, popN, CT, OZ, List.map_nil, List.map_cons, List.sum_nil, List.sum_cons, Option.toList, List.nil_append, List.cons_append, Int.reduceToNat, Nat.reduceAdd, Nat.reduceLT, Nat.reduceLeDiff, List.length_cons, List.length_nil, Nat.zero_add, if_true, if_false, reduceIte, and_self, and_true, true_and, eq_self, reduceCtorEq, gM MP68, t_in wS (d + 28), d1, hk, bI_t, e10, t_isVillage wS (d + 27) MP68, h3, l1, hg, bI_f, r_X7_find_45]
    | true =>
      cases ha : (decide (0 ≤ a) && decide (a ≤ 9)) with
      | false =>
        refine ⟨-1, m, m, ?_, ?_, N, Nat.le_refl _, h0⟩
        · simp only [EV, LV, CB, OI, OL, NP, CZ, popN, CT, OZ, List.map_nil, List.map_cons, List.sum_nil, List.sum_cons, Option.toList, List.nil_append, List.cons_append, Int.reduceToNat, Nat.reduceAdd, Nat.reduceLT, Nat.reduceLeDiff, List.length_cons, List.length_nil, Nat.zero_add, if_true, if_false, reduceIte, and_self, and_true, true_and, eq_self, reduceCtorEq, t_within wS (d + 27), hk, bI_t, e10, gP0, gW WP1, t_hasVillage wS (d + 27) WP1, c0, hg, not_false_eq_true, r_X6_addFound_22, ha, bI_f, r_X6_addFound_43]
        · rw [se_X7_find, r_X7_find_0]
          simp only [EV, LV, CB, OI, OL, NP, CZ, popN, CT, OZ, List.map_nil, List.map_cons, List.sum_nil, List.sum_cons, Option.toList, List.nil_append, List.cons_append, Int.reduceToNat, Nat.reduceAdd, Nat.reduceLT, Nat.reduceLeDiff, List.length_cons, List.length_nil, Nat.zero_add, if_true, if_false, reduceIte, and_self, and_true, true_and, eq_self, reduceCtorEq, gM MP68, t_in wS (d + 28), d1, d2, hk, bI_t, e10, t_isVillage wS (d + 27) MP68, h3, l1, hg, ha, bI_f, r_X7_find_45]
      | true =>
        cases hb : (decide (0 ≤ b) && decide (b ≤ 9)) with
        | false =>
          refine ⟨-1, m, m, ?_, ?_, N, Nat.le_refl _, h0⟩
          · simp only [EV, LV, CB, OI, OL, NP, CZ, popN, CT, OZ, List.map_nil, List.map_cons, List.sum_nil, List.sum_cons, Option.toList, List.nil_append, List.cons_append, Int.reduceToNat, Nat.reduceAdd, Nat.reduceLT, Nat.reduceLeDiff, List.length_cons, List.length_nil, Nat.zero_add, if_true, if_false, reduceIte, and_self, and_true, true_and, eq_self, reduceCtorEq, t_within wS (d + 27), hk, bI_t, e10, gP0, gW WP1, t_hasVillage wS (d + 27) WP1, c0, hg, not_false_eq_true, r_X6_addFound_22, ha, hb, bI_f, not_true_eq_false]
          · rw [se_X7_find, r_X7_find_0]
            simp only [EV, LV, CB, OI, OL, NP, CZ, popN, CT, OZ, List.map_nil, List.map_cons, List.sum_nil, List.sum_cons, Option.toList, List.nil_append, List.cons_append, Int.reduceToNat, Nat.reduceAdd, Nat.reduceLT, Nat.reduceLeDiff, List.length_cons, List.length_nil, Nat.zero_add, if_true, if_false, reduceIte, and_self, and_true, true_and, eq_self, reduceCtorEq, gM MP68, t_in wS (d + 28), d1, d2, d3, hk, bI_t, e10, t_isVillage wS (d + 27) MP68, h3, l1, hg, ha, hb, bI_f, not_true_eq_false]
        | true =>
          have i38 : inR 38 189 = true ∧ (38 : Int32).toNatClampNeg = 38 := by decide +kernel
          by_cases n6 : N = 6
          · subst n6
            have tf := t_addF (wS := wS) (d + 27) WP1 c1 k g a b
            have z6 : nI 6 = (6 : Int32) := by decide
            refine ⟨-3, m, m, ?_, ?_, 6, Nat.le_refl _, h0⟩
            · simp only [EV, LV, CB, OI, OL, NP, CZ, popN, CT, OZ, List.map_nil, List.map_cons, List.sum_nil, List.sum_cons, Option.toList, List.nil_append, List.cons_append, Int.reduceToNat, Nat.reduceAdd, Nat.reduceLT, Nat.reduceLeDiff, List.length_cons, List.length_nil, Nat.zero_add, if_true, if_false, reduceIte, and_self, and_true, true_and, eq_self, reduceCtorEq, t_within wS (d + 27), hk, bI_t, e10, gP0, gW WP1, t_hasVillage wS (d + 27) WP1, c0, hg, not_false_eq_true, r_X6_addFound_22, ha, hb, r_X6_addFound_45, tf, r_X6_addFound_72]
            · rw [se_X7_find, r_X7_find_0]
              simp only [EV, LV, CB, OI, OL, NP, CZ, popN, CT, OZ, List.map_nil, List.map_cons, List.sum_nil, List.sum_cons, Option.toList, List.nil_append, List.cons_append, Int.reduceToNat, Nat.reduceAdd, Nat.reduceLT, Nat.reduceLeDiff, List.length_cons, List.length_nil, Nat.zero_add, if_true, if_false, reduceIte, and_self, and_true, true_and, eq_self, reduceCtorEq, gM MP68, aM MP68, t_in wS (d + 28), d1, d2, d3, hk, bI_t, e10, t_isVillage wS (d + 27) MP68, h3, l1, hg, ha, hb, not_false_eq_true, r_X7_find_47, i38, c38, z6, not_true_eq_false]
          · have hN6 : N < 6 := by omega
            obtain ⟨K, hK, rfl⟩ := in_nI (N := 3) (by decide) hk
            obtain ⟨G, hG, rfl⟩ := in_lt hg (by omega)
            have z6 : ¬ nI N = (6 : Int32) := fun z => by
              have := (nI_eq (a := N) (b := 6) (by omega) (by omega)).mp z
              omega
            obtain ⟨M, eM⟩ : ∃ M, M = wI (wI (wI (wI (wI (wI m (1 + 4) N (nI K)) (1 + 5) N (nI G)) (1 + 6) N a) (1 + 7) N b) (1 + 8) N 0) 1 1 (nI (N + 1)) := ⟨_, rfl⟩
            have ta := t_addB wS (d + 27) WP1 hN6 (nI K) (nI G) a b m c1
            have cb := CW_b (CW_x hC hN6 0) (upd_s _ _ _) hN6 (nI K) (nI G) a b
            rw [bdF_4] at cb
            rw [← eM] at ta cb
            have m11 : M.1 1 1 = nI (N + 1) := by rw [eM, wI_s]
            have mo : ∀ o, 10 ≤ o → M.1 o = m.1 o := fun o ho => by rw [eM, wI_n _ _ _ _ (by omega), wI_n _ _ _ _ (by omega), wI_n _ _ _ _ (by omega), wI_n _ _ _ _ (by omega), wI_n _ _ _ _ (by omega), wI_n _ _ _ _ (by omega)]
            have m9 := mo 69 (by omega)
            have m3 : M.1 68 3 = nI V := by rw [mo 68 (by omega)]; exact h3
            have m38 : M.1 69 38 = nI N := by rw [m9]; exact c38
            have m16 : M.1 1 6 = m.1 1 6 := by rw [eM, wI_j _ _ _ _ _ (by omega), wI_o _ _ _ _ _ (by omega), wI_o _ _ _ _ _ (by omega), wI_o _ _ _ _ _ (by omega), wI_o _ _ _ _ _ (by omega), wI_o _ _ _ _ _ (by omega)]
            have m4 : M.1 4 = m.1 4 := by rw [eM, wI_n _ _ _ _ (by omega), wI_n _ _ _ _ (by omega), wI_n _ _ _ _ (by omega), wI_n _ _ _ _ (by omega), wI_n _ _ _ _ (by omega), wI_n _ _ _ _ (by omega)]
            obtain ⟨P, eP⟩ : ∃ P, P = wI (wI (wI (wI (wI M 69 (8 + 5 * N) (nI K)) 69 (8 + 5 * N + 1) (nI G)) 69 (8 + 5 * N + 2) a) 69 (8 + 5 * N + 3) b) 69 (8 + 5 * N + 4) 0 := ⟨_, rfl⟩
            have p38 : P.1 69 38 = nI N := by rw [eP, wI_j _ _ _ _ _ (by omega), wI_j _ _ _ _ _ (by omega), wI_j _ _ _ _ _ (by omega), wI_j _ _ _ _ _ (by omega), wI_j _ _ _ _ _ (by omega)]; exact m38
            have p38' : (wI P 69 38 (nI (N + 1))).1 69 38 = nI (N + 1) := wI_s _ _ _ _
            have i0 : (8 : Int32) + 5 * nI N + 0 = nI (8 + 5 * N) := ix_85 N hN6 0 (by omega)
            have i1 : (8 : Int32) + 5 * nI N + 1 = nI (8 + 5 * N + 1) := ix_85 N hN6 1 (by omega)
            have i2 : (8 : Int32) + 5 * nI N + 2 = nI (8 + 5 * N + 2) := ix_85 N hN6 2 (by omega)
            have i3 : (8 : Int32) + 5 * nI N + 3 = nI (8 + 5 * N + 3) := ix_85 N hN6 3 (by omega)
            have i4 : (8 : Int32) + 5 * nI N + 4 = nI (8 + 5 * N + 4) := ix_85 N hN6 4 (by omega)
            have r0 : inR (nI (8 + 5 * N)) 189 = true ∧ (nI (8 + 5 * N)).toNatClampNeg = 8 + 5 * N := ⟨inR_nI (by omega) (by omega), nI_clamp (by omega)⟩
            have r1 : inR (nI (8 + 5 * N + 1)) 189 = true ∧ (nI (8 + 5 * N + 1)).toNatClampNeg = 8 + 5 * N + 1 := ⟨inR_nI (by omega) (by omega), nI_clamp (by omega)⟩
            have r2 : inR (nI (8 + 5 * N + 2)) 189 = true ∧ (nI (8 + 5 * N + 2)).toNatClampNeg = 8 + 5 * N + 2 := ⟨inR_nI (by omega) (by omega), nI_clamp (by omega)⟩
            have r3 : inR (nI (8 + 5 * N + 3)) 189 = true ∧ (nI (8 + 5 * N + 3)).toNatClampNeg = 8 + 5 * N + 3 := ⟨inR_nI (by omega) (by omega), nI_clamp (by omega)⟩
            have r4 : inR (nI (8 + 5 * N + 4)) 189 = true ∧ (nI (8 + 5 * N + 4)).toNatClampNeg = 8 + 5 * N + 4 := ⟨inR_nI (by omega) (by omega), nI_clamp (by omega)⟩
            have f9 : (wI P 69 38 (nI (N + 1))).1 69 = fdF (m.1 69) N (nI K) (nI G) a b := by rw [wI_r, eP, wI_r, wI_r, wI_r, wI_r, wI_r, m9]; rfl
            have f43 : fdF (m.1 69) N (nI K) (nI G) a b 43 = m.1 69 43 := by
              unfold fdF
              rw [upd_n _ _ (by omega), upd_n _ _ (by omega), upd_n _ _ (by omega), upd_n _ _ (by omega), upd_n _ _ (by omega), upd_n _ _ (by omega)]
            have po : ∀ o, o ≠ 69 → (wI P 69 38 (nI (N + 1))).1 o = M.1 o := fun o ho => by rw [wI_n _ _ _ _ ho, eP, wI_n _ _ _ _ ho, wI_n _ _ _ _ ho, wI_n _ _ _ _ ho, wI_n _ _ _ _ ho, wI_n _ _ _ _ ho]
            refine ⟨nI (N + 1) - 1, M, wI P 69 38 (nI (N + 1)), ?_, ?_, N + 1, by omega, LNow_g h0 (fun j _ => by rw [f9]) cb (by obtain ⟨x, hx, rfl⟩ := in_nI (N := 9) (by decide) ha; obtain ⟨y, hy, rfl⟩ := in_nI (N := 9) (by decide) hb; exact ⟨fdF_at hA hN6 (by omega) hG (by omega) (by omega), fdF_mb hMB hV hN6 _ _ _ _⟩) (by rw [f43, m16]; exact h6) m4 (by rw [po 68 (by omega), mo 68 (by omega)]) (fun o _ _ => po o (by omega))⟩
            · simp only [EV, LV, CB, OI, OL, NP, CZ, popN, CT, OZ, List.map_nil, List.map_cons, List.sum_nil, List.sum_cons, Option.toList, List.nil_append, List.cons_append, Int.reduceToNat, Nat.reduceAdd, Nat.reduceLT, Nat.reduceLeDiff, List.length_cons, List.length_nil, Nat.zero_add, if_true, if_false, reduceIte, and_self, and_true, true_and, eq_self, reduceCtorEq, t_within wS (d + 27), hk, bI_t, e10, gP0, gW WP1, t_hasVillage wS (d + 27) WP1, c0, hg, not_false_eq_true, r_X6_addFound_22, ha, hb, r_X6_addFound_45, ta, m11, r_X6_addFound_74]
            · rw [se_X7_find, r_X7_find_0]
              simp only [EV, LV, CB, OI, OL, NP, CZ, popN, CT, OZ, List.map_nil, List.map_cons, List.sum_nil, List.sum_cons, Option.toList, List.nil_append, List.cons_append, Int.reduceToNat, Nat.reduceAdd, Nat.reduceLT, Nat.reduceLeDiff, List.length_cons, List.length_nil, Nat.zero_add, if_true, if_false, reduceIte, and_self, and_true, true_and, eq_self, reduceCtorEq, gM MP68, aM MP68, sM MP68, t_in wS (d + 28), d1, d2, d3, hk, bI_t, e10, t_isVillage wS (d + 27) MP68, m3, l1, hg, ha, hb, not_false_eq_true, r_X7_find_47, i38, m38, z6, r_X7_find_62, i0, i1, i2, i3, i4, r0, r1, r2, r3, r4, ← eP, p38, nI_1, p38']
end Bf
end
section
/-! nights of both -/
variable {kb : Nat}
theorem nsF_o {V N : Nat} {t : Nat → Nat} (ht : ∀ i, i < V → t i < V) (hV : V ≤ 4) (hN : N ≤ 6) {j : Nat} (hj : 44 ≤ j) : ∀ k f r, AtB kb V N f → nsF V N t k f r j = f j := by
  intro k
  induction k with
  | zero => intro f r _; rfl
  | succ k ih =>
    intro f r ha
    have na := ng_at ht hV hN r ha
    unfold nsF
    rw [ih _ _ na.1]
    exact na.2.1 j (by omega) (by omega) (by omega)
theorem lt1000 (x : Int32) : (x < 1000) = (x ≤ 999) := by
  apply propext
  rw [Int32.lt_iff_toInt_lt, Int32.le_iff_toInt_le, show (1000 : Int32).toInt = 1000 from by decide, show (999 : Int32).toInt = 999 from by decide]
  omega
section Bn
variable {wS : List Value → Mm → Option Rs} (d : Nat) {V N : Nat} {m : Mm}
theorem r41 (hI : InvT TV m) : 0 < m.1 69 41 := by
  have i := hI 69 41
  rw [iv_at.2] at i
  have i1 : 1 ≤ (m.1 69 41).toInt := i.1
  rw [Int32.lt_iff_toInt_lt, show (0 : Int32).toInt = 0 from by decide]
  omega
theorem b_nights (n : Int32) (hI : InvT TV m) (h : LNow V N m) : ∃ x m1 m2, semZ shP wS (d + 30) 57 [.ref 0, .int n] m = some (some (.int x), m1) ∧ semZ shP wS (d + 30) 149 [.ref 68, .int n] m1 = some (some (.int x), m2) ∧ LNow V N m2 ∧ ∀ j, 44 ≤ j → j ≤ 62 → m2.1 69 j = m.1 69 j := by
  have h0 := h
  obtain ⟨h3, hC, h6, hT, hA, hMB⟩ := h
  have hV := hC.1
  have hN := hC.2.1
  have c5 := hC.2.2.2.2.2.2.2.2.1
  have e10 : ¬ (1 : Int32) = 0 := by decide
  have d1 := dec64 n 0 30 0 30 (by decide) (by decide)
  have i42 : inR 42 189 = true ∧ (42 : Int32).toNatClampNeg = 42 := by decide +kernel
  rw [se_X6_nights, r_X6_nights_0]
  cases hn : (decide (0 ≤ n) && decide (n ≤ 30)) with
  | false =>
    refine ⟨-1, m, m, ?_, ?_, h0, fun _ _ _ => rfl⟩
    · simp only [EV, LV, CB, OI, OL, NP, CZ, popN, CT, OZ, List.map_nil, List.map_cons, List.sum_nil, List.sum_cons, Option.toList, List.nil_append, List.cons_append, Int.reduceToNat, Nat.reduceAdd, Nat.reduceLT, Nat.reduceLeDiff, List.length_cons, List.length_nil, Nat.zero_add, if_true, if_false, reduceIte, and_self, and_true, true_and, eq_self, reduceCtorEq, t_within wS (d + 28), hn, bI_f, not_true_eq_false]
    · rw [se_X7_nights, r_X7_nights_0]
      simp only [EV, LV, CB, OI, OL, NP, CZ, popN, CT, OZ, List.map_nil, List.map_cons, List.sum_nil, List.sum_cons, Option.toList, List.nil_append, List.cons_append, Int.reduceToNat, Nat.reduceAdd, Nat.reduceLT, Nat.reduceLeDiff, List.length_cons, List.length_nil, Nat.zero_add, if_true, if_false, reduceIte, and_self, and_true, true_and, eq_self, reduceCtorEq, t_in wS (d + 28), d1, hn, bI_f, not_true_eq_false]
  | true =>
    by_cases q : m.1 69 42 + n < 1000
    · obtain ⟨K, hK, rfl⟩ := in_nI (N := 30) (by decide) hn
      have q' : m.1 69 42 + nI K ≤ 999 := by rw [← lt1000]; exact q
      obtain ⟨F, eF⟩ : ∃ F, F = fillR (m.1 69) (m.1 70) 63 := ⟨_, rfl⟩
      have eF' : ∀ j, j < 63 → F j = m.1 69 j := fun j hj => by
        rw [eF]
        unfold fillR
        rw [if_pos hj]
      have hC' : CW 1 V N F m := CW_e hC (fun j hj => eF' j (by omega)) (fun _ _ _ _ _ => rfl)
      have hA' : Atf V N F := Atf_e hA hN (fun j hj => eF' j (by omega))
      have ht : ∀ i, i < V → id i < V := fun i hi => hi
      have hr : 0 < F 41 := by rw [eF' 41 (by omega)]; exact r41 hI
      obtain ⟨m1, r1, k1, -, k6, kF, kA⟩ := t_passC wS (d + 25) WP1 (t := id) ht (n := K) (by omega) hC' hA' (fun i hi => hT i (by omega)) hr 0
      have r1 : semZ shP wS (d + 29) 37 [.ref 1, .int (nI K)] m = _ := r1
      have e6 : m1.1 1 6 = nsF V N id K F 0 43 := by
        rw [k6, h6, ← eF' 43 (by omega)]
        exact nsQ_43 ht hV hN K F 0 hA' (Int32.or_zero)
      have mo : ∀ o, 9 < o → m1.1 o = m.1 o := fun o ho => kF.1 o (by omega)
      obtain ⟨P, eP⟩ : ∃ P, P = setR (setR m1 (68 + 2) (fillR (m1.1 (68 + 1)) (m1.1 (68 + 2)) 63)) (68 + 6) (fillR nI (m1.1 (68 + 6)) 4) := ⟨_, rfl⟩
      have ts := t_starts (wS := wS) (d + 28) MP68 m1
      rw [← eP] at ts
      have ts : semZ shP wS (d + 29) 123 [.ref 68] m1 = some (none, P) := ts
      have p70 : P.1 70 = F := by rw [eP, setR_n _ _ (by omega), setR_s, mo (68 + 1) (by omega), mo (68 + 2) (by omega), eF]
      have p74 : ∀ i, i < V → P.1 74 i = nI (id i) := fun i hi => by
        rw [eP, setR_s]
        unfold fillR
        rw [if_pos (by omega)]
        rfl
      have po : ∀ o, o ≠ 70 → o ≠ 74 → P.1 o = m1.1 o := fun o a b => by rw [eP, setR_n _ _ (by omega), setR_n _ _ (by omega)]
      obtain ⟨M, r2, g70, -, -, gF⟩ := t_paidM wS (d + 23) (m := P) (t := id) hV hN ht (n := K) (by omega) (by rw [po 68 (by omega) (by omega), mo 68 (by omega)]; exact h3) (by rw [p70, eF' 38 (by omega)]; exact hC.2.2.2.2.1) (by rw [p70]; exact hA') p74 (by rw [p70]; exact hr)
      have r2 : semZ shP wS (d + 29) 135 [.ref 68, .int (nI K)] P = _ := r2
      rw [p70] at r2 g70
      have tt := t_settles (wS := wS) (d + 28) MP68 M
      have tt : semZ shP wS (d + 29) 124 [.ref 68] M = some (none, setR M 69 (fillR (M.1 70) (M.1 69) 63)) := tt
      obtain ⟨Q, eQ⟩ : ∃ Q, Q = setR M 69 (fillR (M.1 70) (M.1 69) 63) := ⟨_, rfl⟩
      rw [← eQ] at tt
      have q9 : ∀ j, j < 63 → Q.1 69 j = nsF V N id K F 0 j := fun j hj => by
        rw [eQ, setR_s]
        unfold fillR
        rw [if_pos hj, g70]
      have qo : ∀ o, o ≠ 69 → o ≠ 68 → o ≠ 70 → o ≠ 74 → Q.1 o = m1.1 o := fun o a b c e => by rw [eQ, setR_n _ _ a, gF.1 o c b, po o c e]
      refine ⟨smM F V 0 0 - smM (nsF V N id K F 0) V 0 0, m1, Q, ?_, ?_, LNow_g h0 (fun j hj => q9 j (by omega)) k1 ⟨kA, ML_mb (MB_e hMB hV (fun j hj => eF' j (by omega))) (ns_ml ht hV hN (by omega) K F 0 hA' (MB_e hMB hV (fun j hj => eF' j (by omega))))⟩ e6 kF.2 (by rw [eQ, setR_n _ _ (by omega), gF.2.1 3 (by omega) (by omega), po 68 (by omega) (by omega), mo 68 (by omega)]) (fun o a b => qo o (by omega) (by omega) (by omega) (by omega)), fun j a b => ?_⟩
      · simp only [EV, LV, CB, OI, OL, NP, CZ, popN, CT, OZ, List.map_nil, List.map_cons, List.sum_nil, List.sum_cons, Option.toList, List.nil_append, List.cons_append, Int.reduceToNat, Nat.reduceAdd, Nat.reduceLT, Nat.reduceLeDiff, List.length_cons, List.length_nil, Nat.zero_add, if_true, if_false, reduceIte, and_self, and_true, true_and, eq_self, reduceCtorEq, t_within wS (d + 28), hn, bI_t, e10, not_false_eq_true, r_X6_nights_12, gP0, gW WP1, c5, q, r_X6_nights_32, r1]
      · have m42 : m1.1 69 42 + nI K ≤ 999 := by rw [mo 69 (by omega)]; exact q'
        rw [se_X7_nights, r_X7_nights_0]
        simp only [EV, LV, CB, OI, OL, NP, CZ, popN, CT, OZ, List.map_nil, List.map_cons, List.sum_nil, List.sum_cons, Option.toList, List.nil_append, List.cons_append, Int.reduceToNat, Nat.reduceAdd, Nat.reduceLT, Nat.reduceLeDiff, List.length_cons, List.length_nil, Nat.zero_add, if_true, if_false, reduceIte, and_self, and_true, true_and, eq_self, reduceCtorEq, gM MP68, aM MP68, t_in wS (d + 28), d1, hn, bI_t, e10, not_false_eq_true, r_X7_nights_14, i42, m42, r_X7_nights_32, ts, r2, tt]
      · rw [q9 j (by omega), nsF_o ht hV hN a K F 0 hA', eF' j (by omega)]
    · have q' : ¬ m.1 69 42 + n ≤ 999 := by rw [← lt1000]; exact q
      refine ⟨-3, m, m, ?_, ?_, h0, fun _ _ _ => rfl⟩
      · simp only [EV, LV, CB, OI, OL, NP, CZ, popN, CT, OZ, List.map_nil, List.map_cons, List.sum_nil, List.sum_cons, Option.toList, List.nil_append, List.cons_append, Int.reduceToNat, Nat.reduceAdd, Nat.reduceLT, Nat.reduceLeDiff, List.length_cons, List.length_nil, Nat.zero_add, if_true, if_false, reduceIte, and_self, and_true, true_and, eq_self, reduceCtorEq, t_within wS (d + 28), hn, bI_t, e10, not_false_eq_true, r_X6_nights_12, gP0, gW WP1, c5, q, r_X6_nights_40]
      · rw [se_X7_nights, r_X7_nights_0]
        simp only [EV, LV, CB, OI, OL, NP, CZ, popN, CT, OZ, List.map_nil, List.map_cons, List.sum_nil, List.sum_cons, Option.toList, List.nil_append, List.cons_append, Int.reduceToNat, Nat.reduceAdd, Nat.reduceLT, Nat.reduceLeDiff, List.length_cons, List.length_nil, Nat.zero_add, if_true, if_false, reduceIte, and_self, and_true, true_and, eq_self, reduceCtorEq, gM MP68, aM MP68, t_in wS (d + 28), d1, hn, bI_t, e10, not_false_eq_true, r_X7_nights_14, i42, q']
end Bn
end
