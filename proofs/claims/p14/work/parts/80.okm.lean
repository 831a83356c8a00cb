/-! WHAT THE LAW NEEDS OF A CALL: it returns; bounds, images, the tape's length stay -/
def vOK (lg : Bool) (v : Value) : Prop := if lg = true then ∃ x : Int64, v = .long x else ∃ x : Int32, v = .int x
def Pv (m m' : Mm) : Prop := InvT TV m' ∧ JK m' ∧ m'.1 24 0 = m.1 24 0 ∧ m'.1 68 9 = m.1 68 9
/-! the state by groups: 2 g the class's half, 2 g + 1 the model's: tape, fault, sheets, torn, land, seen, images -/
def grp (g o j : Nat) : Bool := match g with
  | 0 => (o == 24 && j == 0) || o == 25
  | 1 => (o == 68 && j == 9) || o == 73
  | 2 => o == 23 && j == 1
  | 3 => o == 68 && j == 14
  | 4 => Nat.ble 60 o && Nat.ble o 67
  | 5 => o == 77 || (o == 78 || o == 79)
  | 6 => o == 0 && j == 9
  | 7 => o == 68 && j == 27
  | 8 => Nat.ble 1 o && Nat.ble o 9
  | 9 => (o == 68 && j == 3) || (o == 69 && Nat.ble j 43)
  | 10 => Nat.ble 19 o && Nat.ble o 22
  | 11 => o == 69 && (Nat.ble 44 j && Nat.ble j 62)
  | 12 => Nat.ble 32 o && Nat.ble o 59
  | 13 => o == 71 || (o == 69 && (Nat.ble 63 j && Nat.ble j 188))
  | _ => false
def grpO (g o : Nat) : Bool := match g with
  | 0 => o == 24 || o == 25
  | 1 => o == 68 || o == 73
  | 2 => o == 23
  | 3 => o == 68
  | 4 => Nat.ble 60 o && Nat.ble o 67
  | 5 => o == 77 || (o == 78 || o == 79)
  | 6 => o == 0
  | 7 => o == 68
  | 8 => Nat.ble 1 o && Nat.ble o 9
  | 9 => o == 68 || o == 69
  | 10 => Nat.ble 19 o && Nat.ble o 22
  | 11 => o == 69
  | 12 => Nat.ble 32 o && Nat.ble o 59
  | 13 => o == 71 || o == 69
  | _ => false
/-- all groups but these -/
def qx (ex : List Nat) : List Nat := (List.range 14).filter (fun g => !(ex.contains g))
/-- the groups q are as they were -/
def Kp (q : List Nat) (m m' : Mm) : Prop := ∀ g, g ∈ q → ∀ o j, j < 200 → grp g o j = true → m'.1 o j = m.1 o j
def unt (W : Wr) (q : List Nat) : Bool := W.1.all (fun o => q.all (fun g => !(grpO g o))) && W.2.all (fun c => q.all (fun g => !(grp g (c / 200) (c % 200))))
def OKv (C : CallS) (z : Nat) (As : List Value) (m : Mm) (lg : Bool) (q : List Nat) : Prop := ∃ v m', C z As m = some (some v, m') ∧ vOK lg v ∧ Pv m m' ∧ Kp q m m'
def OKm (C : CallS) (z r n : Nat) (lg : Bool) (q : List Nat) : Prop := ∀ (xs : List Int32) (m : Mm), xs.length = n → InvT TV m → JK m → OKv C z (.ref r :: xs.map .int) m lg q
def quiet (W : Wr) : Bool := !(inW W 24 0) && !(inW W 68 9) && !(inW W 71 0) && !(inW W 71 1) && !(inW W 69 104) && !(inW W 69 167)
def retK (lg : Bool) (a : AV) : Bool := if lg = true then isJ a else isI a
theorem inW_f {W : Wr} {m m' : Mm} (h : frm W m m') {o j : Nat} (hj : j < 200) (hw : inW W o j = false) : m'.1 o j = m.1 o j := by
  unfold inW at hw
  simp only [Bool.or_eq_false_iff] at hw
  refine (h o j hj (fun z => ?_) (fun z => ?_)).1
  · rw [← List.contains_iff_mem] at z
    rw [z] at hw
    exact absurd hw.1 (by decide)
  · have z2 : W.2.contains (cd o j) = true := List.contains_iff_mem.mpr z
    rw [z2] at hw
    exact absurd hw.2 (by decide)
theorem Pv_q {W : Wr} {m m' : Mm} (h : frm W m m') (hq : quiet W = true) (hI : InvT TV m') (hJ : JK m) : Pv m m' := by
  unfold quiet at hq
  simp only [Bool.and_eq_true, Bool.not_eq_true'] at hq
  obtain ⟨⟨⟨⟨⟨q1, q2⟩, q3⟩, q4⟩, q5⟩, q6⟩ := hq
  exact ⟨hI, JK_of (inW_f h (by omega) q3) (inW_f h (by omega) q4) (inW_f h (by omega) q5) (inW_f h (by omega) q6) hJ, inW_f h (by omega) q1, inW_f h (by omega) q2⟩
theorem vOK_of {lg : Bool} {a : AV} {v : Option Value} (h : retK lg a = true) (g : retG a v) : ∃ w, v = some w ∧ vOK lg w := by
  cases a with
  | none =>
    unfold retK at h
    cases lg <;> cases h
  | some b =>
    cases v with
    | none => exact g.elim
    | some w =>
      refine ⟨w, rfl, ?_⟩
      unfold vOK
      unfold retK at h
      cases lg with
      | false =>
        match b, g with
        | .inl (ai, e, s, o, im), ⟨x, hx, _⟩ => exact ⟨x, hx⟩
        | .inr (.inl rs), _ => cases h
        | .inr (.inr q), _ => cases h
      | true =>
        match b, g with
        | .inl (ai, e, s, o, im), _ => cases h
        | .inr (.inl rs), _ => cases h
        | .inr (.inr (lo, hi, s)), ⟨x, hx, _⟩ => exact ⟨x, hx⟩
theorem grpO_of {g o j : Nat} (h : grp g o j = true) : grpO g o = true := by
  match g, h with
  | 0, h => simp [grp, grpO] at h ⊢; omega
  | 1, h => simp [grp, grpO] at h ⊢; omega
  | 2, h => simp [grp, grpO] at h ⊢; omega
  | 3, h => simp [grp, grpO] at h ⊢; omega
  | 4, h => simp [grp, grpO] at h ⊢; omega
  | 5, h => simp [grp, grpO] at h ⊢; omega
  | 6, h => simp [grp, grpO] at h ⊢; omega
  | 7, h => simp [grp, grpO] at h ⊢; omega
  | 8, h => simp [grp, grpO] at h ⊢; omega
  | 9, h => simp [grp, grpO] at h ⊢; omega
  | 10, h => simp [grp, grpO] at h ⊢; omega
  | 11, h => simp [grp, grpO] at h ⊢; omega
  | 12, h => simp [grp, grpO] at h ⊢; omega
  | 13, h => simp [grp, grpO] at h ⊢; omega
  | g + 14, h => simp [grp] at h
theorem Kp_of {W : Wr} {m m' : Mm} {q : List Nat} (h : frm W m m') (hu : unt W q = true) : Kp q m m' := by
  intro g hg o j hj hk
  unfold unt at hu
  simp only [Bool.and_eq_true] at hu
  refine (h o j hj (fun z => ?_) (fun z => ?_)).1
  · have h1 := List.all_eq_true.mp (List.all_eq_true.mp hu.1 o z) g hg
    rw [grpO_of hk] at h1
    cases h1
  · have h1 := List.all_eq_true.mp (List.all_eq_true.mp hu.2 _ z) g hg
    rw [show (o * 200 + j) / 200 = o by omega, show (o * 200 + j) % 200 = j by omega, hk] at h1
    cases h1
theorem Kp_rf {q : List Nat} {m : Mm} : Kp q m m := fun _ _ _ _ _ _ => rfl
theorem Kp_tr {q : List Nat} {m m1 m2 : Mm} (h1 : Kp q m m1) (h2 : Kp q m1 m2) : Kp q m m2 := fun g hg o j hj hk => (h2 g hg o j hj hk).trans (h1 g hg o j hj hk)
theorem Kp_at {q : List Nat} {m m' : Mm} (h : Kp q m m') {g o j : Nat} (hg : g ∈ q) (hj : j < 200) (hk : grp g o j = true) : m'.1 o j = m.1 o j := h g hg o j hj hk
theorem OKv_of {C : CallS} {c : CE} {q : List Nat} (h : Hd TV C c) {As : List Value} {m : Mm} {lg : Bool} (hg : gT [] [] m (c.2.1.map cle) As) (hI : InvT TV m) (hJ : JK m) (hr : rho m c.2.2.1) (hk : retK lg c.2.2.2.1 = true) (hq : quiet c.2.2.2.2.2.1 = true) (hu : unt c.2.2.2.2.2.1 q = true) : OKv C c.1 As m lg q := by
  obtain ⟨v, m', a1, a2, a3, a4, a5, -⟩ := h As m hg hI hr
  obtain ⟨w, rfl, hw⟩ := vOK_of hk a2
  exact ⟨w, m', a1, hw, Pv_q a5 hq a3 hJ, Kp_of a5 hu⟩
theorem gT_tI (m : Mm) : ∀ xs : List Int32, gT [] [] m (List.replicate xs.length tI) (xs.map .int)
  | [] => trivial
  | x :: xs => ⟨gv_tI x, gT_tI m xs⟩
theorem OKm_of {C : CallS} {c : CE} {q : List Nat} (h : Hd TV C c) (r n : Nat) {lg : Bool} (ha : c.2.1 = rF [r] :: List.replicate n tI) (hp : c.2.2.1 = []) (hk : retK lg c.2.2.2.1 = true) (hq : quiet c.2.2.2.2.2.1 = true) (hu : unt c.2.2.2.2.2.1 q = true) : OKm C c.1 r n lg q := by
  intro xs m hn hI hJ
  refine OKv_of h ?_ hI hJ (by rw [hp]; exact rho_nil) hk hq hu
  rw [ha, ← hn]
  refine ⟨gv_rf r, ?_⟩
  rw [List.map_replicate]
  exact gT_tI m xs
theorem gv_ci {L0 L : List Value} {m : Mm} {n : Int} {x : Int32} (h : x.toInt = n) : gv L0 L m (cst n) (.int x) := ⟨x, rfl, Or.inr ⟨by rw [h]; exact Int.le_refl _, by rw [h]; exact Int.le_refl _, ⟨0, by rw [h]; show n - n = _; omega⟩⟩, Or.inl rfl, Or.inl rfl, fun _ q hq => by cases hq⟩
theorem cel_of (m : Mm) (c o j : Nat) (h1 : c / 200 = o) (h2 : c % 200 = j) : cel m c = (m.1 o j).toInt := by
  unfold cel
  rw [h1, h2]
