/-! WHAT THE LAW NEEDS OF A CALL: it returns; bounds, images, the tape's length stay -/
def vOK (lg : Bool) (v : Value) : Prop := if lg = true then ∃ x : Int64, v = .long x else ∃ x : Int32, v = .int x
def Pv (m m' : Mm) : Prop := InvT TV m' ∧ JK m' ∧ m'.1 24 0 = m.1 24 0 ∧ m'.1 68 9 = m.1 68 9
def OKv (C : CallS) (z : Nat) (As : List Value) (m : Mm) (lg : Bool) : Prop := ∃ v m', C z As m = some (some v, m') ∧ vOK lg v ∧ Pv m m'
def OKm (C : CallS) (z r n : Nat) (lg : Bool) : Prop := ∀ (xs : List Int32) (m : Mm), xs.length = n → InvT TV m → JK m → OKv C z (.ref r :: xs.map .int) m lg
def quiet (W : Wr) : Bool := !(inW W 24 0) && !(inW W 68 9) && !(inW W 71 0) && !(inW W 71 1) && !(inW W 69 104) && !(inW W 69 167)
def retK (lg : Bool) (a : AV) : Bool := if lg = true then isJ a else isI a
theorem inW_f {W : Wr} {m m' : Mm} (h : frm W m m') {o j : Nat} (hj : j < 200) (hw : inW W o j = false) : m'.1 o j = m.1 o j := by
  unfold inW at hw
  simp only [Bool.or_eq_false_iff] at hw
  refine (h o j hj (fun z => ?_) (fun z => ?_)).1
  · rw [← List.contains_iff_mem] at z
    rw [z] at hw
    exact absurd hw.1 (by decide)
  · have z2 : W.2.contains (cd o j) = true := List.contains_iff_mem.mpr z
    rw [z2] at hw
    exact absurd hw.2 (by decide)
theorem Pv_q {W : Wr} {m m' : Mm} (h : frm W m m') (hq : quiet W = true) (hI : InvT TV m') (hJ : JK m) : Pv m m' := by
  unfold quiet at hq
  simp only [Bool.and_eq_true, Bool.not_eq_true'] at hq
  obtain ⟨⟨⟨⟨⟨q1, q2⟩, q3⟩, q4⟩, q5⟩, q6⟩ := hq
  exact ⟨hI, JK_of (inW_f h (by omega) q3) (inW_f h (by omega) q4) (inW_f h (by omega) q5) (inW_f h (by omega) q6) hJ, inW_f h (by omega) q1, inW_f h (by omega) q2⟩
theorem vOK_of {lg : Bool} {a : AV} {v : Option Value} (h : retK lg a = true) (g : retG a v) : ∃ w, v = some w ∧ vOK lg w := by
  cases a with
  | none =>
    unfold retK at h
    cases lg <;> cases h
  | some b =>
    cases v with
    | none => exact g.elim
    | some w =>
      refine ⟨w, rfl, ?_⟩
      unfold vOK
      unfold retK at h
      cases lg with
      | false =>
        match b, g with
        | .inl (ai, e, s, o, im), ⟨x, hx, _⟩ => exact ⟨x, hx⟩
        | .inr (.inl rs), _ => cases h
        | .inr (.inr q), _ => cases h
      | true =>
        match b, g with
        | .inl (ai, e, s, o, im), _ => cases h
        | .inr (.inl rs), _ => cases h
        | .inr (.inr (lo, hi, s)), ⟨x, hx, _⟩ => exact ⟨x, hx⟩
theorem OKv_of {C : CallS} {c : CE} (h : Hd TV C c) {As : List Value} {m : Mm} {lg : Bool} (hg : gT [] [] m (c.2.1.map cle) As) (hI : InvT TV m) (hJ : JK m) (hr : rho m c.2.2.1) (hk : retK lg c.2.2.2.1 = true) (hq : quiet c.2.2.2.2.2.1 = true) : OKv C c.1 As m lg := by
  obtain ⟨v, m', a1, a2, a3, a4, a5, -⟩ := h As m hg hI hr
  obtain ⟨w, rfl, hw⟩ := vOK_of hk a2
  exact ⟨w, m', a1, hw, Pv_q a5 hq a3 hJ⟩
theorem gT_tI (m : Mm) : ∀ xs : List Int32, gT [] [] m (List.replicate xs.length tI) (xs.map .int)
  | [] => trivial
  | x :: xs => ⟨gv_tI x, gT_tI m xs⟩
theorem OKm_of {C : CallS} {c : CE} (h : Hd TV C c) (r n : Nat) {lg : Bool} (ha : c.2.1 = rF [r] :: List.replicate n tI) (hp : c.2.2.1 = []) (hk : retK lg c.2.2.2.1 = true) (hq : quiet c.2.2.2.2.2.1 = true) : OKm C c.1 r n lg := by
  intro xs m hn hI hJ
  refine OKv_of h ?_ hI hJ (by rw [hp]; exact rho_nil) hk hq
  rw [ha, ← hn]
  refine ⟨gv_rf r, ?_⟩
  rw [List.map_replicate]
  exact gT_tI m xs
theorem gv_ci {L0 L : List Value} {m : Mm} {n : Int} {x : Int32} (h : x.toInt = n) : gv L0 L m (cst n) (.int x) := ⟨x, rfl, Or.inr ⟨by rw [h]; exact Int.le_refl _, by rw [h]; exact Int.le_refl _, ⟨0, by rw [h]; show n - n = _; omega⟩⟩, Or.inl rfl, Or.inl rfl, fun _ q hq => by cases hq⟩
theorem cel_of (m : Mm) (c o j : Nat) (h1 : c / 200 = o) (h2 : c % 200 = j) : cel m c = (m.1 o j).toInt := by
  unfold cel
  rw [h1, h2]
