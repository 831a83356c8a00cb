section
/-! WHAT THE LAW NEEDS OF A CALL: it returns; bounds, images, the tape's length stay -/
def vOK (lg : Bool) (v : Value) : Prop := if lg = true then ∃ x : Int64, v = .long x else ∃ x : Int32, v = .int x
def Pv (m m' : Mm) : Prop := InvT TV m' ∧ JK m' ∧ m'.1 24 0 = m.1 24 0 ∧ m'.1 68 9 = m.1 68 9
/-! the state by groups: 2 g the class's half, 2 g + 1 the model's: tape, fault, sheets, torn, land, seen, images -/
def grp (g o j : Nat) : Bool := match g with
  | 0 => (o == 24 && j == 0) || o == 25
  | 1 => (o == 68 && j == 9) || o == 73
  | 2 => o == 23 && j == 1
  | 3 => o == 68 && j == 14
  | 4 => Nat.ble 60 o && Nat.ble o 67
  | 5 => o == 77 || (o == 78 || o == 79)
  | 6 => o == 0 && j == 9
  | 7 => o == 68 && j == 27
  | 8 => Nat.ble 1 o && Nat.ble o 9
  | 9 => (o == 68 && j == 3) || (o == 69 && Nat.ble j 43)
  | 10 => Nat.ble 19 o && Nat.ble o 22
  | 11 => o == 69 && (Nat.ble 44 j && Nat.ble j 62)
  | 12 => Nat.ble 32 o && Nat.ble o 59
  | 13 => o == 71 || (o == 69 && (Nat.ble 63 j && Nat.ble j 188))
  | _ => false
def grpO (g o : Nat) : Bool := match g with
  | 0 => o == 24 || o == 25
  | 1 => o == 68 || o == 73
  | 2 => o == 23
  | 3 => o == 68
  | 4 => Nat.ble 60 o && Nat.ble o 67
  | 5 => o == 77 || (o == 78 || o == 79)
  | 6 => o == 0
  | 7 => o == 68
  | 8 => Nat.ble 1 o && Nat.ble o 9
  | 9 => o == 68 || o == 69
  | 10 => Nat.ble 19 o && Nat.ble o 22
  | 11 => o == 69
  | 12 => Nat.ble 32 o && Nat.ble o 59
  | 13 => o == 71 || o == 69
  | _ => false
/-- all groups but these -/
def qx (ex : List Nat) : List Nat := (List.range 14).filter (fun g => !(ex.contains g))
/-- the groups q are as they were -/
def Kp (q : List Nat) (m m' : Mm) : Prop := ∀ g, g ∈ q → ∀ o j, j < 200 → grp g o j = true → m'.1 o j = m.1 o j
def unt (W : Wr) (q : List Nat) : Bool := W.1.all (fun o => q.all (fun g => !(grpO g o))) && W.2.all (fun c => q.all (fun g => !(grp g (c / 200) (c % 200))))
def OKv (C : CallS) (z : Nat) (As : List Value) (m : Mm) (lg : Bool) (q : List Nat) : Prop := ∃ v m', C z As m = some (some v, m') ∧ vOK lg v ∧ Pv m m' ∧ Kp q m m'
def OKm (C : CallS) (z r n : Nat) (lg : Bool) (q : List Nat) : Prop := ∀ (xs : List Int32) (m : Mm), xs.length = n → InvT TV m → JK m → OKv C z (.ref r :: xs.map .int) m lg q
def quiet (W : Wr) : Bool := !(inW W 24 0) && !(inW W 68 9) && !(inW W 71 0) && !(inW W 71 1) && !(inW W 69 104) && !(inW W 69 167)
def retK (lg : Bool) (a : AV) : Bool := if lg = true then isJ a else isI a
theorem inW_f {W : Wr} {m m' : Mm} (h : frm W m m') {o j : Nat} (hj : j < 200) (hw : inW W o j = false) : m'.1 o j = m.1 o j := by
  unfold inW at hw
  simp only [Bool.or_eq_false_iff] at hw
  refine (h o j hj (fun z => ?_) (fun z => ?_)).1
  · rw [← List.contains_iff_mem] at z
    rw [z] at hw
    exact absurd hw.1 (by decide)
  · have z2 : W.2.contains (cd o j) = true := List.contains_iff_mem.mpr z
    rw [z2] at hw
    exact absurd hw.2 (by decide)
theorem Pv_q {W : Wr} {m m' : Mm} (h : frm W m m') (hq : quiet W = true) (hI : InvT TV m') (hJ : JK m) : Pv m m' := by
  unfold quiet at hq
  simp only [Bool.and_eq_true, Bool.not_eq_true'] at hq
  obtain ⟨⟨⟨⟨⟨q1, q2⟩, q3⟩, q4⟩, q5⟩, q6⟩ := hq
  exact ⟨hI, JK_of (inW_f h (by omega) q3) (inW_f h (by omega) q4) (inW_f h (by omega) q5) (inW_f h (by omega) q6) hJ, inW_f h (by omega) q1, inW_f h (by omega) q2⟩
theorem vOK_of {lg : Bool} {a : AV} {v : Option Value} (h : retK lg a = true) (g : retG a v) : ∃ w, v = some w ∧ vOK lg w := by
  cases a with
  | none =>
    unfold retK at h
    cases lg <;> cases h
  | some b =>
    cases v with
    | none => exact g.elim
    | some w =>
      refine ⟨w, rfl, ?_⟩
      unfold vOK
      unfold retK at h
      cases lg with
      | false =>
        match b, g with
        | .inl (ai, e, s, o, im), ⟨x, hx, _⟩ => exact ⟨x, hx⟩
        | .inr (.inl rs), _ => cases h
        | .inr (.inr q), _ => cases h
      | true =>
        match b, g with
        | .inl (ai, e, s, o, im), _ => cases h
        | .inr (.inl rs), _ => cases h
        | .inr (.inr (lo, hi, s)), ⟨x, hx, _⟩ => exact ⟨x, hx⟩
theorem grpO_of {g o j : Nat} (h : grp g o j = true) : grpO g o = true := by
  match g, h with
  | 0, h => simp [grp, grpO] at h ⊢; omega
  | 1, h => simp [grp, grpO] at h ⊢; omega
  | 2, h => simp [grp, grpO] at h ⊢; omega
  | 3, h => simp [grp, grpO] at h ⊢; omega
  | 4, h => simp [grp, grpO] at h ⊢; omega
  | 5, h => simp [grp, grpO] at h ⊢; omega
  | 6, h => simp [grp, grpO] at h ⊢; omega
  | 7, h => simp [grp, grpO] at h ⊢; omega
  | 8, h => simp [grp, grpO] at h ⊢; omega
  | 9, h => simp [grp, grpO] at h ⊢; omega
  | 10, h => simp [grp, grpO] at h ⊢; omega
  | 11, h => simp [grp, grpO] at h ⊢; omega
  | 12, h => simp [grp, grpO] at h ⊢; omega
  | 13, h => simp [grp, grpO] at h ⊢; omega
  | g + 14, h => simp [grp] at h
theorem Kp_of {W : Wr} {m m' : Mm} {q : List Nat} (h : frm W m m') (hu : unt W q = true) : Kp q m m' := by
  intro g hg o j hj hk
  unfold unt at hu
  simp only [Bool.and_eq_true] at hu
  refine (h o j hj (fun z => ?_) (fun z => ?_)).1
  · have h1 := List.all_eq_true.mp (List.all_eq_true.mp hu.1 o z) g hg
    rw [grpO_of hk] at h1
    cases h1
  · have h1 := List.all_eq_true.mp (List.all_eq_true.mp hu.2 _ z) g hg
    rw [show (o * 200 + j) / 200 = o by omega, show (o * 200 + j) % 200 = j by omega, hk] at h1
    cases h1
theorem Kp_rf {q : List Nat} {m : Mm} : Kp q m m := fun _ _ _ _ _ _ => rfl
theorem Kp_tr {q : List Nat} {m m1 m2 : Mm} (h1 : Kp q m m1) (h2 : Kp q m1 m2) : Kp q m m2 := fun g hg o j hj hk => (h2 g hg o j hj hk).trans (h1 g hg o j hj hk)
theorem Kp_at {q : List Nat} {m m' : Mm} (h : Kp q m m') {g o j : Nat} (hg : g ∈ q) (hj : j < 200) (hk : grp g o j = true) : m'.1 o j = m.1 o j := h g hg o j hj hk
theorem OKv_of {C : CallS} {c : CE} {q : List Nat} (h : Hd TV C c) {As : List Value} {m : Mm} {lg : Bool} (hg : gT [] [] m (c.2.1.map cle) As) (hI : InvT TV m) (hJ : JK m) (hr : rho m c.2.2.1) (hk : retK lg c.2.2.2.1 = true) (hq : quiet c.2.2.2.2.2.1 = true) (hu : unt c.2.2.2.2.2.1 q = true) : OKv C c.1 As m lg q := by
  obtain ⟨v, m', a1, a2, a3, a4, a5, -⟩ := h As m hg hI hr
  obtain ⟨w, rfl, hw⟩ := vOK_of hk a2
  exact ⟨w, m', a1, hw, Pv_q a5 hq a3 hJ, Kp_of a5 hu⟩
theorem gT_tI (m : Mm) : ∀ xs : List Int32, gT [] [] m (List.replicate xs.length tI) (xs.map .int)
  | [] => trivial
  | x :: xs => ⟨gv_tI x, gT_tI m xs⟩
theorem OKm_of {C : CallS} {c : CE} {q : List Nat} (h : Hd TV C c) (r n : Nat) {lg : Bool} (ha : c.2.1 = rF [r] :: List.replicate n tI) (hp : c.2.2.1 = []) (hk : retK lg c.2.2.2.1 = true) (hq : quiet c.2.2.2.2.2.1 = true) (hu : unt c.2.2.2.2.2.1 q = true) : OKm C c.1 r n lg q := by
  intro xs m hn hI hJ
  refine OKv_of h ?_ hI hJ (by rw [hp]; exact rho_nil) hk hq hu
  rw [ha, ← hn]
  refine ⟨gv_rf r, ?_⟩
  rw [List.map_replicate]
  exact gT_tI m xs
theorem gv_ci {L0 L : List Value} {m : Mm} {n : Int} {x : Int32} (h : x.toInt = n) : gv L0 L m (cst n) (.int x) := ⟨x, rfl, Or.inr ⟨by rw [h]; exact Int.le_refl _, by rw [h]; exact Int.le_refl _, ⟨0, by rw [h]; show n - n = _; omega⟩⟩, Or.inl rfl, Or.inl rfl, fun _ q hq => by cases hq⟩
theorem cel_of (m : Mm) (c o j : Nat) (h1 : c / 200 = o) (h2 : c % 200 = j) : cel m c = (m.1 o j).toInt := by
  unfold cel
  rw [h1, h2]
end
section
/-! EACH PUBLIC METHOD: written by wip/gen/lawgen.py -/
section Ok
variable {wS : List Value → Mm → Option Rs} (hw : WOK wS) (d : Nat)
theorem ok_X6_fault (hw : WOK wS) : OKm (semZ shP wS (d + 28)) 46 0 0 false (qx []) := OKm_of (hall_23 hw d c_32 (List.mem_of_getElem? (i := 218) rfl : c_32 ∈ t_23)) 0 0 rfl rfl (by decide) (by decide) (by decide +kernel)
theorem ok_X6_rule (hw : WOK wS) : OKm (semZ shP wS (d + 28)) 47 0 1 false (qx []) := OKm_of (hall_23 hw d c_98 (List.mem_of_getElem? (i := 160) rfl : c_98 ∈ t_23)) 0 1 rfl rfl (by decide) (by decide) (by decide +kernel)
theorem ok_X6_village (hw : WOK wS) : OKm (semZ shP wS (d + 28)) 48 0 2 false (qx []) := OKm_of (hall_23 hw d c_99 (List.mem_of_getElem? (i := 161) rfl : c_99 ∈ t_23)) 0 2 rfl rfl (by decide) (by decide) (by decide +kernel)
theorem ok_X6_body (hw : WOK wS) : OKm (semZ shP wS (d + 28)) 49 0 2 false (qx []) := OKm_of (hall_23 hw d c_100 (List.mem_of_getElem? (i := 162) rfl : c_100 ∈ t_23)) 0 2 rfl rfl (by decide) (by decide) (by decide +kernel)
theorem ok_X6_grant (hw : WOK wS) : OKm (semZ shP wS (d + 28)) 50 0 3 false (qx [8]) := OKm_of (hall_23 hw d c_33 (List.mem_of_getElem? (i := 219) rfl : c_33 ∈ t_23)) 0 3 rfl rfl (by decide) (by decide) (by decide +kernel)
theorem ok_X6_set (hw : WOK wS) : OKm (semZ shP wS (d + 28)) 53 0 2 false (qx [8]) := OKm_of (hall_23 hw d c_34 (List.mem_of_getElem? (i := 220) rfl : c_34 ∈ t_23)) 0 2 rfl rfl (by decide) (by decide) (by decide +kernel)
theorem ok_X6_find (hw : WOK wS) : OKm (semZ shP wS (d + 28)) 54 0 4 false (qx [8]) := OKm_of (hall_23 hw d c_126 (List.mem_of_getElem? (i := 152) rfl : c_126 ∈ t_23)) 0 4 rfl rfl (by decide) (by decide) (by decide +kernel)
theorem ok_X6_hire (hw : WOK wS) : OKm (semZ shP wS (d + 28)) 56 0 1 false (qx [8]) := OKm_of (hall_23 hw d c_102 (List.mem_of_getElem? (i := 164) rfl : c_102 ∈ t_23)) 0 1 rfl rfl (by decide) (by decide) (by decide +kernel)
theorem ok_X6_nights (hw : WOK wS) : OKm (semZ shP wS (d + 28)) 57 0 1 false (qx [8]) := OKm_of (hall_23 hw d c_138 (List.mem_of_getElem? (i := 126) rfl : c_138 ∈ t_23)) 0 1 rfl rfl (by decide) (by decide) (by decide +kernel)
theorem ok_X6_runs (hw : WOK wS) : OKm (semZ shP wS (d + 28)) 58 0 2 false (qx []) := OKm_of (hall_23 hw d c_139 (List.mem_of_getElem? (i := 127) rfl : c_139 ∈ t_23)) 0 2 rfl rfl (by decide) (by decide) (by decide +kernel)
theorem ok_X6_ahead (hw : WOK wS) : OKm (semZ shP wS (d + 28)) 59 0 3 false (qx []) := OKm_of (hall_23 hw d c_140 (List.mem_of_getElem? (i := 128) rfl : c_140 ∈ t_23)) 0 3 rfl rfl (by decide) (by decide) (by decide +kernel)
theorem ok_X6_settled (hw : WOK wS) : OKm (semZ shP wS (d + 28)) 60 0 1 false (qx []) := OKm_of (hall_23 hw d c_132 (List.mem_of_getElem? (i := 144) rfl : c_132 ∈ t_23)) 0 1 rfl rfl (by decide) (by decide) (by decide +kernel)
theorem ok_X6_dear (hw : WOK wS) : OKm (semZ shP wS (d + 28)) 61 0 1 false (qx []) := OKm_of (hall_23 hw d c_154 (List.mem_of_getElem? (i := 109) rfl : c_154 ∈ t_23)) 0 1 rfl rfl (by decide) (by decide) (by decide +kernel)
theorem ok_X6_mild (hw : WOK wS) : OKm (semZ shP wS (d + 28)) 63 0 1 false (qx []) := OKm_of (hall_23 hw d c_142 (List.mem_of_getElem? (i := 130) rfl : c_142 ∈ t_23)) 0 1 rfl rfl (by decide) (by decide) (by decide +kernel)
theorem ok_X6_watch (hw : WOK wS) : OKm (semZ shP wS (d + 28)) 64 0 2 false (qx []) := OKm_of (hall_23 hw d c_155 (List.mem_of_getElem? (i := 110) rfl : c_155 ∈ t_23)) 0 2 rfl rfl (by decide) (by decide) (by decide +kernel)
theorem ok_X6_place (hw : WOK wS) : OKm (semZ shP wS (d + 28)) 66 0 3 false (qx []) := OKm_of (hall_23 hw d c_144 (List.mem_of_getElem? (i := 132) rfl : c_144 ∈ t_23)) 0 3 rfl rfl (by decide) (by decide) (by decide +kernel)
theorem ok_X6_kin (hw : WOK wS) : OKm (semZ shP wS (d + 28)) 67 0 2 false (qx []) := OKm_of (hall_23 hw d c_145 (List.mem_of_getElem? (i := 133) rfl : c_145 ∈ t_23)) 0 2 rfl rfl (by decide) (by decide) (by decide +kernel)
theorem ok_X6_late (hw : WOK wS) : OKm (semZ shP wS (d + 28)) 68 0 1 false (qx []) := OKm_of (hall_23 hw d c_146 (List.mem_of_getElem? (i := 134) rfl : c_146 ∈ t_23)) 0 1 rfl rfl (by decide) (by decide) (by decide +kernel)
theorem ok_X6_mean (hw : WOK wS) : OKm (semZ shP wS (d + 28)) 74 0 3 true (qx []) := OKm_of (hall_23 hw d c_180 (List.mem_of_getElem? (i := 92) rfl : c_180 ∈ t_23)) 0 3 rfl rfl (by decide) (by decide) (by decide +kernel)
theorem ok_X6_luck (hw : WOK wS) : OKm (semZ shP wS (d + 28)) 75 0 4 true (qx []) := OKm_of (hall_23 hw d c_181 (List.mem_of_getElem? (i := 93) rfl : c_181 ∈ t_23)) 0 4 rfl rfl (by decide) (by decide) (by decide +kernel)
theorem ok_X6_see (hw : WOK wS) : OKm (semZ shP wS (d + 28)) 82 0 3 false (qx [10]) := OKm_of (hall_23 hw d c_107 (List.mem_of_getElem? (i := 169) rfl : c_107 ∈ t_23)) 0 3 rfl rfl (by decide) (by decide) (by decide +kernel)
theorem ok_X6_forget (hw : WOK wS) : OKm (semZ shP wS (d + 28)) 83 0 1 false (qx [10]) := OKm_of (hall_23 hw d c_44 (List.mem_of_getElem? (i := 230) rfl : c_44 ∈ t_23)) 0 1 rfl rfl (by decide) (by decide) (by decide +kernel)
theorem ok_X6_kinds (hw : WOK wS) : OKm (semZ shP wS (d + 28)) 84 0 1 false (qx []) := OKm_of (hall_23 hw d c_163 (List.mem_of_getElem? (i := 118) rfl : c_163 ∈ t_23)) 0 1 rfl rfl (by decide) (by decide) (by decide +kernel)
theorem ok_X6_fathers (hw : WOK wS) : OKm (semZ shP wS (d + 28)) 85 0 1 false (qx []) := OKm_of (hall_23 hw d c_164 (List.mem_of_getElem? (i := 119) rfl : c_164 ∈ t_23)) 0 1 rfl rfl (by decide) (by decide) (by decide +kernel)
theorem ok_X6_look (hw : WOK wS) : OKm (semZ shP wS (d + 28)) 88 0 2 false (qx []) := OKm_of (hall_23 hw d c_165 (List.mem_of_getElem? (i := 120) rfl : c_165 ∈ t_23)) 0 2 rfl rfl (by decide) (by decide) (by decide +kernel)
theorem ok_X6_drift (hw : WOK wS) : OKm (semZ shP wS (d + 28)) 91 0 3 false (qx []) := OKm_of (hall_23 hw d c_152 (List.mem_of_getElem? (i := 140) rfl : c_152 ∈ t_23)) 0 3 rfl rfl (by decide) (by decide) (by decide +kernel)
theorem ok_X6_sheet (hw : WOK wS) : OKm (semZ shP wS (d + 28)) 94 0 3 false (qx [4]) := OKm_of (hall_23 hw d c_112 (List.mem_of_getElem? (i := 174) rfl : c_112 ∈ t_23)) 0 3 rfl rfl (by decide) (by decide) (by decide +kernel)
theorem ok_X6_torn (hw : WOK wS) : OKm (semZ shP wS (d + 28)) 97 0 0 false (qx []) := OKm_of (hall_23 hw d c_50 (List.mem_of_getElem? (i := 236) rfl : c_50 ∈ t_23)) 0 0 rfl rfl (by decide) (by decide) (by decide +kernel)
theorem ok_X6_count (hw : WOK wS) : OKm (semZ shP wS (d + 28)) 98 0 1 false (qx []) := OKm_of (hall_23 hw d c_127 (List.mem_of_getElem? (i := 153) rfl : c_127 ∈ t_23)) 0 1 rfl rfl (by decide) (by decide) (by decide +kernel)
theorem ok_X7_fault (hw : WOK wS) : OKm (semZ shP wS (d + 28)) 119 68 0 false (qx []) := OKm_of (hall_23 hw d c_54 (List.mem_of_getElem? (i := 240) rfl : c_54 ∈ t_23)) 68 0 rfl rfl (by decide) (by decide) (by decide +kernel)
theorem ok_X7_rule (hw : WOK wS) : OKm (semZ shP wS (d + 28)) 139 68 1 false (qx []) := OKm_of (hall_23 hw d c_129 (List.mem_of_getElem? (i := 155) rfl : c_129 ∈ t_23)) 68 1 rfl rfl (by decide) (by decide) (by decide +kernel)
theorem ok_X7_village (hw : WOK wS) : OKm (semZ shP wS (d + 28)) 140 68 2 false (qx []) := OKm_of (hall_23 hw d c_119 (List.mem_of_getElem? (i := 181) rfl : c_119 ∈ t_23)) 68 2 rfl rfl (by decide) (by decide) (by decide +kernel)
theorem ok_X7_body (hw : WOK wS) : OKm (semZ shP wS (d + 28)) 141 68 2 false (qx []) := OKm_of (hall_23 hw d c_136 (List.mem_of_getElem? (i := 148) rfl : c_136 ∈ t_23)) 68 2 rfl rfl (by decide) (by decide) (by decide +kernel)
theorem ok_X7_grant (hw : WOK wS) : OKm (semZ shP wS (d + 28)) 143 68 3 false (qx [9]) := OKm_of (hall_23 hw d c_120 (List.mem_of_getElem? (i := 182) rfl : c_120 ∈ t_23)) 68 3 rfl rfl (by decide) (by decide) (by decide +kernel)
theorem ok_X7_find (hw : WOK wS) : OKm (semZ shP wS (d + 28)) 147 68 4 false (qx [9]) := OKm_of (hall_23 hw d c_70 (List.mem_of_getElem? (i := 256) rfl : c_70 ∈ t_23)) 68 4 rfl rfl (by decide) (by decide) (by decide +kernel)
theorem ok_X7_hire (hw : WOK wS) : OKm (semZ shP wS (d + 28)) 148 68 1 false (qx [9, 11]) := OKm_of (hall_23 hw d c_236 (List.mem_of_getElem? (i := 39) rfl : c_236 ∈ t_23)) 68 1 rfl rfl (by decide) (by decide) (by decide +kernel)
theorem ok_X7_nights (hw : WOK wS) : OKm (semZ shP wS (d + 28)) 149 68 1 false (qx [9, 11]) := OKm_of (hall_23 hw d c_182 (List.mem_of_getElem? (i := 94) rfl : c_182 ∈ t_23)) 68 1 rfl rfl (by decide) (by decide) (by decide +kernel)
theorem ok_X7_runs (hw : WOK wS) : OKm (semZ shP wS (d + 28)) 150 68 2 false (qx []) := OKm_of (hall_23 hw d c_183 (List.mem_of_getElem? (i := 95) rfl : c_183 ∈ t_23)) 68 2 rfl rfl (by decide) (by decide) (by decide +kernel)
theorem ok_X7_ahead (hw : WOK wS) : OKm (semZ shP wS (d + 28)) 151 68 3 false (qx []) := OKm_of (hall_23 hw d c_184 (List.mem_of_getElem? (i := 96) rfl : c_184 ∈ t_23)) 68 3 rfl rfl (by decide) (by decide) (by decide +kernel)
theorem ok_X7_settled (hw : WOK wS) : OKm (semZ shP wS (d + 28)) 152 68 1 false (qx []) := OKm_of (hall_23 hw d c_167 (List.mem_of_getElem? (i := 122) rfl : c_167 ∈ t_23)) 68 1 rfl rfl (by decide) (by decide) (by decide +kernel)
theorem ok_X7_dear (hw : WOK wS) : OKm (semZ shP wS (d + 28)) 155 68 1 false (qx []) := OKm_of (hall_23 hw d c_197 (List.mem_of_getElem? (i := 76) rfl : c_197 ∈ t_23)) 68 1 rfl rfl (by decide) (by decide) (by decide +kernel)
theorem ok_X7_mild (hw : WOK wS) : OKm (semZ shP wS (d + 28)) 156 68 1 false (qx []) := OKm_of (hall_23 hw d c_198 (List.mem_of_getElem? (i := 77) rfl : c_198 ∈ t_23)) 68 1 rfl rfl (by decide) (by decide) (by decide +kernel)
theorem ok_X7_watch (hw : WOK wS) : OKm (semZ shP wS (d + 28)) 157 68 2 false (qx []) := OKm_of (hall_23 hw d c_199 (List.mem_of_getElem? (i := 78) rfl : c_199 ∈ t_23)) 68 2 rfl rfl (by decide) (by decide) (by decide +kernel)
theorem ok_X7_place (hw : WOK wS) : OKm (semZ shP wS (d + 28)) 158 68 3 false (qx []) := OKm_of (hall_23 hw d c_200 (List.mem_of_getElem? (i := 79) rfl : c_200 ∈ t_23)) 68 3 rfl rfl (by decide) (by decide) (by decide +kernel)
theorem ok_X7_kin (hw : WOK wS) : OKm (semZ shP wS (d + 28)) 159 68 2 false (qx []) := OKm_of (hall_23 hw d c_201 (List.mem_of_getElem? (i := 80) rfl : c_201 ∈ t_23)) 68 2 rfl rfl (by decide) (by decide) (by decide +kernel)
theorem ok_X7_late (hw : WOK wS) : OKm (semZ shP wS (d + 28)) 160 68 1 false (qx []) := OKm_of (hall_23 hw d c_202 (List.mem_of_getElem? (i := 81) rfl : c_202 ∈ t_23)) 68 1 rfl rfl (by decide) (by decide) (by decide +kernel)
theorem ok_X7_see (hw : WOK wS) : OKm (semZ shP wS (d + 28)) 168 68 3 false (qx [11]) := OKm_of (hall_23 hw d c_81 (List.mem_of_getElem? (i := 267) rfl : c_81 ∈ t_23)) 68 3 rfl rfl (by decide) (by decide) (by decide +kernel)
theorem ok_X7_forget (hw : WOK wS) : OKm (semZ shP wS (d + 28)) 169 68 1 false (qx [11]) := OKm_of (hall_23 hw d c_121 (List.mem_of_getElem? (i := 183) rfl : c_121 ∈ t_23)) 68 1 rfl rfl (by decide) (by decide) (by decide +kernel)
theorem ok_X7_kinds (hw : WOK wS) : OKm (semZ shP wS (d + 28)) 172 68 1 false (qx []) := OKm_of (hall_23 hw d c_203 (List.mem_of_getElem? (i := 82) rfl : c_203 ∈ t_23)) 68 1 rfl rfl (by decide) (by decide) (by decide +kernel)
theorem ok_X7_fathers (hw : WOK wS) : OKm (semZ shP wS (d + 28)) 173 68 1 false (qx []) := OKm_of (hall_23 hw d c_195 (List.mem_of_getElem? (i := 107) rfl : c_195 ∈ t_23)) 68 1 rfl rfl (by decide) (by decide) (by decide +kernel)
theorem ok_X7_look (hw : WOK wS) : OKm (semZ shP wS (d + 28)) 174 68 2 false (qx []) := OKm_of (hall_23 hw d c_196 (List.mem_of_getElem? (i := 108) rfl : c_196 ∈ t_23)) 68 2 rfl rfl (by decide) (by decide) (by decide +kernel)
theorem ok_X7_drift (hw : WOK wS) : OKm (semZ shP wS (d + 28)) 175 68 3 false (qx []) := OKm_of (hall_23 hw d c_170 (List.mem_of_getElem? (i := 125) rfl : c_170 ∈ t_23)) 68 3 rfl rfl (by decide) (by decide) (by decide +kernel)
theorem ok_X7_sheet (hw : WOK wS) : OKm (semZ shP wS (d + 28)) 180 68 3 false (qx [5]) := OKm_of (hall_23 hw d c_90 (List.mem_of_getElem? (i := 276) rfl : c_90 ∈ t_23)) 68 3 rfl rfl (by decide) (by decide) (by decide +kernel)
theorem ok_X7_lay (hw : WOK wS) : OKm (semZ shP wS (d + 28)) 181 68 3 false (qx [5]) := OKm_of (hall_23 hw d c_91 (List.mem_of_getElem? (i := 277) rfl : c_91 ∈ t_23)) 68 3 rfl rfl (by decide) (by decide) (by decide +kernel)
theorem ok_X7_torn (hw : WOK wS) : OKm (semZ shP wS (d + 28)) 183 68 0 false (qx []) := OKm_of (hall_23 hw d c_92 (List.mem_of_getElem? (i := 278) rfl : c_92 ∈ t_23)) 68 0 rfl rfl (by decide) (by decide) (by decide +kernel)
theorem ok_X7_count (hw : WOK wS) : OKm (semZ shP wS (d + 28)) 184 68 1 false (qx []) := OKm_of (hall_23 hw d c_137 (List.mem_of_getElem? (i := 149) rfl : c_137 ∈ t_23)) 68 1 rfl rfl (by decide) (by decide) (by decide +kernel)
end Ok
end
section
theorem l32_1 {xs : List Int32} (h : xs.length = 1) : ∃ a0 : Int32, xs = [a0] := by
  match xs, h with
  | [a0], _ => exact ⟨a0, rfl⟩
theorem l32_2 {xs : List Int32} (h : xs.length = 2) : ∃ a0 a1 : Int32, xs = [a0, a1] := by
  match xs, h with
  | [a0, a1], _ => exact ⟨a0, a1, rfl⟩
theorem l32_3 {xs : List Int32} (h : xs.length = 3) : ∃ a0 a1 a2 : Int32, xs = [a0, a1, a2] := by
  match xs, h with
  | [a0, a1, a2], _ => exact ⟨a0, a1, a2, rfl⟩
theorem l32_4 {xs : List Int32} (h : xs.length = 4) : ∃ a0 a1 a2 a3 : Int32, xs = [a0, a1, a2, a3] := by
  match xs, h with
  | [a0, a1, a2, a3], _ => exact ⟨a0, a1, a2, a3, rfl⟩
section Ok2
variable {wS : List Value → Mm → Option Rs} (d : Nat)
theorem ok_X6_alter (hw : WOK wS) : OKm (semZ shP wS (d + 28)) 51 0 3 false (qx [8]) := by
  intro xs m hn hI hJ
  obtain ⟨a0, a1, a2, rfl⟩ := l32_3 hn
  have hr := r32 a1
  by_cases c0 : a1.toInt ≤ -1
  · exact OKv_of (hall_23 hw d c_211 (List.mem_of_getElem? (i := 47) rfl : c_211 ∈ t_23)) ⟨gv_rf 0, gv_tI a0, gv_i (by omega) (by omega), gv_tI a2, trivial⟩ hI hJ rho_nil (by decide) (by decide) (by decide +kernel)
  by_cases c1 : a1.toInt ≤ 0
  · exact OKv_of (hall_23 hw d c_226 (List.mem_of_getElem? (i := 29) rfl : c_226 ∈ t_23)) ⟨gv_rf 0, gv_tI a0, gv_ci (by omega), gv_tI a2, trivial⟩ hI hJ rho_nil (by decide) (by decide) (by decide +kernel)
  by_cases c2 : a1.toInt ≤ 1
  · exact OKv_of (hall_23 hw d c_227 (List.mem_of_getElem? (i := 30) rfl : c_227 ∈ t_23)) ⟨gv_rf 0, gv_tI a0, gv_ci (by omega), gv_tI a2, trivial⟩ hI hJ rho_nil (by decide) (by decide) (by decide +kernel)
  by_cases c3 : a1.toInt ≤ 2
  · exact OKv_of (hall_23 hw d c_228 (List.mem_of_getElem? (i := 31) rfl : c_228 ∈ t_23)) ⟨gv_rf 0, gv_tI a0, gv_ci (by omega), gv_tI a2, trivial⟩ hI hJ rho_nil (by decide) (by decide) (by decide +kernel)
  by_cases c4 : a1.toInt ≤ 3
  · exact OKv_of (hall_23 hw d c_229 (List.mem_of_getElem? (i := 32) rfl : c_229 ∈ t_23)) ⟨gv_rf 0, gv_tI a0, gv_ci (by omega), gv_tI a2, trivial⟩ hI hJ rho_nil (by decide) (by decide) (by decide +kernel)
  exact OKv_of (hall_23 hw d c_210 (List.mem_of_getElem? (i := 46) rfl : c_210 ∈ t_23)) ⟨gv_rf 0, gv_tI a0, gv_i (by omega) (by omega), gv_tI a2, trivial⟩ hI hJ rho_nil (by decide) (by decide) (by decide +kernel)
theorem ok_X6_lay (hw : WOK wS) : OKm (semZ shP wS (d + 28)) 95 0 3 false (qx [4]) := by
  intro xs m hn hI hJ
  obtain ⟨a0, a1, a2, rfl⟩ := l32_3 hn
  have hr := r32 a1
  by_cases c0 : a1.toInt ≤ -1
  · exact OKv_of (hall_23 hw d c_213 (List.mem_of_getElem? (i := 49) rfl : c_213 ∈ t_23)) ⟨gv_rf 0, gv_tI a0, gv_i (by omega) (by omega), gv_tI a2, trivial⟩ hI hJ rho_nil (by decide) (by decide) (by decide +kernel)
  by_cases c1 : a1.toInt ≤ 39
  · exact OKv_of (hall_23 hw d c_230 (List.mem_of_getElem? (i := 33) rfl : c_230 ∈ t_23)) ⟨gv_rf 0, gv_tI a0, gv_i (by omega) (by omega), gv_tI a2, trivial⟩ hI hJ rho_nil (by decide) (by decide) (by decide +kernel)
  exact OKv_of (hall_23 hw d c_212 (List.mem_of_getElem? (i := 48) rfl : c_212 ∈ t_23)) ⟨gv_rf 0, gv_tI a0, gv_i (by omega) (by omega), gv_tI a2, trivial⟩ hI hJ rho_nil (by decide) (by decide) (by decide +kernel)
theorem ok_X6_order (hw : WOK wS) : OKm (semZ shP wS (d + 28)) 69 0 2 false (qx []) := by
  intro xs m hn hI hJ
  obtain ⟨a0, a1, rfl⟩ := l32_2 hn
  have hr := r32 a1
  have hv := hI 1 0
  rw [show ivO TV 1 0 = (0, 4) from by decide +kernel] at hv
  have hv1 : 0 ≤ (m.1 1 0).toInt := hv.1
  have hv2 : (m.1 1 0).toInt ≤ 4 := hv.2
  by_cases c0 : a1.toInt ≤ -2147483639
  · exact OKv_of (hall_23 hw d c_37 (List.mem_of_getElem? (i := 223) rfl : c_37 ∈ t_23)) ⟨gv_rf 0, gv_tI a0, gv_i (by omega) (by omega), trivial⟩ hI hJ rho_nil (by decide) (by decide) (by decide +kernel)
  by_cases c1 : a1.toInt ≤ -1
  · exact OKv_of (hall_23 hw d c_39 (List.mem_of_getElem? (i := 225) rfl : c_39 ∈ t_23)) ⟨gv_rf 0, gv_tI a0, gv_i (by omega) (by omega), trivial⟩ hI hJ rho_nil (by decide) (by decide) (by decide +kernel)
  by_cases c2 : a1.toInt ≤ 0
  · by_cases e0 : (m.1 1 0).toInt ≤ 0
    · exact OKv_of (hall_23 hw d c_171 (List.mem_of_getElem? (i := 83) rfl : c_171 ∈ t_23)) ⟨gv_rf 0, gv_tI a0, gv_ci (by omega), trivial⟩ hI hJ (rho_one (by rw [cel_of m 200 1 0 rfl rfl]; omega) (by rw [cel_of m 200 1 0 rfl rfl]; omega)) (by decide) (by decide) (by decide +kernel)
    by_cases e1 : (m.1 1 0).toInt ≤ 1
    · exact OKv_of (hall_23 hw d c_172 (List.mem_of_getElem? (i := 84) rfl : c_172 ∈ t_23)) ⟨gv_rf 0, gv_tI a0, gv_ci (by omega), trivial⟩ hI hJ (rho_one (by rw [cel_of m 200 1 0 rfl rfl]; omega) (by rw [cel_of m 200 1 0 rfl rfl]; omega)) (by decide) (by decide) (by decide +kernel)
    by_cases e2 : (m.1 1 0).toInt ≤ 2
    · exact OKv_of (hall_23 hw d c_173 (List.mem_of_getElem? (i := 85) rfl : c_173 ∈ t_23)) ⟨gv_rf 0, gv_tI a0, gv_ci (by omega), trivial⟩ hI hJ (rho_one (by rw [cel_of m 200 1 0 rfl rfl]; omega) (by rw [cel_of m 200 1 0 rfl rfl]; omega)) (by decide) (by decide) (by decide +kernel)
    by_cases e3 : (m.1 1 0).toInt ≤ 3
    · exact OKv_of (hall_23 hw d c_174 (List.mem_of_getElem? (i := 86) rfl : c_174 ∈ t_23)) ⟨gv_rf 0, gv_tI a0, gv_ci (by omega), trivial⟩ hI hJ (rho_one (by rw [cel_of m 200 1 0 rfl rfl]; omega) (by rw [cel_of m 200 1 0 rfl rfl]; omega)) (by decide) (by decide) (by decide +kernel)
    exact OKv_of (hall_23 hw d c_175 (List.mem_of_getElem? (i := 87) rfl : c_175 ∈ t_23)) ⟨gv_rf 0, gv_tI a0, gv_ci (by omega), trivial⟩ hI hJ (rho_one (by rw [cel_of m 200 1 0 rfl rfl]; omega) (by rw [cel_of m 200 1 0 rfl rfl]; omega)) (by decide) (by decide) (by decide +kernel)
  by_cases c3 : a1.toInt ≤ 9
  · exact OKv_of (hall_23 hw d c_36 (List.mem_of_getElem? (i := 222) rfl : c_36 ∈ t_23)) ⟨gv_rf 0, gv_tI a0, gv_i (by omega) (by omega), trivial⟩ hI hJ rho_nil (by decide) (by decide) (by decide +kernel)
  by_cases c4 : a1.toInt ≤ 13
  · by_cases e0 : (m.1 1 0).toInt ≤ 0
    · exact OKv_of (hall_23 hw d c_35 (List.mem_of_getElem? (i := 221) rfl : c_35 ∈ t_23)) ⟨gv_rf 0, gv_tI a0, gv_i (by omega) (by omega), trivial⟩ hI hJ (rho_one (by rw [cel_of m 200 1 0 rfl rfl]; omega) (by rw [cel_of m 200 1 0 rfl rfl]; omega)) (by decide) (by decide) (by decide +kernel)
    by_cases e1 : (m.1 1 0).toInt ≤ 1
    · exact OKv_of (hall_23 hw d c_176 (List.mem_of_getElem? (i := 88) rfl : c_176 ∈ t_23)) ⟨gv_rf 0, gv_tI a0, gv_i (by omega) (by omega), trivial⟩ hI hJ (rho_one (by rw [cel_of m 200 1 0 rfl rfl]; omega) (by rw [cel_of m 200 1 0 rfl rfl]; omega)) (by decide) (by decide) (by decide +kernel)
    by_cases e2 : (m.1 1 0).toInt ≤ 2
    · exact OKv_of (hall_23 hw d c_177 (List.mem_of_getElem? (i := 89) rfl : c_177 ∈ t_23)) ⟨gv_rf 0, gv_tI a0, gv_i (by omega) (by omega), trivial⟩ hI hJ (rho_one (by rw [cel_of m 200 1 0 rfl rfl]; omega) (by rw [cel_of m 200 1 0 rfl rfl]; omega)) (by decide) (by decide) (by decide +kernel)
    by_cases e3 : (m.1 1 0).toInt ≤ 3
    · exact OKv_of (hall_23 hw d c_178 (List.mem_of_getElem? (i := 90) rfl : c_178 ∈ t_23)) ⟨gv_rf 0, gv_tI a0, gv_i (by omega) (by omega), trivial⟩ hI hJ (rho_one (by rw [cel_of m 200 1 0 rfl rfl]; omega) (by rw [cel_of m 200 1 0 rfl rfl]; omega)) (by decide) (by decide) (by decide +kernel)
    exact OKv_of (hall_23 hw d c_179 (List.mem_of_getElem? (i := 91) rfl : c_179 ∈ t_23)) ⟨gv_rf 0, gv_tI a0, gv_i (by omega) (by omega), trivial⟩ hI hJ (rho_one (by rw [cel_of m 200 1 0 rfl rfl]; omega) (by rw [cel_of m 200 1 0 rfl rfl]; omega)) (by decide) (by decide) (by decide +kernel)
  exact OKv_of (hall_23 hw d c_38 (List.mem_of_getElem? (i := 224) rfl : c_38 ∈ t_23)) ⟨gv_rf 0, gv_tI a0, gv_i (by omega) (by omega), trivial⟩ hI hJ rho_nil (by decide) (by decide) (by decide +kernel)
theorem ok_X6_keep (hw : WOK wS) : OKm (semZ shP wS (d + 28)) 92 0 1 false (qx [12]) := by
  intro xs m hn hI hJ
  obtain ⟨a0, rfl⟩ := l32_1 hn
  have hr := r32 a0
  by_cases c0 : a0.toInt ≤ -1
  · exact OKv_of (hall_23 hw d c_47 (List.mem_of_getElem? (i := 233) rfl : c_47 ∈ t_23)) ⟨gv_rf 0, gv_i (by omega) (by omega), trivial⟩ hI hJ rho_nil (by decide) (by decide) (by decide +kernel)
  by_cases c1 : a0.toInt ≤ 0
  · exact OKv_of (hall_23 hw d c_108 (List.mem_of_getElem? (i := 170) rfl : c_108 ∈ t_23)) ⟨gv_rf 0, gv_ci (by omega), trivial⟩ hI hJ rho_nil (by decide) (by decide) (by decide +kernel)
  by_cases c2 : a0.toInt ≤ 1
  · exact OKv_of (hall_23 hw d c_109 (List.mem_of_getElem? (i := 171) rfl : c_109 ∈ t_23)) ⟨gv_rf 0, gv_ci (by omega), trivial⟩ hI hJ rho_nil (by decide) (by decide) (by decide +kernel)
  exact OKv_of (hall_23 hw d c_46 (List.mem_of_getElem? (i := 232) rfl : c_46 ∈ t_23)) ⟨gv_rf 0, gv_i (by omega) (by omega), trivial⟩ hI hJ rho_nil (by decide) (by decide) (by decide +kernel)
theorem ok_X6_back (hw : WOK wS) : OKm (semZ shP wS (d + 28)) 93 0 1 false (qx [8, 10]) := by
  intro xs m hn hI hJ
  obtain ⟨a0, rfl⟩ := l32_1 hn
  have hr := r32 a0
  by_cases c0 : a0.toInt ≤ -1
  · exact OKv_of (hall_23 hw d c_49 (List.mem_of_getElem? (i := 235) rfl : c_49 ∈ t_23)) ⟨gv_rf 0, gv_i (by omega) (by omega), trivial⟩ hI hJ rho_nil (by decide) (by decide) (by decide +kernel)
  by_cases c1 : a0.toInt ≤ 0
  · exact OKv_of (hall_23 hw d c_110 (List.mem_of_getElem? (i := 172) rfl : c_110 ∈ t_23)) ⟨gv_rf 0, gv_ci (by omega), trivial⟩ hI hJ rho_nil (by decide) (by decide) (by decide +kernel)
  by_cases c2 : a0.toInt ≤ 1
  · exact OKv_of (hall_23 hw d c_111 (List.mem_of_getElem? (i := 173) rfl : c_111 ∈ t_23)) ⟨gv_rf 0, gv_ci (by omega), trivial⟩ hI hJ rho_nil (by decide) (by decide) (by decide +kernel)
  exact OKv_of (hall_23 hw d c_48 (List.mem_of_getElem? (i := 234) rfl : c_48 ∈ t_23)) ⟨gv_rf 0, gv_i (by omega) (by omega), trivial⟩ hI hJ rho_nil (by decide) (by decide) (by decide +kernel)
theorem ok_X7_set (hw : WOK wS) : OKm (semZ shP wS (d + 28)) 146 68 2 false (qx [9]) := by
  intro xs m hn hI hJ
  obtain ⟨a0, a1, rfl⟩ := l32_2 hn
  have hr := r32 a0
  by_cases c0 : a0.toInt ≤ 1
  · exact OKv_of (hall_23 hw d c_225 (List.mem_of_getElem? (i := 61) rfl : c_225 ∈ t_23)) ⟨gv_rf 68, gv_i (by omega) (by omega), gv_tI a1, trivial⟩ hI hJ rho_nil (by decide) (by decide) (by decide +kernel)
  by_cases c1 : a0.toInt ≤ 2
  · exact OKv_of (hall_23 hw d c_233 (List.mem_of_getElem? (i := 36) rfl : c_233 ∈ t_23)) ⟨gv_rf 68, gv_ci (by omega), gv_tI a1, trivial⟩ hI hJ rho_nil (by decide) (by decide) (by decide +kernel)
  by_cases c2 : a0.toInt ≤ 3
  · exact OKv_of (hall_23 hw d c_234 (List.mem_of_getElem? (i := 37) rfl : c_234 ∈ t_23)) ⟨gv_rf 68, gv_ci (by omega), gv_tI a1, trivial⟩ hI hJ rho_nil (by decide) (by decide) (by decide +kernel)
  by_cases c3 : a0.toInt ≤ 4
  · exact OKv_of (hall_23 hw d c_235 (List.mem_of_getElem? (i := 38) rfl : c_235 ∈ t_23)) ⟨gv_rf 68, gv_ci (by omega), gv_tI a1, trivial⟩ hI hJ rho_nil (by decide) (by decide) (by decide +kernel)
  exact OKv_of (hall_23 hw d c_224 (List.mem_of_getElem? (i := 60) rfl : c_224 ∈ t_23)) ⟨gv_rf 68, gv_i (by omega) (by omega), gv_tI a1, trivial⟩ hI hJ rho_nil (by decide) (by decide) (by decide +kernel)
theorem ok_X7_order (hw : WOK wS) : OKm (semZ shP wS (d + 28)) 162 68 2 false (qx []) := by
  intro xs m hn hI hJ
  obtain ⟨a0, a1, rfl⟩ := l32_2 hn
  have hr := r32 a1
  have hv := hI 68 3
  rw [show ivO TV 68 3 = (0, 4) from by decide +kernel] at hv
  have hv1 : 0 ≤ (m.1 68 3).toInt := hv.1
  have hv2 : (m.1 68 3).toInt ≤ 4 := hv.2
  by_cases c0 : a1.toInt ≤ -2147483639
  · by_cases e0 : (m.1 68 3).toInt ≤ 0
    · exact OKv_of (hall_23 hw d c_76 (List.mem_of_getElem? (i := 262) rfl : c_76 ∈ t_23)) ⟨gv_rf 68, gv_tI a0, gv_i (by omega) (by omega), trivial⟩ hI hJ (rho_one (by rw [cel_of m 13603 68 3 rfl rfl]; omega) (by rw [cel_of m 13603 68 3 rfl rfl]; omega)) (by decide) (by decide) (by decide +kernel)
    exact OKv_of (hall_23 hw d c_75 (List.mem_of_getElem? (i := 261) rfl : c_75 ∈ t_23)) ⟨gv_rf 68, gv_tI a0, gv_i (by omega) (by omega), trivial⟩ hI hJ (rho_one (by rw [cel_of m 13603 68 3 rfl rfl]; omega) (by rw [cel_of m 13603 68 3 rfl rfl]; omega)) (by decide) (by decide) (by decide +kernel)
  by_cases c1 : a1.toInt ≤ -1
  · by_cases e0 : (m.1 68 3).toInt ≤ 0
    · exact OKv_of (hall_23 hw d c_80 (List.mem_of_getElem? (i := 266) rfl : c_80 ∈ t_23)) ⟨gv_rf 68, gv_tI a0, gv_i (by omega) (by omega), trivial⟩ hI hJ (rho_one (by rw [cel_of m 13603 68 3 rfl rfl]; omega) (by rw [cel_of m 13603 68 3 rfl rfl]; omega)) (by decide) (by decide) (by decide +kernel)
    exact OKv_of (hall_23 hw d c_79 (List.mem_of_getElem? (i := 265) rfl : c_79 ∈ t_23)) ⟨gv_rf 68, gv_tI a0, gv_i (by omega) (by omega), trivial⟩ hI hJ (rho_one (by rw [cel_of m 13603 68 3 rfl rfl]; omega) (by rw [cel_of m 13603 68 3 rfl rfl]; omega)) (by decide) (by decide) (by decide +kernel)
  by_cases c2 : a1.toInt ≤ 0
  · by_cases e0 : (m.1 68 3).toInt ≤ 0
    · exact OKv_of (hall_23 hw d c_191 (List.mem_of_getElem? (i := 103) rfl : c_191 ∈ t_23)) ⟨gv_rf 68, gv_tI a0, gv_ci (by omega), trivial⟩ hI hJ (rho_one (by rw [cel_of m 13603 68 3 rfl rfl]; omega) (by rw [cel_of m 13603 68 3 rfl rfl]; omega)) (by decide) (by decide) (by decide +kernel)
    exact OKv_of (hall_23 hw d c_190 (List.mem_of_getElem? (i := 102) rfl : c_190 ∈ t_23)) ⟨gv_rf 68, gv_tI a0, gv_ci (by omega), trivial⟩ hI hJ (rho_one (by rw [cel_of m 13603 68 3 rfl rfl]; omega) (by rw [cel_of m 13603 68 3 rfl rfl]; omega)) (by decide) (by decide) (by decide +kernel)
  by_cases c3 : a1.toInt ≤ 9
  · by_cases e0 : (m.1 68 3).toInt ≤ 0
    · exact OKv_of (hall_23 hw d c_74 (List.mem_of_getElem? (i := 260) rfl : c_74 ∈ t_23)) ⟨gv_rf 68, gv_tI a0, gv_i (by omega) (by omega), trivial⟩ hI hJ (rho_one (by rw [cel_of m 13603 68 3 rfl rfl]; omega) (by rw [cel_of m 13603 68 3 rfl rfl]; omega)) (by decide) (by decide) (by decide +kernel)
    exact OKv_of (hall_23 hw d c_73 (List.mem_of_getElem? (i := 259) rfl : c_73 ∈ t_23)) ⟨gv_rf 68, gv_tI a0, gv_i (by omega) (by omega), trivial⟩ hI hJ (rho_one (by rw [cel_of m 13603 68 3 rfl rfl]; omega) (by rw [cel_of m 13603 68 3 rfl rfl]; omega)) (by decide) (by decide) (by decide +kernel)
  by_cases c4 : a1.toInt ≤ 13
  · by_cases e0 : (m.1 68 3).toInt ≤ 0
    · exact OKv_of (hall_23 hw d c_193 (List.mem_of_getElem? (i := 105) rfl : c_193 ∈ t_23)) ⟨gv_rf 68, gv_tI a0, gv_i (by omega) (by omega), trivial⟩ hI hJ (rho_one (by rw [cel_of m 13603 68 3 rfl rfl]; omega) (by rw [cel_of m 13603 68 3 rfl rfl]; omega)) (by decide) (by decide) (by decide +kernel)
    exact OKv_of (hall_23 hw d c_192 (List.mem_of_getElem? (i := 104) rfl : c_192 ∈ t_23)) ⟨gv_rf 68, gv_tI a0, gv_i (by omega) (by omega), trivial⟩ hI hJ (rho_one (by rw [cel_of m 13603 68 3 rfl rfl]; omega) (by rw [cel_of m 13603 68 3 rfl rfl]; omega)) (by decide) (by decide) (by decide +kernel)
  by_cases e0 : (m.1 68 3).toInt ≤ 0
  · exact OKv_of (hall_23 hw d c_78 (List.mem_of_getElem? (i := 264) rfl : c_78 ∈ t_23)) ⟨gv_rf 68, gv_tI a0, gv_i (by omega) (by omega), trivial⟩ hI hJ (rho_one (by rw [cel_of m 13603 68 3 rfl rfl]; omega) (by rw [cel_of m 13603 68 3 rfl rfl]; omega)) (by decide) (by decide) (by decide +kernel)
  exact OKv_of (hall_23 hw d c_77 (List.mem_of_getElem? (i := 263) rfl : c_77 ∈ t_23)) ⟨gv_rf 68, gv_tI a0, gv_i (by omega) (by omega), trivial⟩ hI hJ (rho_one (by rw [cel_of m 13603 68 3 rfl rfl]; omega) (by rw [cel_of m 13603 68 3 rfl rfl]; omega)) (by decide) (by decide) (by decide +kernel)
theorem ok_X7_alter (hw : WOK wS) : OKm (semZ shP wS (d + 28)) 145 68 3 false (qx [9]) := by
  intro xs m hn hI hJ
  obtain ⟨a0, a1, a2, rfl⟩ := l32_3 hn
  have hr := r32 a1
  by_cases c0 : a1.toInt ≤ -1
  · exact OKv_of (hall_23 hw d c_223 (List.mem_of_getElem? (i := 59) rfl : c_223 ∈ t_23)) ⟨gv_rf 68, gv_tI a0, gv_i (by omega) (by omega), gv_tI a2, trivial⟩ hI hJ rho_nil (by decide) (by decide) (by decide +kernel)
  by_cases c1 : a1.toInt ≤ 0
  · exact OKv_of (hd_al0 wS (d + 11)) ⟨gv_rf 68, gv_tI a0, gv_ci (by omega), gv_tI a2, trivial⟩ hI hJ rho_nil (by decide) (by decide) (by decide +kernel)
  by_cases c2 : a1.toInt ≤ 1
  · exact OKv_of (hd_al1 wS (d + 11)) ⟨gv_rf 68, gv_tI a0, gv_ci (by omega), gv_tI a2, trivial⟩ hI hJ rho_nil (by decide) (by decide) (by decide +kernel)
  by_cases c3 : a1.toInt ≤ 2
  · exact OKv_of (hall_23 hw d c_231 (List.mem_of_getElem? (i := 34) rfl : c_231 ∈ t_23)) ⟨gv_rf 68, gv_tI a0, gv_ci (by omega), gv_tI a2, trivial⟩ hI hJ rho_nil (by decide) (by decide) (by decide +kernel)
  by_cases c4 : a1.toInt ≤ 3
  · exact OKv_of (hall_23 hw d c_232 (List.mem_of_getElem? (i := 35) rfl : c_232 ∈ t_23)) ⟨gv_rf 68, gv_tI a0, gv_ci (by omega), gv_tI a2, trivial⟩ hI hJ rho_nil (by decide) (by decide) (by decide +kernel)
  exact OKv_of (hall_23 hw d c_222 (List.mem_of_getElem? (i := 58) rfl : c_222 ∈ t_23)) ⟨gv_rf 68, gv_tI a0, gv_i (by omega) (by omega), gv_tI a2, trivial⟩ hI hJ rho_nil (by decide) (by decide) (by decide +kernel)
end Ok2
end
section
/-! THE OTHERS, BY HAND -/
section Ok3
variable {wS : List Value → Mm → Option Rs} (d : Nat)
theorem m_t {c : CE} {i : Nat} (h : t_23[i]? = some c) : c ∈ t_23 := List.mem_of_getElem? h
theorem ok_X7_back (hw : WOK wS) : OKm (semZ shP wS (d + 28)) 178 68 1 false (qx [9, 11]) := by
  intro xs m hn hI hJ
  obtain ⟨a0, rfl⟩ := l32_1 hn
  have hr := r32 a0
  by_cases c0 : a0.toInt ≤ -1
  · exact OKv_of (hall_23 hw d c_89 (m_t (i := 275) rfl)) ⟨gv_rf 68, gv_i (by omega) (by omega), trivial⟩ hI hJ rho_nil (by decide) (by decide) (by decide +kernel)
  by_cases c1 : a0.toInt ≤ 0
  · by_cases e0 : m.1 71 0 = 0
    · have e1 : cel m 14200 = 0 := by rw [cel_of m 14200 71 0 rfl rfl, e0]; decide
      exact OKv_of (hall_23 hw d c_85 (m_t (i := 271) rfl)) ⟨gv_rf 68, gv_ci (by omega), trivial⟩ hI hJ (rho_one (by rw [e1]; decide) (by rw [e1]; decide)) (by decide) (by decide) (by decide +kernel)
    · have e1 := hJ.1 e0
      exact OKv_of (hall_23 hw d c_84 (m_t (i := 270) rfl)) ⟨gv_rf 68, gv_ci (by omega), trivial⟩ hI hJ (rho_one e1.1 e1.2) (by decide) (by decide) (by decide +kernel)
  by_cases c2 : a0.toInt ≤ 1
  · by_cases e0 : m.1 71 1 = 0
    · have e1 : cel m 14201 = 0 := by rw [cel_of m 14201 71 1 rfl rfl, e0]; decide
      exact OKv_of (hall_23 hw d c_87 (m_t (i := 273) rfl)) ⟨gv_rf 68, gv_ci (by omega), trivial⟩ hI hJ (rho_one (by rw [e1]; decide) (by rw [e1]; decide)) (by decide) (by decide) (by decide +kernel)
    · have e1 := hJ.2 e0
      exact OKv_of (hall_23 hw d c_86 (m_t (i := 272) rfl)) ⟨gv_rf 68, gv_ci (by omega), trivial⟩ hI hJ (rho_one e1.1 e1.2) (by decide) (by decide) (by decide +kernel)
  · exact OKv_of (hall_23 hw d c_88 (m_t (i := 274) rfl)) ⟨gv_rf 68, gv_i (by omega) (by omega), trivial⟩ hI hJ rho_nil (by decide) (by decide) (by decide +kernel)
theorem ok_X6_read : OKm (semZ shP wS (d + 28)) 96 0 4 false (qx [6, 8]) := OKm_of (hd_rd wS (d + 11)) 0 4 rfl rfl (by decide) (by decide) (by decide +kernel)
theorem ok_X7_read : OKm (semZ shP wS (d + 28)) 182 68 4 false (qx [7, 9, 11]) := OKm_of (hd_rm wS (d + 11)) 68 4 rfl rfl (by decide) (by decide) (by decide +kernel)
theorem ok_X7_mean : OKm (semZ shP wS (d + 28)) 166 68 3 true (qx []) := OKm_of (hd_mn wS (d + 10)) 68 3 rfl rfl (by decide) (by decide) (by decide +kernel)
theorem ok_X7_luck : OKm (semZ shP wS (d + 28)) 167 68 4 true (qx []) := OKm_of (hd_lk wS (d + 10)) 68 4 rfl rfl (by decide) (by decide) (by decide +kernel)
/-- text of both: the tapes are empty then -/
theorem ok_X6_text (hw : WOK wS) (m : Mm) (hI : InvT TV m) (hJ : JK m) : ∃ (x : Int32) (m' : Mm), semZ shP wS (d + 28) 45 [.ref 0] m = some (some (.int x), m') ∧ InvT TV m' ∧ JK m' ∧ m'.1 24 0 = 0 ∧ m'.1 68 9 = m.1 68 9 ∧ Kp (qx [0, 2, 8, 10, 12]) m m' := by
  obtain ⟨v, m', a1, a2, a3, a4, a5, -⟩ := hall_23 hw d c_256 (m_t (i := 5) rfl) [.ref 0] m ⟨gv_rf 0, trivial⟩ hI rho_nil
  obtain ⟨w, rfl, x, rfl⟩ := vOK_of (lg := false) (a := tI) rfl a2
  have h0 := a4 (4800, 0, 0) (List.mem_singleton.mpr rfl)
  have e0 : (m'.1 24 0).toInt = 0 := by
    have q1 : 0 ≤ cel m' 4800 := h0.1
    have q2 : cel m' 4800 ≤ 0 := h0.2
    rw [cel_of m' 4800 24 0 rfl rfl] at q1 q2
    omega
  exact ⟨x, m', a1, a3, JK_of (inW_f a5 (by omega) (by decide)) (inW_f a5 (by omega) (by decide)) (inW_f a5 (by omega) (by decide)) (inW_f a5 (by omega) (by decide)) hJ, Int32.toInt_inj.mp (by rw [e0]; decide), inW_f a5 (by omega) (by decide), Kp_of a5 (by decide +kernel)⟩
theorem ok_X7_text (hw : WOK wS) (m : Mm) (hI : InvT TV m) (hJ : JK m) : ∃ (x : Int32) (m' : Mm), semZ shP wS (d + 30) 118 [.ref 68] m = some (some (.int x), m') ∧ InvT TV m' ∧ JK m' ∧ m'.1 24 0 = m.1 24 0 ∧ m'.1 68 9 = 0 ∧ Kp (qx [1, 3, 9, 11, 13]) m m' := by
  obtain ⟨x, m', a1, a2, a3, a4, a5⟩ := t_text hw d m hI
  exact ⟨x, m', a1, a2, a5 hJ, inW_f a3 (by omega) (by decide), a4, Kp_of a3 (by decide +kernel)⟩
/-! feed and end -/
theorem F24 (m : Mm) : gfI shP 300 24 m = some (.int (m.1 24 0)) ∧ gfI shP 303 24 m = some (.ref 25) ∧ (∀ x : Int32, pfI shP 300 24 (.int x) m = some (wI m 24 0 x)) := ⟨rfl, rfl, fun _ => rfl⟩
theorem F23 (m : Mm) : gfI shP 400 23 m = some (.ref 24) := rfl
theorem F68 (m : Mm) : gfI shP 709 68 m = some (.int (m.1 68 9)) ∧ gfI shP 708 68 m = some (.ref 73) ∧ (∀ x : Int32, pfI shP 709 68 (.int x) m = some (wI m 68 9 x)) := ⟨rfl, rfl, fun _ => rfl⟩
theorem S25 (i x : Int32) (m : Mm) : asI shP 0 25 i x m = if inR i 160 = true then some (wI m 25 i.toNatClampNeg x) else none := as_of (n := 160) (rs := []) rfl i x m
theorem S73 (i x : Int32) (m : Mm) : asI shP 0 73 i x m = if inR i 160 = true then some (wI m 73 i.toNatClampNeg x) else none := as_of (n := 160) (rs := []) rfl i x m
/-- what feed answers, by the length n of the tape -/
def fdV (c : Int32) (n : Nat) : Int32 := if 0 ≤ c ∧ c ≤ 127 then (if n < 160 then nI (n + 1) else -3) else -1
def fdN (c : Int32) (n : Nat) : Nat := if 0 ≤ c ∧ c ≤ 127 then (if n < 160 then n + 1 else n) else n
/-- the bytes behind feed -/
def FdB (o : Nat) (c : Int32) (n : Nat) (m m' : Mm) : Prop := ((0 ≤ c ∧ c ≤ 127) ∧ n < 160 → m'.1 o = upd (m.1 o) n c) ∧ (¬ ((0 ≤ c ∧ c ≤ 127) ∧ n < 160) → m'.1 o = m.1 o)
theorem FdB_y {o : Nat} {c : Int32} {n : Nat} {m m' : Mm} (h : (0 ≤ c ∧ c ≤ 127) ∧ n < 160) (e : m'.1 o = upd (m.1 o) n c) : FdB o c n m m' := ⟨fun _ => e, fun z => absurd h z⟩
theorem FdB_n {o : Nat} {c : Int32} {n : Nat} {m : Mm} (h : ¬ ((0 ≤ c ∧ c ≤ 127) ∧ n < 160)) : FdB o c n m m := ⟨fun z => absurd z h, fun _ => rfl⟩
theorem t_feed6 (c : Int32) (m : Mm) {n : Nat} (hn : m.1 24 0 = nI n) (h160 : n ≤ 160) : ∃ m', semZ shP wS (d + 3) 43 [.ref 0, .int c] m = some (some (.int (fdV c n)), m') ∧ m'.1 24 0 = nI (fdN c n) ∧ frm ([25], [4800]) m m' ∧ (InvT TV m → InvT TV m') ∧ FdB 25 c n m m' := by
  have e10 : ¬ (1 : Int32) = 0 := by decide
  unfold fdV fdN
  by_cases h1 : 0 ≤ c ∧ c ≤ 127
  · have hd : (decide (0 ≤ c) && decide (c ≤ 127)) = true := by simp only [h1.1, h1.2, decide_true, Bool.and_self]
    rw [if_pos h1, if_pos h1]
    by_cases h2 : n < 160
    · rw [if_pos h2, if_pos h2]
      have hlt : nI n < 160 := nI_lt (a := n) (b := 160) h2 (by omega)
      have e2 : inR (nI n) 160 = true := inR_nI h2 (by omega)
      have e3 : (nI n).toNatClampNeg = n := nI_clamp (by omega)
      have en : (wI m 25 n c).1 24 0 = nI n := by rw [wI_at, if_neg (by omega)]; exact hn
      have ap : semZ shP wS (d + 2) 7 [.ref 24, .int c] m = some (some (.int 1), wI (wI m 25 n c) 24 0 (nI (n + 1))) := by
        rw [se_X3_append, rn_eq, b_X3_append_0]
        simp only [EV, LV, CB, OI, OL, NP, CZ, popN, CT, OZ, List.map_nil, List.map_cons, List.sum_nil, List.sum_cons, Option.toList, List.nil_append, List.cons_append, Int.reduceToNat, Nat.reduceAdd, Nat.reduceLT, Nat.reduceLeDiff, List.length_cons, List.length_nil, Nat.zero_add, if_true, if_false, reduceIte, and_self, and_true, true_and, eq_self, reduceCtorEq, F24, hn, hlt]
        rw [rn_eq, b_X3_append_12]
        simp only [EV, LV, CB, OI, OL, NP, CZ, popN, CT, OZ, List.map_nil, List.map_cons, List.sum_nil, List.sum_cons, Option.toList, List.nil_append, List.cons_append, Int.reduceToNat, Nat.reduceAdd, Nat.reduceLT, Nat.reduceLeDiff, List.length_cons, List.length_nil, Nat.zero_add, if_true, if_false, reduceIte, and_self, and_true, true_and, eq_self, reduceCtorEq, F24, hn, S25, e2, e3, en, nI_1]
      have en2 : (wI (wI m 25 n c) 24 0 (nI (n + 1))).1 24 0 = nI (n + 1) := by rw [wI_at, if_pos ⟨rfl, rfl⟩]
      refine ⟨_, ?_, en2, frm_wI (by omega) (frm_wI (by omega) frm_rf (by unfold inW; rw [show ([25] : List Nat).contains 25 = true from by decide]; rfl)) (by decide), fun hI => Inv_wI (Inv_wI hI ?_ ?_) ?_ ?_, FdB_y ⟨h1, h2⟩ rfl⟩
      · rw [se_X6_feed, rn_eq, b_X6_feed_0]
        simp only [EV, LV, CB, OI, OL, NP, CZ, popN, CT, OZ, List.map_nil, List.map_cons, List.sum_nil, List.sum_cons, Option.toList, List.nil_append, List.cons_append, Int.reduceToNat, Nat.reduceAdd, Nat.reduceLT, Nat.reduceLeDiff, List.length_cons, List.length_nil, Nat.zero_add, if_true, if_false, reduceIte, and_self, and_true, true_and, eq_self, reduceCtorEq, t_within wS (d + 1), hd, bI_t, e10, not_false_eq_true]
        rw [rn_eq, b_X6_feed_12]
        simp only [EV, LV, CB, OI, OL, NP, CZ, popN, CT, OZ, List.map_nil, List.map_cons, List.sum_nil, List.sum_cons, Option.toList, List.nil_append, List.cons_append, Int.reduceToNat, Nat.reduceAdd, Nat.reduceLT, Nat.reduceLeDiff, List.length_cons, List.length_nil, Nat.zero_add, if_true, if_false, reduceIte, and_self, and_true, true_and, eq_self, reduceCtorEq, gP0, F23, C24, ap, e10, F24, en2]
        rw [rn_eq, b_X6_feed_41]
        simp only [EV, LV, CB, OI, OL, NP, CZ, popN, CT, OZ, List.map_nil, List.map_cons, List.sum_nil, List.sum_cons, Option.toList, List.nil_append, List.cons_append, Int.reduceToNat, Nat.reduceAdd, Nat.reduceLT, Nat.reduceLeDiff, List.length_cons, List.length_nil, Nat.zero_add, if_true, if_false, reduceIte, and_self, and_true, true_and, eq_self, reduceCtorEq]
      · rw [show ivO TV 25 n = (-2147483648, 2147483647) from by rw [iv_1 (by decide)]; decide]; exact (r32 c).1
      · rw [show ivO TV 25 n = (-2147483648, 2147483647) from by rw [iv_1 (by decide)]; decide]; exact (r32 c).2
      · rw [show ivO TV 24 0 = (0, 160) from by decide +kernel, nI_toInt (by omega)]; show (0 : Int) ≤ _; omega
      · rw [show ivO TV 24 0 = (0, 160) from by decide +kernel, nI_toInt (by omega)]; show _ ≤ (160 : Int); omega
    · rw [if_neg h2, if_neg h2]
      have e160 : n = 160 := by omega
      subst e160
      have hlt : ¬ nI 160 < 160 := by decide +kernel
      have ap : semZ shP wS (d + 2) 7 [.ref 24, .int c] m = some (some (.int 0), m) := by
        rw [se_X3_append, rn_eq, b_X3_append_0]
        simp only [EV, LV, CB, OI, OL, NP, CZ, popN, CT, OZ, List.map_nil, List.map_cons, List.sum_nil, List.sum_cons, Option.toList, List.nil_append, List.cons_append, Int.reduceToNat, Nat.reduceAdd, Nat.reduceLT, Nat.reduceLeDiff, List.length_cons, List.length_nil, Nat.zero_add, if_true, if_false, reduceIte, and_self, and_true, true_and, eq_self, reduceCtorEq, F24, hn, hlt]
      refine ⟨m, ?_, hn, frm_rf, fun hI => hI, FdB_n (fun z => h2 z.2)⟩
      rw [se_X6_feed, rn_eq, b_X6_feed_0]
      simp only [EV, LV, CB, OI, OL, NP, CZ, popN, CT, OZ, List.map_nil, List.map_cons, List.sum_nil, List.sum_cons, Option.toList, List.nil_append, List.cons_append, Int.reduceToNat, Nat.reduceAdd, Nat.reduceLT, Nat.reduceLeDiff, List.length_cons, List.length_nil, Nat.zero_add, if_true, if_false, reduceIte, and_self, and_true, true_and, eq_self, reduceCtorEq, t_within wS (d + 1), hd, bI_t, e10, not_false_eq_true]
      rw [rn_eq, b_X6_feed_12]
      simp only [EV, LV, CB, OI, OL, NP, CZ, popN, CT, OZ, List.map_nil, List.map_cons, List.sum_nil, List.sum_cons, Option.toList, List.nil_append, List.cons_append, Int.reduceToNat, Nat.reduceAdd, Nat.reduceLT, Nat.reduceLeDiff, List.length_cons, List.length_nil, Nat.zero_add, if_true, if_false, reduceIte, and_self, and_true, true_and, eq_self, reduceCtorEq, gP0, F23, C24, ap]
      rw [rn_eq, b_X6_feed_39]
      simp only [EV, LV, CB, OI, OL, NP, CZ, popN, CT, OZ, List.map_nil, List.map_cons, List.sum_nil, List.sum_cons, Option.toList, List.nil_append, List.cons_append, Int.reduceToNat, Nat.reduceAdd, Nat.reduceLT, Nat.reduceLeDiff, List.length_cons, List.length_nil, Nat.zero_add, if_true, if_false, reduceIte, and_self, and_true, true_and, eq_self, reduceCtorEq]
  · have hd : (decide (0 ≤ c) && decide (c ≤ 127)) = false := by
      cases h : (decide (0 ≤ c) && decide (c ≤ 127)) with
      | false => rfl
      | true =>
        simp only [Bool.and_eq_true, decide_eq_true_eq] at h
        exact absurd h h1
    rw [if_neg h1, if_neg h1]
    refine ⟨m, ?_, hn, frm_rf, fun hI => hI, FdB_n (fun z => h1 z.1)⟩
    rw [se_X6_feed, rn_eq, b_X6_feed_0]
    simp only [EV, LV, CB, OI, OL, NP, CZ, popN, CT, OZ, List.map_nil, List.map_cons, List.sum_nil, List.sum_cons, Option.toList, List.nil_append, List.cons_append, Int.reduceToNat, Nat.reduceAdd, Nat.reduceLT, Nat.reduceLeDiff, List.length_cons, List.length_nil, Nat.zero_add, if_true, if_false, reduceIte, and_self, and_true, true_and, eq_self, reduceCtorEq, t_within wS (d + 1), hd, bI_f, not_true_eq_false]
end Ok3
end
section
/-! feed and end of both; keep of the model -/
theorem dec64 (c : Int32) (a b : Int32) (A B : Int64) (hA : A = a.toInt64) (hB : B = b.toInt64) : (decide (A ≤ c.toInt64) && decide (c.toInt64 ≤ B)) = (decide (a ≤ c) && decide (c ≤ b)) := by
  subst hA hB
  simp only [Int64.le_iff_toInt_le, Int32.le_iff_toInt_le, Int32.toInt_toInt64]
section Ok4
variable {wS : List Value → Mm → Option Rs} (d : Nat)
theorem t_feed7 (c : Int32) (m : Mm) {n : Nat} (hn : m.1 68 9 = nI n) (h160 : n ≤ 160) : ∃ m', semZ shP wS (d + 3) 105 [.ref 68, .int c] m = some (some (.int (fdV c n)), m') ∧ m'.1 68 9 = nI (fdN c n) ∧ frm ([73], [13609]) m m' ∧ (InvT TV m → InvT TV m') ∧ FdB 73 c n m m' := by
  have e10 : ¬ (1 : Int32) = 0 := by decide
  have ed := dec64 c 0 127 0 127 (by decide) (by decide)
  unfold fdV fdN
  by_cases h1 : 0 ≤ c ∧ c ≤ 127
  · have hd : (decide (0 ≤ c) && decide (c ≤ 127)) = true := by simp only [h1.1, h1.2, decide_true, Bool.and_self]
    rw [hd] at ed
    rw [if_pos h1, if_pos h1]
    by_cases h2 : n < 160
    · rw [if_pos h2, if_pos h2]
      have hne : ¬ nI n = 160 := fun z => by
        have := nI_lt (a := n) (b := 160) h2 (by omega)
        rw [z] at this
        exact absurd this (by decide)
      have e2 : inR (nI n) 160 = true := inR_nI h2 (by omega)
      have e3 : (nI n).toNatClampNeg = n := nI_clamp (by omega)
      have en : (wI m 73 n c).1 68 9 = nI n := by rw [wI_at, if_neg (by omega)]; exact hn
      have en2 : (wI (wI m 73 n c) 68 9 (nI (n + 1))).1 68 9 = nI (n + 1) := by rw [wI_at, if_pos ⟨rfl, rfl⟩]
      refine ⟨_, ?_, en2, frm_wI (by omega) (frm_wI (by omega) frm_rf (by unfold inW; rw [show ([73] : List Nat).contains 73 = true from by decide]; rfl)) (by decide), fun hI => Inv_wI (Inv_wI hI ?_ ?_) ?_ ?_, FdB_y ⟨h1, h2⟩ rfl⟩
      · rw [se_X7_feed, rn_eq, b_X7_feed_0]
        simp only [EV, LV, CB, OI, OL, NP, CZ, popN, CT, OZ, List.map_nil, List.map_cons, List.sum_nil, List.sum_cons, Option.toList, List.nil_append, List.cons_append, Int.reduceToNat, Nat.reduceAdd, Nat.reduceLT, Nat.reduceLeDiff, List.length_cons, List.length_nil, Nat.zero_add, if_true, if_false, reduceIte, and_self, and_true, true_and, eq_self, reduceCtorEq, t_in wS (d + 1), ed, bI_t, e10, not_false_eq_true]
        rw [rn_eq, b_X7_feed_14]
        simp only [EV, LV, CB, OI, OL, NP, CZ, popN, CT, OZ, List.map_nil, List.map_cons, List.sum_nil, List.sum_cons, Option.toList, List.nil_append, List.cons_append, Int.reduceToNat, Nat.reduceAdd, Nat.reduceLT, Nat.reduceLeDiff, List.length_cons, List.length_nil, Nat.zero_add, if_true, if_false, reduceIte, and_self, and_true, true_and, eq_self, reduceCtorEq, F68, hn, hne, not_false_eq_true]
        rw [rn_eq, b_X7_feed_27]
        simp only [EV, LV, CB, OI, OL, NP, CZ, popN, CT, OZ, List.map_nil, List.map_cons, List.sum_nil, List.sum_cons, Option.toList, List.nil_append, List.cons_append, Int.reduceToNat, Nat.reduceAdd, Nat.reduceLT, Nat.reduceLeDiff, List.length_cons, List.length_nil, Nat.zero_add, if_true, if_false, reduceIte, and_self, and_true, true_and, eq_self, reduceCtorEq, F68, hn, S73, e2, e3, en, nI_1, en2]
      · rw [show ivO TV 73 n = (-2147483648, 2147483647) from by rw [iv_1 (by decide)]; decide]; exact (r32 c).1
      · rw [show ivO TV 73 n = (-2147483648, 2147483647) from by rw [iv_1 (by decide)]; decide]; exact (r32 c).2
      · rw [iv_68a.2.2.2, nI_toInt (by omega)]; show (0 : Int) ≤ _; omega
      · rw [iv_68a.2.2.2, nI_toInt (by omega)]; show _ ≤ (160 : Int); omega
    · rw [if_neg h2, if_neg h2]
      have e160 : n = 160 := by omega
      subst e160
      have heq : nI 160 = 160 := by decide +kernel
      refine ⟨m, ?_, hn, frm_rf, fun hI => hI, FdB_n (fun z => h2 z.2)⟩
      rw [se_X7_feed, rn_eq, b_X7_feed_0]
      simp only [EV, LV, CB, OI, OL, NP, CZ, popN, CT, OZ, List.map_nil, List.map_cons, List.sum_nil, List.sum_cons, Option.toList, List.nil_append, List.cons_append, Int.reduceToNat, Nat.reduceAdd, Nat.reduceLT, Nat.reduceLeDiff, List.length_cons, List.length_nil, Nat.zero_add, if_true, if_false, reduceIte, and_self, and_true, true_and, eq_self, reduceCtorEq, t_in wS (d + 1), ed, bI_t, e10, not_false_eq_true]
      rw [rn_eq, b_X7_feed_14]
      simp only [EV, LV, CB, OI, OL, NP, CZ, popN, CT, OZ, List.map_nil, List.map_cons, List.sum_nil, List.sum_cons, Option.toList, List.nil_append, List.cons_append, Int.reduceToNat, Nat.reduceAdd, Nat.reduceLT, Nat.reduceLeDiff, List.length_cons, List.length_nil, Nat.zero_add, if_true, if_false, reduceIte, and_self, and_true, true_and, eq_self, reduceCtorEq, F68, hn, heq, not_true_eq_false]
  · have hd : (decide (0 ≤ c) && decide (c ≤ 127)) = false := by
      cases h : (decide (0 ≤ c) && decide (c ≤ 127)) with
      | false => rfl
      | true =>
        simp only [Bool.and_eq_true, decide_eq_true_eq] at h
        exact absurd h h1
    rw [hd] at ed
    rw [if_neg h1, if_neg h1]
    refine ⟨m, ?_, hn, frm_rf, fun hI => hI, FdB_n (fun z => h1 z.1)⟩
    rw [se_X7_feed, rn_eq, b_X7_feed_0]
    simp only [EV, LV, CB, OI, OL, NP, CZ, popN, CT, OZ, List.map_nil, List.map_cons, List.sum_nil, List.sum_cons, Option.toList, List.nil_append, List.cons_append, Int.reduceToNat, Nat.reduceAdd, Nat.reduceLT, Nat.reduceLeDiff, List.length_cons, List.length_nil, Nat.zero_add, if_true, if_false, reduceIte, and_self, and_true, true_and, eq_self, reduceCtorEq, t_in wS (d + 1), ed, bI_f, not_true_eq_false]
/-- what end answers, and the length then -/
def enV (x : Int32) (n : Nat) : Int32 := if (decide (0 ≤ x) && decide (x ≤ nI n)) = true then nI n else -1
def enN (x : Int32) (n : Nat) : Int32 := if (decide (0 ≤ x) && decide (x ≤ nI n)) = true then x else nI n
theorem t_end6 (x : Int32) (m : Mm) {n : Nat} (hn : m.1 24 0 = nI n) (h160 : n ≤ 160) : ∃ m', semZ shP wS (d + 2) 44 [.ref 0, .int x] m = some (some (.int (enV x n)), m') ∧ m'.1 24 0 = enN x n ∧ frm ([], [4800]) m m' ∧ (InvT TV m → InvT TV m') := by
  have e10 : ¬ (1 : Int32) = 0 := by decide
  unfold enV enN
  cases h : (decide (0 ≤ x) && decide (x ≤ nI n)) with
  | true =>
    have hb := wi_i h
    rw [show (0 : Int32).toInt = 0 from by decide, nI_toInt (by omega)] at hb
    refine ⟨wI m 24 0 x, ?_, by rw [wI_at, if_pos ⟨rfl, rfl⟩]; rfl, frm_wI (by omega) frm_rf (by decide), fun hI => Inv_wI hI ?_ ?_⟩
    · rw [se_X6_end, rn_eq, b_X6_end_0]
      simp only [EV, LV, CB, OI, OL, NP, CZ, popN, CT, OZ, List.map_nil, List.map_cons, List.sum_nil, List.sum_cons, Option.toList, List.nil_append, List.cons_append, Int.reduceToNat, Nat.reduceAdd, Nat.reduceLT, Nat.reduceLeDiff, List.length_cons, List.length_nil, Nat.zero_add, if_true, if_false, reduceIte, and_self, and_true, true_and, eq_self, reduceCtorEq, gP0, F23, F24, hn, t_within wS d, h, bI_t, e10, not_false_eq_true]
      rw [rn_eq, b_X6_end_22]
      simp only [EV, LV, CB, OI, OL, NP, CZ, popN, CT, OZ, List.map_nil, List.map_cons, List.sum_nil, List.sum_cons, Option.toList, List.nil_append, List.cons_append, Int.reduceToNat, Nat.reduceAdd, Nat.reduceLT, Nat.reduceLeDiff, List.length_cons, List.length_nil, Nat.zero_add, if_true, if_false, reduceIte, and_self, and_true, true_and, eq_self, reduceCtorEq, gP0, F23, F24]
    · rw [show ivO TV 24 0 = (0, 160) from by decide +kernel]; show (0 : Int) ≤ _; omega
    · rw [show ivO TV 24 0 = (0, 160) from by decide +kernel]; show _ ≤ (160 : Int); omega
  | false =>
    refine ⟨m, ?_, hn, frm_rf, fun hI => hI⟩
    rw [se_X6_end, rn_eq, b_X6_end_0]
    simp only [EV, LV, CB, OI, OL, NP, CZ, popN, CT, OZ, List.map_nil, List.map_cons, List.sum_nil, List.sum_cons, Option.toList, List.nil_append, List.cons_append, Int.reduceToNat, Nat.reduceAdd, Nat.reduceLT, Nat.reduceLeDiff, List.length_cons, List.length_nil, Nat.zero_add, if_true, if_false, reduceIte, and_self, and_true, true_and, eq_self, reduceCtorEq, gP0, F23, F24, hn, t_within wS d, h, bI_f, not_true_eq_false, Bool.false_eq_true]
theorem t_end7 (x : Int32) (m : Mm) {n : Nat} (hn : m.1 68 9 = nI n) (h160 : n ≤ 160) : ∃ m', semZ shP wS (d + 2) 106 [.ref 68, .int x] m = some (some (.int (enV x n)), m') ∧ m'.1 68 9 = enN x n ∧ frm ([], [13609]) m m' ∧ (InvT TV m → InvT TV m') := by
  have e10 : ¬ (1 : Int32) = 0 := by decide
  have ed := dec64 x 0 (nI n) 0 (nI n).toInt64 (by decide) rfl
  unfold enV enN
  cases h : (decide (0 ≤ x) && decide (x ≤ nI n)) with
  | true =>
    rw [h] at ed
    have hb := wi_i h
    rw [show (0 : Int32).toInt = 0 from by decide, nI_toInt (by omega)] at hb
    refine ⟨wI m 68 9 x, ?_, by rw [wI_at, if_pos ⟨rfl, rfl⟩]; rfl, frm_wI (by omega) frm_rf (by decide), fun hI => Inv_wI hI ?_ ?_⟩
    · rw [se_X7_end, rn_eq, b_X7_end_0]
      simp only [EV, LV, CB, OI, OL, NP, CZ, popN, CT, OZ, List.map_nil, List.map_cons, List.sum_nil, List.sum_cons, Option.toList, List.nil_append, List.cons_append, Int.reduceToNat, Nat.reduceAdd, Nat.reduceLT, Nat.reduceLeDiff, List.length_cons, List.length_nil, Nat.zero_add, if_true, if_false, reduceIte, and_self, and_true, true_and, eq_self, reduceCtorEq, F68, hn, t_in wS d, ed, bI_t, e10, not_false_eq_true]
      rw [rn_eq, b_X7_end_16]
      simp only [EV, LV, CB, OI, OL, NP, CZ, popN, CT, OZ, List.map_nil, List.map_cons, List.sum_nil, List.sum_cons, Option.toList, List.nil_append, List.cons_append, Int.reduceToNat, Nat.reduceAdd, Nat.reduceLT, Nat.reduceLeDiff, List.length_cons, List.length_nil, Nat.zero_add, if_true, if_false, reduceIte, and_self, and_true, true_and, eq_self, reduceCtorEq, F68, hn]
    · rw [iv_68a.2.2.2]; show (0 : Int) ≤ _; omega
    · rw [iv_68a.2.2.2]; show _ ≤ (160 : Int); omega
  | false =>
    rw [h] at ed
    refine ⟨m, ?_, hn, frm_rf, fun hI => hI⟩
    rw [se_X7_end, rn_eq, b_X7_end_0]
    simp only [EV, LV, CB, OI, OL, NP, CZ, popN, CT, OZ, List.map_nil, List.map_cons, List.sum_nil, List.sum_cons, Option.toList, List.nil_append, List.cons_append, Int.reduceToNat, Nat.reduceAdd, Nat.reduceLT, Nat.reduceLeDiff, List.length_cons, List.length_nil, Nat.zero_add, if_true, if_false, reduceIte, and_self, and_true, true_and, eq_self, reduceCtorEq, F68, hn, t_in wS d, ed, bI_f, not_true_eq_false, Bool.false_eq_true]
theorem enN_b (x : Int32) {n : Nat} (h : n ≤ 160) : ∃ k : Nat, k ≤ 160 ∧ enN x n = nI k := by
  unfold enN
  split
  · rename_i q
    have hb := wi_i q
    rw [show (0 : Int32).toInt = 0 from by decide, nI_toInt (by omega)] at hb
    exact ⟨x.toInt.toNat, by omega, i_nI hb.1⟩
  · exact ⟨n, h, rfl⟩
theorem fdN_b (c : Int32) {n : Nat} (h : n ≤ 160) : fdN c n ≤ 160 := by
  unfold fdN
  (repeat' split) <;> omega
/-! keep of the model -/
theorem t_flag (x : Int32) (m : Mm) : ∃ y : Int32, semZ shP wS (d + 1) 102 [.int x] m = some (some (.int y), m) := by
  by_cases h : x = 0
  · refine ⟨0, ?_⟩
    rw [se_X7_flag, rn_eq, b_X7_flag_0]
    simp only [EV, LV, CB, OI, OL, NP, CZ, popN, CT, OZ, List.map_nil, List.map_cons, List.sum_nil, List.sum_cons, Option.toList, List.nil_append, List.cons_append, Int.reduceToNat, Nat.reduceAdd, Nat.reduceLT, Nat.reduceLeDiff, List.length_cons, List.length_nil, Nat.zero_add, if_true, if_false, reduceIte, and_self, and_true, true_and, eq_self, reduceCtorEq, h]
    rw [rn_eq, b_X7_flag_8]
    simp only [EV, LV, CB, OI, OL, NP, CZ, popN, CT, OZ, List.map_nil, List.map_cons, List.sum_nil, List.sum_cons, Option.toList, List.nil_append, List.cons_append, Int.reduceToNat, Nat.reduceAdd, Nat.reduceLT, Nat.reduceLeDiff, List.length_cons, List.length_nil, Nat.zero_add, if_true, if_false, reduceIte, and_self, and_true, true_and, eq_self, reduceCtorEq]
  · refine ⟨1, ?_⟩
    rw [se_X7_flag, rn_eq, b_X7_flag_0]
    simp only [EV, LV, CB, OI, OL, NP, CZ, popN, CT, OZ, List.map_nil, List.map_cons, List.sum_nil, List.sum_cons, Option.toList, List.nil_append, List.cons_append, Int.reduceToNat, Nat.reduceAdd, Nat.reduceLT, Nat.reduceLeDiff, List.length_cons, List.length_nil, Nat.zero_add, if_true, if_false, reduceIte, and_self, and_true, true_and, eq_self, reduceCtorEq, h]
    rw [rn_eq, b_X7_flag_9]
    simp only [EV, LV, CB, OI, OL, NP, CZ, popN, CT, OZ, List.map_nil, List.map_cons, List.sum_nil, List.sum_cons, Option.toList, List.nil_append, List.cons_append, Int.reduceToNat, Nat.reduceAdd, Nat.reduceLT, Nat.reduceLeDiff, List.length_cons, List.length_nil, Nat.zero_add, if_true, if_false, reduceIte, and_self, and_true, true_and, eq_self, reduceCtorEq]
theorem Kp_keep {m : Mm} {k t : Nat} (hk : k < 2) (ht : 63 ≤ t) : Kp (qx [13]) m (setR (wI m 71 k 1) 69 (cpR ((wI m 71 k 1).1 69) t 0 63)) := by
  intro g hg o j hj h
  have g13 : g ≠ 13 := fun z => by
    subst z
    exact absurd hg (by decide)
  have g14 : g < 14 := by
    have := (List.mem_filter.mp hg).1
    exact List.mem_range.mp this
  have key : o ≠ 71 ∧ (o = 69 → j < 63) := by
    match g, g14 with
    | 0, _ => simp [grp] at h; omega
    | 1, _ => simp [grp] at h; omega
    | 2, _ => simp [grp] at h; omega
    | 3, _ => simp [grp] at h; omega
    | 4, _ => simp [grp] at h; omega
    | 5, _ => simp [grp] at h; omega
    | 6, _ => simp [grp] at h; omega
    | 7, _ => simp [grp] at h; omega
    | 8, _ => simp [grp] at h; omega
    | 9, _ => simp [grp] at h; omega
    | 10, _ => simp [grp] at h; omega
    | 11, _ => simp [grp] at h; omega
    | 12, _ => simp [grp] at h; omega
    | 13, _ => exact absurd rfl g13
  by_cases h9 : o = 69
  · subst h9
    rw [setR_s]
    have e : cpR ((wI m 71 k 1).1 69) t 0 63 j = (wI m 71 k 1).1 69 j := by
      unfold cpR
      rw [if_neg (by have := key.2 rfl; omega)]
    rw [e, wI_at, if_neg (by omega)]
  · rw [setR_n _ _ h9, wI_at, if_neg (fun z => key.1 z.1)]
theorem t_keep0 (m : Mm) (hI : InvT TV m) (hJ : JK m) : OKv (semZ shP wS (d + 28)) 177 [.ref 68, .int 0] m false (qx [13]) := by
  have e10 : ¬ (1 : Int32) = 0 := by decide
  have ed : (decide ((0 : Int64) ≤ (0 : Int32).toInt64) && decide ((0 : Int32).toInt64 ≤ 1)) = true := by decide
  have g702 : ∀ m : Mm, gfI shP 702 68 m = some (.ref 71) := fun _ => rfl
  have al : alI shP tb0 1 71 0 m = some (m.1 71 0) := by
    rw [az_of (n := 2) (rs := []) rfl, if_pos (by decide)]
    rfl
  have as : asI shP 1 71 0 1 m = some (wI m 71 0 1) := by
    rw [sz_of (n := 2) (rs := []) rfl, if_pos ⟨by decide, Or.inr rfl⟩]
    rfl
  obtain ⟨y, hy⟩ := t_flag (wS := wS) (d + 26) (m.1 71 0) m
  have cp := t_copies wS (d + 26) MP68 (wI m 71 0 1) 63 0 (by omega) (by omega) (by omega)
  have em : (63 : Int32) * ((0 : Int32) + 1) = nI 63 := by decide +kernel
  have e0 : (0 : Int32) = nI 0 := rfl
  have I1 : InvT TV (wI m 71 0 1) := Inv_wI hI (by rw [show ivO TV 71 0 = (0, 1) from by decide +kernel]; decide) (by rw [show ivO TV 71 0 = (0, 1) from by decide +kernel]; decide)
  have b41 := hI 69 41
  rw [iv_6941] at b41
  have cp : semZ shP wS (d + 27) 176 [.ref 68, .int (nI 63), .int 0] (wI m 71 0 1) = some (none, setR (wI m 71 0 1) 69 (cpR ((wI m 71 0 1).1 69) 63 0 63)) := cp
  refine ⟨.int y, setR (wI m 71 0 1) 69 (cpR ((wI m 71 0 1).1 69) 63 0 63), ?_, ⟨y, rfl⟩, ⟨?_, ?_, rfl, rfl⟩, Kp_keep (by decide) (by decide)⟩
  · rw [se_X7_keep, rn_eq, b_X7_keep_0]
    simp only [EV, LV, CB, OI, OL, NP, CZ, popN, CT, OZ, List.map_nil, List.map_cons, List.sum_nil, List.sum_cons, Option.toList, List.nil_append, List.cons_append, Int.reduceToNat, Nat.reduceAdd, Nat.reduceLT, Nat.reduceLeDiff, List.length_cons, List.length_nil, Nat.zero_add, if_true, if_false, reduceIte, and_self, and_true, true_and, eq_self, reduceCtorEq, t_in wS (d + 26), ed, bI_t, e10, not_false_eq_true]
    rw [rn_eq, b_X7_keep_12]
    simp only [EV, LV, CB, OI, OL, NP, CZ, popN, CT, OZ, List.map_nil, List.map_cons, List.sum_nil, List.sum_cons, Option.toList, List.nil_append, List.cons_append, Int.reduceToNat, Nat.reduceAdd, Nat.reduceLT, Nat.reduceLeDiff, List.length_cons, List.length_nil, Nat.zero_add, if_true, if_false, reduceIte, and_self, and_true, true_and, eq_self, reduceCtorEq, C68, g702, al, hy, as, em, cp]
  · refine cp_bd I1 (fun j hj => ?_)
    have k := List.all_eq_true.mp tv_cp j (List.mem_range.mpr hj)
    simp only [Bool.and_eq_true, decide_eq_true_eq] at k
    obtain ⟨⟨k1, k2⟩, -⟩ := k
    have b := I1 69 j
    rw [Nat.zero_add]
    omega
  · have a1 : (setR (wI m 71 0 1) 69 (cpR ((wI m 71 0 1).1 69) 63 0 63)).1 69 104 = m.1 69 41 := rfl
    have a2 : (setR (wI m 71 0 1) 69 (cpR ((wI m 71 0 1).1 69) 63 0 63)).1 69 167 = m.1 69 167 := rfl
    have a3 : (setR (wI m 71 0 1) 69 (cpR ((wI m 71 0 1).1 69) 63 0 63)).1 71 1 = m.1 71 1 := rfl
    unfold JK
    rw [a1, a2, a3]
    exact ⟨fun _ => b41, hJ.2⟩
theorem t_keep1 (m : Mm) (hI : InvT TV m) (hJ : JK m) : OKv (semZ shP wS (d + 28)) 177 [.ref 68, .int 1] m false (qx [13]) := by
  have e10 : ¬ (1 : Int32) = 0 := by decide
  have ed : (decide ((0 : Int64) ≤ (1 : Int32).toInt64) && decide ((1 : Int32).toInt64 ≤ 1)) = true := by decide
  have g702 : ∀ m : Mm, gfI shP 702 68 m = some (.ref 71) := fun _ => rfl
  have al : alI shP tb0 1 71 1 m = some (m.1 71 1) := by
    rw [az_of (n := 2) (rs := []) rfl, if_pos (by decide)]
    rfl
  have as : asI shP 1 71 1 1 m = some (wI m 71 1 1) := by
    rw [sz_of (n := 2) (rs := []) rfl, if_pos ⟨by decide, Or.inr rfl⟩]
    rfl
  obtain ⟨y, hy⟩ := t_flag (wS := wS) (d + 26) (m.1 71 1) m
  have cp := t_copies wS (d + 26) MP68 (wI m 71 1 1) 126 0 (by omega) (by omega) (by omega)
  have em : (63 : Int32) * ((1 : Int32) + 1) = nI 126 := by decide +kernel
  have e0 : (0 : Int32) = nI 0 := rfl
  have I1 : InvT TV (wI m 71 1 1) := Inv_wI hI (by rw [show ivO TV 71 1 = (0, 1) from by decide +kernel]; decide) (by rw [show ivO TV 71 1 = (0, 1) from by decide +kernel]; decide)
  have b41 := hI 69 41
  rw [iv_6941] at b41
  have cp : semZ shP wS (d + 27) 176 [.ref 68, .int (nI 126), .int 0] (wI m 71 1 1) = some (none, setR (wI m 71 1 1) 69 (cpR ((wI m 71 1 1).1 69) 126 0 63)) := cp
  refine ⟨.int y, setR (wI m 71 1 1) 69 (cpR ((wI m 71 1 1).1 69) 126 0 63), ?_, ⟨y, rfl⟩, ⟨?_, ?_, rfl, rfl⟩, Kp_keep (by decide) (by decide)⟩
  · rw [se_X7_keep, rn_eq, b_X7_keep_0]
    simp only [EV, LV, CB, OI, OL, NP, CZ, popN, CT, OZ, List.map_nil, List.map_cons, List.sum_nil, List.sum_cons, Option.toList, List.nil_append, List.cons_append, Int.reduceToNat, Nat.reduceAdd, Nat.reduceLT, Nat.reduceLeDiff, List.length_cons, List.length_nil, Nat.zero_add, if_true, if_false, reduceIte, and_self, and_true, true_and, eq_self, reduceCtorEq, t_in wS (d + 26), ed, bI_t, e10, not_false_eq_true]
    rw [rn_eq, b_X7_keep_12]
    simp only [EV, LV, CB, OI, OL, NP, CZ, popN, CT, OZ, List.map_nil, List.map_cons, List.sum_nil, List.sum_cons, Option.toList, List.nil_append, List.cons_append, Int.reduceToNat, Nat.reduceAdd, Nat.reduceLT, Nat.reduceLeDiff, List.length_cons, List.length_nil, Nat.zero_add, if_true, if_false, reduceIte, and_self, and_true, true_and, eq_self, reduceCtorEq, C68, g702, al, hy, as, em, cp]
  · refine cp_bd I1 (fun j hj => ?_)
    have k := List.all_eq_true.mp tv_cp j (List.mem_range.mpr hj)
    simp only [Bool.and_eq_true, decide_eq_true_eq] at k
    obtain ⟨⟨k1, k2⟩, -⟩ := k
    have b := I1 69 j
    rw [Nat.zero_add]
    omega
  · have a1 : (setR (wI m 71 1 1) 69 (cpR ((wI m 71 1 1).1 69) 126 0 63)).1 69 167 = m.1 69 41 := rfl
    have a2 : (setR (wI m 71 1 1) 69 (cpR ((wI m 71 1 1).1 69) 126 0 63)).1 69 104 = m.1 69 104 := rfl
    have a3 : (setR (wI m 71 1 1) 69 (cpR ((wI m 71 1 1).1 69) 126 0 63)).1 71 0 = m.1 71 0 := rfl
    unfold JK
    rw [a1, a2, a3]
    exact ⟨hJ.1, fun _ => b41⟩
theorem ok_X7_keep (hw : WOK wS) : OKm (semZ shP wS (d + 28)) 177 68 1 false (qx [13]) := by
  intro xs m hn hI hJ
  obtain ⟨a0, rfl⟩ := l32_1 hn
  have hr := r32 a0
  by_cases c0 : a0.toInt ≤ -1
  · exact OKv_of (hall_23 hw d c_83 (m_t (i := 269) rfl)) ⟨gv_rf 68, gv_i (by omega) (by omega), trivial⟩ hI hJ rho_nil (by decide) (by decide) (by decide +kernel)
  by_cases c1 : a0.toInt ≤ 0
  · have e : a0 = 0 := Int32.toInt_inj.mp (by rw [show (0 : Int32).toInt = 0 from by decide]; omega)
    subst e
    exact t_keep0 d m hI hJ
  by_cases c2 : a0.toInt ≤ 1
  · have e : a0 = 1 := Int32.toInt_inj.mp (by rw [show (1 : Int32).toInt = 1 from by decide]; omega)
    subst e
    exact t_keep1 d m hI hJ
  · exact OKv_of (hall_23 hw d c_82 (m_t (i := 268) rfl)) ⟨gv_rf 68, gv_i (by omega) (by omega), trivial⟩ hI hJ rho_nil (by decide) (by decide) (by decide +kernel)
end Ok4
end
section
/-! rows of memories -/
theorem wI_n (m : Mm) (o j : Nat) (x : Int32) {o' : Nat} (h : o' ≠ o) : (wI m o j x).1 o' = m.1 o' := by
  funext i
  rw [wI_at, if_neg (fun z => h z.1)]
theorem upd_s (f : Nat → Int32) (j : Nat) (x : Int32) : upd f j x j = x := by
  unfold upd
  rw [if_pos rfl]
theorem upd_n (f : Nat → Int32) {j i : Nat} (x : Int32) (h : i ≠ j) : upd f j x i = f i := by
  unfold upd
  rw [if_neg h]
theorem wI_s (m : Mm) (o j : Nat) (x : Int32) : (wI m o j x).1 o j = x := by rw [wI_at, if_pos ⟨rfl, rfl⟩]
theorem wI_o (m : Mm) (o j : Nat) (x : Int32) {o' : Nat} (j' : Nat) (h : o' ≠ o) : (wI m o j x).1 o' j' = m.1 o' j' := by rw [wI_at, if_neg (fun z => h z.1)]
theorem wI_j (m : Mm) (o j : Nat) (x : Int32) (o' : Nat) {j' : Nat} (h : j' ≠ j) : (wI m o j x).1 o' j' = m.1 o' j' := by rw [wI_at, if_neg (fun z => h z.2)]
end
section
/-! ROWS OF RUNS, a block each: written by wip/gen/rrows.py -/
section RR
variable (sh : List ShE) (tb : Nat → Option (List Int32)) (C : CallS) (rt : Option FieldType) (L st : List Value) (m : Mm)
theorem r_X1_renew_0 : rn sh tb mN mO C rt (codeZ 0) 0 L st m = exI sh tb mN mO C rt (rn sh tb mN mO C rt (codeZ 0)) [.aload 0, .sipush (1), .putfield 100, .aload 0, .iload 1, .putfield 103, .aload 0, .iload 2, .putfield 101, .sipush (0), .istore 3, .goto_w 17] L st m := by rw [rn_eq, b_X1_renew_0]
theorem r_X1_renew_17 : rn sh tb mN mO C rt (codeZ 0) 17 L st m = exI sh tb mN mO C rt (rn sh tb mN mO C rt (codeZ 0)) [.iload 3, .sipush (40), .if_icmp .ge 36, .aload 0, .getfield 102, .iload 3, .sipush (0), .iastore, .iinc 3 (1), .goto 17] L st m := by rw [rn_eq, b_X1_renew_17]
theorem r_X1_renew_36 : rn sh tb mN mO C rt (codeZ 0) 36 L st m = exI sh tb mN mO C rt (rn sh tb mN mO C rt (codeZ 0)) [.return_] L st m := by rw [rn_eq, b_X1_renew_36]
theorem r_X1_faultAt_0 : rn sh tb mN mO C rt (codeZ 1) 0 L st m = exI sh tb mN mO C rt (rn sh tb mN mO C rt (codeZ 1)) [.aload 0, .getfield 100, .ifCond .ne 9, .sipush (1), .ireturn] L st m := by rw [rn_eq, b_X1_faultAt_0]
theorem r_X1_faultAt_9 : rn sh tb mN mO C rt (codeZ 1) 9 L st m = exI sh tb mN mO C rt (rn sh tb mN mO C rt (codeZ 1)) [.lload 1, .jsr (0), .lcmp, .ifCond .lt 25, .lload 1, .aload 0, .getfield 101, .i2l, .lcmp, .ifCond .lt 29, .sipush (2), .goto 30] L st m := by rw [rn_eq, b_X1_faultAt_9]
theorem r_X1_faultAt_25 : rn sh tb mN mO C rt (codeZ 1) 25 L st m = exI sh tb mN mO C rt (rn sh tb mN mO C rt (codeZ 1)) [.sipush (2), .goto 30] L st m := by rw [rn_eq, b_X1_faultAt_25]
theorem r_X1_faultAt_29 : rn sh tb mN mO C rt (codeZ 1) 29 L st m = exI sh tb mN mO C rt (rn sh tb mN mO C rt (codeZ 1)) [.sipush (0), .ireturn] L st m := by rw [rn_eq, b_X1_faultAt_29]
theorem r_X1_faultAt_30 : rn sh tb mN mO C rt (codeZ 1) 30 L st m = exI sh tb mN mO C rt (rn sh tb mN mO C rt (codeZ 1)) [.ireturn] L st m := by rw [rn_eq, b_X1_faultAt_30]
theorem r_X1_faultOfPair_0 : rn sh tb mN mO C rt (codeZ 2) 0 L st m = exI sh tb mN mO C rt (rn sh tb mN mO C rt (codeZ 2)) [.aload 0, .getfield 100, .ifCond .eq 17, .aload 0, .getfield 103, .iload 1, .if_icmp .eq 17, .sipush (3), .ireturn] L st m := by rw [rn_eq, b_X1_faultOfPair_0]
theorem r_X1_faultOfPair_17 : rn sh tb mN mO C rt (codeZ 2) 17 L st m = exI sh tb mN mO C rt (rn sh tb mN mO C rt (codeZ 2)) [.aload 0, .lload 2, .invokevirtual 1, .istore 4, .iload 4, .ifCond .eq 34, .iload 4, .goto 41] L st m := by rw [rn_eq, b_X1_faultOfPair_17]
theorem r_X1_faultOfPair_34 : rn sh tb mN mO C rt (codeZ 2) 34 L st m = exI sh tb mN mO C rt (rn sh tb mN mO C rt (codeZ 2)) [.aload 0, .lload 2, .jsr (1), .ladd, .invokevirtual 1, .ireturn] L st m := by rw [rn_eq, b_X1_faultOfPair_34]
theorem r_X1_faultOfPair_41 : rn sh tb mN mO C rt (codeZ 2) 41 L st m = exI sh tb mN mO C rt (rn sh tb mN mO C rt (codeZ 2)) [.ireturn] L st m := by rw [rn_eq, b_X1_faultOfPair_41]
theorem r_X1_put_0 : rn sh tb mN mO C rt (codeZ 3) 0 L st m = exI sh tb mN mO C rt (rn sh tb mN mO C rt (codeZ 3)) [.aload 0, .getfield 103, .ifCond .ne 18, .aload 0, .getfield 102, .iload 1, .iload 2, .i2b, .iastore, .goto 44] L st m := by rw [rn_eq, b_X1_put_0]
theorem r_X1_put_18 : rn sh tb mN mO C rt (codeZ 3) 18 L st m = exI sh tb mN mO C rt (rn sh tb mN mO C rt (codeZ 3)) [.aload 0, .getfield 103, .sipush (1), .if_icmp .ne 37, .aload 0, .getfield 102, .iload 1, .iload 2, .i2s, .iastore, .goto 44] L st m := by rw [rn_eq, b_X1_put_18]
theorem r_X1_put_37 : rn sh tb mN mO C rt (codeZ 3) 37 L st m = exI sh tb mN mO C rt (rn sh tb mN mO C rt (codeZ 3)) [.aload 0, .getfield 102, .iload 1, .iload 2, .iastore, .return_] L st m := by rw [rn_eq, b_X1_put_37]
theorem r_X1_put_44 : rn sh tb mN mO C rt (codeZ 3) 44 L st m = exI sh tb mN mO C rt (rn sh tb mN mO C rt (codeZ 3)) [.return_] L st m := by rw [rn_eq, b_X1_put_44]
theorem r_X2_add_0 : rn sh tb mN mO C rt (codeZ 4) 0 L st m = exI sh tb mN mO C rt (rn sh tb mN mO C rt (codeZ 4)) [.aload 0, .getfield 200, .sipush (6), .if_icmp .lt 11, .sipush (0), .ireturn] L st m := by rw [rn_eq, b_X2_add_0]
theorem r_X2_add_11 : rn sh tb mN mO C rt (codeZ 4) 11 L st m = exI sh tb mN mO C rt (rn sh tb mN mO C rt (codeZ 4)) [.aload 0, .getfield 201, .aload 0, .getfield 200, .iload 1, .iastore, .aload 0, .getfield 202, .aload 0, .getfield 200, .iload 2, .iastore, .aload 0, .getfield 203, .aload 0, .getfield 200, .iload 3, .iastore, .aload 0, .dup, .getfield 200, .sipush (1), .iadd, .putfield 200, .sipush (1), .ireturn] L st m := by rw [rn_eq, b_X2_add_11]
theorem r_X2_fit_0 : rn sh tb mN mO C rt (codeZ 5) 0 L st m = exI sh tb mN mO C rt (rn sh tb mN mO C rt (codeZ 5)) [.sipush (0), .istore 3, .goto_w 2] L st m := by rw [rn_eq, b_X2_fit_0]
theorem r_X2_fit_2 : rn sh tb mN mO C rt (codeZ 5) 2 L st m = exI sh tb mN mO C rt (rn sh tb mN mO C rt (codeZ 5)) [.iload 3, .aload 0, .getfield 200, .if_icmp .ge 48, .aload 0, .getfield 202, .iload 3, .iaload, .iload 2, .if_icmp .ne 42, .aload 1, .getfield 512, .aload 0, .getfield 201, .iload 3, .iaload, .iaload, .aload 0, .getfield 203, .iload 3, .iaload, .if_icmp .eq 42, .sipush (0), .ireturn] L st m := by rw [rn_eq, b_X2_fit_2]
theorem r_X2_fit_42 : rn sh tb mN mO C rt (codeZ 5) 42 L st m = exI sh tb mN mO C rt (rn sh tb mN mO C rt (codeZ 5)) [.iinc 3 (1), .goto 2] L st m := by rw [rn_eq, b_X2_fit_42]
theorem r_X2_fit_48 : rn sh tb mN mO C rt (codeZ 5) 48 L st m = exI sh tb mN mO C rt (rn sh tb mN mO C rt (codeZ 5)) [.sipush (1), .ireturn] L st m := by rw [rn_eq, b_X2_fit_48]
theorem r_X2_become_0 : rn sh tb mN mO C rt (codeZ 6) 0 L st m = exI sh tb mN mO C rt (rn sh tb mN mO C rt (codeZ 6)) [.aload 0, .aload 1, .getfield 200, .putfield 200, .aload 1, .getfield 201, .sipush (0), .aload 0, .getfield 201, .sipush (0), .sipush (6), .monitorenter, .aload 1, .getfield 202, .sipush (0), .aload 0, .getfield 202, .sipush (0), .sipush (6), .monitorenter, .aload 1, .getfield 203, .sipush (0), .aload 0, .getfield 203, .sipush (0), .sipush (6), .monitorenter, .return_] L st m := by rw [rn_eq, b_X2_become_0]
theorem r_X3_append_0 : rn sh tb mN mO C rt (codeZ 7) 0 L st m = exI sh tb mN mO C rt (rn sh tb mN mO C rt (codeZ 7)) [.aload 0, .getfield 300, .sipush (160), .if_icmp .lt 12, .sipush (0), .ireturn] L st m := by rw [rn_eq, b_X3_append_0]
theorem r_X3_append_12 : rn sh tb mN mO C rt (codeZ 7) 12 L st m = exI sh tb mN mO C rt (rn sh tb mN mO C rt (codeZ 7)) [.aload 0, .getfield 303, .aload 0, .getfield 300, .iload 1, .iastore, .aload 0, .dup, .getfield 300, .sipush (1), .iadd, .putfield 300, .sipush (1), .ireturn] L st m := by rw [rn_eq, b_X3_append_12]
theorem r_X3_take_0 : rn sh tb mN mO C rt (codeZ 8) 0 L st m = exI sh tb mN mO C rt (rn sh tb mN mO C rt (codeZ 8)) [.aload 0, .getfield 302, .aload 0, .getfield 300, .if_icmp .ge 38, .aload 0, .getfield 303, .aload 0, .getfield 302, .iaload, .sipush (32), .if_icmp .ne 38, .aload 0, .dup, .getfield 302, .sipush (1), .iadd, .putfield 302, .goto 0] L st m := by rw [rn_eq, b_X3_take_0]
theorem r_X3_take_38 : rn sh tb mN mO C rt (codeZ 8) 38 L st m = exI sh tb mN mO C rt (rn sh tb mN mO C rt (codeZ 8)) [.aload 0, .aload 0, .getfield 302, .putfield 301, .aload 0, .getfield 301, .aload 0, .getfield 300, .if_icmp .lt 59, .sipush (0), .ireturn] L st m := by rw [rn_eq, b_X3_take_38]
theorem r_X3_take_59 : rn sh tb mN mO C rt (codeZ 8) 59 L st m = exI sh tb mN mO C rt (rn sh tb mN mO C rt (codeZ 8)) [.aload 0, .sipush (97), .sipush (122), .invokevirtual 9, .ifCond .eq 72, .sipush (1), .ireturn] L st m := by rw [rn_eq, b_X3_take_59]
theorem r_X3_take_72 : rn sh tb mN mO C rt (codeZ 8) 72 L st m = exI sh tb mN mO C rt (rn sh tb mN mO C rt (codeZ 8)) [.aload 0, .sipush (48), .sipush (57), .invokevirtual 9, .ifCond .eq 102, .aload 0, .getfield 302, .aload 0, .getfield 301, .isub, .sipush (2), .if_icmp .le 100, .sipush (4), .goto 101] L st m := by rw [rn_eq, b_X3_take_72]
theorem r_X3_take_100 : rn sh tb mN mO C rt (codeZ 8) 100 L st m = exI sh tb mN mO C rt (rn sh tb mN mO C rt (codeZ 8)) [.sipush (2), .ireturn] L st m := by rw [rn_eq, b_X3_take_100]
theorem r_X3_take_101 : rn sh tb mN mO C rt (codeZ 8) 101 L st m = exI sh tb mN mO C rt (rn sh tb mN mO C rt (codeZ 8)) [.ireturn] L st m := by rw [rn_eq, b_X3_take_101]
theorem r_X3_take_102 : rn sh tb mN mO C rt (codeZ 8) 102 L st m = exI sh tb mN mO C rt (rn sh tb mN mO C rt (codeZ 8)) [.aload 0, .dup, .getfield 302, .sipush (1), .iadd, .putfield 302, .aload 0, .getfield 303, .aload 0, .getfield 301, .iaload, .sipush (59), .if_icmp .ne 130, .sipush (3), .goto 131] L st m := by rw [rn_eq, b_X3_take_102]
theorem r_X3_take_130 : rn sh tb mN mO C rt (codeZ 8) 130 L st m = exI sh tb mN mO C rt (rn sh tb mN mO C rt (codeZ 8)) [.sipush (4), .ireturn] L st m := by rw [rn_eq, b_X3_take_130]
theorem r_X3_take_131 : rn sh tb mN mO C rt (codeZ 8) 131 L st m = exI sh tb mN mO C rt (rn sh tb mN mO C rt (codeZ 8)) [.ireturn] L st m := by rw [rn_eq, b_X3_take_131]
theorem r_X3_passRun_0 : rn sh tb mN mO C rt (codeZ 9) 0 L st m = exI sh tb mN mO C rt (rn sh tb mN mO C rt (codeZ 9)) [.aload 0, .getfield 302, .aload 0, .getfield 300, .if_icmp .ge 50, .aload 0, .getfield 303, .aload 0, .getfield 302, .iaload, .iload 1, .if_icmp .lt 50, .aload 0, .getfield 303, .aload 0, .getfield 302, .iaload, .iload 2, .if_icmp .gt 50, .aload 0, .dup, .getfield 302, .sipush (1), .iadd, .putfield 302, .goto 0] L st m := by rw [rn_eq, b_X3_passRun_0]
theorem r_X3_passRun_50 : rn sh tb mN mO C rt (codeZ 9) 50 L st m = exI sh tb mN mO C rt (rn sh tb mN mO C rt (codeZ 9)) [.aload 0, .getfield 302, .aload 0, .getfield 301, .if_icmp .le 65, .sipush (1), .goto 66] L st m := by rw [rn_eq, b_X3_passRun_50]
theorem r_X3_passRun_65 : rn sh tb mN mO C rt (codeZ 9) 65 L st m = exI sh tb mN mO C rt (rn sh tb mN mO C rt (codeZ 9)) [.sipush (0), .ireturn] L st m := by rw [rn_eq, b_X3_passRun_65]
theorem r_X3_passRun_66 : rn sh tb mN mO C rt (codeZ 9) 66 L st m = exI sh tb mN mO C rt (rn sh tb mN mO C rt (codeZ 9)) [.ireturn] L st m := by rw [rn_eq, b_X3_passRun_66]
theorem r_X3_number_0 : rn sh tb mN mO C rt (codeZ 10) 0 L st m = exI sh tb mN mO C rt (rn sh tb mN mO C rt (codeZ 10)) [.sipush (0), .istore 1, .aload 0, .getfield 301, .istore 2, .goto_w 7] L st m := by rw [rn_eq, b_X3_number_0]
theorem r_X3_number_7 : rn sh tb mN mO C rt (codeZ 10) 7 L st m = exI sh tb mN mO C rt (rn sh tb mN mO C rt (codeZ 10)) [.iload 2, .aload 0, .getfield 302, .if_icmp .ge 36, .iload 1, .sipush (10), .imul, .aload 0, .getfield 303, .iload 2, .iaload, .iadd, .sipush (48), .isub, .istore 1, .iinc 2 (1), .goto 7] L st m := by rw [rn_eq, b_X3_number_7]
theorem r_X3_number_36 : rn sh tb mN mO C rt (codeZ 10) 36 L st m = exI sh tb mN mO C rt (rn sh tb mN mO C rt (codeZ 10)) [.iload 1, .ireturn] L st m := by rw [rn_eq, b_X3_number_36]
theorem r_X4_tell_0 : rn sh tb mN mO C rt (codeZ 12) 0 L st m = exI sh tb mN mO C rt (rn sh tb mN mO C rt (codeZ 12)) [.aload 0, .getfield 400, .sipush (0), .putfield 302, .aload 0, .sipush (0), .putfield 401, .aload 0, .sipush (0), .putfield 404, .aload 1, .invokevirtual 23, .sipush (0), .istore 2, .goto_w 24] L st m := by rw [rn_eq, b_X4_tell_0]
theorem r_X4_tell_24 : rn sh tb mN mO C rt (codeZ 12) 24 L st m = exI sh tb mN mO C rt (rn sh tb mN mO C rt (codeZ 12)) [.iload 2, .sipush (160), .if_icmp .ge 71, .aload 0, .getfield 400, .invokevirtual 8, .istore 3, .iload 3, .ifCond .ne 50, .aload 0, .aload 1, .invokevirtual 18, .iload 2, .ireturn] L st m := by rw [rn_eq, b_X4_tell_24]
theorem r_X4_tell_50 : rn sh tb mN mO C rt (codeZ 12) 50 L st m = exI sh tb mN mO C rt (rn sh tb mN mO C rt (codeZ 12)) [.aload 0, .iload 3, .aload 1, .invokevirtual 13, .aload 0, .getfield 401, .ifCond .eq 65, .sipush (0), .ireturn] L st m := by rw [rn_eq, b_X4_tell_50]
theorem r_X4_tell_65 : rn sh tb mN mO C rt (codeZ 12) 65 L st m = exI sh tb mN mO C rt (rn sh tb mN mO C rt (codeZ 12)) [.iinc 2 (1), .goto 24] L st m := by rw [rn_eq, b_X4_tell_65]
theorem r_X4_tell_71 : rn sh tb mN mO C rt (codeZ 12) 71 L st m = exI sh tb mN mO C rt (rn sh tb mN mO C rt (codeZ 12)) [.sipush (0), .ireturn] L st m := by rw [rn_eq, b_X4_tell_71]
theorem r_X4_takeLine_0 : rn sh tb mN mO C rt (codeZ 13) 0 L st m = exI sh tb mN mO C rt (rn sh tb mN mO C rt (codeZ 13)) [.aload 0, .iload 1, .sipush (1), .invokevirtual 19, .ifCond .ne 10, .return_] L st m := by rw [rn_eq, b_X4_takeLine_0]
theorem r_X4_takeLine_10 : rn sh tb mN mO C rt (codeZ 13) 10 L st m = exI sh tb mN mO C rt (rn sh tb mN mO C rt (codeZ 13)) [.aload 0, .invokevirtual 21, .istore 3, .iload 3, .sipush (-4), .if_icmp .ne 36, .aload 0, .sipush (2), .aload 0, .getfield 400, .getfield 301, .invokevirtual 20, .goto 116] L st m := by rw [rn_eq, b_X4_takeLine_10]
theorem r_X4_takeLine_36 : rn sh tb mN mO C rt (codeZ 13) 36 L st m = exI sh tb mN mO C rt (rn sh tb mN mO C rt (codeZ 13)) [.aload 0, .getfield 404, .iload 3, .ishr, .sipush (1), .iand, .sipush (1), .if_icmp .ne 63, .aload 0, .sipush (4), .aload 0, .getfield 400, .getfield 301, .invokevirtual 20, .goto 116] L st m := by rw [rn_eq, b_X4_takeLine_36]
theorem r_X4_takeLine_63 : rn sh tb mN mO C rt (codeZ 13) 63 L st m = exI sh tb mN mO C rt (rn sh tb mN mO C rt (codeZ 13)) [.aload 0, .iload 3, .aload 2, .invokevirtual 14, .ifCond .eq 87, .aload 0, .sipush (5), .aload 0, .getfield 400, .getfield 301, .invokevirtual 20, .goto 116] L st m := by rw [rn_eq, b_X4_takeLine_63]
theorem r_X4_takeLine_87 : rn sh tb mN mO C rt (codeZ 13) 87 L st m = exI sh tb mN mO C rt (rn sh tb mN mO C rt (codeZ 13)) [.aload 0, .iload 3, .invokevirtual 15, .ifCond .eq 116, .aload 0, .aload 0, .getfield 400, .invokevirtual 8, .sipush (3), .invokevirtual 19, .ifCond .eq 116, .aload 0, .iload 3, .aload 2, .invokevirtual 17, .return_] L st m := by rw [rn_eq, b_X4_takeLine_87]
theorem r_X4_takeLine_116 : rn sh tb mN mO C rt (codeZ 13) 116 L st m = exI sh tb mN mO C rt (rn sh tb mN mO C rt (codeZ 13)) [.return_] L st m := by rw [rn_eq, b_X4_takeLine_116]
theorem r_X4_hasNoRoom_0 : rn sh tb mN mO C rt (codeZ 14) 0 L st m = exI sh tb mN mO C rt (rn sh tb mN mO C rt (codeZ 14)) [.iload 1, .ifCond .ne 18, .aload 2, .getfield 500, .sipush (4), .if_icmp .lt 16, .sipush (1), .goto 17] L st m := by rw [rn_eq, b_X4_hasNoRoom_0]
theorem r_X4_hasNoRoom_16 : rn sh tb mN mO C rt (codeZ 14) 16 L st m = exI sh tb mN mO C rt (rn sh tb mN mO C rt (codeZ 14)) [.sipush (0), .ireturn] L st m := by rw [rn_eq, b_X4_hasNoRoom_16]
theorem r_X4_hasNoRoom_17 : rn sh tb mN mO C rt (codeZ 14) 17 L st m = exI sh tb mN mO C rt (rn sh tb mN mO C rt (codeZ 14)) [.ireturn] L st m := by rw [rn_eq, b_X4_hasNoRoom_17]
theorem r_X4_hasNoRoom_18 : rn sh tb mN mO C rt (codeZ 14) 18 L st m = exI sh tb mN mO C rt (rn sh tb mN mO C rt (codeZ 14)) [.iload 1, .sipush (4), .if_icmp .gt 36, .aload 2, .getfield 501, .sipush (6), .if_icmp .lt 36, .sipush (1), .goto 37] L st m := by rw [rn_eq, b_X4_hasNoRoom_18]
theorem r_X4_hasNoRoom_36 : rn sh tb mN mO C rt (codeZ 14) 36 L st m = exI sh tb mN mO C rt (rn sh tb mN mO C rt (codeZ 14)) [.sipush (0), .ireturn] L st m := by rw [rn_eq, b_X4_hasNoRoom_36]
theorem r_X4_hasNoRoom_37 : rn sh tb mN mO C rt (codeZ 14) 37 L st m = exI sh tb mN mO C rt (rn sh tb mN mO C rt (codeZ 14)) [.ireturn] L st m := by rw [rn_eq, b_X4_hasNoRoom_37]
theorem r_X4_takeNumbers_0 : rn sh tb mN mO C rt (codeZ 15) 0 L st m = exI sh tb mN mO C rt (rn sh tb mN mO C rt (codeZ 15)) [.iload 1, .ifCond .ne 8, .sipush (2), .goto 18] L st m := by rw [rn_eq, b_X4_takeNumbers_0]
theorem r_X4_takeNumbers_8 : rn sh tb mN mO C rt (codeZ 15) 8 L st m = exI sh tb mN mO C rt (rn sh tb mN mO C rt (codeZ 15)) [.iload 1, .sipush (4), .if_icmp .gt 17, .sipush (3), .goto 18] L st m := by rw [rn_eq, b_X4_takeNumbers_8]
theorem r_X4_takeNumbers_17 : rn sh tb mN mO C rt (codeZ 15) 17 L st m = exI sh tb mN mO C rt (rn sh tb mN mO C rt (codeZ 15)) [.sipush (1), .istore 2, .sipush (0), .istore 3, .goto_w 21] L st m := by rw [rn_eq, b_X4_takeNumbers_17]
theorem r_X4_takeNumbers_18 : rn sh tb mN mO C rt (codeZ 15) 18 L st m = exI sh tb mN mO C rt (rn sh tb mN mO C rt (codeZ 15)) [.istore 2, .sipush (0), .istore 3, .goto_w 21] L st m := by rw [rn_eq, b_X4_takeNumbers_18]
theorem r_X4_takeNumbers_21 : rn sh tb mN mO C rt (codeZ 15) 21 L st m = exI sh tb mN mO C rt (rn sh tb mN mO C rt (codeZ 15)) [.iload 3, .iload 2, .if_icmp .ge 101, .aload 0, .aload 0, .getfield 400, .invokevirtual 8, .sipush (2), .invokevirtual 19, .ifCond .ne 43, .sipush (0), .ireturn] L st m := by rw [rn_eq, b_X4_takeNumbers_21]
theorem r_X4_takeNumbers_43 : rn sh tb mN mO C rt (codeZ 15) 43 L st m = exI sh tb mN mO C rt (rn sh tb mN mO C rt (codeZ 15)) [.aload 0, .getfield 400, .invokevirtual 10, .istore 4, .iload 4, .iload 1, .iload 3, .invokestatic 16, .if_icmp .gt 73, .iload 1, .sipush (7), .if_icmp .ne 87, .iload 4, .ifCond .ne 87, .aload 0, .sipush (3), .aload 0, .getfield 400, .getfield 301, .invokevirtual 20, .sipush (0), .ireturn] L st m := by rw [rn_eq, b_X4_takeNumbers_43]
theorem r_X4_takeNumbers_73 : rn sh tb mN mO C rt (codeZ 15) 73 L st m = exI sh tb mN mO C rt (rn sh tb mN mO C rt (codeZ 15)) [.aload 0, .sipush (3), .aload 0, .getfield 400, .getfield 301, .invokevirtual 20, .sipush (0), .ireturn] L st m := by rw [rn_eq, b_X4_takeNumbers_73]
theorem r_X4_takeNumbers_87 : rn sh tb mN mO C rt (codeZ 15) 87 L st m = exI sh tb mN mO C rt (rn sh tb mN mO C rt (codeZ 15)) [.aload 0, .getfield 403, .iload 3, .iload 4, .iastore, .iinc 3 (1), .goto 21] L st m := by rw [rn_eq, b_X4_takeNumbers_87]
theorem r_X4_takeNumbers_101 : rn sh tb mN mO C rt (codeZ 15) 101 L st m = exI sh tb mN mO C rt (rn sh tb mN mO C rt (codeZ 15)) [.sipush (1), .ireturn] L st m := by rw [rn_eq, b_X4_takeNumbers_101]
theorem r_X4_most_0 : rn sh tb mN mO C rt (codeZ 16) 0 L st m = exI sh tb mN mO C rt (rn sh tb mN mO C rt (codeZ 16)) [.iload 0, .tableswitch 69 (0) (7) #[48, 69, 69, 69, 69, 60, 63, 66]] L st m := by rw [rn_eq, b_X4_most_0]
theorem r_X4_most_48 : rn sh tb mN mO C rt (codeZ 16) 48 L st m = exI sh tb mN mO C rt (rn sh tb mN mO C rt (codeZ 16)) [.iload 1, .ifCond .ne 57, .sipush (99), .goto 59] L st m := by rw [rn_eq, b_X4_most_48]
theorem r_X4_most_57 : rn sh tb mN mO C rt (codeZ 16) 57 L st m = exI sh tb mN mO C rt (rn sh tb mN mO C rt (codeZ 16)) [.sipush (9), .ireturn] L st m := by rw [rn_eq, b_X4_most_57]
theorem r_X4_most_59 : rn sh tb mN mO C rt (codeZ 16) 59 L st m = exI sh tb mN mO C rt (rn sh tb mN mO C rt (codeZ 16)) [.ireturn] L st m := by rw [rn_eq, b_X4_most_59]
theorem r_X4_most_60 : rn sh tb mN mO C rt (codeZ 16) 60 L st m = exI sh tb mN mO C rt (rn sh tb mN mO C rt (codeZ 16)) [.sipush (20), .ireturn] L st m := by rw [rn_eq, b_X4_most_60]
theorem r_X4_most_63 : rn sh tb mN mO C rt (codeZ 16) 63 L st m = exI sh tb mN mO C rt (rn sh tb mN mO C rt (codeZ 16)) [.sipush (60), .ireturn] L st m := by rw [rn_eq, b_X4_most_63]
theorem r_X4_most_66 : rn sh tb mN mO C rt (codeZ 16) 66 L st m = exI sh tb mN mO C rt (rn sh tb mN mO C rt (codeZ 16)) [.sipush (9), .ireturn] L st m := by rw [rn_eq, b_X4_most_66]
theorem r_X4_most_69 : rn sh tb mN mO C rt (codeZ 16) 69 L st m = exI sh tb mN mO C rt (rn sh tb mN mO C rt (codeZ 16)) [.iload 1, .ifCond .ne 77, .sipush (3), .goto 79] L st m := by rw [rn_eq, b_X4_most_69]
theorem r_X4_most_77 : rn sh tb mN mO C rt (codeZ 16) 77 L st m = exI sh tb mN mO C rt (rn sh tb mN mO C rt (codeZ 16)) [.sipush (9), .ireturn] L st m := by rw [rn_eq, b_X4_most_77]
theorem r_X4_most_79 : rn sh tb mN mO C rt (codeZ 16) 79 L st m = exI sh tb mN mO C rt (rn sh tb mN mO C rt (codeZ 16)) [.ireturn] L st m := by rw [rn_eq, b_X4_most_79]
theorem r_X4_enter_0 : rn sh tb mN mO C rt (codeZ 17) 0 L st m = exI sh tb mN mO C rt (rn sh tb mN mO C rt (codeZ 17)) [.iload 1, .tableswitch 143 (0) (7) #[48, 143, 143, 143, 143, 68, 93, 118]] L st m := by rw [rn_eq, b_X4_enter_0]
theorem r_X4_enter_48 : rn sh tb mN mO C rt (codeZ 17) 48 L st m = exI sh tb mN mO C rt (rn sh tb mN mO C rt (codeZ 17)) [.aload 2, .aload 0, .getfield 403, .sipush (0), .iaload, .aload 0, .getfield 403, .sipush (1), .iaload, .invokevirtual 28, .pop, .goto 169] L st m := by rw [rn_eq, b_X4_enter_48]
theorem r_X4_enter_68 : rn sh tb mN mO C rt (codeZ 17) 68 L st m = exI sh tb mN mO C rt (rn sh tb mN mO C rt (codeZ 17)) [.aload 2, .aload 0, .getfield 403, .sipush (0), .iaload, .putfield 502, .aload 0, .dup, .getfield 404, .sipush (1), .iload 1, .ishl, .ior, .putfield 404, .goto 169] L st m := by rw [rn_eq, b_X4_enter_68]
theorem r_X4_enter_93 : rn sh tb mN mO C rt (codeZ 17) 93 L st m = exI sh tb mN mO C rt (rn sh tb mN mO C rt (codeZ 17)) [.aload 2, .aload 0, .getfield 403, .sipush (0), .iaload, .putfield 503, .aload 0, .dup, .getfield 404, .sipush (1), .iload 1, .ishl, .ior, .putfield 404, .goto 169] L st m := by rw [rn_eq, b_X4_enter_93]
theorem r_X4_enter_118 : rn sh tb mN mO C rt (codeZ 17) 118 L st m = exI sh tb mN mO C rt (rn sh tb mN mO C rt (codeZ 17)) [.aload 2, .aload 0, .getfield 403, .sipush (0), .iaload, .putfield 504, .aload 0, .dup, .getfield 404, .sipush (1), .iload 1, .ishl, .ior, .putfield 404, .goto 169] L st m := by rw [rn_eq, b_X4_enter_118]
theorem r_X4_enter_143 : rn sh tb mN mO C rt (codeZ 17) 143 L st m = exI sh tb mN mO C rt (rn sh tb mN mO C rt (codeZ 17)) [.aload 2, .iload 1, .sipush (1), .isub, .aload 0, .getfield 403, .sipush (0), .iaload, .aload 0, .getfield 403, .sipush (1), .iaload, .aload 0, .getfield 403, .sipush (2), .iaload, .invokevirtual 29, .pop, .return_] L st m := by rw [rn_eq, b_X4_enter_143]
theorem r_X4_enter_169 : rn sh tb mN mO C rt (codeZ 17) 169 L st m = exI sh tb mN mO C rt (rn sh tb mN mO C rt (codeZ 17)) [.return_] L st m := by rw [rn_eq, b_X4_enter_169]
theorem r_X4_checkPlaces_0 : rn sh tb mN mO C rt (codeZ 18) 0 L st m = exI sh tb mN mO C rt (rn sh tb mN mO C rt (codeZ 18)) [.sipush (0), .istore 2, .goto_w 2] L st m := by rw [rn_eq, b_X4_checkPlaces_0]
theorem r_X4_checkPlaces_2 : rn sh tb mN mO C rt (codeZ 18) 2 L st m = exI sh tb mN mO C rt (rn sh tb mN mO C rt (codeZ 18)) [.iload 2, .aload 1, .getfield 501, .if_icmp .ge 42, .aload 1, .aload 1, .getfield 512, .iload 2, .iaload, .invokevirtual 26, .ifCond .ne 36, .aload 0, .sipush (6), .aload 0, .getfield 400, .getfield 300, .invokevirtual 20, .iinc 2 (1), .goto 2] L st m := by rw [rn_eq, b_X4_checkPlaces_2]
theorem r_X4_checkPlaces_36 : rn sh tb mN mO C rt (codeZ 18) 36 L st m = exI sh tb mN mO C rt (rn sh tb mN mO C rt (codeZ 18)) [.iinc 2 (1), .goto 2] L st m := by rw [rn_eq, b_X4_checkPlaces_36]
theorem r_X4_checkPlaces_42 : rn sh tb mN mO C rt (codeZ 18) 42 L st m = exI sh tb mN mO C rt (rn sh tb mN mO C rt (codeZ 18)) [.return_] L st m := by rw [rn_eq, b_X4_checkPlaces_42]
theorem r_X4_expect_0 : rn sh tb mN mO C rt (codeZ 19) 0 L st m = exI sh tb mN mO C rt (rn sh tb mN mO C rt (codeZ 19)) [.iload 1, .iload 2, .if_icmp .ne 7, .sipush (1), .ireturn] L st m := by rw [rn_eq, b_X4_expect_0]
theorem r_X4_expect_7 : rn sh tb mN mO C rt (codeZ 19) 7 L st m = exI sh tb mN mO C rt (rn sh tb mN mO C rt (codeZ 19)) [.aload 0, .iload 1, .sipush (4), .if_icmp .ne 17, .sipush (1), .goto 18] L st m := by rw [rn_eq, b_X4_expect_7]
theorem r_X4_expect_17 : rn sh tb mN mO C rt (codeZ 19) 17 L st m = exI sh tb mN mO C rt (rn sh tb mN mO C rt (codeZ 19)) [.sipush (2), .aload 0, .getfield 400, .getfield 301, .invokevirtual 20, .sipush (0), .ireturn] L st m := by rw [rn_eq, b_X4_expect_17]
theorem r_X4_expect_18 : rn sh tb mN mO C rt (codeZ 19) 18 L st m = exI sh tb mN mO C rt (rn sh tb mN mO C rt (codeZ 19)) [.aload 0, .getfield 400, .getfield 301, .invokevirtual 20, .sipush (0), .ireturn] L st m := by rw [rn_eq, b_X4_expect_18]
theorem r_X4_refuse_0 : rn sh tb mN mO C rt (codeZ 20) 0 L st m = exI sh tb mN mO C rt (rn sh tb mN mO C rt (codeZ 20)) [.aload 0, .iload 1, .putfield 401, .aload 0, .iload 2, .putfield 402, .return_] L st m := by rw [rn_eq, b_X4_refuse_0]
theorem r_X4_lineOf_0 : rn sh tb mN mO C rt (codeZ 21) 0 L st m = exI sh tb mN mO C rt (rn sh tb mN mO C rt (codeZ 21)) [.sipush (0), .istore 1, .goto_w 2] L st m := by rw [rn_eq, b_X4_lineOf_0]
theorem r_X4_lineOf_2 : rn sh tb mN mO C rt (codeZ 21) 2 L st m = exI sh tb mN mO C rt (rn sh tb mN mO C rt (codeZ 21)) [.iload 1, .sipush (8), .if_icmp .ge 30, .aload 0, .getfield 400, .iload 1, .invokestatic 22, .invokevirtual 11, .ifCond .eq 24, .iload 1, .ireturn] L st m := by rw [rn_eq, b_X4_lineOf_2]
theorem r_X4_lineOf_24 : rn sh tb mN mO C rt (codeZ 21) 24 L st m = exI sh tb mN mO C rt (rn sh tb mN mO C rt (codeZ 21)) [.iinc 1 (1), .goto 2] L st m := by rw [rn_eq, b_X4_lineOf_24]
theorem r_X4_lineOf_30 : rn sh tb mN mO C rt (codeZ 21) 30 L st m = exI sh tb mN mO C rt (rn sh tb mN mO C rt (codeZ 21)) [.sipush (-4), .ireturn] L st m := by rw [rn_eq, b_X4_lineOf_30]
theorem r_X4_word_0 : rn sh tb mN mO C rt (codeZ 22) 0 L st m = exI sh tb mN mO C rt (rn sh tb mN mO C rt (codeZ 22)) [.iload 0, .tableswitch 65 (0) (6) #[44, 47, 50, 53, 56, 59, 62]] L st m := by rw [rn_eq, b_X4_word_0]
theorem r_X4_word_44 : rn sh tb mN mO C rt (codeZ 22) 44 L st m = exI sh tb mN mO C rt (rn sh tb mN mO C rt (codeZ 22)) [.getstatic 2000, .areturn] L st m := by rw [rn_eq, b_X4_word_44]
theorem r_X4_word_47 : rn sh tb mN mO C rt (codeZ 22) 47 L st m = exI sh tb mN mO C rt (rn sh tb mN mO C rt (codeZ 22)) [.getstatic 2001, .areturn] L st m := by rw [rn_eq, b_X4_word_47]
theorem r_X4_word_50 : rn sh tb mN mO C rt (codeZ 22) 50 L st m = exI sh tb mN mO C rt (rn sh tb mN mO C rt (codeZ 22)) [.getstatic 2002, .areturn] L st m := by rw [rn_eq, b_X4_word_50]
theorem r_X4_word_53 : rn sh tb mN mO C rt (codeZ 22) 53 L st m = exI sh tb mN mO C rt (rn sh tb mN mO C rt (codeZ 22)) [.getstatic 2003, .areturn] L st m := by rw [rn_eq, b_X4_word_53]
theorem r_X4_word_56 : rn sh tb mN mO C rt (codeZ 22) 56 L st m = exI sh tb mN mO C rt (rn sh tb mN mO C rt (codeZ 22)) [.getstatic 2004, .areturn] L st m := by rw [rn_eq, b_X4_word_56]
theorem r_X4_word_59 : rn sh tb mN mO C rt (codeZ 22) 59 L st m = exI sh tb mN mO C rt (rn sh tb mN mO C rt (codeZ 22)) [.getstatic 2005, .areturn] L st m := by rw [rn_eq, b_X4_word_59]
theorem r_X4_word_62 : rn sh tb mN mO C rt (codeZ 22) 62 L st m = exI sh tb mN mO C rt (rn sh tb mN mO C rt (codeZ 22)) [.getstatic 2006, .areturn] L st m := by rw [rn_eq, b_X4_word_62]
theorem r_X4_word_65 : rn sh tb mN mO C rt (codeZ 22) 65 L st m = exI sh tb mN mO C rt (rn sh tb mN mO C rt (codeZ 22)) [.getstatic 2007, .areturn] L st m := by rw [rn_eq, b_X4_word_65]
theorem r_X5_clear_0 : rn sh tb mN mO C rt (codeZ 23) 0 L st m = exI sh tb mN mO C rt (rn sh tb mN mO C rt (codeZ 23)) [.aload 0, .sipush (0), .putfield 500, .aload 0, .sipush (0), .putfield 501, .aload 0, .sipush (5), .putfield 502, .aload 0, .sipush (46), .putfield 503, .aload 0, .sipush (5), .putfield 504, .aload 0, .sipush (0), .putfield 505, .aload 0, .sipush (0), .putfield 506, .aload 0, .sipush (0), .putfield 507, .aload 0, .invokevirtual 24, .return_] L st m := by rw [rn_eq, b_X5_clear_0]
theorem r_X5_takeTurnsByNumber_0 : rn sh tb mN mO C rt (codeZ 24) 0 L st m = exI sh tb mN mO C rt (rn sh tb mN mO C rt (codeZ 24)) [.sipush (0), .istore 1, .goto_w 2] L st m := by rw [rn_eq, b_X5_takeTurnsByNumber_0]
theorem r_X5_takeTurnsByNumber_2 : rn sh tb mN mO C rt (codeZ 24) 2 L st m = exI sh tb mN mO C rt (rn sh tb mN mO C rt (codeZ 24)) [.iload 1, .sipush (4), .if_icmp .ge 20, .aload 0, .getfield 510, .iload 1, .iload 1, .iastore, .iinc 1 (1), .goto 2] L st m := by rw [rn_eq, b_X5_takeTurnsByNumber_2]
theorem r_X5_takeTurnsByNumber_20 : rn sh tb mN mO C rt (codeZ 24) 20 L st m = exI sh tb mN mO C rt (rn sh tb mN mO C rt (codeZ 24)) [.return_] L st m := by rw [rn_eq, b_X5_takeTurnsByNumber_20]
theorem r_X5_become_0 : rn sh tb mN mO C rt (codeZ 25) 0 L st m = exI sh tb mN mO C rt (rn sh tb mN mO C rt (codeZ 25)) [.aload 0, .aload 1, .getfield 500, .putfield 500, .aload 0, .aload 1, .getfield 501, .putfield 501, .aload 0, .aload 1, .getfield 502, .putfield 502, .aload 0, .aload 1, .getfield 503, .putfield 503, .aload 0, .aload 1, .getfield 504, .putfield 504, .aload 0, .aload 1, .getfield 505, .putfield 505, .aload 0, .aload 1, .getfield 506, .putfield 506, .aload 0, .aload 1, .getfield 507, .putfield 507, .aload 1, .getfield 508, .sipush (0), .aload 0, .getfield 508, .sipush (0), .sipush (4), .monitorenter, .aload 1, .getfield 509, .sipush (0), .aload 0, .getfield 509, .sipush (0), .sipush (4), .monitorenter, .aload 1, .getfield 510, .sipush (0), .aload 0, .getfield 510, .sipush (0), .sipush (4), .monitorenter, .aload 1, .getfield 511, .sipush (0), .aload 0, .getfield 511, .sipush (0), .sipush (6), .monitorenter, .aload 1, .getfield 512, .sipush (0), .aload 0, .getfield 512, .sipush (0), .sipush (6), .monitorenter, .aload 1, .getfield 513, .sipush (0), .aload 0, .getfield 513, .sipush (0), .sipush (6), .monitorenter, .aload 1, .getfield 514, .sipush (0), .aload 0, .getfield 514, .sipush (0), .sipush (6), .monitorenter, .aload 1, .getfield 515, .sipush (0), .aload 0, .getfield 515, .sipush (0), .sipush (6), .monitorenter, .return_] L st m := by rw [rn_eq, b_X5_become_0]
theorem r_X5_hasVillage_0 : rn sh tb mN mO C rt (codeZ 26) 0 L st m = exI sh tb mN mO C rt (rn sh tb mN mO C rt (codeZ 26)) [.iload 1, .ifCond .lt 16, .iload 1, .aload 0, .getfield 500, .if_icmp .ge 16, .sipush (1), .goto 17] L st m := by rw [rn_eq, b_X5_hasVillage_0]
theorem r_X5_hasVillage_16 : rn sh tb mN mO C rt (codeZ 26) 16 L st m = exI sh tb mN mO C rt (rn sh tb mN mO C rt (codeZ 26)) [.sipush (0), .ireturn] L st m := by rw [rn_eq, b_X5_hasVillage_16]
theorem r_X5_hasVillage_17 : rn sh tb mN mO C rt (codeZ 26) 17 L st m = exI sh tb mN mO C rt (rn sh tb mN mO C rt (codeZ 26)) [.ireturn] L st m := by rw [rn_eq, b_X5_hasVillage_17]
theorem r_X5_hasBody_0 : rn sh tb mN mO C rt (codeZ 27) 0 L st m = exI sh tb mN mO C rt (rn sh tb mN mO C rt (codeZ 27)) [.iload 1, .ifCond .lt 16, .iload 1, .aload 0, .getfield 501, .if_icmp .ge 16, .sipush (1), .goto 17] L st m := by rw [rn_eq, b_X5_hasBody_0]
theorem r_X5_hasBody_16 : rn sh tb mN mO C rt (codeZ 27) 16 L st m = exI sh tb mN mO C rt (rn sh tb mN mO C rt (codeZ 27)) [.sipush (0), .ireturn] L st m := by rw [rn_eq, b_X5_hasBody_16]
theorem r_X5_hasBody_17 : rn sh tb mN mO C rt (codeZ 27) 17 L st m = exI sh tb mN mO C rt (rn sh tb mN mO C rt (codeZ 27)) [.ireturn] L st m := by rw [rn_eq, b_X5_hasBody_17]
theorem r_X5_addVillage_0 : rn sh tb mN mO C rt (codeZ 28) 0 L st m = exI sh tb mN mO C rt (rn sh tb mN mO C rt (codeZ 28)) [.aload 0, .getfield 500, .sipush (4), .if_icmp .lt 10, .sipush (0), .ireturn] L st m := by rw [rn_eq, b_X5_addVillage_0]
theorem r_X5_addVillage_10 : rn sh tb mN mO C rt (codeZ 28) 10 L st m = exI sh tb mN mO C rt (rn sh tb mN mO C rt (codeZ 28)) [.aload 0, .getfield 508, .aload 0, .getfield 500, .iload 1, .iastore, .aload 0, .getfield 509, .aload 0, .getfield 500, .iload 2, .iastore, .aload 0, .dup, .getfield 500, .sipush (1), .iadd, .putfield 500, .sipush (1), .ireturn] L st m := by rw [rn_eq, b_X5_addVillage_10]
theorem r_X5_addBody_0 : rn sh tb mN mO C rt (codeZ 29) 0 L st m = exI sh tb mN mO C rt (rn sh tb mN mO C rt (codeZ 29)) [.aload 0, .getfield 501, .sipush (6), .if_icmp .lt 11, .sipush (0), .ireturn] L st m := by rw [rn_eq, b_X5_addBody_0]
theorem r_X5_addBody_11 : rn sh tb mN mO C rt (codeZ 29) 11 L st m = exI sh tb mN mO C rt (rn sh tb mN mO C rt (codeZ 29)) [.aload 0, .getfield 511, .aload 0, .getfield 501, .iload 1, .iastore, .aload 0, .getfield 512, .aload 0, .getfield 501, .iload 2, .iastore, .aload 0, .getfield 513, .aload 0, .getfield 501, .iload 3, .iastore, .aload 0, .getfield 514, .aload 0, .getfield 501, .iload 4, .iastore, .aload 0, .getfield 515, .aload 0, .getfield 501, .sipush (0), .iastore, .aload 0, .dup, .getfield 501, .sipush (1), .iadd, .putfield 501, .sipush (1), .ireturn] L st m := by rw [rn_eq, b_X5_addBody_11]
theorem r_X5_bodyRow_0 : rn sh tb mN mO C rt (codeZ 30) 0 L st m = exI sh tb mN mO C rt (rn sh tb mN mO C rt (codeZ 30)) [.iload 1, .tableswitch 43 (0) (2) #[28, 33, 38]] L st m := by rw [rn_eq, b_X5_bodyRow_0]
theorem r_X5_bodyRow_28 : rn sh tb mN mO C rt (codeZ 30) 28 L st m = exI sh tb mN mO C rt (rn sh tb mN mO C rt (codeZ 30)) [.aload 0, .getfield 511, .areturn] L st m := by rw [rn_eq, b_X5_bodyRow_28]
theorem r_X5_bodyRow_33 : rn sh tb mN mO C rt (codeZ 30) 33 L st m = exI sh tb mN mO C rt (rn sh tb mN mO C rt (codeZ 30)) [.aload 0, .getfield 512, .areturn] L st m := by rw [rn_eq, b_X5_bodyRow_33]
theorem r_X5_bodyRow_38 : rn sh tb mN mO C rt (codeZ 30) 38 L st m = exI sh tb mN mO C rt (rn sh tb mN mO C rt (codeZ 30)) [.aload 0, .getfield 513, .areturn] L st m := by rw [rn_eq, b_X5_bodyRow_38]
theorem r_X5_bodyRow_43 : rn sh tb mN mO C rt (codeZ 30) 43 L st m = exI sh tb mN mO C rt (rn sh tb mN mO C rt (codeZ 30)) [.aload 0, .getfield 514, .areturn] L st m := by rw [rn_eq, b_X5_bodyRow_43]
theorem r_X5_lacksOfFather_0 : rn sh tb mN mO C rt (codeZ 31) 0 L st m = exI sh tb mN mO C rt (rn sh tb mN mO C rt (codeZ 31)) [.getstatic 1000, .aload 0, .getfield 511, .iload 1, .iaload, .iaload, .aload 0, .getfield 513, .iload 1, .iaload, .if_icmp .le 23, .sipush (1), .goto 24] L st m := by rw [rn_eq, b_X5_lacksOfFather_0]
theorem r_X5_lacksOfFather_23 : rn sh tb mN mO C rt (codeZ 31) 23 L st m = exI sh tb mN mO C rt (rn sh tb mN mO C rt (codeZ 31)) [.sipush (0), .ireturn] L st m := by rw [rn_eq, b_X5_lacksOfFather_23]
theorem r_X5_lacksOfFather_24 : rn sh tb mN mO C rt (codeZ 31) 24 L st m = exI sh tb mN mO C rt (rn sh tb mN mO C rt (codeZ 31)) [.ireturn] L st m := by rw [rn_eq, b_X5_lacksOfFather_24]
theorem r_X5_lacks_0 : rn sh tb mN mO C rt (codeZ 32) 0 L st m = exI sh tb mN mO C rt (rn sh tb mN mO C rt (codeZ 32)) [.getstatic 1000, .aload 0, .getfield 511, .iload 1, .iaload, .iaload, .aload 0, .getfield 513, .iload 1, .iaload, .isub, .istore 2, .getstatic 1001, .aload 0, .getfield 511, .iload 1, .iaload, .iaload, .aload 0, .getfield 514, .iload 1, .iaload, .isub, .istore 3, .iload 2, .ifCond .le 44, .iload 2, .goto 45] L st m := by rw [rn_eq, b_X5_lacks_0]
theorem r_X5_lacks_44 : rn sh tb mN mO C rt (codeZ 32) 44 L st m = exI sh tb mN mO C rt (rn sh tb mN mO C rt (codeZ 32)) [.sipush (0), .iload 3, .ifCond .le 53, .iload 3, .goto 54] L st m := by rw [rn_eq, b_X5_lacks_44]
theorem r_X5_lacks_45 : rn sh tb mN mO C rt (codeZ 32) 45 L st m = exI sh tb mN mO C rt (rn sh tb mN mO C rt (codeZ 32)) [.iload 3, .ifCond .le 53, .iload 3, .goto 54] L st m := by rw [rn_eq, b_X5_lacks_45]
theorem r_X5_lacks_53 : rn sh tb mN mO C rt (codeZ 32) 53 L st m = exI sh tb mN mO C rt (rn sh tb mN mO C rt (codeZ 32)) [.sipush (0), .iadd, .ireturn] L st m := by rw [rn_eq, b_X5_lacks_53]
theorem r_X5_lacks_54 : rn sh tb mN mO C rt (codeZ 32) 54 L st m = exI sh tb mN mO C rt (rn sh tb mN mO C rt (codeZ 32)) [.iadd, .ireturn] L st m := by rw [rn_eq, b_X5_lacks_54]
theorem r_X5_lacksOfLying_0 : rn sh tb mN mO C rt (codeZ 33) 0 L st m = exI sh tb mN mO C rt (rn sh tb mN mO C rt (codeZ 33)) [.sipush (0), .istore 1, .sipush (0), .istore 2, .goto_w 4] L st m := by rw [rn_eq, b_X5_lacksOfLying_0]
theorem r_X5_lacksOfLying_4 : rn sh tb mN mO C rt (codeZ 33) 4 L st m = exI sh tb mN mO C rt (rn sh tb mN mO C rt (codeZ 33)) [.iload 2, .aload 0, .getfield 501, .if_icmp .ge 35, .aload 0, .getfield 515, .iload 2, .iaload, .ifCond .ne 29, .iload 1, .aload 0, .iload 2, .invokevirtual 32, .iadd, .istore 1, .iinc 2 (1), .goto 4] L st m := by rw [rn_eq, b_X5_lacksOfLying_4]
theorem r_X5_lacksOfLying_29 : rn sh tb mN mO C rt (codeZ 33) 29 L st m = exI sh tb mN mO C rt (rn sh tb mN mO C rt (codeZ 33)) [.iinc 2 (1), .goto 4] L st m := by rw [rn_eq, b_X5_lacksOfLying_29]
theorem r_X5_lacksOfLying_35 : rn sh tb mN mO C rt (codeZ 33) 35 L st m = exI sh tb mN mO C rt (rn sh tb mN mO C rt (codeZ 33)) [.iload 1, .ireturn] L st m := by rw [rn_eq, b_X5_lacksOfLying_35]
theorem r_X5_inWay_0 : rn sh tb mN mO C rt (codeZ 34) 0 L st m = exI sh tb mN mO C rt (rn sh tb mN mO C rt (codeZ 34)) [.sipush (0), .istore 2, .sipush (0), .istore 3, .goto_w 4] L st m := by rw [rn_eq, b_X5_inWay_0]
theorem r_X5_inWay_4 : rn sh tb mN mO C rt (codeZ 34) 4 L st m = exI sh tb mN mO C rt (rn sh tb mN mO C rt (codeZ 34)) [.iload 3, .aload 0, .getfield 501, .if_icmp .ge 34, .aload 0, .getfield 515, .iload 3, .iaload, .iload 1, .if_icmp .ne 28, .iload 2, .sipush (1), .iload 3, .ishl, .ior, .istore 2, .iinc 3 (1), .goto 4] L st m := by rw [rn_eq, b_X5_inWay_4]
theorem r_X5_inWay_28 : rn sh tb mN mO C rt (codeZ 34) 28 L st m = exI sh tb mN mO C rt (rn sh tb mN mO C rt (codeZ 34)) [.iinc 3 (1), .goto 4] L st m := by rw [rn_eq, b_X5_inWay_28]
theorem r_X5_inWay_34 : rn sh tb mN mO C rt (codeZ 34) 34 L st m = exI sh tb mN mO C rt (rn sh tb mN mO C rt (codeZ 34)) [.iload 2, .ireturn] L st m := by rw [rn_eq, b_X5_inWay_34]
theorem r_X5_lyingAt_0 : rn sh tb mN mO C rt (codeZ 35) 0 L st m = exI sh tb mN mO C rt (rn sh tb mN mO C rt (codeZ 35)) [.sipush (0), .istore 2, .sipush (0), .istore 3, .goto_w 4] L st m := by rw [rn_eq, b_X5_lyingAt_0]
theorem r_X5_lyingAt_4 : rn sh tb mN mO C rt (codeZ 35) 4 L st m = exI sh tb mN mO C rt (rn sh tb mN mO C rt (codeZ 35)) [.iload 3, .aload 0, .getfield 501, .if_icmp .ge 43, .aload 0, .getfield 512, .iload 3, .iaload, .iload 1, .if_icmp .ne 37, .aload 0, .getfield 515, .iload 3, .iaload, .ifCond .ne 37, .iload 2, .sipush (1), .iload 3, .ishl, .ior, .istore 2, .iinc 3 (1), .goto 4] L st m := by rw [rn_eq, b_X5_lyingAt_4]
theorem r_X5_lyingAt_37 : rn sh tb mN mO C rt (codeZ 35) 37 L st m = exI sh tb mN mO C rt (rn sh tb mN mO C rt (codeZ 35)) [.iinc 3 (1), .goto 4] L st m := by rw [rn_eq, b_X5_lyingAt_37]
theorem r_X5_lyingAt_43 : rn sh tb mN mO C rt (codeZ 35) 43 L st m = exI sh tb mN mO C rt (rn sh tb mN mO C rt (codeZ 35)) [.iload 2, .ireturn] L st m := by rw [rn_eq, b_X5_lyingAt_43]
theorem r_X5_allMeans_0 : rn sh tb mN mO C rt (codeZ 36) 0 L st m = exI sh tb mN mO C rt (rn sh tb mN mO C rt (codeZ 36)) [.sipush (0), .istore 1, .sipush (0), .istore 2, .goto_w 4] L st m := by rw [rn_eq, b_X5_allMeans_0]
theorem r_X5_allMeans_4 : rn sh tb mN mO C rt (codeZ 36) 4 L st m = exI sh tb mN mO C rt (rn sh tb mN mO C rt (codeZ 36)) [.iload 2, .aload 0, .getfield 500, .if_icmp .ge 27, .iload 1, .aload 0, .getfield 508, .iload 2, .iaload, .iadd, .istore 1, .iinc 2 (1), .goto 4] L st m := by rw [rn_eq, b_X5_allMeans_4]
theorem r_X5_allMeans_27 : rn sh tb mN mO C rt (codeZ 36) 27 L st m = exI sh tb mN mO C rt (rn sh tb mN mO C rt (codeZ 36)) [.iload 1, .ireturn] L st m := by rw [rn_eq, b_X5_allMeans_27]
theorem r_X5_pass_0 : rn sh tb mN mO C rt (codeZ 37) 0 L st m = exI sh tb mN mO C rt (rn sh tb mN mO C rt (codeZ 37)) [.aload 0, .invokevirtual 36, .istore 2, .sipush (0), .istore 3, .goto_w 7] L st m := by rw [rn_eq, b_X5_pass_0]
theorem r_X5_pass_7 : rn sh tb mN mO C rt (codeZ 37) 7 L st m = exI sh tb mN mO C rt (rn sh tb mN mO C rt (codeZ 37)) [.iload 3, .iload 1, .if_icmp .ge 22, .aload 0, .invokevirtual 38, .iinc 3 (1), .goto 7] L st m := by rw [rn_eq, b_X5_pass_7]
theorem r_X5_pass_22 : rn sh tb mN mO C rt (codeZ 37) 22 L st m = exI sh tb mN mO C rt (rn sh tb mN mO C rt (codeZ 37)) [.iload 2, .aload 0, .invokevirtual 36, .isub, .ireturn] L st m := by rw [rn_eq, b_X5_pass_22]
theorem r_X5_passOne_0 : rn sh tb mN mO C rt (codeZ 38) 0 L st m = exI sh tb mN mO C rt (rn sh tb mN mO C rt (codeZ 38)) [.sipush (0), .istore 1, .goto_w 2] L st m := by rw [rn_eq, b_X5_passOne_0]
theorem r_X5_passOne_2 : rn sh tb mN mO C rt (codeZ 38) 2 L st m = exI sh tb mN mO C rt (rn sh tb mN mO C rt (codeZ 38)) [.iload 1, .aload 0, .getfield 500, .if_icmp .ge 26, .aload 0, .aload 0, .getfield 510, .iload 1, .iaload, .invokevirtual 39, .iinc 1 (1), .goto 2] L st m := by rw [rn_eq, b_X5_passOne_2]
theorem r_X5_passOne_26 : rn sh tb mN mO C rt (codeZ 38) 26 L st m = exI sh tb mN mO C rt (rn sh tb mN mO C rt (codeZ 38)) [.aload 0, .dup, .getfield 505, .sipush (1), .iadd, .putfield 505, .aload 0, .getfield 504, .ifCond .le 59, .aload 0, .getfield 505, .aload 0, .getfield 504, .irem, .ifCond .ne 59, .aload 0, .invokevirtual 42, .return_] L st m := by rw [rn_eq, b_X5_passOne_26]
theorem r_X5_passOne_59 : rn sh tb mN mO C rt (codeZ 38) 59 L st m = exI sh tb mN mO C rt (rn sh tb mN mO C rt (codeZ 38)) [.return_] L st m := by rw [rn_eq, b_X5_passOne_59]
theorem r_X5_takeTurn_0 : rn sh tb mN mO C rt (codeZ 39) 0 L st m = exI sh tb mN mO C rt (rn sh tb mN mO C rt (codeZ 39)) [.aload 0, .iload 1, .invokevirtual 40, .istore 2, .iload 2, .sipush (-4), .if_icmp .ne 13, .return_] L st m := by rw [rn_eq, b_X5_takeTurn_0]
theorem r_X5_takeTurn_13 : rn sh tb mN mO C rt (codeZ 39) 13 L st m = exI sh tb mN mO C rt (rn sh tb mN mO C rt (codeZ 39)) [.aload 0, .iload 2, .invokevirtual 32, .istore 3, .aload 0, .getfield 502, .iload 3, .imul, .istore 4, .iload 3, .ifCond .ne 41, .aload 0, .getfield 515, .iload 2, .sipush (1), .iastore, .goto 88] L st m := by rw [rn_eq, b_X5_takeTurn_13]
theorem r_X5_takeTurn_41 : rn sh tb mN mO C rt (codeZ 39) 41 L st m = exI sh tb mN mO C rt (rn sh tb mN mO C rt (codeZ 39)) [.iload 4, .aload 0, .getfield 503, .if_icmp .ge 82, .iload 4, .aload 0, .getfield 508, .iload 1, .iaload, .if_icmp .gt 82, .aload 0, .getfield 508, .iload 1, .dup2, .iaload, .iload 4, .isub, .iastore, .aload 0, .getfield 515, .iload 2, .sipush (1), .iastore, .goto 88] L st m := by rw [rn_eq, b_X5_takeTurn_41]
theorem r_X5_takeTurn_82 : rn sh tb mN mO C rt (codeZ 39) 82 L st m = exI sh tb mN mO C rt (rn sh tb mN mO C rt (codeZ 39)) [.aload 0, .iload 2, .iload 1, .invokevirtual 41, .return_] L st m := by rw [rn_eq, b_X5_takeTurn_82]
theorem r_X5_takeTurn_88 : rn sh tb mN mO C rt (codeZ 39) 88 L st m = exI sh tb mN mO C rt (rn sh tb mN mO C rt (codeZ 39)) [.return_] L st m := by rw [rn_eq, b_X5_takeTurn_88]
theorem r_X5_firstLyingAt_0 : rn sh tb mN mO C rt (codeZ 40) 0 L st m = exI sh tb mN mO C rt (rn sh tb mN mO C rt (codeZ 40)) [.sipush (0), .istore 2, .goto_w 2] L st m := by rw [rn_eq, b_X5_firstLyingAt_0]
theorem r_X5_firstLyingAt_2 : rn sh tb mN mO C rt (codeZ 40) 2 L st m = exI sh tb mN mO C rt (rn sh tb mN mO C rt (codeZ 40)) [.iload 2, .aload 0, .getfield 501, .if_icmp .ge 37, .aload 0, .getfield 512, .iload 2, .iaload, .iload 1, .if_icmp .ne 31, .aload 0, .getfield 515, .iload 2, .iaload, .ifCond .ne 31, .iload 2, .ireturn] L st m := by rw [rn_eq, b_X5_firstLyingAt_2]
theorem r_X5_firstLyingAt_31 : rn sh tb mN mO C rt (codeZ 40) 31 L st m = exI sh tb mN mO C rt (rn sh tb mN mO C rt (codeZ 40)) [.iinc 2 (1), .goto 2] L st m := by rw [rn_eq, b_X5_firstLyingAt_31]
theorem r_X5_firstLyingAt_37 : rn sh tb mN mO C rt (codeZ 40) 37 L st m = exI sh tb mN mO C rt (rn sh tb mN mO C rt (codeZ 40)) [.sipush (-4), .ireturn] L st m := by rw [rn_eq, b_X5_firstLyingAt_37]
theorem r_X5_handOn_0 : rn sh tb mN mO C rt (codeZ 41) 0 L st m = exI sh tb mN mO C rt (rn sh tb mN mO C rt (codeZ 41)) [.iload 2, .sipush (1), .iadd, .aload 0, .getfield 500, .if_icmp .ge 16, .iload 2, .sipush (1), .iadd, .goto 17] L st m := by rw [rn_eq, b_X5_handOn_0]
theorem r_X5_handOn_16 : rn sh tb mN mO C rt (codeZ 41) 16 L st m = exI sh tb mN mO C rt (rn sh tb mN mO C rt (codeZ 41)) [.sipush (0), .istore 3, .iload 3, .iload 2, .if_icmp .ne 24, .return_] L st m := by rw [rn_eq, b_X5_handOn_16]
theorem r_X5_handOn_17 : rn sh tb mN mO C rt (codeZ 41) 17 L st m = exI sh tb mN mO C rt (rn sh tb mN mO C rt (codeZ 41)) [.istore 3, .iload 3, .iload 2, .if_icmp .ne 24, .return_] L st m := by rw [rn_eq, b_X5_handOn_17]
theorem r_X5_handOn_24 : rn sh tb mN mO C rt (codeZ 41) 24 L st m = exI sh tb mN mO C rt (rn sh tb mN mO C rt (codeZ 41)) [.aload 0, .getfield 509, .iload 3, .iaload, .ifCond .ne 53, .aload 0, .getfield 512, .iload 1, .iload 3, .iastore, .aload 0, .dup, .getfield 507, .sipush (1), .iadd, .putfield 507, .goto 63] L st m := by rw [rn_eq, b_X5_handOn_24]
theorem r_X5_handOn_53 : rn sh tb mN mO C rt (codeZ 41) 53 L st m = exI sh tb mN mO C rt (rn sh tb mN mO C rt (codeZ 41)) [.aload 0, .getfield 509, .iload 3, .dup2, .iaload, .sipush (1), .isub, .iastore, .return_] L st m := by rw [rn_eq, b_X5_handOn_53]
theorem r_X5_handOn_63 : rn sh tb mN mO C rt (codeZ 41) 63 L st m = exI sh tb mN mO C rt (rn sh tb mN mO C rt (codeZ 41)) [.return_] L st m := by rw [rn_eq, b_X5_handOn_63]
theorem r_X5_fineAll_0 : rn sh tb mN mO C rt (codeZ 42) 0 L st m = exI sh tb mN mO C rt (rn sh tb mN mO C rt (codeZ 42)) [.sipush (0), .istore 1, .goto_w 2] L st m := by rw [rn_eq, b_X5_fineAll_0]
theorem r_X5_fineAll_2 : rn sh tb mN mO C rt (codeZ 42) 2 L st m = exI sh tb mN mO C rt (rn sh tb mN mO C rt (codeZ 42)) [.iload 1, .aload 0, .getfield 501, .if_icmp .ge 87, .aload 0, .getfield 515, .iload 1, .iaload, .ifCond .ne 81, .aload 0, .getfield 512, .iload 1, .iaload, .istore 2, .aload 0, .getfield 508, .iload 2, .iaload, .aload 0, .getfield 503, .if_icmp .ge 61, .aload 0, .dup, .getfield 506, .sipush (1), .iload 2, .ishl, .ior, .putfield 506, .aload 0, .getfield 508, .iload 2, .sipush (0), .iastore, .goto 74] L st m := by rw [rn_eq, b_X5_fineAll_2]
theorem r_X5_fineAll_61 : rn sh tb mN mO C rt (codeZ 42) 61 L st m = exI sh tb mN mO C rt (rn sh tb mN mO C rt (codeZ 42)) [.aload 0, .getfield 508, .iload 2, .dup2, .iaload, .aload 0, .getfield 503, .isub, .iastore, .aload 0, .getfield 515, .iload 1, .sipush (2), .iastore, .iinc 1 (1), .goto 2] L st m := by rw [rn_eq, b_X5_fineAll_61]
theorem r_X5_fineAll_74 : rn sh tb mN mO C rt (codeZ 42) 74 L st m = exI sh tb mN mO C rt (rn sh tb mN mO C rt (codeZ 42)) [.aload 0, .getfield 515, .iload 1, .sipush (2), .iastore, .iinc 1 (1), .goto 2] L st m := by rw [rn_eq, b_X5_fineAll_74]
theorem r_X5_fineAll_81 : rn sh tb mN mO C rt (codeZ 42) 81 L st m = exI sh tb mN mO C rt (rn sh tb mN mO C rt (codeZ 42)) [.iinc 1 (1), .goto 2] L st m := by rw [rn_eq, b_X5_fineAll_81]
theorem r_X5_fineAll_87 : rn sh tb mN mO C rt (codeZ 42) 87 L st m = exI sh tb mN mO C rt (rn sh tb mN mO C rt (codeZ 42)) [.return_] L st m := by rw [rn_eq, b_X5_fineAll_87]
theorem r_X6_feed_0 : rn sh tb mN mO C rt (codeZ 43) 0 L st m = exI sh tb mN mO C rt (rn sh tb mN mO C rt (codeZ 43)) [.iload 1, .sipush (0), .sipush (127), .invokestatic 99, .ifCond .ne 12, .sipush (-1), .ireturn] L st m := by rw [rn_eq, b_X6_feed_0]
theorem r_X6_feed_12 : rn sh tb mN mO C rt (codeZ 43) 12 L st m = exI sh tb mN mO C rt (rn sh tb mN mO C rt (codeZ 43)) [.aload 0, .getfield 603, .getfield 400, .iload 1, .invokevirtual 7, .ifCond .eq 39, .aload 0, .getfield 603, .getfield 400, .getfield 300, .goto 41] L st m := by rw [rn_eq, b_X6_feed_12]
theorem r_X6_feed_39 : rn sh tb mN mO C rt (codeZ 43) 39 L st m = exI sh tb mN mO C rt (rn sh tb mN mO C rt (codeZ 43)) [.sipush (-3), .ireturn] L st m := by rw [rn_eq, b_X6_feed_39]
theorem r_X6_feed_41 : rn sh tb mN mO C rt (codeZ 43) 41 L st m = exI sh tb mN mO C rt (rn sh tb mN mO C rt (codeZ 43)) [.ireturn] L st m := by rw [rn_eq, b_X6_feed_41]
theorem r_X6_end_0 : rn sh tb mN mO C rt (codeZ 44) 0 L st m = exI sh tb mN mO C rt (rn sh tb mN mO C rt (codeZ 44)) [.aload 0, .getfield 603, .getfield 400, .getfield 300, .istore 2, .iload 1, .sipush (0), .iload 2, .invokestatic 99, .ifCond .ne 22, .sipush (-1), .ireturn] L st m := by rw [rn_eq, b_X6_end_0]
theorem r_X6_end_22 : rn sh tb mN mO C rt (codeZ 44) 22 L st m = exI sh tb mN mO C rt (rn sh tb mN mO C rt (codeZ 44)) [.aload 0, .getfield 603, .getfield 400, .iload 1, .putfield 300, .iload 2, .ireturn] L st m := by rw [rn_eq, b_X6_end_22]
theorem r_X6_text_0 : rn sh tb mN mO C rt (codeZ 45) 0 L st m = exI sh tb mN mO C rt (rn sh tb mN mO C rt (codeZ 45)) [.aload 0, .getfield 603, .aload 0, .getfield 601, .invokevirtual 12, .istore 1, .aload 0, .getfield 603, .getfield 400, .sipush (0), .putfield 300, .aload 0, .getfield 603, .getfield 401, .ifCond .eq 44, .sipush (-10), .aload 0, .getfield 603, .getfield 402, .isub, .ireturn] L st m := by rw [rn_eq, b_X6_text_0]
theorem r_X6_text_44 : rn sh tb mN mO C rt (codeZ 45) 44 L st m = exI sh tb mN mO C rt (rn sh tb mN mO C rt (codeZ 45)) [.aload 0, .getfield 600, .aload 0, .getfield 601, .invokevirtual 25, .aload 0, .getfield 602, .sipush (0), .putfield 200, .sipush (0), .istore 2, .goto_w 65] L st m := by rw [rn_eq, b_X6_text_44]
theorem r_X6_text_65 : rn sh tb mN mO C rt (codeZ 45) 65 L st m = exI sh tb mN mO C rt (rn sh tb mN mO C rt (codeZ 45)) [.iload 2, .sipush (2), .if_icmp .ge 86, .aload 0, .getfield 604, .iload 2, .aaload, .sipush (0), .putfield 0, .iinc 2 (1), .goto 65] L st m := by rw [rn_eq, b_X6_text_65]
theorem r_X6_text_86 : rn sh tb mN mO C rt (codeZ 45) 86 L st m = exI sh tb mN mO C rt (rn sh tb mN mO C rt (codeZ 45)) [.iload 1, .ireturn] L st m := by rw [rn_eq, b_X6_text_86]
theorem r_X6_fault_0 : rn sh tb mN mO C rt (codeZ 46) 0 L st m = exI sh tb mN mO C rt (rn sh tb mN mO C rt (codeZ 46)) [.aload 0, .getfield 603, .getfield 401, .ireturn] L st m := by rw [rn_eq, b_X6_fault_0]
theorem r_X6_rule_0 : rn sh tb mN mO C rt (codeZ 47) 0 L st m = exI sh tb mN mO C rt (rn sh tb mN mO C rt (codeZ 47)) [.iload 1, .tableswitch 139 (0) (9) #[56, 64, 72, 80, 88, 96, 104, 113, 122, 131]] L st m := by rw [rn_eq, b_X6_rule_0]
theorem r_X6_rule_56 : rn sh tb mN mO C rt (codeZ 47) 56 L st m = exI sh tb mN mO C rt (rn sh tb mN mO C rt (codeZ 47)) [.aload 0, .getfield 600, .getfield 500, .ireturn] L st m := by rw [rn_eq, b_X6_rule_56]
theorem r_X6_rule_64 : rn sh tb mN mO C rt (codeZ 47) 64 L st m = exI sh tb mN mO C rt (rn sh tb mN mO C rt (codeZ 47)) [.aload 0, .getfield 600, .getfield 501, .ireturn] L st m := by rw [rn_eq, b_X6_rule_64]
theorem r_X6_rule_72 : rn sh tb mN mO C rt (codeZ 47) 72 L st m = exI sh tb mN mO C rt (rn sh tb mN mO C rt (codeZ 47)) [.aload 0, .getfield 600, .getfield 502, .ireturn] L st m := by rw [rn_eq, b_X6_rule_72]
theorem r_X6_rule_80 : rn sh tb mN mO C rt (codeZ 47) 80 L st m = exI sh tb mN mO C rt (rn sh tb mN mO C rt (codeZ 47)) [.aload 0, .getfield 600, .getfield 503, .ireturn] L st m := by rw [rn_eq, b_X6_rule_80]
theorem r_X6_rule_88 : rn sh tb mN mO C rt (codeZ 47) 88 L st m = exI sh tb mN mO C rt (rn sh tb mN mO C rt (codeZ 47)) [.aload 0, .getfield 600, .getfield 504, .ireturn] L st m := by rw [rn_eq, b_X6_rule_88]
theorem r_X6_rule_96 : rn sh tb mN mO C rt (codeZ 47) 96 L st m = exI sh tb mN mO C rt (rn sh tb mN mO C rt (codeZ 47)) [.aload 0, .getfield 600, .getfield 505, .ireturn] L st m := by rw [rn_eq, b_X6_rule_96]
theorem r_X6_rule_104 : rn sh tb mN mO C rt (codeZ 47) 104 L st m = exI sh tb mN mO C rt (rn sh tb mN mO C rt (codeZ 47)) [.aload 0, .getfield 600, .sipush (0), .invokevirtual 34, .ireturn] L st m := by rw [rn_eq, b_X6_rule_104]
theorem r_X6_rule_113 : rn sh tb mN mO C rt (codeZ 47) 113 L st m = exI sh tb mN mO C rt (rn sh tb mN mO C rt (codeZ 47)) [.aload 0, .getfield 600, .sipush (1), .invokevirtual 34, .ireturn] L st m := by rw [rn_eq, b_X6_rule_113]
theorem r_X6_rule_122 : rn sh tb mN mO C rt (codeZ 47) 122 L st m = exI sh tb mN mO C rt (rn sh tb mN mO C rt (codeZ 47)) [.aload 0, .getfield 600, .sipush (2), .invokevirtual 34, .ireturn] L st m := by rw [rn_eq, b_X6_rule_122]
theorem r_X6_rule_131 : rn sh tb mN mO C rt (codeZ 47) 131 L st m = exI sh tb mN mO C rt (rn sh tb mN mO C rt (codeZ 47)) [.aload 0, .getfield 600, .getfield 506, .ireturn] L st m := by rw [rn_eq, b_X6_rule_131]
theorem r_X6_rule_139 : rn sh tb mN mO C rt (codeZ 47) 139 L st m = exI sh tb mN mO C rt (rn sh tb mN mO C rt (codeZ 47)) [.sipush (-1), .ireturn] L st m := by rw [rn_eq, b_X6_rule_139]
theorem r_X6_village_0 : rn sh tb mN mO C rt (codeZ 48) 0 L st m = exI sh tb mN mO C rt (rn sh tb mN mO C rt (codeZ 48)) [.aload 0, .getfield 600, .iload 1, .invokevirtual 26, .ifCond .ne 13, .sipush (-1), .ireturn] L st m := by rw [rn_eq, b_X6_village_0]
theorem r_X6_village_13 : rn sh tb mN mO C rt (codeZ 48) 13 L st m = exI sh tb mN mO C rt (rn sh tb mN mO C rt (codeZ 48)) [.iload 2, .tableswitch 69 (0) (2) #[40, 50, 60]] L st m := by rw [rn_eq, b_X6_village_13]
theorem r_X6_village_40 : rn sh tb mN mO C rt (codeZ 48) 40 L st m = exI sh tb mN mO C rt (rn sh tb mN mO C rt (codeZ 48)) [.aload 0, .getfield 600, .getfield 508, .iload 1, .iaload, .ireturn] L st m := by rw [rn_eq, b_X6_village_40]
theorem r_X6_village_50 : rn sh tb mN mO C rt (codeZ 48) 50 L st m = exI sh tb mN mO C rt (rn sh tb mN mO C rt (codeZ 48)) [.aload 0, .getfield 600, .getfield 509, .iload 1, .iaload, .ireturn] L st m := by rw [rn_eq, b_X6_village_50]
theorem r_X6_village_60 : rn sh tb mN mO C rt (codeZ 48) 60 L st m = exI sh tb mN mO C rt (rn sh tb mN mO C rt (codeZ 48)) [.aload 0, .getfield 600, .iload 1, .invokevirtual 35, .ireturn] L st m := by rw [rn_eq, b_X6_village_60]
theorem r_X6_village_69 : rn sh tb mN mO C rt (codeZ 48) 69 L st m = exI sh tb mN mO C rt (rn sh tb mN mO C rt (codeZ 48)) [.sipush (-1), .ireturn] L st m := by rw [rn_eq, b_X6_village_69]
theorem r_X6_body_0 : rn sh tb mN mO C rt (codeZ 49) 0 L st m = exI sh tb mN mO C rt (rn sh tb mN mO C rt (codeZ 49)) [.aload 0, .getfield 600, .iload 1, .invokevirtual 27, .ifCond .ne 13, .sipush (-1), .ireturn] L st m := by rw [rn_eq, b_X6_body_0]
theorem r_X6_body_13 : rn sh tb mN mO C rt (codeZ 49) 13 L st m = exI sh tb mN mO C rt (rn sh tb mN mO C rt (codeZ 49)) [.iload 2, .tableswitch 111 (0) (5) #[52, 62, 72, 82, 92, 102]] L st m := by rw [rn_eq, b_X6_body_13]
theorem r_X6_body_52 : rn sh tb mN mO C rt (codeZ 49) 52 L st m = exI sh tb mN mO C rt (rn sh tb mN mO C rt (codeZ 49)) [.aload 0, .getfield 600, .getfield 511, .iload 1, .iaload, .ireturn] L st m := by rw [rn_eq, b_X6_body_52]
theorem r_X6_body_62 : rn sh tb mN mO C rt (codeZ 49) 62 L st m = exI sh tb mN mO C rt (rn sh tb mN mO C rt (codeZ 49)) [.aload 0, .getfield 600, .getfield 512, .iload 1, .iaload, .ireturn] L st m := by rw [rn_eq, b_X6_body_62]
theorem r_X6_body_72 : rn sh tb mN mO C rt (codeZ 49) 72 L st m = exI sh tb mN mO C rt (rn sh tb mN mO C rt (codeZ 49)) [.aload 0, .getfield 600, .getfield 513, .iload 1, .iaload, .ireturn] L st m := by rw [rn_eq, b_X6_body_72]
theorem r_X6_body_82 : rn sh tb mN mO C rt (codeZ 49) 82 L st m = exI sh tb mN mO C rt (rn sh tb mN mO C rt (codeZ 49)) [.aload 0, .getfield 600, .getfield 514, .iload 1, .iaload, .ireturn] L st m := by rw [rn_eq, b_X6_body_82]
theorem r_X6_body_92 : rn sh tb mN mO C rt (codeZ 49) 92 L st m = exI sh tb mN mO C rt (rn sh tb mN mO C rt (codeZ 49)) [.aload 0, .getfield 600, .getfield 515, .iload 1, .iaload, .ireturn] L st m := by rw [rn_eq, b_X6_body_92]
theorem r_X6_body_102 : rn sh tb mN mO C rt (codeZ 49) 102 L st m = exI sh tb mN mO C rt (rn sh tb mN mO C rt (codeZ 49)) [.aload 0, .getfield 600, .iload 1, .invokevirtual 32, .ireturn] L st m := by rw [rn_eq, b_X6_body_102]
theorem r_X6_body_111 : rn sh tb mN mO C rt (codeZ 49) 111 L st m = exI sh tb mN mO C rt (rn sh tb mN mO C rt (codeZ 49)) [.sipush (-1), .ireturn] L st m := by rw [rn_eq, b_X6_body_111]
theorem r_X6_grant_0 : rn sh tb mN mO C rt (codeZ 50) 0 L st m = exI sh tb mN mO C rt (rn sh tb mN mO C rt (codeZ 50)) [.aload 0, .getfield 600, .iload 1, .invokevirtual 26, .ifCond .eq 20, .iload 2, .sipush (0), .sipush (1), .invokestatic 99, .ifCond .ne 22, .sipush (-1), .ireturn] L st m := by rw [rn_eq, b_X6_grant_0]
theorem r_X6_grant_20 : rn sh tb mN mO C rt (codeZ 50) 20 L st m = exI sh tb mN mO C rt (rn sh tb mN mO C rt (codeZ 50)) [.sipush (-1), .ireturn] L st m := by rw [rn_eq, b_X6_grant_20]
theorem r_X6_grant_22 : rn sh tb mN mO C rt (codeZ 50) 22 L st m = exI sh tb mN mO C rt (rn sh tb mN mO C rt (codeZ 50)) [.iload 3, .sipush (0), .iload 2, .ifCond .ne 33, .sipush (99), .goto 35] L st m := by rw [rn_eq, b_X6_grant_22]
theorem r_X6_grant_33 : rn sh tb mN mO C rt (codeZ 50) 33 L st m = exI sh tb mN mO C rt (rn sh tb mN mO C rt (codeZ 50)) [.sipush (9), .invokestatic 99, .ifCond .ne 43, .sipush (-1), .ireturn] L st m := by rw [rn_eq, b_X6_grant_33]
theorem r_X6_grant_35 : rn sh tb mN mO C rt (codeZ 50) 35 L st m = exI sh tb mN mO C rt (rn sh tb mN mO C rt (codeZ 50)) [.invokestatic 99, .ifCond .ne 43, .sipush (-1), .ireturn] L st m := by rw [rn_eq, b_X6_grant_35]
theorem r_X6_grant_43 : rn sh tb mN mO C rt (codeZ 50) 43 L st m = exI sh tb mN mO C rt (rn sh tb mN mO C rt (codeZ 50)) [.iload 2, .ifCond .ne 57, .aload 0, .getfield 600, .getfield 508, .goto 64] L st m := by rw [rn_eq, b_X6_grant_43]
theorem r_X6_grant_57 : rn sh tb mN mO C rt (codeZ 50) 57 L st m = exI sh tb mN mO C rt (rn sh tb mN mO C rt (codeZ 50)) [.aload 0, .getfield 600, .getfield 509, .astore 4, .aload 4, .iload 1, .iaload, .istore 5, .aload 4, .iload 1, .iload 3, .iastore, .iload 5, .ireturn] L st m := by rw [rn_eq, b_X6_grant_57]
theorem r_X6_grant_64 : rn sh tb mN mO C rt (codeZ 50) 64 L st m = exI sh tb mN mO C rt (rn sh tb mN mO C rt (codeZ 50)) [.astore 4, .aload 4, .iload 1, .iaload, .istore 5, .aload 4, .iload 1, .iload 3, .iastore, .iload 5, .ireturn] L st m := by rw [rn_eq, b_X6_grant_64]
theorem r_X6_alter_0 : rn sh tb mN mO C rt (codeZ 51) 0 L st m = exI sh tb mN mO C rt (rn sh tb mN mO C rt (codeZ 51)) [.aload 0, .getfield 600, .iload 1, .invokevirtual 27, .ifCond .eq 29, .iload 2, .sipush (0), .sipush (3), .invokestatic 99, .ifCond .eq 29, .aload 0, .iload 2, .iload 3, .invokevirtual 52, .ifCond .ne 31, .sipush (-1), .ireturn] L st m := by rw [rn_eq, b_X6_alter_0]
theorem r_X6_alter_29 : rn sh tb mN mO C rt (codeZ 51) 29 L st m = exI sh tb mN mO C rt (rn sh tb mN mO C rt (codeZ 51)) [.sipush (-1), .ireturn] L st m := by rw [rn_eq, b_X6_alter_29]
theorem r_X6_alter_31 : rn sh tb mN mO C rt (codeZ 51) 31 L st m = exI sh tb mN mO C rt (rn sh tb mN mO C rt (codeZ 51)) [.aload 0, .getfield 600, .getfield 515, .iload 1, .iaload, .ifCond .eq 46, .sipush (-2), .ireturn] L st m := by rw [rn_eq, b_X6_alter_31]
theorem r_X6_alter_46 : rn sh tb mN mO C rt (codeZ 51) 46 L st m = exI sh tb mN mO C rt (rn sh tb mN mO C rt (codeZ 51)) [.aload 0, .getfield 600, .iload 2, .invokevirtual 30, .astore 4, .aload 4, .iload 1, .iaload, .istore 5, .aload 4, .iload 1, .iload 3, .iastore, .iload 5, .ireturn] L st m := by rw [rn_eq, b_X6_alter_46]
theorem r_X6_mayBecome_0 : rn sh tb mN mO C rt (codeZ 52) 0 L st m = exI sh tb mN mO C rt (rn sh tb mN mO C rt (codeZ 52)) [.iload 1, .lookupswitch 44 #[(0, 28), (1, 35)]] L st m := by rw [rn_eq, b_X6_mayBecome_0]
theorem r_X6_mayBecome_28 : rn sh tb mN mO C rt (codeZ 52) 28 L st m = exI sh tb mN mO C rt (rn sh tb mN mO C rt (codeZ 52)) [.iload 2, .sipush (0), .sipush (3), .invokestatic 99, .ireturn] L st m := by rw [rn_eq, b_X6_mayBecome_28]
theorem r_X6_mayBecome_35 : rn sh tb mN mO C rt (codeZ 52) 35 L st m = exI sh tb mN mO C rt (rn sh tb mN mO C rt (codeZ 52)) [.aload 0, .getfield 600, .iload 2, .invokevirtual 26, .ireturn] L st m := by rw [rn_eq, b_X6_mayBecome_35]
theorem r_X6_mayBecome_44 : rn sh tb mN mO C rt (codeZ 52) 44 L st m = exI sh tb mN mO C rt (rn sh tb mN mO C rt (codeZ 52)) [.iload 2, .sipush (0), .sipush (9), .invokestatic 99, .ireturn] L st m := by rw [rn_eq, b_X6_mayBecome_44]
theorem r_X6_set_0 : rn sh tb mN mO C rt (codeZ 53) 0 L st m = exI sh tb mN mO C rt (rn sh tb mN mO C rt (codeZ 53)) [.iload 1, .sipush (2), .if_icmp .ne 34, .iload 2, .sipush (0), .sipush (20), .invokestatic 99, .ifCond .eq 34, .aload 0, .getfield 600, .getfield 502, .istore 3, .aload 0, .getfield 600, .iload 2, .putfield 502, .goto 104] L st m := by rw [rn_eq, b_X6_set_0]
theorem r_X6_set_34 : rn sh tb mN mO C rt (codeZ 53) 34 L st m = exI sh tb mN mO C rt (rn sh tb mN mO C rt (codeZ 53)) [.iload 1, .sipush (3), .if_icmp .ne 68, .iload 2, .sipush (0), .sipush (60), .invokestatic 99, .ifCond .eq 68, .aload 0, .getfield 600, .getfield 503, .istore 3, .aload 0, .getfield 600, .iload 2, .putfield 503, .goto 104] L st m := by rw [rn_eq, b_X6_set_34]
theorem r_X6_set_68 : rn sh tb mN mO C rt (codeZ 53) 68 L st m = exI sh tb mN mO C rt (rn sh tb mN mO C rt (codeZ 53)) [.iload 1, .sipush (4), .if_icmp .ne 102, .iload 2, .sipush (1), .sipush (9), .invokestatic 99, .ifCond .eq 102, .aload 0, .getfield 600, .getfield 504, .istore 3, .aload 0, .getfield 600, .iload 2, .putfield 504, .goto 104] L st m := by rw [rn_eq, b_X6_set_68]
theorem r_X6_set_102 : rn sh tb mN mO C rt (codeZ 53) 102 L st m = exI sh tb mN mO C rt (rn sh tb mN mO C rt (codeZ 53)) [.sipush (-1), .istore 3, .iload 3, .ireturn] L st m := by rw [rn_eq, b_X6_set_102]
theorem r_X6_set_104 : rn sh tb mN mO C rt (codeZ 53) 104 L st m = exI sh tb mN mO C rt (rn sh tb mN mO C rt (codeZ 53)) [.iload 3, .ireturn] L st m := by rw [rn_eq, b_X6_set_104]
theorem r_X6_find_0 : rn sh tb mN mO C rt (codeZ 54) 0 L st m = exI sh tb mN mO C rt (rn sh tb mN mO C rt (codeZ 54)) [.aload 0, .iload 1, .iload 2, .iload 3, .iload 4, .invokevirtual 55, .ireturn] L st m := by rw [rn_eq, b_X6_find_0]
theorem r_X6_addFound_0 : rn sh tb mN mO C rt (codeZ 55) 0 L st m = exI sh tb mN mO C rt (rn sh tb mN mO C rt (codeZ 55)) [.iload 1, .sipush (0), .sipush (3), .invokestatic 99, .ifCond .eq 20, .aload 0, .getfield 600, .iload 2, .invokevirtual 26, .ifCond .ne 22, .sipush (-1), .ireturn] L st m := by rw [rn_eq, b_X6_addFound_0]
theorem r_X6_addFound_20 : rn sh tb mN mO C rt (codeZ 55) 20 L st m = exI sh tb mN mO C rt (rn sh tb mN mO C rt (codeZ 55)) [.sipush (-1), .ireturn] L st m := by rw [rn_eq, b_X6_addFound_20]
theorem r_X6_addFound_22 : rn sh tb mN mO C rt (codeZ 55) 22 L st m = exI sh tb mN mO C rt (rn sh tb mN mO C rt (codeZ 55)) [.iload 3, .sipush (0), .sipush (9), .invokestatic 99, .ifCond .eq 43, .iload 4, .sipush (0), .sipush (9), .invokestatic 99, .ifCond .ne 45, .sipush (-1), .ireturn] L st m := by rw [rn_eq, b_X6_addFound_22]
theorem r_X6_addFound_43 : rn sh tb mN mO C rt (codeZ 55) 43 L st m = exI sh tb mN mO C rt (rn sh tb mN mO C rt (codeZ 55)) [.sipush (-1), .ireturn] L st m := by rw [rn_eq, b_X6_addFound_43]
theorem r_X6_addFound_45 : rn sh tb mN mO C rt (codeZ 55) 45 L st m = exI sh tb mN mO C rt (rn sh tb mN mO C rt (codeZ 55)) [.aload 0, .getfield 600, .iload 1, .iload 2, .iload 3, .iload 4, .invokevirtual 29, .ifCond .eq 72, .aload 0, .getfield 600, .getfield 501, .sipush (1), .isub, .goto 74] L st m := by rw [rn_eq, b_X6_addFound_45]
theorem r_X6_addFound_72 : rn sh tb mN mO C rt (codeZ 55) 72 L st m = exI sh tb mN mO C rt (rn sh tb mN mO C rt (codeZ 55)) [.sipush (-3), .ireturn] L st m := by rw [rn_eq, b_X6_addFound_72]
theorem r_X6_addFound_74 : rn sh tb mN mO C rt (codeZ 55) 74 L st m = exI sh tb mN mO C rt (rn sh tb mN mO C rt (codeZ 55)) [.ireturn] L st m := by rw [rn_eq, b_X6_addFound_74]
theorem r_X6_hire_0 : rn sh tb mN mO C rt (codeZ 56) 0 L st m = exI sh tb mN mO C rt (rn sh tb mN mO C rt (codeZ 56)) [.aload 0, .getfield 600, .iload 1, .invokevirtual 27, .ifCond .ne 13, .sipush (-1), .ireturn] L st m := by rw [rn_eq, b_X6_hire_0]
theorem r_X6_hire_13 : rn sh tb mN mO C rt (codeZ 56) 13 L st m = exI sh tb mN mO C rt (rn sh tb mN mO C rt (codeZ 56)) [.aload 0, .getfield 600, .getfield 515, .iload 1, .iaload, .ifCond .ne 63, .aload 0, .getfield 600, .iload 1, .invokevirtual 32, .ifCond .eq 63, .aload 0, .getfield 600, .getfield 508, .aload 0, .getfield 600, .getfield 512, .iload 1, .iaload, .iaload, .aload 0, .getfield 600, .getfield 502, .if_icmp .ge 66, .sipush (-2), .ireturn] L st m := by rw [rn_eq, b_X6_hire_13]
theorem r_X6_hire_63 : rn sh tb mN mO C rt (codeZ 56) 63 L st m = exI sh tb mN mO C rt (rn sh tb mN mO C rt (codeZ 56)) [.sipush (-2), .ireturn] L st m := by rw [rn_eq, b_X6_hire_63]
theorem r_X6_hire_66 : rn sh tb mN mO C rt (codeZ 56) 66 L st m = exI sh tb mN mO C rt (rn sh tb mN mO C rt (codeZ 56)) [.aload 0, .getfield 600, .getfield 508, .aload 0, .getfield 600, .getfield 512, .iload 1, .iaload, .dup2, .iaload, .aload 0, .getfield 600, .getfield 502, .isub, .iastore, .aload 0, .getfield 600, .iload 1, .invokevirtual 31, .ifCond .eq 120, .aload 0, .getfield 600, .getfield 513, .iload 1, .dup2, .iaload, .sipush (1), .iadd, .iastore, .goto 133] L st m := by rw [rn_eq, b_X6_hire_66]
theorem r_X6_hire_120 : rn sh tb mN mO C rt (codeZ 56) 120 L st m = exI sh tb mN mO C rt (rn sh tb mN mO C rt (codeZ 56)) [.aload 0, .getfield 600, .getfield 514, .iload 1, .dup2, .iaload, .sipush (1), .iadd, .iastore, .aload 0, .getfield 600, .iload 1, .invokevirtual 32, .ireturn] L st m := by rw [rn_eq, b_X6_hire_120]
theorem r_X6_hire_133 : rn sh tb mN mO C rt (codeZ 56) 133 L st m = exI sh tb mN mO C rt (rn sh tb mN mO C rt (codeZ 56)) [.aload 0, .getfield 600, .iload 1, .invokevirtual 32, .ireturn] L st m := by rw [rn_eq, b_X6_hire_133]
theorem r_X6_nights_0 : rn sh tb mN mO C rt (codeZ 57) 0 L st m = exI sh tb mN mO C rt (rn sh tb mN mO C rt (codeZ 57)) [.iload 1, .sipush (0), .sipush (30), .invokestatic 99, .ifCond .ne 12, .sipush (-1), .ireturn] L st m := by rw [rn_eq, b_X6_nights_0]
theorem r_X6_nights_12 : rn sh tb mN mO C rt (codeZ 57) 12 L st m = exI sh tb mN mO C rt (rn sh tb mN mO C rt (codeZ 57)) [.aload 0, .getfield 600, .getfield 505, .iload 1, .iadd, .sipush (1000), .if_icmp .lt 32, .sipush (-3), .goto 40] L st m := by rw [rn_eq, b_X6_nights_12]
theorem r_X6_nights_32 : rn sh tb mN mO C rt (codeZ 57) 32 L st m = exI sh tb mN mO C rt (rn sh tb mN mO C rt (codeZ 57)) [.aload 0, .getfield 600, .iload 1, .invokevirtual 37, .ireturn] L st m := by rw [rn_eq, b_X6_nights_32]
theorem r_X6_nights_40 : rn sh tb mN mO C rt (codeZ 57) 40 L st m = exI sh tb mN mO C rt (rn sh tb mN mO C rt (codeZ 57)) [.ireturn] L st m := by rw [rn_eq, b_X6_nights_40]
theorem r_X6_runs_0 : rn sh tb mN mO C rt (codeZ 58) 0 L st m = exI sh tb mN mO C rt (rn sh tb mN mO C rt (codeZ 58)) [.iload 1, .sipush (0), .sipush (30), .invokestatic 99, .ifCond .eq 19, .iload 2, .sipush (0), .sipush (4), .invokestatic 99, .ifCond .ne 21, .sipush (-1), .ireturn] L st m := by rw [rn_eq, b_X6_runs_0]
theorem r_X6_runs_19 : rn sh tb mN mO C rt (codeZ 58) 19 L st m = exI sh tb mN mO C rt (rn sh tb mN mO C rt (codeZ 58)) [.sipush (-1), .ireturn] L st m := by rw [rn_eq, b_X6_runs_19]
theorem r_X6_runs_21 : rn sh tb mN mO C rt (codeZ 58) 21 L st m = exI sh tb mN mO C rt (rn sh tb mN mO C rt (codeZ 58)) [.aload 0, .invokevirtual 100, .astore 3, .aload 3, .iload 1, .invokevirtual 37, .istore 4, .iload 2, .tableswitch 84 (0) (3) #[64, 67, 73, 79]] L st m := by rw [rn_eq, b_X6_runs_21]
theorem r_X6_runs_64 : rn sh tb mN mO C rt (codeZ 58) 64 L st m = exI sh tb mN mO C rt (rn sh tb mN mO C rt (codeZ 58)) [.iload 4, .ireturn] L st m := by rw [rn_eq, b_X6_runs_64]
theorem r_X6_runs_67 : rn sh tb mN mO C rt (codeZ 58) 67 L st m = exI sh tb mN mO C rt (rn sh tb mN mO C rt (codeZ 58)) [.aload 3, .sipush (1), .invokevirtual 34, .ireturn] L st m := by rw [rn_eq, b_X6_runs_67]
theorem r_X6_runs_73 : rn sh tb mN mO C rt (codeZ 58) 73 L st m = exI sh tb mN mO C rt (rn sh tb mN mO C rt (codeZ 58)) [.aload 3, .sipush (2), .invokevirtual 34, .ireturn] L st m := by rw [rn_eq, b_X6_runs_73]
theorem r_X6_runs_79 : rn sh tb mN mO C rt (codeZ 58) 79 L st m = exI sh tb mN mO C rt (rn sh tb mN mO C rt (codeZ 58)) [.aload 3, .getfield 507, .ireturn] L st m := by rw [rn_eq, b_X6_runs_79]
theorem r_X6_runs_84 : rn sh tb mN mO C rt (codeZ 58) 84 L st m = exI sh tb mN mO C rt (rn sh tb mN mO C rt (codeZ 58)) [.aload 3, .getfield 506, .ireturn] L st m := by rw [rn_eq, b_X6_runs_84]
theorem r_X6_ahead_0 : rn sh tb mN mO C rt (codeZ 59) 0 L st m = exI sh tb mN mO C rt (rn sh tb mN mO C rt (codeZ 59)) [.aload 0, .getfield 600, .iload 1, .invokevirtual 27, .ifCond .eq 30, .iload 2, .sipush (0), .sipush (30), .invokestatic 99, .ifCond .eq 30, .iload 3, .sipush (0), .sipush (1), .invokestatic 99, .ifCond .ne 32, .sipush (-1), .ireturn] L st m := by rw [rn_eq, b_X6_ahead_0]
theorem r_X6_ahead_30 : rn sh tb mN mO C rt (codeZ 59) 30 L st m = exI sh tb mN mO C rt (rn sh tb mN mO C rt (codeZ 59)) [.sipush (-1), .ireturn] L st m := by rw [rn_eq, b_X6_ahead_30]
theorem r_X6_ahead_32 : rn sh tb mN mO C rt (codeZ 59) 32 L st m = exI sh tb mN mO C rt (rn sh tb mN mO C rt (codeZ 59)) [.aload 0, .invokevirtual 100, .astore 4, .aload 4, .iload 2, .invokevirtual 37, .pop, .iload 3, .ifCond .ne 59, .aload 4, .getfield 512, .iload 1, .iaload, .goto 66] L st m := by rw [rn_eq, b_X6_ahead_32]
theorem r_X6_ahead_59 : rn sh tb mN mO C rt (codeZ 59) 59 L st m = exI sh tb mN mO C rt (rn sh tb mN mO C rt (codeZ 59)) [.aload 4, .getfield 515, .iload 1, .iaload, .ireturn] L st m := by rw [rn_eq, b_X6_ahead_59]
theorem r_X6_ahead_66 : rn sh tb mN mO C rt (codeZ 59) 66 L st m = exI sh tb mN mO C rt (rn sh tb mN mO C rt (codeZ 59)) [.ireturn] L st m := by rw [rn_eq, b_X6_ahead_66]
theorem r_X6_settled_0 : rn sh tb mN mO C rt (codeZ 60) 0 L st m = exI sh tb mN mO C rt (rn sh tb mN mO C rt (codeZ 60)) [.aload 0, .getfield 600, .iload 1, .invokevirtual 27, .ifCond .ne 13, .sipush (-1), .ireturn] L st m := by rw [rn_eq, b_X6_settled_0]
theorem r_X6_settled_13 : rn sh tb mN mO C rt (codeZ 60) 13 L st m = exI sh tb mN mO C rt (rn sh tb mN mO C rt (codeZ 60)) [.aload 0, .invokevirtual 100, .astore 2, .sipush (0), .istore 3, .goto_w 20] L st m := by rw [rn_eq, b_X6_settled_13]
theorem r_X6_settled_20 : rn sh tb mN mO C rt (codeZ 60) 20 L st m = exI sh tb mN mO C rt (rn sh tb mN mO C rt (codeZ 60)) [.iload 3, .sipush (30), .if_icmp .gt 47, .aload 2, .getfield 515, .iload 1, .iaload, .ifCond .eq 37, .iload 3, .ireturn] L st m := by rw [rn_eq, b_X6_settled_20]
theorem r_X6_settled_37 : rn sh tb mN mO C rt (codeZ 60) 37 L st m = exI sh tb mN mO C rt (rn sh tb mN mO C rt (codeZ 60)) [.aload 2, .invokevirtual 38, .iinc 3 (1), .goto 20] L st m := by rw [rn_eq, b_X6_settled_37]
theorem r_X6_settled_47 : rn sh tb mN mO C rt (codeZ 60) 47 L st m = exI sh tb mN mO C rt (rn sh tb mN mO C rt (codeZ 60)) [.sipush (-4), .ireturn] L st m := by rw [rn_eq, b_X6_settled_47]
theorem r_X6_dear_0 : rn sh tb mN mO C rt (codeZ 61) 0 L st m = exI sh tb mN mO C rt (rn sh tb mN mO C rt (codeZ 61)) [.iload 1, .sipush (0), .sipush (20), .invokestatic 99, .ifCond .ne 12, .sipush (-1), .ireturn] L st m := by rw [rn_eq, b_X6_dear_0]
theorem r_X6_dear_12 : rn sh tb mN mO C rt (codeZ 61) 12 L st m = exI sh tb mN mO C rt (rn sh tb mN mO C rt (codeZ 61)) [.aload 0, .sipush (0), .iload 1, .invokevirtual 62, .istore 2, .sipush (20), .istore 3, .goto_w 22] L st m := by rw [rn_eq, b_X6_dear_12]
theorem r_X6_dear_22 : rn sh tb mN mO C rt (codeZ 61) 22 L st m = exI sh tb mN mO C rt (rn sh tb mN mO C rt (codeZ 61)) [.iload 3, .ifCond .le 44, .aload 0, .iload 3, .iload 1, .invokevirtual 62, .iload 2, .if_icmp .ne 38, .iload 3, .ireturn] L st m := by rw [rn_eq, b_X6_dear_22]
theorem r_X6_dear_38 : rn sh tb mN mO C rt (codeZ 61) 38 L st m = exI sh tb mN mO C rt (rn sh tb mN mO C rt (codeZ 61)) [.iinc 3 (-1), .goto 22] L st m := by rw [rn_eq, b_X6_dear_38]
theorem r_X6_dear_44 : rn sh tb mN mO C rt (codeZ 61) 44 L st m = exI sh tb mN mO C rt (rn sh tb mN mO C rt (codeZ 61)) [.sipush (0), .ireturn] L st m := by rw [rn_eq, b_X6_dear_44]
theorem r_X6_provedByPrice_0 : rn sh tb mN mO C rt (codeZ 62) 0 L st m = exI sh tb mN mO C rt (rn sh tb mN mO C rt (codeZ 62)) [.aload 0, .invokevirtual 100, .astore 3, .aload 3, .iload 1, .putfield 502, .aload 3, .iload 2, .invokevirtual 37, .pop, .aload 3, .sipush (1), .invokevirtual 34, .invokestatic 185, .ireturn] L st m := by rw [rn_eq, b_X6_provedByPrice_0]
theorem r_X6_mild_0 : rn sh tb mN mO C rt (codeZ 63) 0 L st m = exI sh tb mN mO C rt (rn sh tb mN mO C rt (codeZ 63)) [.iload 1, .sipush (0), .sipush (20), .invokestatic 99, .ifCond .ne 12, .sipush (-1), .ireturn] L st m := by rw [rn_eq, b_X6_mild_0]
theorem r_X6_mild_12 : rn sh tb mN mO C rt (codeZ 63) 12 L st m = exI sh tb mN mO C rt (rn sh tb mN mO C rt (codeZ 63)) [.sipush (60), .istore 2, .goto_w 15] L st m := by rw [rn_eq, b_X6_mild_12]
theorem r_X6_mild_15 : rn sh tb mN mO C rt (codeZ 63) 15 L st m = exI sh tb mN mO C rt (rn sh tb mN mO C rt (codeZ 63)) [.iload 2, .ifCond .lt 50, .aload 0, .invokevirtual 100, .astore 3, .aload 3, .iload 2, .putfield 503, .aload 3, .iload 1, .invokevirtual 37, .pop, .aload 3, .getfield 506, .ifCond .ne 44, .iload 2, .ireturn] L st m := by rw [rn_eq, b_X6_mild_15]
theorem r_X6_mild_44 : rn sh tb mN mO C rt (codeZ 63) 44 L st m = exI sh tb mN mO C rt (rn sh tb mN mO C rt (codeZ 63)) [.iinc 2 (-1), .goto 15] L st m := by rw [rn_eq, b_X6_mild_44]
theorem r_X6_mild_50 : rn sh tb mN mO C rt (codeZ 63) 50 L st m = exI sh tb mN mO C rt (rn sh tb mN mO C rt (codeZ 63)) [.sipush (-4), .ireturn] L st m := by rw [rn_eq, b_X6_mild_50]
theorem r_X6_watch_0 : rn sh tb mN mO C rt (codeZ 64) 0 L st m = exI sh tb mN mO C rt (rn sh tb mN mO C rt (codeZ 64)) [.iload 1, .sipush (0), .sipush (20), .invokestatic 99, .ifCond .eq 19, .iload 2, .sipush (0), .sipush (1), .invokestatic 99, .ifCond .ne 21, .sipush (-1), .ireturn] L st m := by rw [rn_eq, b_X6_watch_0]
theorem r_X6_watch_19 : rn sh tb mN mO C rt (codeZ 64) 19 L st m = exI sh tb mN mO C rt (rn sh tb mN mO C rt (codeZ 64)) [.sipush (-1), .ireturn] L st m := by rw [rn_eq, b_X6_watch_19]
theorem r_X6_watch_21 : rn sh tb mN mO C rt (codeZ 64) 21 L st m = exI sh tb mN mO C rt (rn sh tb mN mO C rt (codeZ 64)) [.sipush (-4), .istore 3, .sipush (0), .istore 4, .sipush (0), .istore 5, .goto_w 30] L st m := by rw [rn_eq, b_X6_watch_21]
theorem r_X6_watch_30 : rn sh tb mN mO C rt (codeZ 64) 30 L st m = exI sh tb mN mO C rt (rn sh tb mN mO C rt (codeZ 64)) [.iload 5, .aload 0, .getfield 600, .getfield 500, .if_icmp .ge 91, .aload 0, .iload 5, .iload 1, .sipush (9), .invokevirtual 65, .aload 0, .iload 5, .iload 1, .aload 0, .getfield 600, .getfield 509, .iload 5, .iaload, .invokevirtual 65, .isub, .istore 6, .iload 6, .iload 4, .if_icmp .le 85, .iload 5, .istore 3, .iload 6, .istore 4, .iinc 5 (1), .goto 30] L st m := by rw [rn_eq, b_X6_watch_30]
theorem r_X6_watch_85 : rn sh tb mN mO C rt (codeZ 64) 85 L st m = exI sh tb mN mO C rt (rn sh tb mN mO C rt (codeZ 64)) [.iinc 5 (1), .goto 30] L st m := by rw [rn_eq, b_X6_watch_85]
theorem r_X6_watch_91 : rn sh tb mN mO C rt (codeZ 64) 91 L st m = exI sh tb mN mO C rt (rn sh tb mN mO C rt (codeZ 64)) [.iload 2, .ifCond .eq 101, .iload 3, .sipush (-4), .if_icmp .ne 105, .iload 3, .goto 107] L st m := by rw [rn_eq, b_X6_watch_91]
theorem r_X6_watch_101 : rn sh tb mN mO C rt (codeZ 64) 101 L st m = exI sh tb mN mO C rt (rn sh tb mN mO C rt (codeZ 64)) [.iload 3, .goto 107] L st m := by rw [rn_eq, b_X6_watch_101]
theorem r_X6_watch_105 : rn sh tb mN mO C rt (codeZ 64) 105 L st m = exI sh tb mN mO C rt (rn sh tb mN mO C rt (codeZ 64)) [.iload 4, .ireturn] L st m := by rw [rn_eq, b_X6_watch_105]
theorem r_X6_watch_107 : rn sh tb mN mO C rt (codeZ 64) 107 L st m = exI sh tb mN mO C rt (rn sh tb mN mO C rt (codeZ 64)) [.ireturn] L st m := by rw [rn_eq, b_X6_watch_107]
theorem r_X6_meansBehind_0 : rn sh tb mN mO C rt (codeZ 65) 0 L st m = exI sh tb mN mO C rt (rn sh tb mN mO C rt (codeZ 65)) [.aload 0, .invokevirtual 100, .astore 4, .aload 4, .getfield 509, .iload 1, .iload 3, .iastore, .aload 4, .iload 2, .invokevirtual 37, .pop, .aload 4, .getfield 508, .iload 1, .iaload, .ireturn] L st m := by rw [rn_eq, b_X6_meansBehind_0]
theorem r_X6_place_0 : rn sh tb mN mO C rt (codeZ 66) 0 L st m = exI sh tb mN mO C rt (rn sh tb mN mO C rt (codeZ 66)) [.aload 0, .getfield 600, .iload 1, .invokevirtual 27, .ifCond .eq 30, .iload 2, .sipush (0), .sipush (20), .invokestatic 99, .ifCond .eq 30, .iload 3, .sipush (0), .sipush (1), .invokestatic 99, .ifCond .ne 32, .sipush (-1), .ireturn] L st m := by rw [rn_eq, b_X6_place_0]
theorem r_X6_place_30 : rn sh tb mN mO C rt (codeZ 66) 30 L st m = exI sh tb mN mO C rt (rn sh tb mN mO C rt (codeZ 66)) [.sipush (-1), .ireturn] L st m := by rw [rn_eq, b_X6_place_30]
theorem r_X6_place_32 : rn sh tb mN mO C rt (codeZ 66) 32 L st m = exI sh tb mN mO C rt (rn sh tb mN mO C rt (codeZ 66)) [.aload 0, .getfield 600, .getfield 515, .iload 1, .iaload, .ifCond .eq 47, .sipush (-2), .ireturn] L st m := by rw [rn_eq, b_X6_place_32]
theorem r_X6_place_47 : rn sh tb mN mO C rt (codeZ 66) 47 L st m = exI sh tb mN mO C rt (rn sh tb mN mO C rt (codeZ 66)) [.sipush (-4), .istore 4, .sipush (0), .istore 5, .sipush (0), .istore 6, .goto_w 57] L st m := by rw [rn_eq, b_X6_place_47]
theorem r_X6_place_57 : rn sh tb mN mO C rt (codeZ 66) 57 L st m = exI sh tb mN mO C rt (rn sh tb mN mO C rt (codeZ 66)) [.iload 6, .aload 0, .getfield 600, .getfield 500, .if_icmp .ge 120, .aload 0, .invokevirtual 100, .astore 7, .aload 7, .getfield 512, .iload 1, .iload 6, .iastore, .aload 7, .iload 2, .invokevirtual 37, .istore 8, .iload 4, .sipush (-4), .if_icmp .eq 106, .iload 8, .iload 5, .if_icmp .ge 114, .iload 6, .istore 4, .iload 8, .istore 5, .iinc 6 (1), .goto 57] L st m := by rw [rn_eq, b_X6_place_57]
theorem r_X6_place_106 : rn sh tb mN mO C rt (codeZ 66) 106 L st m = exI sh tb mN mO C rt (rn sh tb mN mO C rt (codeZ 66)) [.iload 6, .istore 4, .iload 8, .istore 5, .iinc 6 (1), .goto 57] L st m := by rw [rn_eq, b_X6_place_106]
theorem r_X6_place_114 : rn sh tb mN mO C rt (codeZ 66) 114 L st m = exI sh tb mN mO C rt (rn sh tb mN mO C rt (codeZ 66)) [.iinc 6 (1), .goto 57] L st m := by rw [rn_eq, b_X6_place_114]
theorem r_X6_place_120 : rn sh tb mN mO C rt (codeZ 66) 120 L st m = exI sh tb mN mO C rt (rn sh tb mN mO C rt (codeZ 66)) [.iload 3, .ifCond .ne 129, .iload 4, .goto 131] L st m := by rw [rn_eq, b_X6_place_120]
theorem r_X6_place_129 : rn sh tb mN mO C rt (codeZ 66) 129 L st m = exI sh tb mN mO C rt (rn sh tb mN mO C rt (codeZ 66)) [.iload 5, .ireturn] L st m := by rw [rn_eq, b_X6_place_129]
theorem r_X6_place_131 : rn sh tb mN mO C rt (codeZ 66) 131 L st m = exI sh tb mN mO C rt (rn sh tb mN mO C rt (codeZ 66)) [.ireturn] L st m := by rw [rn_eq, b_X6_place_131]
theorem r_X6_kin_0 : rn sh tb mN mO C rt (codeZ 67) 0 L st m = exI sh tb mN mO C rt (rn sh tb mN mO C rt (codeZ 67)) [.iload 1, .sipush (0), .sipush (20), .invokestatic 99, .ifCond .eq 19, .iload 2, .sipush (0), .sipush (1), .invokestatic 99, .ifCond .ne 21, .sipush (-1), .ireturn] L st m := by rw [rn_eq, b_X6_kin_0]
theorem r_X6_kin_19 : rn sh tb mN mO C rt (codeZ 67) 19 L st m = exI sh tb mN mO C rt (rn sh tb mN mO C rt (codeZ 67)) [.sipush (-1), .ireturn] L st m := by rw [rn_eq, b_X6_kin_19]
theorem r_X6_kin_21 : rn sh tb mN mO C rt (codeZ 67) 21 L st m = exI sh tb mN mO C rt (rn sh tb mN mO C rt (codeZ 67)) [.sipush (-4), .istore 3, .aload 0, .invokevirtual 100, .iload 1, .invokevirtual 37, .istore 4, .sipush (0), .istore 5, .goto_w 37] L st m := by rw [rn_eq, b_X6_kin_21]
theorem r_X6_kin_37 : rn sh tb mN mO C rt (codeZ 67) 37 L st m = exI sh tb mN mO C rt (rn sh tb mN mO C rt (codeZ 67)) [.iload 5, .aload 0, .getfield 600, .getfield 501, .if_icmp .ge 108, .aload 0, .getfield 600, .getfield 515, .iload 5, .iaload, .ifCond .ne 102, .aload 0, .invokevirtual 100, .astore 6, .aload 6, .getfield 513, .iload 5, .dup2, .iaload, .sipush (1), .iadd, .iastore, .aload 6, .iload 1, .invokevirtual 37, .istore 7, .iload 7, .iload 4, .if_icmp .ge 102, .iload 5, .istore 3, .iload 7, .istore 4, .iinc 5 (1), .goto 37] L st m := by rw [rn_eq, b_X6_kin_37]
theorem r_X6_kin_102 : rn sh tb mN mO C rt (codeZ 67) 102 L st m = exI sh tb mN mO C rt (rn sh tb mN mO C rt (codeZ 67)) [.iinc 5 (1), .goto 37] L st m := by rw [rn_eq, b_X6_kin_102]
theorem r_X6_kin_108 : rn sh tb mN mO C rt (codeZ 67) 108 L st m = exI sh tb mN mO C rt (rn sh tb mN mO C rt (codeZ 67)) [.iload 2, .ifCond .eq 118, .iload 3, .sipush (-4), .if_icmp .ne 122, .iload 3, .goto 124] L st m := by rw [rn_eq, b_X6_kin_108]
theorem r_X6_kin_118 : rn sh tb mN mO C rt (codeZ 67) 118 L st m = exI sh tb mN mO C rt (rn sh tb mN mO C rt (codeZ 67)) [.iload 3, .goto 124] L st m := by rw [rn_eq, b_X6_kin_118]
theorem r_X6_kin_122 : rn sh tb mN mO C rt (codeZ 67) 122 L st m = exI sh tb mN mO C rt (rn sh tb mN mO C rt (codeZ 67)) [.iload 4, .ireturn] L st m := by rw [rn_eq, b_X6_kin_122]
theorem r_X6_kin_124 : rn sh tb mN mO C rt (codeZ 67) 124 L st m = exI sh tb mN mO C rt (rn sh tb mN mO C rt (codeZ 67)) [.ireturn] L st m := by rw [rn_eq, b_X6_kin_124]
theorem r_X6_late_0 : rn sh tb mN mO C rt (codeZ 68) 0 L st m = exI sh tb mN mO C rt (rn sh tb mN mO C rt (codeZ 68)) [.iload 1, .sipush (0), .sipush (20), .invokestatic 99, .ifCond .ne 12, .sipush (-1), .ireturn] L st m := by rw [rn_eq, b_X6_late_0]
theorem r_X6_late_12 : rn sh tb mN mO C rt (codeZ 68) 12 L st m = exI sh tb mN mO C rt (rn sh tb mN mO C rt (codeZ 68)) [.sipush (0), .istore 2, .sipush (0), .istore 3, .sipush (1), .istore 4, .goto_w 19] L st m := by rw [rn_eq, b_X6_late_12]
theorem r_X6_late_19 : rn sh tb mN mO C rt (codeZ 68) 19 L st m = exI sh tb mN mO C rt (rn sh tb mN mO C rt (codeZ 68)) [.iload 4, .sipush (9), .if_icmp .gt 69, .aload 0, .invokevirtual 100, .astore 5, .aload 5, .iload 4, .putfield 504, .aload 5, .iload 1, .invokevirtual 37, .istore 6, .iload 2, .ifCond .eq 57, .iload 6, .iload 3, .if_icmp .ge 63, .iload 4, .istore 2, .iload 6, .istore 3, .iinc 4 (1), .goto 19] L st m := by rw [rn_eq, b_X6_late_19]
theorem r_X6_late_57 : rn sh tb mN mO C rt (codeZ 68) 57 L st m = exI sh tb mN mO C rt (rn sh tb mN mO C rt (codeZ 68)) [.iload 4, .istore 2, .iload 6, .istore 3, .iinc 4 (1), .goto 19] L st m := by rw [rn_eq, b_X6_late_57]
theorem r_X6_late_63 : rn sh tb mN mO C rt (codeZ 68) 63 L st m = exI sh tb mN mO C rt (rn sh tb mN mO C rt (codeZ 68)) [.iinc 4 (1), .goto 19] L st m := by rw [rn_eq, b_X6_late_63]
theorem r_X6_late_69 : rn sh tb mN mO C rt (codeZ 68) 69 L st m = exI sh tb mN mO C rt (rn sh tb mN mO C rt (codeZ 68)) [.iload 2, .ireturn] L st m := by rw [rn_eq, b_X6_late_69]
theorem r_X6_order_0 : rn sh tb mN mO C rt (codeZ 69) 0 L st m = exI sh tb mN mO C rt (rn sh tb mN mO C rt (codeZ 69)) [.iload 1, .sipush (0), .sipush (20), .invokestatic 99, .ifCond .eq 20, .iload 2, .ifCond .eq 22, .iload 2, .sipush (10), .if_icmp .ge 22, .sipush (-1), .ireturn] L st m := by rw [rn_eq, b_X6_order_0]
theorem r_X6_order_20 : rn sh tb mN mO C rt (codeZ 69) 20 L st m = exI sh tb mN mO C rt (rn sh tb mN mO C rt (codeZ 69)) [.sipush (-1), .ireturn] L st m := by rw [rn_eq, b_X6_order_20]
theorem r_X6_order_22 : rn sh tb mN mO C rt (codeZ 69) 22 L st m = exI sh tb mN mO C rt (rn sh tb mN mO C rt (codeZ 69)) [.iload 2, .ifCond .eq 43, .iload 2, .sipush (10), .isub, .aload 0, .getfield 600, .getfield 500, .if_icmp .lt 43, .sipush (-4), .ireturn] L st m := by rw [rn_eq, b_X6_order_22]
theorem r_X6_order_43 : rn sh tb mN mO C rt (codeZ 69) 43 L st m = exI sh tb mN mO C rt (rn sh tb mN mO C rt (codeZ 69)) [.aload 0, .iload 1, .invokevirtual 70, .istore 3, .iload 2, .ifCond .ne 57, .iload 3, .goto 66] L st m := by rw [rn_eq, b_X6_order_43]
theorem r_X6_order_57 : rn sh tb mN mO C rt (codeZ 69) 57 L st m = exI sh tb mN mO C rt (rn sh tb mN mO C rt (codeZ 69)) [.aload 0, .getfield 607, .iload 2, .sipush (10), .isub, .iaload, .ireturn] L st m := by rw [rn_eq, b_X6_order_57]
theorem r_X6_order_66 : rn sh tb mN mO C rt (codeZ 69) 66 L st m = exI sh tb mN mO C rt (rn sh tb mN mO C rt (codeZ 69)) [.ireturn] L st m := by rw [rn_eq, b_X6_order_66]
theorem r_X6_findBestTurns_0 : rn sh tb mN mO C rt (codeZ 70) 0 L st m = exI sh tb mN mO C rt (rn sh tb mN mO C rt (codeZ 70)) [.aload 0, .getfield 600, .getfield 510, .sipush (0), .aload 0, .getfield 606, .sipush (0), .sipush (4), .monitorenter, .aload 0, .getfield 600, .getfield 510, .sipush (0), .aload 0, .getfield 607, .sipush (0), .sipush (4), .monitorenter, .aload 0, .iload 1, .invokevirtual 71, .istore 2, .sipush (1), .istore 3, .goto_w 42] L st m := by rw [rn_eq, b_X6_findBestTurns_0]
theorem r_X6_findBestTurns_42 : rn sh tb mN mO C rt (codeZ 70) 42 L st m = exI sh tb mN mO C rt (rn sh tb mN mO C rt (codeZ 70)) [.iload 3, .sipush (24), .if_icmp .ge 101, .aload 0, .getfield 606, .aload 0, .getfield 600, .getfield 500, .invokestatic 72, .ifCond .eq 101, .aload 0, .iload 1, .invokevirtual 71, .istore 4, .iload 4, .iload 2, .if_icmp .ge 95, .iload 4, .istore 2, .aload 0, .getfield 606, .sipush (0), .aload 0, .getfield 607, .sipush (0), .sipush (4), .monitorenter, .iinc 3 (1), .goto 42] L st m := by rw [rn_eq, b_X6_findBestTurns_42]
theorem r_X6_findBestTurns_95 : rn sh tb mN mO C rt (codeZ 70) 95 L st m = exI sh tb mN mO C rt (rn sh tb mN mO C rt (codeZ 70)) [.iinc 3 (1), .goto 42] L st m := by rw [rn_eq, b_X6_findBestTurns_95]
theorem r_X6_findBestTurns_101 : rn sh tb mN mO C rt (codeZ 70) 101 L st m = exI sh tb mN mO C rt (rn sh tb mN mO C rt (codeZ 70)) [.iload 2, .ireturn] L st m := by rw [rn_eq, b_X6_findBestTurns_101]
theorem r_X6_paidByTurns_0 : rn sh tb mN mO C rt (codeZ 71) 0 L st m = exI sh tb mN mO C rt (rn sh tb mN mO C rt (codeZ 71)) [.aload 0, .invokevirtual 100, .astore 2, .aload 0, .getfield 606, .sipush (0), .aload 2, .getfield 510, .sipush (0), .sipush (4), .monitorenter, .aload 2, .iload 1, .invokevirtual 37, .ireturn] L st m := by rw [rn_eq, b_X6_paidByTurns_0]
theorem r_X6_arrangeNext_0 : rn sh tb mN mO C rt (codeZ 72) 0 L st m = exI sh tb mN mO C rt (rn sh tb mN mO C rt (codeZ 72)) [.iload 1, .sipush (2), .isub, .istore 2, .goto_w 4] L st m := by rw [rn_eq, b_X6_arrangeNext_0]
theorem r_X6_arrangeNext_4 : rn sh tb mN mO C rt (codeZ 72) 4 L st m = exI sh tb mN mO C rt (rn sh tb mN mO C rt (codeZ 72)) [.iload 2, .ifCond .lt 25, .aload 0, .iload 2, .iaload, .aload 0, .iload 2, .sipush (1), .iadd, .iaload, .if_icmp .le 25, .iinc 2 (-1), .goto 4] L st m := by rw [rn_eq, b_X6_arrangeNext_4]
theorem r_X6_arrangeNext_25 : rn sh tb mN mO C rt (codeZ 72) 25 L st m = exI sh tb mN mO C rt (rn sh tb mN mO C rt (codeZ 72)) [.iload 2, .ifCond .ge 31, .sipush (0), .ireturn] L st m := by rw [rn_eq, b_X6_arrangeNext_25]
theorem r_X6_arrangeNext_31 : rn sh tb mN mO C rt (codeZ 72) 31 L st m = exI sh tb mN mO C rt (rn sh tb mN mO C rt (codeZ 72)) [.iload 1, .sipush (1), .isub, .istore 3, .goto_w 35] L st m := by rw [rn_eq, b_X6_arrangeNext_31]
theorem r_X6_arrangeNext_35 : rn sh tb mN mO C rt (codeZ 72) 35 L st m = exI sh tb mN mO C rt (rn sh tb mN mO C rt (codeZ 72)) [.iload 3, .iload 2, .if_icmp .le 55, .aload 0, .iload 3, .iaload, .aload 0, .iload 2, .iaload, .if_icmp .ge 55, .iinc 3 (-1), .goto 35] L st m := by rw [rn_eq, b_X6_arrangeNext_35]
theorem r_X6_arrangeNext_55 : rn sh tb mN mO C rt (codeZ 72) 55 L st m = exI sh tb mN mO C rt (rn sh tb mN mO C rt (codeZ 72)) [.aload 0, .iload 2, .iload 3, .invokestatic 73, .iload 2, .sipush (1), .iadd, .istore 4, .iload 1, .sipush (1), .isub, .istore 5, .goto_w 71] L st m := by rw [rn_eq, b_X6_arrangeNext_55]
theorem r_X6_arrangeNext_71 : rn sh tb mN mO C rt (codeZ 72) 71 L st m = exI sh tb mN mO C rt (rn sh tb mN mO C rt (codeZ 72)) [.iload 4, .iload 5, .if_icmp .ge 95, .aload 0, .iload 4, .iload 5, .invokestatic 73, .iinc 4 (1), .iinc 5 (-1), .goto 71] L st m := by rw [rn_eq, b_X6_arrangeNext_71]
theorem r_X6_arrangeNext_95 : rn sh tb mN mO C rt (codeZ 72) 95 L st m = exI sh tb mN mO C rt (rn sh tb mN mO C rt (codeZ 72)) [.sipush (1), .ireturn] L st m := by rw [rn_eq, b_X6_arrangeNext_95]
theorem r_X6_swap_0 : rn sh tb mN mO C rt (codeZ 73) 0 L st m = exI sh tb mN mO C rt (rn sh tb mN mO C rt (codeZ 73)) [.aload 0, .iload 1, .iaload, .istore 3, .aload 0, .iload 1, .aload 0, .iload 2, .iaload, .iastore, .aload 0, .iload 2, .iload 3, .iastore, .return_] L st m := by rw [rn_eq, b_X6_swap_0]
theorem r_X6_mean_0 : rn sh tb mN mO C rt (codeZ 74) 0 L st m = exI sh tb mN mO C rt (rn sh tb mN mO C rt (codeZ 74)) [.iload 1, .sipush (0), .sipush (10), .invokestatic 99, .ifCond .eq 29, .iload 2, .sipush (0), .sipush (20), .invokestatic 99, .ifCond .eq 29, .iload 3, .sipush (0), .sipush (1), .invokestatic 99, .ifCond .ne 33, .jsr (-1), .lreturn] L st m := by rw [rn_eq, b_X6_mean_0]
theorem r_X6_mean_29 : rn sh tb mN mO C rt (codeZ 74) 29 L st m = exI sh tb mN mO C rt (rn sh tb mN mO C rt (codeZ 74)) [.jsr (-1), .lreturn] L st m := by rw [rn_eq, b_X6_mean_29]
theorem r_X6_mean_33 : rn sh tb mN mO C rt (codeZ 74) 33 L st m = exI sh tb mN mO C rt (rn sh tb mN mO C rt (codeZ 74)) [.aload 0, .iload 1, .sipush (-4), .iload 2, .invokevirtual 76, .aload 0, .invokevirtual 78, .iload 3, .invokestatic 80, .lreturn] L st m := by rw [rn_eq, b_X6_mean_33]
theorem r_X6_luck_0 : rn sh tb mN mO C rt (codeZ 75) 0 L st m = exI sh tb mN mO C rt (rn sh tb mN mO C rt (codeZ 75)) [.iload 1, .sipush (0), .sipush (10), .invokestatic 99, .ifCond .eq 21, .aload 0, .getfield 600, .iload 2, .invokevirtual 27, .ifCond .ne 25, .jsr (-1), .lreturn] L st m := by rw [rn_eq, b_X6_luck_0]
theorem r_X6_luck_21 : rn sh tb mN mO C rt (codeZ 75) 21 L st m = exI sh tb mN mO C rt (rn sh tb mN mO C rt (codeZ 75)) [.jsr (-1), .lreturn] L st m := by rw [rn_eq, b_X6_luck_21]
theorem r_X6_luck_25 : rn sh tb mN mO C rt (codeZ 75) 25 L st m = exI sh tb mN mO C rt (rn sh tb mN mO C rt (codeZ 75)) [.iload 3, .sipush (0), .sipush (20), .invokestatic 99, .ifCond .eq 45, .iload 4, .sipush (0), .sipush (1), .invokestatic 99, .ifCond .ne 49, .jsr (-1), .lreturn] L st m := by rw [rn_eq, b_X6_luck_25]
theorem r_X6_luck_45 : rn sh tb mN mO C rt (codeZ 75) 45 L st m = exI sh tb mN mO C rt (rn sh tb mN mO C rt (codeZ 75)) [.jsr (-1), .lreturn] L st m := by rw [rn_eq, b_X6_luck_45]
theorem r_X6_luck_49 : rn sh tb mN mO C rt (codeZ 75) 49 L st m = exI sh tb mN mO C rt (rn sh tb mN mO C rt (codeZ 75)) [.aload 0, .iload 1, .iload 2, .iload 3, .invokevirtual 76, .aload 0, .invokevirtual 78, .iload 4, .invokestatic 80, .lreturn] L st m := by rw [rn_eq, b_X6_luck_49]
theorem r_X6_weighAll_0 : rn sh tb mN mO C rt (codeZ 76) 0 L st m = exI sh tb mN mO C rt (rn sh tb mN mO C rt (codeZ 76)) [.aload 0, .getfield 600, .sipush (0), .invokevirtual 34, .istore 4, .jsr (0), .lstore 5, .sipush (0), .istore 7, .goto_w 16] L st m := by rw [rn_eq, b_X6_weighAll_0]
theorem r_X6_weighAll_16 : rn sh tb mN mO C rt (codeZ 76) 16 L st m = exI sh tb mN mO C rt (rn sh tb mN mO C rt (codeZ 76)) [.iload 7, .sipush (1), .aload 0, .getfield 600, .getfield 501, .ishl, .if_icmp .ge 80, .iload 7, .iload 4, .sipush (-1), .ixor, .iand, .ifCond .ne 74, .iload 7, .iload 4, .iload 1, .invokestatic 77, .lstore 8, .lload 8, .jsr (0), .lcmp, .ifCond .eq 74, .lload 5, .lload 8, .aload 0, .iload 7, .iload 2, .iload 3, .invokevirtual 79, .i2l, .lmul, .ladd, .lstore 5, .iinc 7 (1), .goto 16] L st m := by rw [rn_eq, b_X6_weighAll_16]
theorem r_X6_weighAll_74 : rn sh tb mN mO C rt (codeZ 76) 74 L st m = exI sh tb mN mO C rt (rn sh tb mN mO C rt (codeZ 76)) [.iinc 7 (1), .goto 16] L st m := by rw [rn_eq, b_X6_weighAll_74]
theorem r_X6_weighAll_80 : rn sh tb mN mO C rt (codeZ 76) 80 L st m = exI sh tb mN mO C rt (rn sh tb mN mO C rt (codeZ 76)) [.lload 5, .lreturn] L st m := by rw [rn_eq, b_X6_weighAll_80]
theorem r_X6_weightOf_0 : rn sh tb mN mO C rt (codeZ 77) 0 L st m = exI sh tb mN mO C rt (rn sh tb mN mO C rt (codeZ 77)) [.jsr (1), .lstore 3, .sipush (0), .istore 5, .goto_w 5] L st m := by rw [rn_eq, b_X6_weightOf_0]
theorem r_X6_weightOf_5 : rn sh tb mN mO C rt (codeZ 77) 5 L st m = exI sh tb mN mO C rt (rn sh tb mN mO C rt (codeZ 77)) [.iload 5, .sipush (6), .if_icmp .ge 51, .iload 1, .iload 5, .ishr, .sipush (1), .iand, .sipush (1), .if_icmp .ne 45, .lload 3, .iload 0, .iload 5, .ishr, .sipush (1), .iand, .sipush (1), .if_icmp .ne 38, .iload 2, .i2l, .goto 43] L st m := by rw [rn_eq, b_X6_weightOf_5]
theorem r_X6_weightOf_38 : rn sh tb mN mO C rt (codeZ 77) 38 L st m = exI sh tb mN mO C rt (rn sh tb mN mO C rt (codeZ 77)) [.sipush (10), .iload 2, .isub, .i2l, .lmul, .lstore 3, .iinc 5 (1), .goto 5] L st m := by rw [rn_eq, b_X6_weightOf_38]
theorem r_X6_weightOf_43 : rn sh tb mN mO C rt (codeZ 77) 43 L st m = exI sh tb mN mO C rt (rn sh tb mN mO C rt (codeZ 77)) [.lmul, .lstore 3, .iinc 5 (1), .goto 5] L st m := by rw [rn_eq, b_X6_weightOf_43]
theorem r_X6_weightOf_45 : rn sh tb mN mO C rt (codeZ 77) 45 L st m = exI sh tb mN mO C rt (rn sh tb mN mO C rt (codeZ 77)) [.iinc 5 (1), .goto 5] L st m := by rw [rn_eq, b_X6_weightOf_45]
theorem r_X6_weightOf_51 : rn sh tb mN mO C rt (codeZ 77) 51 L st m = exI sh tb mN mO C rt (rn sh tb mN mO C rt (codeZ 77)) [.lload 3, .lreturn] L st m := by rw [rn_eq, b_X6_weightOf_51]
theorem r_X6_weightOfAll_0 : rn sh tb mN mO C rt (codeZ 78) 0 L st m = exI sh tb mN mO C rt (rn sh tb mN mO C rt (codeZ 78)) [.jsr (1), .lstore 1, .aload 0, .getfield 600, .sipush (0), .invokevirtual 34, .invokestatic 185, .istore 3, .goto_w 14] L st m := by rw [rn_eq, b_X6_weightOfAll_0]
theorem r_X6_weightOfAll_14 : rn sh tb mN mO C rt (codeZ 78) 14 L st m = exI sh tb mN mO C rt (rn sh tb mN mO C rt (codeZ 78)) [.iload 3, .ifCond .le 30, .lload 1, .jsr (10), .lmul, .lstore 1, .iinc 3 (-1), .goto 14] L st m := by rw [rn_eq, b_X6_weightOfAll_14]
theorem r_X6_weightOfAll_30 : rn sh tb mN mO C rt (codeZ 78) 30 L st m = exI sh tb mN mO C rt (rn sh tb mN mO C rt (codeZ 78)) [.lload 1, .lreturn] L st m := by rw [rn_eq, b_X6_weightOfAll_30]
theorem r_X6_outcome_0 : rn sh tb mN mO C rt (codeZ 79) 0 L st m = exI sh tb mN mO C rt (rn sh tb mN mO C rt (codeZ 79)) [.aload 0, .invokevirtual 100, .astore 4, .sipush (0), .istore 5, .goto_w 9] L st m := by rw [rn_eq, b_X6_outcome_0]
theorem r_X6_outcome_9 : rn sh tb mN mO C rt (codeZ 79) 9 L st m = exI sh tb mN mO C rt (rn sh tb mN mO C rt (codeZ 79)) [.iload 5, .aload 4, .getfield 501, .if_icmp .ge 44, .iload 1, .iload 5, .ishr, .sipush (1), .iand, .sipush (1), .if_icmp .ne 38, .aload 4, .getfield 511, .iload 5, .sipush (3), .iastore, .iinc 5 (1), .goto 9] L st m := by rw [rn_eq, b_X6_outcome_9]
theorem r_X6_outcome_38 : rn sh tb mN mO C rt (codeZ 79) 38 L st m = exI sh tb mN mO C rt (rn sh tb mN mO C rt (codeZ 79)) [.iinc 5 (1), .goto 9] L st m := by rw [rn_eq, b_X6_outcome_38]
theorem r_X6_outcome_44 : rn sh tb mN mO C rt (codeZ 79) 44 L st m = exI sh tb mN mO C rt (rn sh tb mN mO C rt (codeZ 79)) [.aload 4, .iload 3, .invokevirtual 37, .istore 5, .iload 2, .sipush (-4), .if_icmp .ne 61, .iload 5, .ireturn] L st m := by rw [rn_eq, b_X6_outcome_44]
theorem r_X6_outcome_61 : rn sh tb mN mO C rt (codeZ 79) 61 L st m = exI sh tb mN mO C rt (rn sh tb mN mO C rt (codeZ 79)) [.aload 4, .getfield 515, .iload 2, .iaload, .sipush (2), .if_icmp .ne 76, .sipush (1), .goto 77] L st m := by rw [rn_eq, b_X6_outcome_61]
theorem r_X6_outcome_76 : rn sh tb mN mO C rt (codeZ 79) 76 L st m = exI sh tb mN mO C rt (rn sh tb mN mO C rt (codeZ 79)) [.sipush (0), .ireturn] L st m := by rw [rn_eq, b_X6_outcome_76]
theorem r_X6_outcome_77 : rn sh tb mN mO C rt (codeZ 79) 77 L st m = exI sh tb mN mO C rt (rn sh tb mN mO C rt (codeZ 79)) [.ireturn] L st m := by rw [rn_eq, b_X6_outcome_77]
theorem r_X6_partOfFraction_0 : rn sh tb mN mO C rt (codeZ 80) 0 L st m = exI sh tb mN mO C rt (rn sh tb mN mO C rt (codeZ 80)) [.lload 0, .lload 2, .invokestatic 81, .lstore 5, .lload 5, .jsr (0), .lcmp, .ifCond .ne 16, .jsr (0), .lreturn] L st m := by rw [rn_eq, b_X6_partOfFraction_0]
theorem r_X6_partOfFraction_16 : rn sh tb mN mO C rt (codeZ 80) 16 L st m = exI sh tb mN mO C rt (rn sh tb mN mO C rt (codeZ 80)) [.iload 4, .ifCond .ne 28, .lload 0, .lload 5, .ldiv, .goto 32] L st m := by rw [rn_eq, b_X6_partOfFraction_16]
theorem r_X6_partOfFraction_28 : rn sh tb mN mO C rt (codeZ 80) 28 L st m = exI sh tb mN mO C rt (rn sh tb mN mO C rt (codeZ 80)) [.lload 2, .lload 5, .ldiv, .lreturn] L st m := by rw [rn_eq, b_X6_partOfFraction_28]
theorem r_X6_partOfFraction_32 : rn sh tb mN mO C rt (codeZ 80) 32 L st m = exI sh tb mN mO C rt (rn sh tb mN mO C rt (codeZ 80)) [.lreturn] L st m := by rw [rn_eq, b_X6_partOfFraction_32]
theorem r_X6_greatestDivisor_0 : rn sh tb mN mO C rt (codeZ 81) 0 L st m = exI sh tb mN mO C rt (rn sh tb mN mO C rt (codeZ 81)) [.sipush (0), .istore 4, .goto_w 3] L st m := by rw [rn_eq, b_X6_greatestDivisor_0]
theorem r_X6_greatestDivisor_3 : rn sh tb mN mO C rt (codeZ 81) 3 L st m = exI sh tb mN mO C rt (rn sh tb mN mO C rt (codeZ 81)) [.iload 4, .sipush (1000), .if_icmp .ge 33, .lload 2, .jsr (0), .lcmp, .ifCond .eq 33, .lload 0, .lload 2, .lrem, .lstore 5, .lload 2, .lstore 0, .lload 5, .lstore 2, .iinc 4 (1), .goto 3] L st m := by rw [rn_eq, b_X6_greatestDivisor_3]
theorem r_X6_greatestDivisor_33 : rn sh tb mN mO C rt (codeZ 81) 33 L st m = exI sh tb mN mO C rt (rn sh tb mN mO C rt (codeZ 81)) [.lload 0, .lreturn] L st m := by rw [rn_eq, b_X6_greatestDivisor_33]
theorem r_X6_see_0 : rn sh tb mN mO C rt (codeZ 82) 0 L st m = exI sh tb mN mO C rt (rn sh tb mN mO C rt (codeZ 82)) [.aload 0, .getfield 600, .iload 1, .invokevirtual 27, .ifCond .eq 32, .iload 2, .sipush (0), .sipush (9), .invokestatic 99, .ifCond .eq 32, .aload 0, .getfield 600, .iload 3, .invokevirtual 26, .ifCond .ne 34, .sipush (-1), .ireturn] L st m := by rw [rn_eq, b_X6_see_0]
theorem r_X6_see_32 : rn sh tb mN mO C rt (codeZ 82) 32 L st m = exI sh tb mN mO C rt (rn sh tb mN mO C rt (codeZ 82)) [.sipush (-1), .ireturn] L st m := by rw [rn_eq, b_X6_see_32]
theorem r_X6_see_34 : rn sh tb mN mO C rt (codeZ 82) 34 L st m = exI sh tb mN mO C rt (rn sh tb mN mO C rt (codeZ 82)) [.aload 0, .getfield 602, .iload 1, .iload 2, .iload 3, .invokevirtual 4, .ifCond .eq 57, .aload 0, .getfield 602, .getfield 200, .goto 59] L st m := by rw [rn_eq, b_X6_see_34]
theorem r_X6_see_57 : rn sh tb mN mO C rt (codeZ 82) 57 L st m = exI sh tb mN mO C rt (rn sh tb mN mO C rt (codeZ 82)) [.sipush (-3), .ireturn] L st m := by rw [rn_eq, b_X6_see_57]
theorem r_X6_see_59 : rn sh tb mN mO C rt (codeZ 82) 59 L st m = exI sh tb mN mO C rt (rn sh tb mN mO C rt (codeZ 82)) [.ireturn] L st m := by rw [rn_eq, b_X6_see_59]
theorem r_X6_forget_0 : rn sh tb mN mO C rt (codeZ 83) 0 L st m = exI sh tb mN mO C rt (rn sh tb mN mO C rt (codeZ 83)) [.aload 0, .getfield 602, .getfield 200, .istore 2, .iload 1, .sipush (0), .iload 2, .invokestatic 99, .ifCond .ne 19, .sipush (-1), .ireturn] L st m := by rw [rn_eq, b_X6_forget_0]
theorem r_X6_forget_19 : rn sh tb mN mO C rt (codeZ 83) 19 L st m = exI sh tb mN mO C rt (rn sh tb mN mO C rt (codeZ 83)) [.aload 0, .getfield 602, .iload 1, .putfield 200, .iload 2, .ireturn] L st m := by rw [rn_eq, b_X6_forget_19]
theorem r_X6_kinds_0 : rn sh tb mN mO C rt (codeZ 84) 0 L st m = exI sh tb mN mO C rt (rn sh tb mN mO C rt (codeZ 84)) [.aload 0, .getfield 600, .iload 1, .invokevirtual 27, .ifCond .eq 21, .aload 0, .iload 1, .sipush (0), .sipush (3), .invokevirtual 86, .goto 22] L st m := by rw [rn_eq, b_X6_kinds_0]
theorem r_X6_kinds_21 : rn sh tb mN mO C rt (codeZ 84) 21 L st m = exI sh tb mN mO C rt (rn sh tb mN mO C rt (codeZ 84)) [.sipush (-1), .ireturn] L st m := by rw [rn_eq, b_X6_kinds_21]
theorem r_X6_kinds_22 : rn sh tb mN mO C rt (codeZ 84) 22 L st m = exI sh tb mN mO C rt (rn sh tb mN mO C rt (codeZ 84)) [.ireturn] L st m := by rw [rn_eq, b_X6_kinds_22]
theorem r_X6_fathers_0 : rn sh tb mN mO C rt (codeZ 85) 0 L st m = exI sh tb mN mO C rt (rn sh tb mN mO C rt (codeZ 85)) [.aload 0, .getfield 600, .iload 1, .invokevirtual 27, .ifCond .eq 22, .aload 0, .iload 1, .sipush (2), .sipush (9), .invokevirtual 86, .goto 23] L st m := by rw [rn_eq, b_X6_fathers_0]
theorem r_X6_fathers_22 : rn sh tb mN mO C rt (codeZ 85) 22 L st m = exI sh tb mN mO C rt (rn sh tb mN mO C rt (codeZ 85)) [.sipush (-1), .ireturn] L st m := by rw [rn_eq, b_X6_fathers_22]
theorem r_X6_fathers_23 : rn sh tb mN mO C rt (codeZ 85) 23 L st m = exI sh tb mN mO C rt (rn sh tb mN mO C rt (codeZ 85)) [.ireturn] L st m := by rw [rn_eq, b_X6_fathers_23]
theorem r_X6_asSeenBy_0 : rn sh tb mN mO C rt (codeZ 86) 0 L st m = exI sh tb mN mO C rt (rn sh tb mN mO C rt (codeZ 86)) [.sipush (0), .istore 4, .sipush (0), .istore 5, .goto_w 6] L st m := by rw [rn_eq, b_X6_asSeenBy_0]
theorem r_X6_asSeenBy_6 : rn sh tb mN mO C rt (codeZ 86) 6 L st m = exI sh tb mN mO C rt (rn sh tb mN mO C rt (codeZ 86)) [.iload 5, .iload 3, .if_icmp .gt 52, .aload 0, .invokevirtual 100, .astore 6, .aload 6, .iload 2, .invokevirtual 30, .iload 1, .iload 5, .iastore, .aload 0, .aload 6, .invokevirtual 87, .ifCond .eq 46, .iload 4, .sipush (1), .iload 5, .ishl, .ior, .istore 4, .iinc 5 (1), .goto 6] L st m := by rw [rn_eq, b_X6_asSeenBy_6]
theorem r_X6_asSeenBy_46 : rn sh tb mN mO C rt (codeZ 86) 46 L st m = exI sh tb mN mO C rt (rn sh tb mN mO C rt (codeZ 86)) [.iinc 5 (1), .goto 6] L st m := by rw [rn_eq, b_X6_asSeenBy_46]
theorem r_X6_asSeenBy_52 : rn sh tb mN mO C rt (codeZ 86) 52 L st m = exI sh tb mN mO C rt (rn sh tb mN mO C rt (codeZ 86)) [.iload 4, .ireturn] L st m := by rw [rn_eq, b_X6_asSeenBy_52]
theorem r_X6_isAsSeen_0 : rn sh tb mN mO C rt (codeZ 87) 0 L st m = exI sh tb mN mO C rt (rn sh tb mN mO C rt (codeZ 87)) [.sipush (0), .istore 2, .goto_w 2] L st m := by rw [rn_eq, b_X6_isAsSeen_0]
theorem r_X6_isAsSeen_2 : rn sh tb mN mO C rt (codeZ 87) 2 L st m = exI sh tb mN mO C rt (rn sh tb mN mO C rt (codeZ 87)) [.iload 2, .sipush (9), .if_icmp .gt 32, .aload 0, .getfield 602, .aload 1, .iload 2, .invokevirtual 5, .ifCond .ne 22, .sipush (0), .ireturn] L st m := by rw [rn_eq, b_X6_isAsSeen_2]
theorem r_X6_isAsSeen_22 : rn sh tb mN mO C rt (codeZ 87) 22 L st m = exI sh tb mN mO C rt (rn sh tb mN mO C rt (codeZ 87)) [.aload 1, .invokevirtual 38, .iinc 2 (1), .goto 2] L st m := by rw [rn_eq, b_X6_isAsSeen_22]
theorem r_X6_isAsSeen_32 : rn sh tb mN mO C rt (codeZ 87) 32 L st m = exI sh tb mN mO C rt (rn sh tb mN mO C rt (codeZ 87)) [.sipush (1), .ireturn] L st m := by rw [rn_eq, b_X6_isAsSeen_32]
theorem r_X6_look_0 : rn sh tb mN mO C rt (codeZ 88) 0 L st m = exI sh tb mN mO C rt (rn sh tb mN mO C rt (codeZ 88)) [.aload 0, .getfield 600, .iload 1, .invokevirtual 27, .ifCond .eq 20, .iload 2, .sipush (0), .sipush (1), .invokestatic 99, .ifCond .ne 22, .sipush (-1), .ireturn] L st m := by rw [rn_eq, b_X6_look_0]
theorem r_X6_look_20 : rn sh tb mN mO C rt (codeZ 88) 20 L st m = exI sh tb mN mO C rt (rn sh tb mN mO C rt (codeZ 88)) [.sipush (-1), .ireturn] L st m := by rw [rn_eq, b_X6_look_20]
theorem r_X6_look_22 : rn sh tb mN mO C rt (codeZ 88) 22 L st m = exI sh tb mN mO C rt (rn sh tb mN mO C rt (codeZ 88)) [.aload 0, .iload 1, .sipush (0), .sipush (3), .invokevirtual 86, .istore 3, .aload 0, .iload 1, .invokevirtual 89, .sipush (-4), .istore 4, .iload 3, .invokestatic 185, .istore 5, .sipush (0), .istore 6, .goto_w 48] L st m := by rw [rn_eq, b_X6_look_22]
theorem r_X6_look_48 : rn sh tb mN mO C rt (codeZ 88) 48 L st m = exI sh tb mN mO C rt (rn sh tb mN mO C rt (codeZ 88)) [.iload 6, .sipush (9), .if_icmp .gt 85, .aload 0, .iload 3, .iload 6, .invokevirtual 90, .istore 7, .iload 7, .iload 5, .if_icmp .ge 79, .iload 6, .istore 4, .iload 7, .istore 5, .iinc 6 (1), .goto 48] L st m := by rw [rn_eq, b_X6_look_48]
theorem r_X6_look_79 : rn sh tb mN mO C rt (codeZ 88) 79 L st m = exI sh tb mN mO C rt (rn sh tb mN mO C rt (codeZ 88)) [.iinc 6 (1), .goto 48] L st m := by rw [rn_eq, b_X6_look_79]
theorem r_X6_look_85 : rn sh tb mN mO C rt (codeZ 88) 85 L st m = exI sh tb mN mO C rt (rn sh tb mN mO C rt (codeZ 88)) [.iload 2, .ifCond .eq 96, .iload 4, .sipush (-4), .if_icmp .ne 101, .iload 4, .goto 103] L st m := by rw [rn_eq, b_X6_look_85]
theorem r_X6_look_96 : rn sh tb mN mO C rt (codeZ 88) 96 L st m = exI sh tb mN mO C rt (rn sh tb mN mO C rt (codeZ 88)) [.iload 4, .goto 103] L st m := by rw [rn_eq, b_X6_look_96]
theorem r_X6_look_101 : rn sh tb mN mO C rt (codeZ 88) 101 L st m = exI sh tb mN mO C rt (rn sh tb mN mO C rt (codeZ 88)) [.iload 5, .ireturn] L st m := by rw [rn_eq, b_X6_look_101]
theorem r_X6_look_103 : rn sh tb mN mO C rt (codeZ 88) 103 L st m = exI sh tb mN mO C rt (rn sh tb mN mO C rt (codeZ 88)) [.ireturn] L st m := by rw [rn_eq, b_X6_look_103]
theorem r_X6_noteSpots_0 : rn sh tb mN mO C rt (codeZ 89) 0 L st m = exI sh tb mN mO C rt (rn sh tb mN mO C rt (codeZ 89)) [.sipush (0), .istore 2, .goto_w 2] L st m := by rw [rn_eq, b_X6_noteSpots_0]
theorem r_X6_noteSpots_2 : rn sh tb mN mO C rt (codeZ 89) 2 L st m = exI sh tb mN mO C rt (rn sh tb mN mO C rt (codeZ 89)) [.iload 2, .sipush (4), .if_icmp .ge 63, .aload 0, .invokevirtual 100, .astore 3, .aload 3, .getfield 511, .iload 1, .iload 2, .iastore, .sipush (0), .istore 4, .goto_w 22] L st m := by rw [rn_eq, b_X6_noteSpots_2]
theorem r_X6_noteSpots_22 : rn sh tb mN mO C rt (codeZ 89) 22 L st m = exI sh tb mN mO C rt (rn sh tb mN mO C rt (codeZ 89)) [.iload 4, .sipush (9), .if_icmp .gt 57, .aload 0, .getfield 608, .iload 2, .sipush (10), .imul, .iload 4, .iadd, .aload 3, .getfield 512, .iload 1, .iaload, .iastore, .aload 3, .invokevirtual 38, .iinc 4 (1), .goto 22] L st m := by rw [rn_eq, b_X6_noteSpots_22]
theorem r_X6_noteSpots_57 : rn sh tb mN mO C rt (codeZ 89) 57 L st m = exI sh tb mN mO C rt (rn sh tb mN mO C rt (codeZ 89)) [.iinc 2 (1), .goto 2] L st m := by rw [rn_eq, b_X6_noteSpots_57]
theorem r_X6_noteSpots_63 : rn sh tb mN mO C rt (codeZ 89) 63 L st m = exI sh tb mN mO C rt (rn sh tb mN mO C rt (codeZ 89)) [.return_] L st m := by rw [rn_eq, b_X6_noteSpots_63]
theorem r_X6_leftAtWorst_0 : rn sh tb mN mO C rt (codeZ 90) 0 L st m = exI sh tb mN mO C rt (rn sh tb mN mO C rt (codeZ 90)) [.sipush (0), .istore 3, .sipush (0), .istore 4, .goto_w 5] L st m := by rw [rn_eq, b_X6_leftAtWorst_0]
theorem r_X6_leftAtWorst_5 : rn sh tb mN mO C rt (codeZ 90) 5 L st m = exI sh tb mN mO C rt (rn sh tb mN mO C rt (codeZ 90)) [.iload 4, .aload 0, .getfield 600, .getfield 500, .if_icmp .ge 84, .sipush (0), .istore 5, .sipush (0), .istore 6, .goto_w 23] L st m := by rw [rn_eq, b_X6_leftAtWorst_5]
theorem r_X6_leftAtWorst_23 : rn sh tb mN mO C rt (codeZ 90) 23 L st m = exI sh tb mN mO C rt (rn sh tb mN mO C rt (codeZ 90)) [.iload 6, .sipush (4), .if_icmp .ge 65, .iload 1, .iload 6, .ishr, .sipush (1), .iand, .sipush (1), .if_icmp .ne 59, .aload 0, .getfield 608, .iload 6, .sipush (10), .imul, .iload 2, .iadd, .iaload, .iload 4, .if_icmp .ne 59, .iinc 5 (1), .iinc 6 (1), .goto 23] L st m := by rw [rn_eq, b_X6_leftAtWorst_23]
theorem r_X6_leftAtWorst_59 : rn sh tb mN mO C rt (codeZ 90) 59 L st m = exI sh tb mN mO C rt (rn sh tb mN mO C rt (codeZ 90)) [.iinc 6 (1), .goto 23] L st m := by rw [rn_eq, b_X6_leftAtWorst_59]
theorem r_X6_leftAtWorst_65 : rn sh tb mN mO C rt (codeZ 90) 65 L st m = exI sh tb mN mO C rt (rn sh tb mN mO C rt (codeZ 90)) [.iload 5, .iload 3, .if_icmp .le 76, .iload 5, .goto 77] L st m := by rw [rn_eq, b_X6_leftAtWorst_65]
theorem r_X6_leftAtWorst_76 : rn sh tb mN mO C rt (codeZ 90) 76 L st m = exI sh tb mN mO C rt (rn sh tb mN mO C rt (codeZ 90)) [.iload 3, .istore 3, .iinc 4 (1), .goto 5] L st m := by rw [rn_eq, b_X6_leftAtWorst_76]
theorem r_X6_leftAtWorst_77 : rn sh tb mN mO C rt (codeZ 90) 77 L st m = exI sh tb mN mO C rt (rn sh tb mN mO C rt (codeZ 90)) [.istore 3, .iinc 4 (1), .goto 5] L st m := by rw [rn_eq, b_X6_leftAtWorst_77]
theorem r_X6_leftAtWorst_84 : rn sh tb mN mO C rt (codeZ 90) 84 L st m = exI sh tb mN mO C rt (rn sh tb mN mO C rt (codeZ 90)) [.iload 3, .ireturn] L st m := by rw [rn_eq, b_X6_leftAtWorst_84]
theorem r_X6_drift_0 : rn sh tb mN mO C rt (codeZ 91) 0 L st m = exI sh tb mN mO C rt (rn sh tb mN mO C rt (codeZ 91)) [.iload 2, .sipush (1), .sipush (60), .invokestatic 99, .ifCond .eq 19, .iload 3, .sipush (0), .sipush (1), .invokestatic 99, .ifCond .ne 21, .sipush (-1), .ireturn] L st m := by rw [rn_eq, b_X6_drift_0]
theorem r_X6_drift_19 : rn sh tb mN mO C rt (codeZ 91) 19 L st m = exI sh tb mN mO C rt (rn sh tb mN mO C rt (codeZ 91)) [.sipush (-1), .ireturn] L st m := by rw [rn_eq, b_X6_drift_19]
theorem r_X6_drift_21 : rn sh tb mN mO C rt (codeZ 91) 21 L st m = exI sh tb mN mO C rt (rn sh tb mN mO C rt (codeZ 91)) [.aload 0, .getfield 600, .getfield 500, .ifCond .ne 34, .sipush (-2), .ireturn] L st m := by rw [rn_eq, b_X6_drift_21]
theorem r_X6_drift_34 : rn sh tb mN mO C rt (codeZ 91) 34 L st m = exI sh tb mN mO C rt (rn sh tb mN mO C rt (codeZ 91)) [.aload 0, .invokevirtual 100, .astore 4, .sipush (0), .istore 5, .iload 1, .istore 6, .sipush (0), .istore 7, .goto_w 49] L st m := by rw [rn_eq, b_X6_drift_34]
theorem r_X6_drift_49 : rn sh tb mN mO C rt (codeZ 91) 49 L st m = exI sh tb mN mO C rt (rn sh tb mN mO C rt (codeZ 91)) [.iload 7, .iload 2, .if_icmp .ge 117, .iload 6, .sipush (1103515245), .imul, .sipush (12345), .iadd, .istore 6, .iload 6, .sipush (16), .ishr, .sipush (32767), .iand, .istore 8, .aload 4, .getfield 509, .iload 8, .aload 4, .getfield 500, .irem, .iload 8, .sipush (8), .idiv, .sipush (10), .irem, .iastore, .iload 5, .aload 4, .sipush (1), .invokevirtual 37, .iadd, .istore 5, .iinc 7 (1), .goto 49] L st m := by rw [rn_eq, b_X6_drift_49]
theorem r_X6_drift_117 : rn sh tb mN mO C rt (codeZ 91) 117 L st m = exI sh tb mN mO C rt (rn sh tb mN mO C rt (codeZ 91)) [.iload 3, .ifCond .ne 126, .iload 5, .goto 132] L st m := by rw [rn_eq, b_X6_drift_117]
theorem r_X6_drift_126 : rn sh tb mN mO C rt (codeZ 91) 126 L st m = exI sh tb mN mO C rt (rn sh tb mN mO C rt (codeZ 91)) [.aload 4, .sipush (2), .invokevirtual 34, .ireturn] L st m := by rw [rn_eq, b_X6_drift_126]
theorem r_X6_drift_132 : rn sh tb mN mO C rt (codeZ 91) 132 L st m = exI sh tb mN mO C rt (rn sh tb mN mO C rt (codeZ 91)) [.ireturn] L st m := by rw [rn_eq, b_X6_drift_132]
theorem r_X6_keep_0 : rn sh tb mN mO C rt (codeZ 92) 0 L st m = exI sh tb mN mO C rt (rn sh tb mN mO C rt (codeZ 92)) [.iload 1, .sipush (0), .sipush (1), .invokestatic 99, .ifCond .ne 11, .sipush (-1), .ireturn] L st m := by rw [rn_eq, b_X6_keep_0]
theorem r_X6_keep_11 : rn sh tb mN mO C rt (codeZ 92) 11 L st m = exI sh tb mN mO C rt (rn sh tb mN mO C rt (codeZ 92)) [.aload 0, .getfield 604, .iload 1, .aaload, .astore 2, .aload 2, .getfield 0, .ifCond .eq 29, .sipush (1), .goto 30] L st m := by rw [rn_eq, b_X6_keep_11]
theorem r_X6_keep_29 : rn sh tb mN mO C rt (codeZ 92) 29 L st m = exI sh tb mN mO C rt (rn sh tb mN mO C rt (codeZ 92)) [.sipush (0), .istore 3, .aload 2, .sipush (1), .putfield 0, .aload 2, .getfield 1, .aload 0, .getfield 600, .invokevirtual 25, .aload 2, .getfield 2, .aload 0, .getfield 602, .invokevirtual 6, .iload 3, .ireturn] L st m := by rw [rn_eq, b_X6_keep_29]
theorem r_X6_keep_30 : rn sh tb mN mO C rt (codeZ 92) 30 L st m = exI sh tb mN mO C rt (rn sh tb mN mO C rt (codeZ 92)) [.istore 3, .aload 2, .sipush (1), .putfield 0, .aload 2, .getfield 1, .aload 0, .getfield 600, .invokevirtual 25, .aload 2, .getfield 2, .aload 0, .getfield 602, .invokevirtual 6, .iload 3, .ireturn] L st m := by rw [rn_eq, b_X6_keep_30]
theorem r_X6_back_0 : rn sh tb mN mO C rt (codeZ 93) 0 L st m = exI sh tb mN mO C rt (rn sh tb mN mO C rt (codeZ 93)) [.iload 1, .sipush (0), .sipush (1), .invokestatic 99, .ifCond .ne 11, .sipush (-1), .ireturn] L st m := by rw [rn_eq, b_X6_back_0]
theorem r_X6_back_11 : rn sh tb mN mO C rt (codeZ 93) 11 L st m = exI sh tb mN mO C rt (rn sh tb mN mO C rt (codeZ 93)) [.aload 0, .getfield 604, .iload 1, .aaload, .astore 2, .aload 2, .getfield 0, .ifCond .ne 28, .sipush (-2), .ireturn] L st m := by rw [rn_eq, b_X6_back_11]
theorem r_X6_back_28 : rn sh tb mN mO C rt (codeZ 93) 28 L st m = exI sh tb mN mO C rt (rn sh tb mN mO C rt (codeZ 93)) [.aload 0, .getfield 600, .aload 2, .getfield 1, .invokevirtual 25, .aload 0, .getfield 602, .aload 2, .getfield 2, .invokevirtual 6, .aload 0, .getfield 600, .getfield 505, .ireturn] L st m := by rw [rn_eq, b_X6_back_28]
theorem r_X6_sheet_0 : rn sh tb mN mO C rt (codeZ 94) 0 L st m = exI sh tb mN mO C rt (rn sh tb mN mO C rt (codeZ 94)) [.iload 1, .sipush (0), .sipush (3), .invokestatic 99, .ifCond .eq 24, .iload 2, .sipush (0), .sipush (2), .invokestatic 99, .ifCond .eq 24, .iload 3, .sipush (40), .if_icmp .le 26, .sipush (-1), .ireturn] L st m := by rw [rn_eq, b_X6_sheet_0]
theorem r_X6_sheet_24 : rn sh tb mN mO C rt (codeZ 94) 24 L st m = exI sh tb mN mO C rt (rn sh tb mN mO C rt (codeZ 94)) [.sipush (-1), .ireturn] L st m := by rw [rn_eq, b_X6_sheet_24]
theorem r_X6_sheet_26 : rn sh tb mN mO C rt (codeZ 94) 26 L st m = exI sh tb mN mO C rt (rn sh tb mN mO C rt (codeZ 94)) [.iload 3, .ifCond .ge 33, .sipush (-14), .ireturn] L st m := by rw [rn_eq, b_X6_sheet_26]
theorem r_X6_sheet_33 : rn sh tb mN mO C rt (codeZ 94) 33 L st m = exI sh tb mN mO C rt (rn sh tb mN mO C rt (codeZ 94)) [.aload 0, .getfield 605, .iload 1, .aaload, .iload 2, .iload 3, .invokevirtual 0, .sipush (1), .ireturn] L st m := by rw [rn_eq, b_X6_sheet_33]
theorem r_X6_lay_0 : rn sh tb mN mO C rt (codeZ 95) 0 L st m = exI sh tb mN mO C rt (rn sh tb mN mO C rt (codeZ 95)) [.iload 1, .sipush (0), .sipush (3), .invokestatic 99, .ifCond .ne 11, .sipush (-1), .ireturn] L st m := by rw [rn_eq, b_X6_lay_0]
theorem r_X6_lay_11 : rn sh tb mN mO C rt (codeZ 95) 11 L st m = exI sh tb mN mO C rt (rn sh tb mN mO C rt (codeZ 95)) [.aload 0, .getfield 605, .iload 1, .aaload, .iload 2, .i2l, .invokevirtual 1, .istore 4, .iload 4, .ifCond .eq 35, .sipush (-10), .iload 4, .isub, .ireturn] L st m := by rw [rn_eq, b_X6_lay_11]
theorem r_X6_lay_35 : rn sh tb mN mO C rt (codeZ 95) 35 L st m = exI sh tb mN mO C rt (rn sh tb mN mO C rt (codeZ 95)) [.aload 0, .getfield 605, .iload 1, .aaload, .iload 2, .iload 3, .invokevirtual 3, .sipush (1), .ireturn] L st m := by rw [rn_eq, b_X6_lay_35]
theorem r_X6_read_0 : rn sh tb mN mO C rt (codeZ 96) 0 L st m = exI sh tb mN mO C rt (rn sh tb mN mO C rt (codeZ 96)) [.iload 1, .sipush (0), .sipush (3), .invokestatic 99, .ifCond .eq 29, .iload 2, .sipush (0), .sipush (2), .invokestatic 99, .ifCond .eq 29, .iload 4, .sipush (0), .sipush (20), .invokestatic 99, .ifCond .ne 31, .sipush (-1), .ireturn] L st m := by rw [rn_eq, b_X6_read_0]
theorem r_X6_read_29 : rn sh tb mN mO C rt (codeZ 96) 29 L st m = exI sh tb mN mO C rt (rn sh tb mN mO C rt (codeZ 96)) [.sipush (-1), .ireturn] L st m := by rw [rn_eq, b_X6_read_29]
theorem r_X6_read_31 : rn sh tb mN mO C rt (codeZ 96) 31 L st m = exI sh tb mN mO C rt (rn sh tb mN mO C rt (codeZ 96)) [.aload 0, .getfield 605, .iload 1, .aaload, .astore 5, .aload 0, .getfield 600, .getfield 501, .istore 6, .sipush (0), .istore 7, .sipush (0), .istore 8, .sipush (0), .istore 9, .goto_w 57] L st m := by rw [rn_eq, b_X6_read_31]
theorem r_X6_read_57 : rn sh tb mN mO C rt (codeZ 96) 57 L st m = exI sh tb mN mO C rt (rn sh tb mN mO C rt (codeZ 96)) [.iload 9, .iload 4, .if_icmp .ge 150, .iload 7, .ifCond .ne 150, .iload 3, .i2l, .sipush (2), .iload 9, .imul, .i2l, .ladd, .lstore 10, .aload 5, .iload 2, .lload 10, .invokevirtual 2, .istore 7, .iload 7, .ifCond .ne 144, .lload 10, .l2i, .istore 12, .aload 0, .aload 5, .getfield 102, .iload 12, .iaload, .aload 5, .getfield 102, .iload 12, .sipush (1), .iadd, .iaload, .sipush (0), .sipush (0), .invokevirtual 55, .ifCond .ge 141, .aload 0, .getfield 600, .iload 6, .putfield 501, .sipush (-20), .iload 9, .isub, .ireturn] L st m := by rw [rn_eq, b_X6_read_57]
theorem r_X6_read_141 : rn sh tb mN mO C rt (codeZ 96) 141 L st m = exI sh tb mN mO C rt (rn sh tb mN mO C rt (codeZ 96)) [.iinc 8 (1), .iinc 9 (1), .goto 57] L st m := by rw [rn_eq, b_X6_read_141]
theorem r_X6_read_144 : rn sh tb mN mO C rt (codeZ 96) 144 L st m = exI sh tb mN mO C rt (rn sh tb mN mO C rt (codeZ 96)) [.iinc 9 (1), .goto 57] L st m := by rw [rn_eq, b_X6_read_144]
theorem r_X6_read_150 : rn sh tb mN mO C rt (codeZ 96) 150 L st m = exI sh tb mN mO C rt (rn sh tb mN mO C rt (codeZ 96)) [.aload 0, .iload 7, .putfield 609, .iload 8, .ireturn] L st m := by rw [rn_eq, b_X6_read_150]
theorem r_X6_torn_0 : rn sh tb mN mO C rt (codeZ 97) 0 L st m = exI sh tb mN mO C rt (rn sh tb mN mO C rt (codeZ 97)) [.aload 0, .getfield 609, .ireturn] L st m := by rw [rn_eq, b_X6_torn_0]
theorem r_X6_count_0 : rn sh tb mN mO C rt (codeZ 98) 0 L st m = exI sh tb mN mO C rt (rn sh tb mN mO C rt (codeZ 98)) [.iload 1, .tableswitch 138 (0) (5) #[40, 48, 56, 92, 103, 130]] L st m := by rw [rn_eq, b_X6_count_0]
theorem r_X6_count_40 : rn sh tb mN mO C rt (codeZ 98) 40 L st m = exI sh tb mN mO C rt (rn sh tb mN mO C rt (codeZ 98)) [.aload 0, .getfield 600, .invokevirtual 36, .ireturn] L st m := by rw [rn_eq, b_X6_count_40]
theorem r_X6_count_48 : rn sh tb mN mO C rt (codeZ 98) 48 L st m = exI sh tb mN mO C rt (rn sh tb mN mO C rt (codeZ 98)) [.aload 0, .getfield 602, .getfield 200, .ireturn] L st m := by rw [rn_eq, b_X6_count_48]
theorem r_X6_count_56 : rn sh tb mN mO C rt (codeZ 98) 56 L st m = exI sh tb mN mO C rt (rn sh tb mN mO C rt (codeZ 98)) [.aload 0, .getfield 604, .sipush (0), .aaload, .getfield 0, .ifCond .eq 72, .sipush (1), .goto 73] L st m := by rw [rn_eq, b_X6_count_56]
theorem r_X6_count_72 : rn sh tb mN mO C rt (codeZ 98) 72 L st m = exI sh tb mN mO C rt (rn sh tb mN mO C rt (codeZ 98)) [.sipush (0), .aload 0, .getfield 604, .sipush (1), .aaload, .getfield 0, .ifCond .eq 89, .sipush (1), .goto 90] L st m := by rw [rn_eq, b_X6_count_72]
theorem r_X6_count_73 : rn sh tb mN mO C rt (codeZ 98) 73 L st m = exI sh tb mN mO C rt (rn sh tb mN mO C rt (codeZ 98)) [.aload 0, .getfield 604, .sipush (1), .aaload, .getfield 0, .ifCond .eq 89, .sipush (1), .goto 90] L st m := by rw [rn_eq, b_X6_count_73]
theorem r_X6_count_89 : rn sh tb mN mO C rt (codeZ 98) 89 L st m = exI sh tb mN mO C rt (rn sh tb mN mO C rt (codeZ 98)) [.sipush (0), .iadd, .ireturn] L st m := by rw [rn_eq, b_X6_count_89]
theorem r_X6_count_90 : rn sh tb mN mO C rt (codeZ 98) 90 L st m = exI sh tb mN mO C rt (rn sh tb mN mO C rt (codeZ 98)) [.iadd, .ireturn] L st m := by rw [rn_eq, b_X6_count_90]
theorem r_X6_count_92 : rn sh tb mN mO C rt (codeZ 98) 92 L st m = exI sh tb mN mO C rt (rn sh tb mN mO C rt (codeZ 98)) [.aload 0, .getfield 603, .getfield 400, .getfield 300, .ireturn] L st m := by rw [rn_eq, b_X6_count_92]
theorem r_X6_count_103 : rn sh tb mN mO C rt (codeZ 98) 103 L st m = exI sh tb mN mO C rt (rn sh tb mN mO C rt (codeZ 98)) [.aload 0, .getfield 605, .sipush (0), .aaload, .getfield 100, .ifCond .eq 127, .aload 0, .getfield 605, .sipush (0), .aaload, .getfield 101, .goto 129] L st m := by rw [rn_eq, b_X6_count_103]
theorem r_X6_count_127 : rn sh tb mN mO C rt (codeZ 98) 127 L st m = exI sh tb mN mO C rt (rn sh tb mN mO C rt (codeZ 98)) [.sipush (-4), .ireturn] L st m := by rw [rn_eq, b_X6_count_127]
theorem r_X6_count_129 : rn sh tb mN mO C rt (codeZ 98) 129 L st m = exI sh tb mN mO C rt (rn sh tb mN mO C rt (codeZ 98)) [.ireturn] L st m := by rw [rn_eq, b_X6_count_129]
theorem r_X6_count_130 : rn sh tb mN mO C rt (codeZ 98) 130 L st m = exI sh tb mN mO C rt (rn sh tb mN mO C rt (codeZ 98)) [.aload 0, .getfield 600, .invokevirtual 33, .ireturn] L st m := by rw [rn_eq, b_X6_count_130]
theorem r_X6_count_138 : rn sh tb mN mO C rt (codeZ 98) 138 L st m = exI sh tb mN mO C rt (rn sh tb mN mO C rt (codeZ 98)) [.sipush (-1), .ireturn] L st m := by rw [rn_eq, b_X6_count_138]
theorem r_X6_within_0 : rn sh tb mN mO C rt (codeZ 99) 0 L st m = exI sh tb mN mO C rt (rn sh tb mN mO C rt (codeZ 99)) [.iload 0, .iload 1, .if_icmp .lt 14, .iload 0, .iload 2, .if_icmp .gt 14, .sipush (1), .goto 15] L st m := by rw [rn_eq, b_X6_within_0]
theorem r_X6_within_14 : rn sh tb mN mO C rt (codeZ 99) 14 L st m = exI sh tb mN mO C rt (rn sh tb mN mO C rt (codeZ 99)) [.sipush (0), .ireturn] L st m := by rw [rn_eq, b_X6_within_14]
theorem r_X6_within_15 : rn sh tb mN mO C rt (codeZ 99) 15 L st m = exI sh tb mN mO C rt (rn sh tb mN mO C rt (codeZ 99)) [.ireturn] L st m := by rw [rn_eq, b_X6_within_15]
theorem r_X6_fromNow_0 : rn sh tb mN mO C rt (codeZ 100) 0 L st m = exI sh tb mN mO C rt (rn sh tb mN mO C rt (codeZ 100)) [.aload 0, .getfield 601, .aload 0, .getfield 600, .invokevirtual 25, .aload 0, .getfield 601, .sipush (0), .putfield 506, .aload 0, .getfield 601, .sipush (0), .putfield 507, .aload 0, .getfield 601, .areturn] L st m := by rw [rn_eq, b_X6_fromNow_0]
theorem r_X7_in_0 : rn sh tb mN mO C rt (codeZ 101) 0 L st m = exI sh tb mN mO C rt (rn sh tb mN mO C rt (codeZ 101)) [.lload 0, .lload 2, .lcmp, .ifCond .lt 17, .lload 0, .lload 4, .lcmp, .ifCond .gt 17, .sipush (1), .goto 18] L st m := by rw [rn_eq, b_X7_in_0]
theorem r_X7_in_17 : rn sh tb mN mO C rt (codeZ 101) 17 L st m = exI sh tb mN mO C rt (rn sh tb mN mO C rt (codeZ 101)) [.sipush (0), .ireturn] L st m := by rw [rn_eq, b_X7_in_17]
theorem r_X7_in_18 : rn sh tb mN mO C rt (codeZ 101) 18 L st m = exI sh tb mN mO C rt (rn sh tb mN mO C rt (codeZ 101)) [.ireturn] L st m := by rw [rn_eq, b_X7_in_18]
theorem r_X7_flag_0 : rn sh tb mN mO C rt (codeZ 102) 0 L st m = exI sh tb mN mO C rt (rn sh tb mN mO C rt (codeZ 102)) [.iload 0, .ifCond .eq 8, .sipush (1), .goto 9] L st m := by rw [rn_eq, b_X7_flag_0]
theorem r_X7_flag_8 : rn sh tb mN mO C rt (codeZ 102) 8 L st m = exI sh tb mN mO C rt (rn sh tb mN mO C rt (codeZ 102)) [.sipush (0), .ireturn] L st m := by rw [rn_eq, b_X7_flag_8]
theorem r_X7_flag_9 : rn sh tb mN mO C rt (codeZ 102) 9 L st m = exI sh tb mN mO C rt (rn sh tb mN mO C rt (codeZ 102)) [.ireturn] L st m := by rw [rn_eq, b_X7_flag_9]
theorem r_X7_firstDraft_0 : rn sh tb mN mO C rt (codeZ 103) 0 L st m = exI sh tb mN mO C rt (rn sh tb mN mO C rt (codeZ 103)) [.sipush (0), .istore 1, .goto_w 2] L st m := by rw [rn_eq, b_X7_firstDraft_0]
theorem r_X7_firstDraft_2 : rn sh tb mN mO C rt (codeZ 103) 2 L st m = exI sh tb mN mO C rt (rn sh tb mN mO C rt (codeZ 103)) [.iload 1, .sipush (63), .if_icmp .ge 21, .aload 0, .getfield 704, .iload 1, .sipush (0), .iastore, .iinc 1 (1), .goto 2] L st m := by rw [rn_eq, b_X7_firstDraft_2]
theorem r_X7_firstDraft_21 : rn sh tb mN mO C rt (codeZ 103) 21 L st m = exI sh tb mN mO C rt (rn sh tb mN mO C rt (codeZ 103)) [.aload 0, .getfield 704, .sipush (39), .sipush (5), .iastore, .aload 0, .getfield 704, .sipush (40), .sipush (46), .iastore, .aload 0, .getfield 704, .sipush (41), .sipush (5), .iastore, .aload 0, .sipush (0), .putfield 705, .aload 0, .sipush (0), .putfield 706, .aload 0, .sipush (-4), .putfield 707, .return_] L st m := by rw [rn_eq, b_X7_firstDraft_21]
theorem r_X7_keepDraft_0 : rn sh tb mN mO C rt (codeZ 104) 0 L st m = exI sh tb mN mO C rt (rn sh tb mN mO C rt (codeZ 104)) [.sipush (0), .istore 1, .goto_w 2] L st m := by rw [rn_eq, b_X7_keepDraft_0]
theorem r_X7_keepDraft_2 : rn sh tb mN mO C rt (codeZ 104) 2 L st m = exI sh tb mN mO C rt (rn sh tb mN mO C rt (codeZ 104)) [.iload 1, .sipush (63), .if_icmp .ge 26, .aload 0, .getfield 700, .iload 1, .aload 0, .getfield 704, .iload 1, .iaload, .iastore, .iinc 1 (1), .goto 2] L st m := by rw [rn_eq, b_X7_keepDraft_2]
theorem r_X7_keepDraft_26 : rn sh tb mN mO C rt (codeZ 104) 26 L st m = exI sh tb mN mO C rt (rn sh tb mN mO C rt (codeZ 104)) [.aload 0, .aload 0, .getfield 705, .putfield 703, .aload 0, .getfield 702, .sipush (0), .sipush (0), .bastore, .aload 0, .getfield 702, .sipush (1), .sipush (0), .bastore, .return_] L st m := by rw [rn_eq, b_X7_keepDraft_26]
theorem r_X7_feed_0 : rn sh tb mN mO C rt (codeZ 105) 0 L st m = exI sh tb mN mO C rt (rn sh tb mN mO C rt (codeZ 105)) [.iload 1, .i2l, .jsr (0), .jsr (127), .invokestatic 101, .ifCond .ne 14, .sipush (-1), .ireturn] L st m := by rw [rn_eq, b_X7_feed_0]
theorem r_X7_feed_14 : rn sh tb mN mO C rt (codeZ 105) 14 L st m = exI sh tb mN mO C rt (rn sh tb mN mO C rt (codeZ 105)) [.aload 0, .getfield 709, .sipush (160), .if_icmp .ne 27, .sipush (-3), .ireturn] L st m := by rw [rn_eq, b_X7_feed_14]
theorem r_X7_feed_27 : rn sh tb mN mO C rt (codeZ 105) 27 L st m = exI sh tb mN mO C rt (rn sh tb mN mO C rt (codeZ 105)) [.aload 0, .getfield 708, .aload 0, .getfield 709, .iload 1, .iastore, .aload 0, .dup, .getfield 709, .sipush (1), .iadd, .putfield 709, .aload 0, .getfield 709, .ireturn] L st m := by rw [rn_eq, b_X7_feed_27]
theorem r_X7_end_0 : rn sh tb mN mO C rt (codeZ 106) 0 L st m = exI sh tb mN mO C rt (rn sh tb mN mO C rt (codeZ 106)) [.iload 1, .i2l, .jsr (0), .aload 0, .getfield 709, .i2l, .invokestatic 101, .ifCond .ne 16, .sipush (-1), .ireturn] L st m := by rw [rn_eq, b_X7_end_0]
theorem r_X7_end_16 : rn sh tb mN mO C rt (codeZ 106) 16 L st m = exI sh tb mN mO C rt (rn sh tb mN mO C rt (codeZ 106)) [.aload 0, .getfield 709, .istore 2, .aload 0, .iload 1, .putfield 709, .iload 2, .ireturn] L st m := by rw [rn_eq, b_X7_end_16]
theorem r_X7_needs_0 : rn sh tb mN mO C rt (codeZ 107) 0 L st m = exI sh tb mN mO C rt (rn sh tb mN mO C rt (codeZ 107)) [.iload 1, .ifCond .ne 24, .aload 0, .getfield 714, .ifCond .ne 24, .aload 0, .iload 2, .putfield 714, .aload 0, .aload 0, .getfield 711, .putfield 715, .return_] L st m := by rw [rn_eq, b_X7_needs_0]
theorem r_X7_needs_24 : rn sh tb mN mO C rt (codeZ 107) 24 L st m = exI sh tb mN mO C rt (rn sh tb mN mO C rt (codeZ 107)) [.return_] L st m := by rw [rn_eq, b_X7_needs_24]
theorem r_X7_byteAt_0 : rn sh tb mN mO C rt (codeZ 108) 0 L st m = exI sh tb mN mO C rt (rn sh tb mN mO C rt (codeZ 108)) [.iload 1, .aload 0, .getfield 709, .if_icmp .ge 17, .aload 0, .getfield 708, .iload 1, .iaload, .goto 18] L st m := by rw [rn_eq, b_X7_byteAt_0]
theorem r_X7_byteAt_17 : rn sh tb mN mO C rt (codeZ 108) 17 L st m = exI sh tb mN mO C rt (rn sh tb mN mO C rt (codeZ 108)) [.sipush (-1), .ireturn] L st m := by rw [rn_eq, b_X7_byteAt_17]
theorem r_X7_byteAt_18 : rn sh tb mN mO C rt (codeZ 108) 18 L st m = exI sh tb mN mO C rt (rn sh tb mN mO C rt (codeZ 108)) [.ireturn] L st m := by rw [rn_eq, b_X7_byteAt_18]
theorem r_X7_is_0 : rn sh tb mN mO C rt (codeZ 109) 0 L st m = exI sh tb mN mO C rt (rn sh tb mN mO C rt (codeZ 109)) [.aload 0, .getfield 710, .aload 0, .getfield 711, .isub, .iload 1, .if_icmp .ne 58, .aload 0, .aload 0, .getfield 711, .invokevirtual 108, .iload 2, .if_icmp .ne 58, .aload 0, .aload 0, .getfield 711, .sipush (1), .iadd, .invokevirtual 108, .iload 3, .if_icmp .ne 58, .aload 0, .aload 0, .getfield 711, .sipush (2), .iadd, .invokevirtual 108, .iload 4, .if_icmp .ne 58, .sipush (1), .goto 59] L st m := by rw [rn_eq, b_X7_is_0]
theorem r_X7_is_58 : rn sh tb mN mO C rt (codeZ 109) 58 L st m = exI sh tb mN mO C rt (rn sh tb mN mO C rt (codeZ 109)) [.sipush (0), .ireturn] L st m := by rw [rn_eq, b_X7_is_58]
theorem r_X7_is_59 : rn sh tb mN mO C rt (codeZ 109) 59 L st m = exI sh tb mN mO C rt (rn sh tb mN mO C rt (codeZ 109)) [.ireturn] L st m := by rw [rn_eq, b_X7_is_59]
theorem r_X7_ends_0 : rn sh tb mN mO C rt (codeZ 110) 0 L st m = exI sh tb mN mO C rt (rn sh tb mN mO C rt (codeZ 110)) [.aload 0, .aload 0, .getfield 711, .sipush (3), .iadd, .invokevirtual 108, .iload 1, .if_icmp .ne 75, .iload 2, .ifCond .eq 32, .aload 0, .aload 0, .getfield 711, .sipush (4), .iadd, .invokevirtual 108, .iload 2, .if_icmp .ne 75, .iload 3, .ifCond .eq 50, .aload 0, .aload 0, .getfield 711, .sipush (5), .iadd, .invokevirtual 108, .iload 3, .if_icmp .ne 75, .iload 4, .ifCond .eq 71, .aload 0, .aload 0, .getfield 711, .sipush (6), .iadd, .invokevirtual 108, .iload 4, .if_icmp .ne 75, .sipush (1), .goto 76] L st m := by rw [rn_eq, b_X7_ends_0]
theorem r_X7_ends_32 : rn sh tb mN mO C rt (codeZ 110) 32 L st m = exI sh tb mN mO C rt (rn sh tb mN mO C rt (codeZ 110)) [.iload 3, .ifCond .eq 50, .aload 0, .aload 0, .getfield 711, .sipush (5), .iadd, .invokevirtual 108, .iload 3, .if_icmp .ne 75, .iload 4, .ifCond .eq 71, .aload 0, .aload 0, .getfield 711, .sipush (6), .iadd, .invokevirtual 108, .iload 4, .if_icmp .ne 75, .sipush (1), .goto 76] L st m := by rw [rn_eq, b_X7_ends_32]
theorem r_X7_ends_50 : rn sh tb mN mO C rt (codeZ 110) 50 L st m = exI sh tb mN mO C rt (rn sh tb mN mO C rt (codeZ 110)) [.iload 4, .ifCond .eq 71, .aload 0, .aload 0, .getfield 711, .sipush (6), .iadd, .invokevirtual 108, .iload 4, .if_icmp .ne 75, .sipush (1), .goto 76] L st m := by rw [rn_eq, b_X7_ends_50]
theorem r_X7_ends_71 : rn sh tb mN mO C rt (codeZ 110) 71 L st m = exI sh tb mN mO C rt (rn sh tb mN mO C rt (codeZ 110)) [.sipush (1), .goto 76] L st m := by rw [rn_eq, b_X7_ends_71]
theorem r_X7_ends_75 : rn sh tb mN mO C rt (codeZ 110) 75 L st m = exI sh tb mN mO C rt (rn sh tb mN mO C rt (codeZ 110)) [.sipush (0), .ireturn] L st m := by rw [rn_eq, b_X7_ends_75]
theorem r_X7_ends_76 : rn sh tb mN mO C rt (codeZ 110) 76 L st m = exI sh tb mN mO C rt (rn sh tb mN mO C rt (codeZ 110)) [.ireturn] L st m := by rw [rn_eq, b_X7_ends_76]
theorem r_X7_kindNow_0 : rn sh tb mN mO C rt (codeZ 111) 0 L st m = exI sh tb mN mO C rt (rn sh tb mN mO C rt (codeZ 111)) [.aload 0, .sipush (5), .sipush (112), .sipush (108), .sipush (97), .invokevirtual 109, .ifCond .eq 29, .aload 0, .sipush (105), .sipush (110), .sipush (0), .sipush (0), .invokevirtual 110, .ifCond .eq 29, .sipush (0), .ireturn] L st m := by rw [rn_eq, b_X7_kindNow_0]
theorem r_X7_kindNow_29 : rn sh tb mN mO C rt (codeZ 111) 29 L st m = exI sh tb mN mO C rt (rn sh tb mN mO C rt (codeZ 111)) [.aload 0, .sipush (5), .sipush (114), .sipush (105), .sipush (118), .invokevirtual 109, .ifCond .eq 58, .aload 0, .sipush (101), .sipush (114), .sipush (0), .sipush (0), .invokevirtual 110, .ifCond .eq 58, .sipush (1), .ireturn] L st m := by rw [rn_eq, b_X7_kindNow_29]
theorem r_X7_kindNow_58 : rn sh tb mN mO C rt (codeZ 111) 58 L st m = exI sh tb mN mO C rt (rn sh tb mN mO C rt (codeZ 111)) [.aload 0, .sipush (7), .sipush (97), .sipush (100), .sipush (111), .invokevirtual 109, .ifCond .eq 92, .aload 0, .sipush (112), .sipush (116), .sipush (101), .sipush (100), .invokevirtual 110, .ifCond .eq 92, .sipush (2), .goto 125] L st m := by rw [rn_eq, b_X7_kindNow_58]
theorem r_X7_kindNow_92 : rn sh tb mN mO C rt (codeZ 111) 92 L st m = exI sh tb mN mO C rt (rn sh tb mN mO C rt (codeZ 111)) [.aload 0, .sipush (5), .sipush (109), .sipush (105), .sipush (120), .invokevirtual 109, .ifCond .eq 123, .aload 0, .sipush (101), .sipush (100), .sipush (0), .sipush (0), .invokevirtual 110, .ifCond .eq 123, .sipush (3), .goto 125] L st m := by rw [rn_eq, b_X7_kindNow_92]
theorem r_X7_kindNow_123 : rn sh tb mN mO C rt (codeZ 111) 123 L st m = exI sh tb mN mO C rt (rn sh tb mN mO C rt (codeZ 111)) [.sipush (-4), .ireturn] L st m := by rw [rn_eq, b_X7_kindNow_123]
theorem r_X7_kindNow_125 : rn sh tb mN mO C rt (codeZ 111) 125 L st m = exI sh tb mN mO C rt (rn sh tb mN mO C rt (codeZ 111)) [.ireturn] L st m := by rw [rn_eq, b_X7_kindNow_125]
theorem r_X7_lineNow_0 : rn sh tb mN mO C rt (codeZ 112) 0 L st m = exI sh tb mN mO C rt (rn sh tb mN mO C rt (codeZ 112)) [.aload 0, .sipush (7), .sipush (118), .sipush (105), .sipush (108), .invokevirtual 109, .ifCond .eq 32, .aload 0, .sipush (108), .sipush (97), .sipush (103), .sipush (101), .invokevirtual 110, .ifCond .eq 32, .sipush (4), .ireturn] L st m := by rw [rn_eq, b_X7_lineNow_0]
theorem r_X7_lineNow_32 : rn sh tb mN mO C rt (codeZ 112) 32 L st m = exI sh tb mN mO C rt (rn sh tb mN mO C rt (codeZ 112)) [.aload 0, .sipush (5), .sipush (112), .sipush (114), .sipush (105), .invokevirtual 109, .ifCond .eq 61, .aload 0, .sipush (99), .sipush (101), .sipush (0), .sipush (0), .invokevirtual 110, .ifCond .eq 61, .sipush (5), .ireturn] L st m := by rw [rn_eq, b_X7_lineNow_32]
theorem r_X7_lineNow_61 : rn sh tb mN mO C rt (codeZ 112) 61 L st m = exI sh tb mN mO C rt (rn sh tb mN mO C rt (codeZ 112)) [.aload 0, .sipush (4), .sipush (102), .sipush (105), .sipush (110), .invokevirtual 109, .ifCond .eq 92, .aload 0, .sipush (101), .sipush (0), .sipush (0), .sipush (0), .invokevirtual 110, .ifCond .eq 92, .sipush (6), .goto 128] L st m := by rw [rn_eq, b_X7_lineNow_61]
theorem r_X7_lineNow_92 : rn sh tb mN mO C rt (codeZ 112) 92 L st m = exI sh tb mN mO C rt (rn sh tb mN mO C rt (codeZ 112)) [.aload 0, .sipush (5), .sipush (114), .sipush (111), .sipush (117), .invokevirtual 109, .ifCond .eq 124, .aload 0, .sipush (110), .sipush (100), .sipush (0), .sipush (0), .invokevirtual 110, .ifCond .eq 124, .sipush (7), .goto 128] L st m := by rw [rn_eq, b_X7_lineNow_92]
theorem r_X7_lineNow_124 : rn sh tb mN mO C rt (codeZ 112) 124 L st m = exI sh tb mN mO C rt (rn sh tb mN mO C rt (codeZ 112)) [.aload 0, .invokevirtual 111, .ireturn] L st m := by rw [rn_eq, b_X7_lineNow_124]
theorem r_X7_lineNow_128 : rn sh tb mN mO C rt (codeZ 112) 128 L st m = exI sh tb mN mO C rt (rn sh tb mN mO C rt (codeZ 112)) [.ireturn] L st m := by rw [rn_eq, b_X7_lineNow_128]
theorem r_X7_takes_0 : rn sh tb mN mO C rt (codeZ 113) 0 L st m = exI sh tb mN mO C rt (rn sh tb mN mO C rt (codeZ 113)) [.aload 0, .getfield 714, .ifCond .le 8, .return_] L st m := by rw [rn_eq, b_X7_takes_0]
theorem r_X7_takes_8 : rn sh tb mN mO C rt (codeZ 113) 8 L st m = exI sh tb mN mO C rt (rn sh tb mN mO C rt (codeZ 113)) [.aload 0, .aload 0, .getfield 710, .invokevirtual 108, .sipush (32), .if_icmp .ne 34, .aload 0, .dup, .getfield 710, .sipush (1), .iadd, .putfield 710, .goto 8] L st m := by rw [rn_eq, b_X7_takes_8]
theorem r_X7_takes_34 : rn sh tb mN mO C rt (codeZ 113) 34 L st m = exI sh tb mN mO C rt (rn sh tb mN mO C rt (codeZ 113)) [.aload 0, .aload 0, .getfield 710, .putfield 711, .aload 0, .aload 0, .getfield 710, .invokevirtual 108, .istore 1, .iload 1, .ifCond .ge 63, .aload 0, .sipush (0), .putfield 712, .goto 274] L st m := by rw [rn_eq, b_X7_takes_34]
theorem r_X7_takes_63 : rn sh tb mN mO C rt (codeZ 113) 63 L st m = exI sh tb mN mO C rt (rn sh tb mN mO C rt (codeZ 113)) [.iload 1, .i2l, .jsr (97), .jsr (122), .invokestatic 101, .ifCond .eq 116, .aload 0, .sipush (1), .putfield 712, .goto_w 82] L st m := by rw [rn_eq, b_X7_takes_63]
theorem r_X7_takes_82 : rn sh tb mN mO C rt (codeZ 113) 82 L st m = exI sh tb mN mO C rt (rn sh tb mN mO C rt (codeZ 113)) [.aload 0, .aload 0, .getfield 710, .invokevirtual 108, .i2l, .jsr (97), .jsr (122), .invokestatic 101, .ifCond .eq 274, .aload 0, .dup, .getfield 710, .sipush (1), .iadd, .putfield 710, .goto 82] L st m := by rw [rn_eq, b_X7_takes_82]
theorem r_X7_takes_116 : rn sh tb mN mO C rt (codeZ 113) 116 L st m = exI sh tb mN mO C rt (rn sh tb mN mO C rt (codeZ 113)) [.iload 1, .i2l, .jsr (48), .jsr (57), .invokestatic 101, .ifCond .eq 243, .aload 0, .sipush (2), .putfield 712, .aload 0, .sipush (0), .putfield 713, .goto_w 140] L st m := by rw [rn_eq, b_X7_takes_116]
theorem r_X7_takes_140 : rn sh tb mN mO C rt (codeZ 113) 140 L st m = exI sh tb mN mO C rt (rn sh tb mN mO C rt (codeZ 113)) [.aload 0, .aload 0, .getfield 710, .invokevirtual 108, .i2l, .jsr (48), .jsr (57), .invokestatic 101, .ifCond .eq 217, .aload 0, .aload 0, .getfield 710, .aload 0, .getfield 711, .isub, .sipush (2), .if_icmp .ge 197, .sipush (10), .aload 0, .getfield 713, .imul, .aload 0, .aload 0, .getfield 710, .invokevirtual 108, .iadd, .sipush (48), .isub, .goto 201] L st m := by rw [rn_eq, b_X7_takes_140]
theorem r_X7_takes_197 : rn sh tb mN mO C rt (codeZ 113) 197 L st m = exI sh tb mN mO C rt (rn sh tb mN mO C rt (codeZ 113)) [.aload 0, .getfield 713, .putfield 713, .aload 0, .dup, .getfield 710, .sipush (1), .iadd, .putfield 710, .goto 140] L st m := by rw [rn_eq, b_X7_takes_197]
theorem r_X7_takes_201 : rn sh tb mN mO C rt (codeZ 113) 201 L st m = exI sh tb mN mO C rt (rn sh tb mN mO C rt (codeZ 113)) [.putfield 713, .aload 0, .dup, .getfield 710, .sipush (1), .iadd, .putfield 710, .goto 140] L st m := by rw [rn_eq, b_X7_takes_201]
theorem r_X7_takes_217 : rn sh tb mN mO C rt (codeZ 113) 217 L st m = exI sh tb mN mO C rt (rn sh tb mN mO C rt (codeZ 113)) [.aload 0, .aload 0, .getfield 710, .aload 0, .getfield 711, .isub, .sipush (2), .if_icmp .gt 235, .sipush (1), .goto 236] L st m := by rw [rn_eq, b_X7_takes_217]
theorem r_X7_takes_235 : rn sh tb mN mO C rt (codeZ 113) 235 L st m = exI sh tb mN mO C rt (rn sh tb mN mO C rt (codeZ 113)) [.sipush (0), .sipush (1), .invokevirtual 107, .goto 274] L st m := by rw [rn_eq, b_X7_takes_235]
theorem r_X7_takes_236 : rn sh tb mN mO C rt (codeZ 113) 236 L st m = exI sh tb mN mO C rt (rn sh tb mN mO C rt (codeZ 113)) [.sipush (1), .invokevirtual 107, .goto 274] L st m := by rw [rn_eq, b_X7_takes_236]
theorem r_X7_takes_243 : rn sh tb mN mO C rt (codeZ 113) 243 L st m = exI sh tb mN mO C rt (rn sh tb mN mO C rt (codeZ 113)) [.aload 0, .sipush (3), .putfield 712, .aload 0, .iload 1, .sipush (59), .if_icmp .ne 259, .sipush (1), .goto 260] L st m := by rw [rn_eq, b_X7_takes_243]
theorem r_X7_takes_259 : rn sh tb mN mO C rt (codeZ 113) 259 L st m = exI sh tb mN mO C rt (rn sh tb mN mO C rt (codeZ 113)) [.sipush (0), .sipush (1), .invokevirtual 107, .aload 0, .dup, .getfield 710, .sipush (1), .iadd, .putfield 710, .return_] L st m := by rw [rn_eq, b_X7_takes_259]
theorem r_X7_takes_260 : rn sh tb mN mO C rt (codeZ 113) 260 L st m = exI sh tb mN mO C rt (rn sh tb mN mO C rt (codeZ 113)) [.sipush (1), .invokevirtual 107, .aload 0, .dup, .getfield 710, .sipush (1), .iadd, .putfield 710, .return_] L st m := by rw [rn_eq, b_X7_takes_260]
theorem r_X7_takes_274 : rn sh tb mN mO C rt (codeZ 113) 274 L st m = exI sh tb mN mO C rt (rn sh tb mN mO C rt (codeZ 113)) [.return_] L st m := by rw [rn_eq, b_X7_takes_274]
theorem r_X7_readNumber_0 : rn sh tb mN mO C rt (codeZ 114) 0 L st m = exI sh tb mN mO C rt (rn sh tb mN mO C rt (codeZ 114)) [.aload 0, .getfield 714, .ifCond .ne 25, .aload 0, .aload 0, .getfield 712, .sipush (2), .if_icmp .ne 20, .sipush (1), .goto 21] L st m := by rw [rn_eq, b_X7_readNumber_0]
theorem r_X7_readNumber_20 : rn sh tb mN mO C rt (codeZ 114) 20 L st m = exI sh tb mN mO C rt (rn sh tb mN mO C rt (codeZ 114)) [.sipush (0), .sipush (2), .invokevirtual 107, .aload 0, .getfield 714, .ifCond .ne 49, .aload 0, .aload 0, .getfield 713, .i2l, .iload 1, .i2l, .iload 2, .i2l, .invokestatic 101, .sipush (3), .invokevirtual 107, .aload 0, .getfield 714, .ifCond .ne 63, .aload 0, .getfield 713, .goto 64] L st m := by rw [rn_eq, b_X7_readNumber_20]
theorem r_X7_readNumber_21 : rn sh tb mN mO C rt (codeZ 114) 21 L st m = exI sh tb mN mO C rt (rn sh tb mN mO C rt (codeZ 114)) [.sipush (2), .invokevirtual 107, .aload 0, .getfield 714, .ifCond .ne 49, .aload 0, .aload 0, .getfield 713, .i2l, .iload 1, .i2l, .iload 2, .i2l, .invokestatic 101, .sipush (3), .invokevirtual 107, .aload 0, .getfield 714, .ifCond .ne 63, .aload 0, .getfield 713, .goto 64] L st m := by rw [rn_eq, b_X7_readNumber_21]
theorem r_X7_readNumber_25 : rn sh tb mN mO C rt (codeZ 114) 25 L st m = exI sh tb mN mO C rt (rn sh tb mN mO C rt (codeZ 114)) [.aload 0, .getfield 714, .ifCond .ne 49, .aload 0, .aload 0, .getfield 713, .i2l, .iload 1, .i2l, .iload 2, .i2l, .invokestatic 101, .sipush (3), .invokevirtual 107, .aload 0, .getfield 714, .ifCond .ne 63, .aload 0, .getfield 713, .goto 64] L st m := by rw [rn_eq, b_X7_readNumber_25]
theorem r_X7_readNumber_49 : rn sh tb mN mO C rt (codeZ 114) 49 L st m = exI sh tb mN mO C rt (rn sh tb mN mO C rt (codeZ 114)) [.aload 0, .getfield 714, .ifCond .ne 63, .aload 0, .getfield 713, .goto 64] L st m := by rw [rn_eq, b_X7_readNumber_49]
theorem r_X7_readNumber_63 : rn sh tb mN mO C rt (codeZ 114) 63 L st m = exI sh tb mN mO C rt (rn sh tb mN mO C rt (codeZ 114)) [.sipush (0), .istore 3, .aload 0, .invokevirtual 113, .iload 3, .ireturn] L st m := by rw [rn_eq, b_X7_readNumber_63]
theorem r_X7_readNumber_64 : rn sh tb mN mO C rt (codeZ 114) 64 L st m = exI sh tb mN mO C rt (rn sh tb mN mO C rt (codeZ 114)) [.istore 3, .aload 0, .invokevirtual 113, .iload 3, .ireturn] L st m := by rw [rn_eq, b_X7_readNumber_64]
theorem r_X7_readBody_0 : rn sh tb mN mO C rt (codeZ 115) 0 L st m = exI sh tb mN mO C rt (rn sh tb mN mO C rt (codeZ 115)) [.sipush (8), .sipush (5), .aload 0, .getfield 704, .sipush (38), .iaload, .imul, .iadd, .istore 2, .aload 0, .getfield 704, .iload 2, .sipush (0), .iadd, .iload 1, .iastore, .aload 0, .getfield 704, .iload 2, .sipush (1), .iadd, .aload 0, .sipush (0), .sipush (3), .invokevirtual 114, .iastore, .aload 0, .aload 0, .getfield 704, .iload 2, .sipush (1), .iadd, .iaload, .aload 0, .getfield 707, .if_icmp .le 63, .aload 0, .getfield 704, .iload 2, .sipush (1), .iadd, .iaload, .goto 67] L st m := by rw [rn_eq, b_X7_readBody_0]
theorem r_X7_readBody_63 : rn sh tb mN mO C rt (codeZ 115) 63 L st m = exI sh tb mN mO C rt (rn sh tb mN mO C rt (codeZ 115)) [.aload 0, .getfield 707, .putfield 707, .aload 0, .getfield 704, .iload 2, .sipush (2), .iadd, .aload 0, .sipush (0), .sipush (9), .invokevirtual 114, .iastore, .aload 0, .getfield 704, .iload 2, .sipush (3), .iadd, .aload 0, .sipush (0), .sipush (9), .invokevirtual 114, .iastore, .aload 0, .getfield 704, .sipush (38), .dup2, .iaload, .sipush (1), .iadd, .iastore, .return_] L st m := by rw [rn_eq, b_X7_readBody_63]
theorem r_X7_readBody_67 : rn sh tb mN mO C rt (codeZ 115) 67 L st m = exI sh tb mN mO C rt (rn sh tb mN mO C rt (codeZ 115)) [.putfield 707, .aload 0, .getfield 704, .iload 2, .sipush (2), .iadd, .aload 0, .sipush (0), .sipush (9), .invokevirtual 114, .iastore, .aload 0, .getfield 704, .iload 2, .sipush (3), .iadd, .aload 0, .sipush (0), .sipush (9), .invokevirtual 114, .iastore, .aload 0, .getfield 704, .sipush (38), .dup2, .iaload, .sipush (1), .iadd, .iastore, .return_] L st m := by rw [rn_eq, b_X7_readBody_67]
theorem r_X7_readLineOf_0 : rn sh tb mN mO C rt (codeZ 116) 0 L st m = exI sh tb mN mO C rt (rn sh tb mN mO C rt (codeZ 116)) [.iload 1, .tableswitch 136 (4) (7) #[32, 85, 102, 119]] L st m := by rw [rn_eq, b_X7_readLineOf_0]
theorem r_X7_readLineOf_32 : rn sh tb mN mO C rt (codeZ 116) 32 L st m = exI sh tb mN mO C rt (rn sh tb mN mO C rt (codeZ 116)) [.aload 0, .getfield 704, .sipush (2), .aload 0, .getfield 705, .imul, .sipush (0), .iadd, .aload 0, .sipush (0), .sipush (99), .invokevirtual 114, .iastore, .aload 0, .getfield 704, .sipush (2), .aload 0, .getfield 705, .imul, .sipush (1), .iadd, .aload 0, .sipush (0), .sipush (9), .invokevirtual 114, .iastore, .aload 0, .dup, .getfield 705, .sipush (1), .iadd, .putfield 705, .goto 141] L st m := by rw [rn_eq, b_X7_readLineOf_32]
theorem r_X7_readLineOf_85 : rn sh tb mN mO C rt (codeZ 116) 85 L st m = exI sh tb mN mO C rt (rn sh tb mN mO C rt (codeZ 116)) [.aload 0, .getfield 704, .sipush (39), .aload 0, .sipush (0), .sipush (20), .invokevirtual 114, .iastore, .goto 141] L st m := by rw [rn_eq, b_X7_readLineOf_85]
theorem r_X7_readLineOf_102 : rn sh tb mN mO C rt (codeZ 116) 102 L st m = exI sh tb mN mO C rt (rn sh tb mN mO C rt (codeZ 116)) [.aload 0, .getfield 704, .sipush (40), .aload 0, .sipush (0), .sipush (60), .invokevirtual 114, .iastore, .goto 141] L st m := by rw [rn_eq, b_X7_readLineOf_102]
theorem r_X7_readLineOf_119 : rn sh tb mN mO C rt (codeZ 116) 119 L st m = exI sh tb mN mO C rt (rn sh tb mN mO C rt (codeZ 116)) [.aload 0, .getfield 704, .sipush (41), .aload 0, .sipush (1), .sipush (9), .invokevirtual 114, .iastore, .goto 141] L st m := by rw [rn_eq, b_X7_readLineOf_119]
theorem r_X7_readLineOf_136 : rn sh tb mN mO C rt (codeZ 116) 136 L st m = exI sh tb mN mO C rt (rn sh tb mN mO C rt (codeZ 116)) [.aload 0, .iload 1, .invokevirtual 115, .return_] L st m := by rw [rn_eq, b_X7_readLineOf_136]
theorem r_X7_readLineOf_141 : rn sh tb mN mO C rt (codeZ 116) 141 L st m = exI sh tb mN mO C rt (rn sh tb mN mO C rt (codeZ 116)) [.return_] L st m := by rw [rn_eq, b_X7_readLineOf_141]
theorem r_X7_readLine_0 : rn sh tb mN mO C rt (codeZ 117) 0 L st m = exI sh tb mN mO C rt (rn sh tb mN mO C rt (codeZ 117)) [.aload 0, .getfield 712, .sipush (1), .if_icmp .ne 15, .aload 0, .invokevirtual 112, .goto 17] L st m := by rw [rn_eq, b_X7_readLine_0]
theorem r_X7_readLine_15 : rn sh tb mN mO C rt (codeZ 117) 15 L st m = exI sh tb mN mO C rt (rn sh tb mN mO C rt (codeZ 117)) [.sipush (-4), .istore 1, .aload 0, .iload 1, .sipush (-4), .if_icmp .eq 29, .sipush (1), .goto 30] L st m := by rw [rn_eq, b_X7_readLine_15]
theorem r_X7_readLine_17 : rn sh tb mN mO C rt (codeZ 117) 17 L st m = exI sh tb mN mO C rt (rn sh tb mN mO C rt (codeZ 117)) [.istore 1, .aload 0, .iload 1, .sipush (-4), .if_icmp .eq 29, .sipush (1), .goto 30] L st m := by rw [rn_eq, b_X7_readLine_17]
theorem r_X7_readLine_29 : rn sh tb mN mO C rt (codeZ 117) 29 L st m = exI sh tb mN mO C rt (rn sh tb mN mO C rt (codeZ 117)) [.sipush (0), .sipush (2), .invokevirtual 107, .aload 0, .iload 1, .sipush (4), .if_icmp .ne 56, .aload 0, .getfield 705, .sipush (4), .if_icmp .ge 52, .sipush (1), .goto 78] L st m := by rw [rn_eq, b_X7_readLine_29]
theorem r_X7_readLine_30 : rn sh tb mN mO C rt (codeZ 117) 30 L st m = exI sh tb mN mO C rt (rn sh tb mN mO C rt (codeZ 117)) [.sipush (2), .invokevirtual 107, .aload 0, .iload 1, .sipush (4), .if_icmp .ne 56, .aload 0, .getfield 705, .sipush (4), .if_icmp .ge 52, .sipush (1), .goto 78] L st m := by rw [rn_eq, b_X7_readLine_30]
theorem r_X7_readLine_52 : rn sh tb mN mO C rt (codeZ 117) 52 L st m = exI sh tb mN mO C rt (rn sh tb mN mO C rt (codeZ 117)) [.sipush (0), .goto 78] L st m := by rw [rn_eq, b_X7_readLine_52]
theorem r_X7_readLine_56 : rn sh tb mN mO C rt (codeZ 117) 56 L st m = exI sh tb mN mO C rt (rn sh tb mN mO C rt (codeZ 117)) [.iload 1, .sipush (4), .if_icmp .gt 73, .aload 0, .getfield 704, .sipush (38), .iaload, .sipush (6), .if_icmp .ge 77, .sipush (1), .goto 78] L st m := by rw [rn_eq, b_X7_readLine_56]
theorem r_X7_readLine_73 : rn sh tb mN mO C rt (codeZ 117) 73 L st m = exI sh tb mN mO C rt (rn sh tb mN mO C rt (codeZ 117)) [.sipush (1), .goto 78] L st m := by rw [rn_eq, b_X7_readLine_73]
theorem r_X7_readLine_77 : rn sh tb mN mO C rt (codeZ 117) 77 L st m = exI sh tb mN mO C rt (rn sh tb mN mO C rt (codeZ 117)) [.sipush (0), .sipush (5), .invokevirtual 107, .aload 0, .getfield 714, .ifCond .ne 127, .iload 1, .sipush (4), .if_icmp .le 127, .aload 0, .aload 0, .getfield 706, .iload 1, .ishr, .sipush (1), .iand, .ifCond .ne 110, .sipush (1), .goto 111] L st m := by rw [rn_eq, b_X7_readLine_77]
theorem r_X7_readLine_78 : rn sh tb mN mO C rt (codeZ 117) 78 L st m = exI sh tb mN mO C rt (rn sh tb mN mO C rt (codeZ 117)) [.sipush (5), .invokevirtual 107, .aload 0, .getfield 714, .ifCond .ne 127, .iload 1, .sipush (4), .if_icmp .le 127, .aload 0, .aload 0, .getfield 706, .iload 1, .ishr, .sipush (1), .iand, .ifCond .ne 110, .sipush (1), .goto 111] L st m := by rw [rn_eq, b_X7_readLine_78]
theorem r_X7_readLine_110 : rn sh tb mN mO C rt (codeZ 117) 110 L st m = exI sh tb mN mO C rt (rn sh tb mN mO C rt (codeZ 117)) [.sipush (0), .sipush (4), .invokevirtual 107, .aload 0, .dup, .getfield 706, .sipush (1), .iload 1, .ishl, .ior, .putfield 706, .aload 0, .invokevirtual 113, .aload 0, .getfield 714, .ifCond .le 139, .return_] L st m := by rw [rn_eq, b_X7_readLine_110]
theorem r_X7_readLine_111 : rn sh tb mN mO C rt (codeZ 117) 111 L st m = exI sh tb mN mO C rt (rn sh tb mN mO C rt (codeZ 117)) [.sipush (4), .invokevirtual 107, .aload 0, .dup, .getfield 706, .sipush (1), .iload 1, .ishl, .ior, .putfield 706, .aload 0, .invokevirtual 113, .aload 0, .getfield 714, .ifCond .le 139, .return_] L st m := by rw [rn_eq, b_X7_readLine_111]
theorem r_X7_readLine_127 : rn sh tb mN mO C rt (codeZ 117) 127 L st m = exI sh tb mN mO C rt (rn sh tb mN mO C rt (codeZ 117)) [.aload 0, .invokevirtual 113, .aload 0, .getfield 714, .ifCond .le 139, .return_] L st m := by rw [rn_eq, b_X7_readLine_127]
theorem r_X7_readLine_139 : rn sh tb mN mO C rt (codeZ 117) 139 L st m = exI sh tb mN mO C rt (rn sh tb mN mO C rt (codeZ 117)) [.aload 0, .iload 1, .invokevirtual 116, .aload 0, .getfield 714, .ifCond .ne 169, .aload 0, .aload 0, .getfield 712, .sipush (3), .if_icmp .ne 164, .sipush (1), .goto 165] L st m := by rw [rn_eq, b_X7_readLine_139]
theorem r_X7_readLine_164 : rn sh tb mN mO C rt (codeZ 117) 164 L st m = exI sh tb mN mO C rt (rn sh tb mN mO C rt (codeZ 117)) [.sipush (0), .sipush (2), .invokevirtual 107, .aload 0, .invokevirtual 113, .return_] L st m := by rw [rn_eq, b_X7_readLine_164]
theorem r_X7_readLine_165 : rn sh tb mN mO C rt (codeZ 117) 165 L st m = exI sh tb mN mO C rt (rn sh tb mN mO C rt (codeZ 117)) [.sipush (2), .invokevirtual 107, .aload 0, .invokevirtual 113, .return_] L st m := by rw [rn_eq, b_X7_readLine_165]
theorem r_X7_readLine_169 : rn sh tb mN mO C rt (codeZ 117) 169 L st m = exI sh tb mN mO C rt (rn sh tb mN mO C rt (codeZ 117)) [.aload 0, .invokevirtual 113, .return_] L st m := by rw [rn_eq, b_X7_readLine_169]
theorem r_X7_text_0 : rn sh tb mN mO C rt (codeZ 118) 0 L st m = exI sh tb mN mO C rt (rn sh tb mN mO C rt (codeZ 118)) [.sipush (0), .istore 1, .aload 0, .sipush (0), .putfield 714, .aload 0, .sipush (0), .putfield 710, .aload 0, .invokevirtual 103, .aload 0, .invokevirtual 113, .goto_w 20] L st m := by rw [rn_eq, b_X7_text_0]
theorem r_X7_text_20 : rn sh tb mN mO C rt (codeZ 118) 20 L st m = exI sh tb mN mO C rt (rn sh tb mN mO C rt (codeZ 118)) [.aload 0, .getfield 714, .ifCond .ne 44, .aload 0, .getfield 712, .ifCond .eq 44, .aload 0, .invokevirtual 117, .iinc 1 (1), .goto 20] L st m := by rw [rn_eq, b_X7_text_20]
theorem r_X7_text_44 : rn sh tb mN mO C rt (codeZ 118) 44 L st m = exI sh tb mN mO C rt (rn sh tb mN mO C rt (codeZ 118)) [.aload 0, .getfield 714, .ifCond .ne 73, .aload 0, .aload 0, .getfield 707, .aload 0, .getfield 705, .if_icmp .ge 67, .sipush (1), .goto 68] L st m := by rw [rn_eq, b_X7_text_44]
theorem r_X7_text_67 : rn sh tb mN mO C rt (codeZ 118) 67 L st m = exI sh tb mN mO C rt (rn sh tb mN mO C rt (codeZ 118)) [.sipush (0), .sipush (6), .invokevirtual 107, .aload 0, .sipush (0), .putfield 709, .aload 0, .getfield 714, .ifCond .le 93, .sipush (-10), .aload 0, .getfield 715, .isub, .ireturn] L st m := by rw [rn_eq, b_X7_text_67]
theorem r_X7_text_68 : rn sh tb mN mO C rt (codeZ 118) 68 L st m = exI sh tb mN mO C rt (rn sh tb mN mO C rt (codeZ 118)) [.sipush (6), .invokevirtual 107, .aload 0, .sipush (0), .putfield 709, .aload 0, .getfield 714, .ifCond .le 93, .sipush (-10), .aload 0, .getfield 715, .isub, .ireturn] L st m := by rw [rn_eq, b_X7_text_68]
theorem r_X7_text_73 : rn sh tb mN mO C rt (codeZ 118) 73 L st m = exI sh tb mN mO C rt (rn sh tb mN mO C rt (codeZ 118)) [.aload 0, .sipush (0), .putfield 709, .aload 0, .getfield 714, .ifCond .le 93, .sipush (-10), .aload 0, .getfield 715, .isub, .ireturn] L st m := by rw [rn_eq, b_X7_text_73]
theorem r_X7_text_93 : rn sh tb mN mO C rt (codeZ 118) 93 L st m = exI sh tb mN mO C rt (rn sh tb mN mO C rt (codeZ 118)) [.aload 0, .invokevirtual 104, .iload 1, .ireturn] L st m := by rw [rn_eq, b_X7_text_93]
theorem r_X7_fault_0 : rn sh tb mN mO C rt (codeZ 119) 0 L st m = exI sh tb mN mO C rt (rn sh tb mN mO C rt (codeZ 119)) [.aload 0, .getfield 714, .ireturn] L st m := by rw [rn_eq, b_X7_fault_0]
theorem r_X7_isVillage_0 : rn sh tb mN mO C rt (codeZ 120) 0 L st m = exI sh tb mN mO C rt (rn sh tb mN mO C rt (codeZ 120)) [.iload 1, .i2l, .jsr (0), .aload 0, .getfield 703, .sipush (1), .isub, .i2l, .invokestatic 101, .ireturn] L st m := by rw [rn_eq, b_X7_isVillage_0]
theorem r_X7_isBody_0 : rn sh tb mN mO C rt (codeZ 121) 0 L st m = exI sh tb mN mO C rt (rn sh tb mN mO C rt (codeZ 121)) [.iload 1, .i2l, .jsr (0), .aload 0, .getfield 700, .sipush (38), .iaload, .sipush (1), .isub, .i2l, .invokestatic 101, .ireturn] L st m := by rw [rn_eq, b_X7_isBody_0]
theorem r_X7_isPart_0 : rn sh tb mN mO C rt (codeZ 122) 0 L st m = exI sh tb mN mO C rt (rn sh tb mN mO C rt (codeZ 122)) [.iload 0, .i2l, .jsr (0), .jsr (1), .invokestatic 101, .ireturn] L st m := by rw [rn_eq, b_X7_isPart_0]
theorem r_X7_starts_0 : rn sh tb mN mO C rt (codeZ 123) 0 L st m = exI sh tb mN mO C rt (rn sh tb mN mO C rt (codeZ 123)) [.sipush (0), .istore 1, .goto_w 2] L st m := by rw [rn_eq, b_X7_starts_0]
theorem r_X7_starts_2 : rn sh tb mN mO C rt (codeZ 123) 2 L st m = exI sh tb mN mO C rt (rn sh tb mN mO C rt (codeZ 123)) [.iload 1, .sipush (63), .if_icmp .ge 26, .aload 0, .getfield 701, .iload 1, .aload 0, .getfield 700, .iload 1, .iaload, .iastore, .iinc 1 (1), .goto 2] L st m := by rw [rn_eq, b_X7_starts_2]
theorem r_X7_starts_26 : rn sh tb mN mO C rt (codeZ 123) 26 L st m = exI sh tb mN mO C rt (rn sh tb mN mO C rt (codeZ 123)) [.sipush (0), .istore 1, .goto_w 28] L st m := by rw [rn_eq, b_X7_starts_26]
theorem r_X7_starts_28 : rn sh tb mN mO C rt (codeZ 123) 28 L st m = exI sh tb mN mO C rt (rn sh tb mN mO C rt (codeZ 123)) [.iload 1, .sipush (4), .if_icmp .ge 46, .aload 0, .getfield 716, .iload 1, .iload 1, .iastore, .iinc 1 (1), .goto 28] L st m := by rw [rn_eq, b_X7_starts_28]
theorem r_X7_starts_46 : rn sh tb mN mO C rt (codeZ 123) 46 L st m = exI sh tb mN mO C rt (rn sh tb mN mO C rt (codeZ 123)) [.return_] L st m := by rw [rn_eq, b_X7_starts_46]
theorem r_X7_settles_0 : rn sh tb mN mO C rt (codeZ 124) 0 L st m = exI sh tb mN mO C rt (rn sh tb mN mO C rt (codeZ 124)) [.sipush (0), .istore 1, .goto_w 2] L st m := by rw [rn_eq, b_X7_settles_0]
theorem r_X7_settles_2 : rn sh tb mN mO C rt (codeZ 124) 2 L st m = exI sh tb mN mO C rt (rn sh tb mN mO C rt (codeZ 124)) [.iload 1, .sipush (63), .if_icmp .ge 26, .aload 0, .getfield 700, .iload 1, .aload 0, .getfield 701, .iload 1, .iaload, .iastore, .iinc 1 (1), .goto 2] L st m := by rw [rn_eq, b_X7_settles_2]
theorem r_X7_settles_26 : rn sh tb mN mO C rt (codeZ 124) 26 L st m = exI sh tb mN mO C rt (rn sh tb mN mO C rt (codeZ 124)) [.return_] L st m := by rw [rn_eq, b_X7_settles_26]
theorem r_X7_of_0 : rn sh tb mN mO C rt (codeZ 125) 0 L st m = exI sh tb mN mO C rt (rn sh tb mN mO C rt (codeZ 125)) [.aload 0, .getfield 701, .sipush (8), .sipush (5), .iload 1, .imul, .iadd, .iload 2, .iadd, .iaload, .ireturn] L st m := by rw [rn_eq, b_X7_of_0]
theorem r_X7_becomesOf_0 : rn sh tb mN mO C rt (codeZ 126) 0 L st m = exI sh tb mN mO C rt (rn sh tb mN mO C rt (codeZ 126)) [.aload 0, .getfield 701, .sipush (8), .sipush (5), .iload 1, .imul, .iadd, .iload 2, .iadd, .iload 3, .iastore, .return_] L st m := by rw [rn_eq, b_X7_becomesOf_0]
theorem r_X7_needOf_0 : rn sh tb mN mO C rt (codeZ 127) 0 L st m = exI sh tb mN mO C rt (rn sh tb mN mO C rt (codeZ 127)) [.iload 1, .ifCond .eq 23, .iload 0, .ifCond .ne 12, .sipush (2), .goto 22] L st m := by rw [rn_eq, b_X7_needOf_0]
theorem r_X7_needOf_12 : rn sh tb mN mO C rt (codeZ 127) 12 L st m = exI sh tb mN mO C rt (rn sh tb mN mO C rt (codeZ 127)) [.iload 0, .sipush (3), .if_icmp .ne 21, .sipush (4), .goto 22] L st m := by rw [rn_eq, b_X7_needOf_12]
theorem r_X7_needOf_21 : rn sh tb mN mO C rt (codeZ 127) 21 L st m = exI sh tb mN mO C rt (rn sh tb mN mO C rt (codeZ 127)) [.sipush (3), .ireturn] L st m := by rw [rn_eq, b_X7_needOf_21]
theorem r_X7_needOf_22 : rn sh tb mN mO C rt (codeZ 127) 22 L st m = exI sh tb mN mO C rt (rn sh tb mN mO C rt (codeZ 127)) [.ireturn] L st m := by rw [rn_eq, b_X7_needOf_22]
theorem r_X7_needOf_23 : rn sh tb mN mO C rt (codeZ 127) 23 L st m = exI sh tb mN mO C rt (rn sh tb mN mO C rt (codeZ 127)) [.iload 0, .sipush (2), .if_icmp .ne 32, .sipush (0), .goto 42] L st m := by rw [rn_eq, b_X7_needOf_23]
theorem r_X7_needOf_32 : rn sh tb mN mO C rt (codeZ 127) 32 L st m = exI sh tb mN mO C rt (rn sh tb mN mO C rt (codeZ 127)) [.iload 0, .sipush (3), .if_icmp .ne 41, .sipush (2), .goto 42] L st m := by rw [rn_eq, b_X7_needOf_32]
theorem r_X7_needOf_41 : rn sh tb mN mO C rt (codeZ 127) 41 L st m = exI sh tb mN mO C rt (rn sh tb mN mO C rt (codeZ 127)) [.sipush (1), .ireturn] L st m := by rw [rn_eq, b_X7_needOf_41]
theorem r_X7_needOf_42 : rn sh tb mN mO C rt (codeZ 127) 42 L st m = exI sh tb mN mO C rt (rn sh tb mN mO C rt (codeZ 127)) [.ireturn] L st m := by rw [rn_eq, b_X7_needOf_42]
theorem r_X7_lacksOf_0 : rn sh tb mN mO C rt (codeZ 128) 0 L st m = exI sh tb mN mO C rt (rn sh tb mN mO C rt (codeZ 128)) [.aload 0, .iload 1, .sipush (0), .invokevirtual 125, .iload 2, .invokestatic 127, .aload 0, .iload 1, .iload 2, .ifCond .eq 20, .sipush (2), .goto 21] L st m := by rw [rn_eq, b_X7_lacksOf_0]
theorem r_X7_lacksOf_20 : rn sh tb mN mO C rt (codeZ 128) 20 L st m = exI sh tb mN mO C rt (rn sh tb mN mO C rt (codeZ 128)) [.sipush (3), .invokevirtual 125, .isub, .istore 3, .iload 3, .ifCond .le 34, .iload 3, .goto 35] L st m := by rw [rn_eq, b_X7_lacksOf_20]
theorem r_X7_lacksOf_21 : rn sh tb mN mO C rt (codeZ 128) 21 L st m = exI sh tb mN mO C rt (rn sh tb mN mO C rt (codeZ 128)) [.invokevirtual 125, .isub, .istore 3, .iload 3, .ifCond .le 34, .iload 3, .goto 35] L st m := by rw [rn_eq, b_X7_lacksOf_21]
theorem r_X7_lacksOf_34 : rn sh tb mN mO C rt (codeZ 128) 34 L st m = exI sh tb mN mO C rt (rn sh tb mN mO C rt (codeZ 128)) [.sipush (0), .ireturn] L st m := by rw [rn_eq, b_X7_lacksOf_34]
theorem r_X7_lacksOf_35 : rn sh tb mN mO C rt (codeZ 128) 35 L st m = exI sh tb mN mO C rt (rn sh tb mN mO C rt (codeZ 128)) [.ireturn] L st m := by rw [rn_eq, b_X7_lacksOf_35]
theorem r_X7_lacks_0 : rn sh tb mN mO C rt (codeZ 129) 0 L st m = exI sh tb mN mO C rt (rn sh tb mN mO C rt (codeZ 129)) [.aload 0, .iload 1, .sipush (1), .invokevirtual 128, .aload 0, .iload 1, .sipush (0), .invokevirtual 128, .iadd, .ireturn] L st m := by rw [rn_eq, b_X7_lacks_0]
theorem r_X7_firstAt_0 : rn sh tb mN mO C rt (codeZ 130) 0 L st m = exI sh tb mN mO C rt (rn sh tb mN mO C rt (codeZ 130)) [.sipush (0), .istore 2, .goto_w 2] L st m := by rw [rn_eq, b_X7_firstAt_0]
theorem r_X7_firstAt_2 : rn sh tb mN mO C rt (codeZ 130) 2 L st m = exI sh tb mN mO C rt (rn sh tb mN mO C rt (codeZ 130)) [.iload 2, .aload 0, .getfield 701, .sipush (38), .iaload, .if_icmp .ge 40, .aload 0, .iload 2, .sipush (4), .invokevirtual 125, .ifCond .ne 34, .aload 0, .iload 2, .sipush (1), .invokevirtual 125, .iload 1, .if_icmp .ne 34, .iload 2, .ireturn] L st m := by rw [rn_eq, b_X7_firstAt_2]
theorem r_X7_firstAt_34 : rn sh tb mN mO C rt (codeZ 130) 34 L st m = exI sh tb mN mO C rt (rn sh tb mN mO C rt (codeZ 130)) [.iinc 2 (1), .goto 2] L st m := by rw [rn_eq, b_X7_firstAt_34]
theorem r_X7_firstAt_40 : rn sh tb mN mO C rt (codeZ 130) 40 L st m = exI sh tb mN mO C rt (rn sh tb mN mO C rt (codeZ 130)) [.sipush (-4), .ireturn] L st m := by rw [rn_eq, b_X7_firstAt_40]
theorem r_X7_villageGoes_0 : rn sh tb mN mO C rt (codeZ 131) 0 L st m = exI sh tb mN mO C rt (rn sh tb mN mO C rt (codeZ 131)) [.aload 0, .iload 1, .invokevirtual 130, .istore 2, .iload 2, .sipush (-4), .if_icmp .ne 13, .return_] L st m := by rw [rn_eq, b_X7_villageGoes_0]
theorem r_X7_villageGoes_13 : rn sh tb mN mO C rt (codeZ 131) 13 L st m = exI sh tb mN mO C rt (rn sh tb mN mO C rt (codeZ 131)) [.aload 0, .getfield 701, .sipush (39), .iaload, .aload 0, .iload 2, .invokevirtual 129, .imul, .istore 3, .iload 1, .sipush (1), .iadd, .aload 0, .getfield 703, .irem, .istore 4, .aload 0, .iload 2, .invokevirtual 129, .ifCond .ne 55, .aload 0, .iload 2, .sipush (4), .sipush (1), .invokevirtual 126, .goto 170] L st m := by rw [rn_eq, b_X7_villageGoes_13]
theorem r_X7_villageGoes_55 : rn sh tb mN mO C rt (codeZ 131) 55 L st m = exI sh tb mN mO C rt (rn sh tb mN mO C rt (codeZ 131)) [.iload 3, .aload 0, .getfield 701, .sipush (40), .iaload, .if_icmp .ge 104, .iload 3, .aload 0, .getfield 701, .sipush (2), .iload 1, .imul, .sipush (0), .iadd, .iaload, .if_icmp .gt 104, .aload 0, .getfield 701, .sipush (2), .iload 1, .imul, .sipush (0), .iadd, .dup2, .iaload, .iload 3, .isub, .iastore, .aload 0, .iload 2, .sipush (4), .sipush (1), .invokevirtual 126, .goto 170] L st m := by rw [rn_eq, b_X7_villageGoes_55]
theorem r_X7_villageGoes_104 : rn sh tb mN mO C rt (codeZ 131) 104 L st m = exI sh tb mN mO C rt (rn sh tb mN mO C rt (codeZ 131)) [.aload 0, .getfield 703, .sipush (1), .if_icmp .le 147, .aload 0, .getfield 701, .sipush (2), .iload 4, .imul, .sipush (1), .iadd, .iaload, .ifCond .ne 147, .aload 0, .iload 2, .sipush (1), .iload 4, .invokevirtual 126, .aload 0, .dup, .getfield 717, .sipush (1), .iadd, .putfield 717, .goto 170] L st m := by rw [rn_eq, b_X7_villageGoes_104]
theorem r_X7_villageGoes_147 : rn sh tb mN mO C rt (codeZ 131) 147 L st m = exI sh tb mN mO C rt (rn sh tb mN mO C rt (codeZ 131)) [.aload 0, .getfield 703, .sipush (1), .if_icmp .le 170, .aload 0, .getfield 701, .sipush (2), .iload 4, .imul, .sipush (1), .iadd, .dup2, .iaload, .sipush (1), .isub, .iastore, .return_] L st m := by rw [rn_eq, b_X7_villageGoes_147]
theorem r_X7_villageGoes_170 : rn sh tb mN mO C rt (codeZ 131) 170 L st m = exI sh tb mN mO C rt (rn sh tb mN mO C rt (codeZ 131)) [.return_] L st m := by rw [rn_eq, b_X7_villageGoes_170]
theorem r_X7_crownerComes_0 : rn sh tb mN mO C rt (codeZ 132) 0 L st m = exI sh tb mN mO C rt (rn sh tb mN mO C rt (codeZ 132)) [.sipush (0), .istore 1, .goto_w 2] L st m := by rw [rn_eq, b_X7_crownerComes_0]
theorem r_X7_crownerComes_2 : rn sh tb mN mO C rt (codeZ 132) 2 L st m = exI sh tb mN mO C rt (rn sh tb mN mO C rt (codeZ 132)) [.iload 1, .aload 0, .getfield 701, .sipush (38), .iaload, .if_icmp .ge 119, .aload 0, .iload 1, .sipush (4), .invokevirtual 125, .ifCond .ne 113, .aload 0, .iload 1, .sipush (1), .invokevirtual 125, .istore 2, .aload 0, .getfield 701, .sipush (2), .iload 2, .imul, .sipush (0), .iadd, .iaload, .aload 0, .getfield 701, .sipush (40), .iaload, .if_icmp .ge 53, .sipush (1), .goto 54] L st m := by rw [rn_eq, b_X7_crownerComes_2]
theorem r_X7_crownerComes_53 : rn sh tb mN mO C rt (codeZ 132) 53 L st m = exI sh tb mN mO C rt (rn sh tb mN mO C rt (codeZ 132)) [.sipush (0), .istore 3, .aload 0, .dup, .getfield 718, .iload 3, .invokestatic 102, .iload 2, .ishl, .ior, .putfield 718, .aload 0, .getfield 701, .sipush (2), .iload 2, .imul, .sipush (0), .iadd, .iload 3, .ifCond .eq 87, .sipush (0), .goto 105] L st m := by rw [rn_eq, b_X7_crownerComes_53]
theorem r_X7_crownerComes_54 : rn sh tb mN mO C rt (codeZ 132) 54 L st m = exI sh tb mN mO C rt (rn sh tb mN mO C rt (codeZ 132)) [.istore 3, .aload 0, .dup, .getfield 718, .iload 3, .invokestatic 102, .iload 2, .ishl, .ior, .putfield 718, .aload 0, .getfield 701, .sipush (2), .iload 2, .imul, .sipush (0), .iadd, .iload 3, .ifCond .eq 87, .sipush (0), .goto 105] L st m := by rw [rn_eq, b_X7_crownerComes_54]
theorem r_X7_crownerComes_87 : rn sh tb mN mO C rt (codeZ 132) 87 L st m = exI sh tb mN mO C rt (rn sh tb mN mO C rt (codeZ 132)) [.aload 0, .getfield 701, .sipush (2), .iload 2, .imul, .sipush (0), .iadd, .iaload, .aload 0, .getfield 701, .sipush (40), .iaload, .isub, .iastore, .aload 0, .iload 1, .sipush (4), .sipush (2), .invokevirtual 126, .iinc 1 (1), .goto 2] L st m := by rw [rn_eq, b_X7_crownerComes_87]
theorem r_X7_crownerComes_105 : rn sh tb mN mO C rt (codeZ 132) 105 L st m = exI sh tb mN mO C rt (rn sh tb mN mO C rt (codeZ 132)) [.iastore, .aload 0, .iload 1, .sipush (4), .sipush (2), .invokevirtual 126, .iinc 1 (1), .goto 2] L st m := by rw [rn_eq, b_X7_crownerComes_105]
theorem r_X7_crownerComes_113 : rn sh tb mN mO C rt (codeZ 132) 113 L st m = exI sh tb mN mO C rt (rn sh tb mN mO C rt (codeZ 132)) [.iinc 1 (1), .goto 2] L st m := by rw [rn_eq, b_X7_crownerComes_113]
theorem r_X7_crownerComes_119 : rn sh tb mN mO C rt (codeZ 132) 119 L st m = exI sh tb mN mO C rt (rn sh tb mN mO C rt (codeZ 132)) [.return_] L st m := by rw [rn_eq, b_X7_crownerComes_119]
theorem r_X7_nightGoes_0 : rn sh tb mN mO C rt (codeZ 133) 0 L st m = exI sh tb mN mO C rt (rn sh tb mN mO C rt (codeZ 133)) [.sipush (0), .istore 1, .goto_w 2] L st m := by rw [rn_eq, b_X7_nightGoes_0]
theorem r_X7_nightGoes_2 : rn sh tb mN mO C rt (codeZ 133) 2 L st m = exI sh tb mN mO C rt (rn sh tb mN mO C rt (codeZ 133)) [.iload 1, .aload 0, .getfield 703, .if_icmp .ge 26, .aload 0, .aload 0, .getfield 716, .iload 1, .iaload, .invokevirtual 131, .iinc 1 (1), .goto 2] L st m := by rw [rn_eq, b_X7_nightGoes_2]
theorem r_X7_nightGoes_26 : rn sh tb mN mO C rt (codeZ 133) 26 L st m = exI sh tb mN mO C rt (rn sh tb mN mO C rt (codeZ 133)) [.aload 0, .getfield 701, .sipush (42), .iaload, .sipush (1), .iadd, .aload 0, .getfield 701, .sipush (41), .iaload, .irem, .ifCond .ne 64, .aload 0, .invokevirtual 132, .aload 0, .getfield 701, .sipush (43), .dup2, .iaload, .aload 0, .getfield 718, .ior, .iastore, .aload 0, .getfield 701, .sipush (42), .dup2, .iaload, .sipush (1), .iadd, .iastore, .return_] L st m := by rw [rn_eq, b_X7_nightGoes_26]
theorem r_X7_nightGoes_64 : rn sh tb mN mO C rt (codeZ 133) 64 L st m = exI sh tb mN mO C rt (rn sh tb mN mO C rt (codeZ 133)) [.aload 0, .getfield 701, .sipush (42), .dup2, .iaload, .sipush (1), .iadd, .iastore, .return_] L st m := by rw [rn_eq, b_X7_nightGoes_64]
theorem r_X7_allMeans_0 : rn sh tb mN mO C rt (codeZ 134) 0 L st m = exI sh tb mN mO C rt (rn sh tb mN mO C rt (codeZ 134)) [.sipush (0), .istore 1, .sipush (0), .istore 2, .goto_w 4] L st m := by rw [rn_eq, b_X7_allMeans_0]
theorem r_X7_allMeans_4 : rn sh tb mN mO C rt (codeZ 134) 4 L st m = exI sh tb mN mO C rt (rn sh tb mN mO C rt (codeZ 134)) [.iload 2, .aload 0, .getfield 703, .if_icmp .ge 31, .iload 1, .aload 0, .getfield 701, .sipush (2), .iload 2, .imul, .sipush (0), .iadd, .iaload, .iadd, .istore 1, .iinc 2 (1), .goto 4] L st m := by rw [rn_eq, b_X7_allMeans_4]
theorem r_X7_allMeans_31 : rn sh tb mN mO C rt (codeZ 134) 31 L st m = exI sh tb mN mO C rt (rn sh tb mN mO C rt (codeZ 134)) [.iload 1, .ireturn] L st m := by rw [rn_eq, b_X7_allMeans_31]
theorem r_X7_paidIn_0 : rn sh tb mN mO C rt (codeZ 135) 0 L st m = exI sh tb mN mO C rt (rn sh tb mN mO C rt (codeZ 135)) [.aload 0, .invokevirtual 134, .istore 2, .aload 0, .sipush (0), .putfield 717, .aload 0, .sipush (0), .putfield 718, .sipush (0), .istore 3, .goto_w 17] L st m := by rw [rn_eq, b_X7_paidIn_0]
theorem r_X7_paidIn_17 : rn sh tb mN mO C rt (codeZ 135) 17 L st m = exI sh tb mN mO C rt (rn sh tb mN mO C rt (codeZ 135)) [.iload 3, .iload 1, .if_icmp .ge 32, .aload 0, .invokevirtual 133, .iinc 3 (1), .goto 17] L st m := by rw [rn_eq, b_X7_paidIn_17]
theorem r_X7_paidIn_32 : rn sh tb mN mO C rt (codeZ 135) 32 L st m = exI sh tb mN mO C rt (rn sh tb mN mO C rt (codeZ 135)) [.iload 2, .aload 0, .invokevirtual 134, .isub, .ireturn] L st m := by rw [rn_eq, b_X7_paidIn_32]
theorem r_X7_inWay_0 : rn sh tb mN mO C rt (codeZ 136) 0 L st m = exI sh tb mN mO C rt (rn sh tb mN mO C rt (codeZ 136)) [.sipush (0), .istore 2, .sipush (0), .istore 3, .goto_w 4] L st m := by rw [rn_eq, b_X7_inWay_0]
theorem r_X7_inWay_4 : rn sh tb mN mO C rt (codeZ 136) 4 L st m = exI sh tb mN mO C rt (rn sh tb mN mO C rt (codeZ 136)) [.iload 3, .aload 0, .getfield 701, .sipush (38), .iaload, .if_icmp .ge 44, .iload 2, .aload 0, .iload 3, .sipush (4), .invokevirtual 125, .iload 1, .if_icmp .ne 30, .sipush (1), .goto 31] L st m := by rw [rn_eq, b_X7_inWay_4]
theorem r_X7_inWay_30 : rn sh tb mN mO C rt (codeZ 136) 30 L st m = exI sh tb mN mO C rt (rn sh tb mN mO C rt (codeZ 136)) [.sipush (0), .invokestatic 102, .iload 3, .ishl, .ior, .istore 2, .iinc 3 (1), .goto 4] L st m := by rw [rn_eq, b_X7_inWay_30]
theorem r_X7_inWay_31 : rn sh tb mN mO C rt (codeZ 136) 31 L st m = exI sh tb mN mO C rt (rn sh tb mN mO C rt (codeZ 136)) [.invokestatic 102, .iload 3, .ishl, .ior, .istore 2, .iinc 3 (1), .goto 4] L st m := by rw [rn_eq, b_X7_inWay_31]
theorem r_X7_inWay_44 : rn sh tb mN mO C rt (codeZ 136) 44 L st m = exI sh tb mN mO C rt (rn sh tb mN mO C rt (codeZ 136)) [.iload 2, .ireturn] L st m := by rw [rn_eq, b_X7_inWay_44]
theorem r_X7_bitsOf_0 : rn sh tb mN mO C rt (codeZ 137) 0 L st m = exI sh tb mN mO C rt (rn sh tb mN mO C rt (codeZ 137)) [.sipush (0), .istore 1, .sipush (0), .istore 2, .goto_w 4] L st m := by rw [rn_eq, b_X7_bitsOf_0]
theorem r_X7_bitsOf_4 : rn sh tb mN mO C rt (codeZ 137) 4 L st m = exI sh tb mN mO C rt (rn sh tb mN mO C rt (codeZ 137)) [.iload 2, .sipush (6), .if_icmp .ge 24, .iload 1, .iload 0, .iload 2, .ishr, .sipush (1), .iand, .iadd, .istore 1, .iinc 2 (1), .goto 4] L st m := by rw [rn_eq, b_X7_bitsOf_4]
theorem r_X7_bitsOf_24 : rn sh tb mN mO C rt (codeZ 137) 24 L st m = exI sh tb mN mO C rt (rn sh tb mN mO C rt (codeZ 137)) [.iload 1, .ireturn] L st m := by rw [rn_eq, b_X7_bitsOf_24]
theorem r_X7_lesser_0 : rn sh tb mN mO C rt (codeZ 138) 0 L st m = exI sh tb mN mO C rt (rn sh tb mN mO C rt (codeZ 138)) [.iload 0, .iload 1, .if_icmp .ge 9, .iload 0, .goto 10] L st m := by rw [rn_eq, b_X7_lesser_0]
theorem r_X7_lesser_9 : rn sh tb mN mO C rt (codeZ 138) 9 L st m = exI sh tb mN mO C rt (rn sh tb mN mO C rt (codeZ 138)) [.iload 1, .ireturn] L st m := by rw [rn_eq, b_X7_lesser_9]
theorem r_X7_lesser_10 : rn sh tb mN mO C rt (codeZ 138) 10 L st m = exI sh tb mN mO C rt (rn sh tb mN mO C rt (codeZ 138)) [.ireturn] L st m := by rw [rn_eq, b_X7_lesser_10]
theorem r_X7_rule_0 : rn sh tb mN mO C rt (codeZ 139) 0 L st m = exI sh tb mN mO C rt (rn sh tb mN mO C rt (codeZ 139)) [.aload 0, .invokevirtual 123, .iload 1, .tableswitch 94 (0) (9) #[60, 65, 65, 65, 65, 65, 77, 77, 77, 86]] L st m := by rw [rn_eq, b_X7_rule_0]
theorem r_X7_rule_60 : rn sh tb mN mO C rt (codeZ 139) 60 L st m = exI sh tb mN mO C rt (rn sh tb mN mO C rt (codeZ 139)) [.aload 0, .getfield 703, .ireturn] L st m := by rw [rn_eq, b_X7_rule_60]
theorem r_X7_rule_65 : rn sh tb mN mO C rt (codeZ 139) 65 L st m = exI sh tb mN mO C rt (rn sh tb mN mO C rt (codeZ 139)) [.aload 0, .getfield 700, .sipush (38), .iload 1, .iadd, .sipush (1), .isub, .iaload, .ireturn] L st m := by rw [rn_eq, b_X7_rule_65]
theorem r_X7_rule_77 : rn sh tb mN mO C rt (codeZ 139) 77 L st m = exI sh tb mN mO C rt (rn sh tb mN mO C rt (codeZ 139)) [.aload 0, .iload 1, .sipush (6), .isub, .invokevirtual 136, .ireturn] L st m := by rw [rn_eq, b_X7_rule_77]
theorem r_X7_rule_86 : rn sh tb mN mO C rt (codeZ 139) 86 L st m = exI sh tb mN mO C rt (rn sh tb mN mO C rt (codeZ 139)) [.aload 0, .getfield 700, .sipush (43), .iaload, .ireturn] L st m := by rw [rn_eq, b_X7_rule_86]
theorem r_X7_rule_94 : rn sh tb mN mO C rt (codeZ 139) 94 L st m = exI sh tb mN mO C rt (rn sh tb mN mO C rt (codeZ 139)) [.sipush (-1), .ireturn] L st m := by rw [rn_eq, b_X7_rule_94]
theorem r_X7_village_0 : rn sh tb mN mO C rt (codeZ 140) 0 L st m = exI sh tb mN mO C rt (rn sh tb mN mO C rt (codeZ 140)) [.aload 0, .iload 1, .invokevirtual 120, .ifCond .eq 20, .iload 2, .i2l, .jsr (0), .jsr (2), .invokestatic 101, .ifCond .ne 22, .sipush (-1), .ireturn] L st m := by rw [rn_eq, b_X7_village_0]
theorem r_X7_village_20 : rn sh tb mN mO C rt (codeZ 140) 20 L st m = exI sh tb mN mO C rt (rn sh tb mN mO C rt (codeZ 140)) [.sipush (-1), .ireturn] L st m := by rw [rn_eq, b_X7_village_20]
theorem r_X7_village_22 : rn sh tb mN mO C rt (codeZ 140) 22 L st m = exI sh tb mN mO C rt (rn sh tb mN mO C rt (codeZ 140)) [.aload 0, .invokevirtual 123, .sipush (0), .istore 3, .sipush (0), .istore 4, .goto_w 31] L st m := by rw [rn_eq, b_X7_village_22]
theorem r_X7_village_31 : rn sh tb mN mO C rt (codeZ 140) 31 L st m = exI sh tb mN mO C rt (rn sh tb mN mO C rt (codeZ 140)) [.iload 4, .aload 0, .getfield 701, .sipush (38), .iaload, .if_icmp .ge 84, .iload 3, .aload 0, .iload 4, .sipush (4), .invokevirtual 125, .ifCond .ne 69, .aload 0, .iload 4, .sipush (1), .invokevirtual 125, .iload 1, .if_icmp .ne 69, .sipush (1), .goto 70] L st m := by rw [rn_eq, b_X7_village_31]
theorem r_X7_village_69 : rn sh tb mN mO C rt (codeZ 140) 69 L st m = exI sh tb mN mO C rt (rn sh tb mN mO C rt (codeZ 140)) [.sipush (0), .invokestatic 102, .iload 4, .ishl, .ior, .istore 3, .iinc 4 (1), .goto 31] L st m := by rw [rn_eq, b_X7_village_69]
theorem r_X7_village_70 : rn sh tb mN mO C rt (codeZ 140) 70 L st m = exI sh tb mN mO C rt (rn sh tb mN mO C rt (codeZ 140)) [.invokestatic 102, .iload 4, .ishl, .ior, .istore 3, .iinc 4 (1), .goto 31] L st m := by rw [rn_eq, b_X7_village_70]
theorem r_X7_village_84 : rn sh tb mN mO C rt (codeZ 140) 84 L st m = exI sh tb mN mO C rt (rn sh tb mN mO C rt (codeZ 140)) [.iload 2, .sipush (2), .if_icmp .ge 102, .aload 0, .getfield 700, .sipush (2), .iload 1, .imul, .iload 2, .iadd, .iaload, .goto 103] L st m := by rw [rn_eq, b_X7_village_84]
theorem r_X7_village_102 : rn sh tb mN mO C rt (codeZ 140) 102 L st m = exI sh tb mN mO C rt (rn sh tb mN mO C rt (codeZ 140)) [.iload 3, .ireturn] L st m := by rw [rn_eq, b_X7_village_102]
theorem r_X7_village_103 : rn sh tb mN mO C rt (codeZ 140) 103 L st m = exI sh tb mN mO C rt (rn sh tb mN mO C rt (codeZ 140)) [.ireturn] L st m := by rw [rn_eq, b_X7_village_103]
theorem r_X7_body_0 : rn sh tb mN mO C rt (codeZ 141) 0 L st m = exI sh tb mN mO C rt (rn sh tb mN mO C rt (codeZ 141)) [.aload 0, .iload 1, .invokevirtual 121, .ifCond .eq 20, .iload 2, .i2l, .jsr (0), .jsr (5), .invokestatic 101, .ifCond .ne 22, .sipush (-1), .ireturn] L st m := by rw [rn_eq, b_X7_body_0]
theorem r_X7_body_20 : rn sh tb mN mO C rt (codeZ 141) 20 L st m = exI sh tb mN mO C rt (rn sh tb mN mO C rt (codeZ 141)) [.sipush (-1), .ireturn] L st m := by rw [rn_eq, b_X7_body_20]
theorem r_X7_body_22 : rn sh tb mN mO C rt (codeZ 141) 22 L st m = exI sh tb mN mO C rt (rn sh tb mN mO C rt (codeZ 141)) [.aload 0, .invokevirtual 123, .iload 2, .sipush (5), .if_icmp .ge 40, .aload 0, .iload 1, .iload 2, .invokevirtual 125, .goto 45] L st m := by rw [rn_eq, b_X7_body_22]
theorem r_X7_body_40 : rn sh tb mN mO C rt (codeZ 141) 40 L st m = exI sh tb mN mO C rt (rn sh tb mN mO C rt (codeZ 141)) [.aload 0, .iload 1, .invokevirtual 129, .ireturn] L st m := by rw [rn_eq, b_X7_body_40]
theorem r_X7_body_45 : rn sh tb mN mO C rt (codeZ 141) 45 L st m = exI sh tb mN mO C rt (rn sh tb mN mO C rt (codeZ 141)) [.ireturn] L st m := by rw [rn_eq, b_X7_body_45]
theorem r_X7_becomes_0 : rn sh tb mN mO C rt (codeZ 142) 0 L st m = exI sh tb mN mO C rt (rn sh tb mN mO C rt (codeZ 142)) [.aload 0, .getfield 700, .iload 1, .iaload, .istore 3, .aload 0, .getfield 700, .iload 1, .iload 2, .iastore, .iload 3, .ireturn] L st m := by rw [rn_eq, b_X7_becomes_0]
theorem r_X7_grant_0 : rn sh tb mN mO C rt (codeZ 143) 0 L st m = exI sh tb mN mO C rt (rn sh tb mN mO C rt (codeZ 143)) [.aload 0, .iload 1, .invokevirtual 120, .ifCond .eq 50, .iload 2, .invokestatic 122, .ifCond .eq 50, .iload 3, .i2l, .jsr (0), .iload 2, .ifCond .ne 28, .jsr (99), .goto 31] L st m := by rw [rn_eq, b_X7_grant_0]
theorem r_X7_grant_28 : rn sh tb mN mO C rt (codeZ 143) 28 L st m = exI sh tb mN mO C rt (rn sh tb mN mO C rt (codeZ 143)) [.jsr (9), .invokestatic 101, .ifCond .eq 50, .aload 0, .sipush (2), .iload 1, .imul, .iload 2, .iadd, .iload 3, .invokevirtual 142, .goto 51] L st m := by rw [rn_eq, b_X7_grant_28]
theorem r_X7_grant_31 : rn sh tb mN mO C rt (codeZ 143) 31 L st m = exI sh tb mN mO C rt (rn sh tb mN mO C rt (codeZ 143)) [.invokestatic 101, .ifCond .eq 50, .aload 0, .sipush (2), .iload 1, .imul, .iload 2, .iadd, .iload 3, .invokevirtual 142, .goto 51] L st m := by rw [rn_eq, b_X7_grant_31]
theorem r_X7_grant_50 : rn sh tb mN mO C rt (codeZ 143) 50 L st m = exI sh tb mN mO C rt (rn sh tb mN mO C rt (codeZ 143)) [.sipush (-1), .ireturn] L st m := by rw [rn_eq, b_X7_grant_50]
theorem r_X7_grant_51 : rn sh tb mN mO C rt (codeZ 143) 51 L st m = exI sh tb mN mO C rt (rn sh tb mN mO C rt (codeZ 143)) [.ireturn] L st m := by rw [rn_eq, b_X7_grant_51]
theorem r_X7_liesStill_0 : rn sh tb mN mO C rt (codeZ 144) 0 L st m = exI sh tb mN mO C rt (rn sh tb mN mO C rt (codeZ 144)) [.aload 0, .getfield 700, .sipush (8), .sipush (5), .iload 1, .imul, .iadd, .sipush (4), .iadd, .iaload, .ifCond .ne 20, .sipush (1), .goto 21] L st m := by rw [rn_eq, b_X7_liesStill_0]
theorem r_X7_liesStill_20 : rn sh tb mN mO C rt (codeZ 144) 20 L st m = exI sh tb mN mO C rt (rn sh tb mN mO C rt (codeZ 144)) [.sipush (0), .ireturn] L st m := by rw [rn_eq, b_X7_liesStill_20]
theorem r_X7_liesStill_21 : rn sh tb mN mO C rt (codeZ 144) 21 L st m = exI sh tb mN mO C rt (rn sh tb mN mO C rt (codeZ 144)) [.ireturn] L st m := by rw [rn_eq, b_X7_liesStill_21]
theorem r_X7_alter_0 : rn sh tb mN mO C rt (codeZ 145) 0 L st m = exI sh tb mN mO C rt (rn sh tb mN mO C rt (codeZ 145)) [.iload 2, .ifCond .ne 16, .iload 3, .i2l, .jsr (0), .jsr (3), .invokestatic 101, .goto 60] L st m := by rw [rn_eq, b_X7_alter_0]
theorem r_X7_alter_16 : rn sh tb mN mO C rt (codeZ 145) 16 L st m = exI sh tb mN mO C rt (rn sh tb mN mO C rt (codeZ 145)) [.iload 2, .sipush (1), .if_icmp .ne 29, .aload 0, .iload 3, .invokevirtual 120, .goto 60] L st m := by rw [rn_eq, b_X7_alter_16]
theorem r_X7_alter_29 : rn sh tb mN mO C rt (codeZ 145) 29 L st m = exI sh tb mN mO C rt (rn sh tb mN mO C rt (codeZ 145)) [.iload 2, .i2l, .jsr (2), .jsr (3), .invokestatic 101, .ifCond .eq 59, .iload 3, .i2l, .jsr (0), .jsr (9), .invokestatic 101, .ifCond .eq 59, .sipush (1), .goto 60] L st m := by rw [rn_eq, b_X7_alter_29]
theorem r_X7_alter_59 : rn sh tb mN mO C rt (codeZ 145) 59 L st m = exI sh tb mN mO C rt (rn sh tb mN mO C rt (codeZ 145)) [.sipush (0), .istore 4, .aload 0, .iload 1, .invokevirtual 121, .ifCond .eq 75, .iload 4, .ifCond .ne 77, .sipush (-1), .ireturn] L st m := by rw [rn_eq, b_X7_alter_59]
theorem r_X7_alter_60 : rn sh tb mN mO C rt (codeZ 145) 60 L st m = exI sh tb mN mO C rt (rn sh tb mN mO C rt (codeZ 145)) [.istore 4, .aload 0, .iload 1, .invokevirtual 121, .ifCond .eq 75, .iload 4, .ifCond .ne 77, .sipush (-1), .ireturn] L st m := by rw [rn_eq, b_X7_alter_60]
theorem r_X7_alter_75 : rn sh tb mN mO C rt (codeZ 145) 75 L st m = exI sh tb mN mO C rt (rn sh tb mN mO C rt (codeZ 145)) [.sipush (-1), .ireturn] L st m := by rw [rn_eq, b_X7_alter_75]
theorem r_X7_alter_77 : rn sh tb mN mO C rt (codeZ 145) 77 L st m = exI sh tb mN mO C rt (rn sh tb mN mO C rt (codeZ 145)) [.aload 0, .iload 1, .invokevirtual 144, .ifCond .eq 101, .aload 0, .sipush (8), .sipush (5), .iload 1, .imul, .iadd, .iload 2, .iadd, .iload 3, .invokevirtual 142, .goto 103] L st m := by rw [rn_eq, b_X7_alter_77]
theorem r_X7_alter_101 : rn sh tb mN mO C rt (codeZ 145) 101 L st m = exI sh tb mN mO C rt (rn sh tb mN mO C rt (codeZ 145)) [.sipush (-2), .ireturn] L st m := by rw [rn_eq, b_X7_alter_101]
theorem r_X7_alter_103 : rn sh tb mN mO C rt (codeZ 145) 103 L st m = exI sh tb mN mO C rt (rn sh tb mN mO C rt (codeZ 145)) [.ireturn] L st m := by rw [rn_eq, b_X7_alter_103]
theorem r_X7_set_0 : rn sh tb mN mO C rt (codeZ 146) 0 L st m = exI sh tb mN mO C rt (rn sh tb mN mO C rt (codeZ 146)) [.iload 1, .sipush (2), .if_icmp .ne 17, .iload 2, .i2l, .jsr (0), .jsr (20), .invokestatic 101, .goto 56] L st m := by rw [rn_eq, b_X7_set_0]
theorem r_X7_set_17 : rn sh tb mN mO C rt (codeZ 146) 17 L st m = exI sh tb mN mO C rt (rn sh tb mN mO C rt (codeZ 146)) [.iload 1, .sipush (3), .if_icmp .ne 34, .iload 2, .i2l, .jsr (0), .jsr (60), .invokestatic 101, .goto 56] L st m := by rw [rn_eq, b_X7_set_17]
theorem r_X7_set_34 : rn sh tb mN mO C rt (codeZ 146) 34 L st m = exI sh tb mN mO C rt (rn sh tb mN mO C rt (codeZ 146)) [.iload 1, .sipush (4), .if_icmp .ne 55, .iload 2, .i2l, .jsr (1), .jsr (9), .invokestatic 101, .ifCond .eq 55, .sipush (1), .goto 56] L st m := by rw [rn_eq, b_X7_set_34]
theorem r_X7_set_55 : rn sh tb mN mO C rt (codeZ 146) 55 L st m = exI sh tb mN mO C rt (rn sh tb mN mO C rt (codeZ 146)) [.sipush (0), .istore 3, .iload 3, .ifCond .eq 75, .aload 0, .sipush (39), .iload 1, .iadd, .sipush (2), .isub, .iload 2, .invokevirtual 142, .goto 76] L st m := by rw [rn_eq, b_X7_set_55]
theorem r_X7_set_56 : rn sh tb mN mO C rt (codeZ 146) 56 L st m = exI sh tb mN mO C rt (rn sh tb mN mO C rt (codeZ 146)) [.istore 3, .iload 3, .ifCond .eq 75, .aload 0, .sipush (39), .iload 1, .iadd, .sipush (2), .isub, .iload 2, .invokevirtual 142, .goto 76] L st m := by rw [rn_eq, b_X7_set_56]
theorem r_X7_set_75 : rn sh tb mN mO C rt (codeZ 146) 75 L st m = exI sh tb mN mO C rt (rn sh tb mN mO C rt (codeZ 146)) [.sipush (-1), .ireturn] L st m := by rw [rn_eq, b_X7_set_75]
theorem r_X7_set_76 : rn sh tb mN mO C rt (codeZ 146) 76 L st m = exI sh tb mN mO C rt (rn sh tb mN mO C rt (codeZ 146)) [.ireturn] L st m := by rw [rn_eq, b_X7_set_76]
theorem r_X7_find_0 : rn sh tb mN mO C rt (codeZ 147) 0 L st m = exI sh tb mN mO C rt (rn sh tb mN mO C rt (codeZ 147)) [.iload 1, .i2l, .jsr (0), .jsr (3), .invokestatic 101, .ifCond .eq 45, .aload 0, .iload 2, .invokevirtual 120, .ifCond .eq 45, .iload 3, .i2l, .jsr (0), .jsr (9), .invokestatic 101, .ifCond .eq 45, .iload 4, .i2l, .jsr (0), .jsr (9), .invokestatic 101, .ifCond .ne 47, .sipush (-1), .ireturn] L st m := by rw [rn_eq, b_X7_find_0]
theorem r_X7_find_45 : rn sh tb mN mO C rt (codeZ 147) 45 L st m = exI sh tb mN mO C rt (rn sh tb mN mO C rt (codeZ 147)) [.sipush (-1), .ireturn] L st m := by rw [rn_eq, b_X7_find_45]
theorem r_X7_find_47 : rn sh tb mN mO C rt (codeZ 147) 47 L st m = exI sh tb mN mO C rt (rn sh tb mN mO C rt (codeZ 147)) [.aload 0, .getfield 700, .sipush (38), .iaload, .sipush (6), .if_icmp .ne 62, .sipush (-3), .ireturn] L st m := by rw [rn_eq, b_X7_find_47]
theorem r_X7_find_62 : rn sh tb mN mO C rt (codeZ 147) 62 L st m = exI sh tb mN mO C rt (rn sh tb mN mO C rt (codeZ 147)) [.sipush (8), .sipush (5), .aload 0, .getfield 700, .sipush (38), .iaload, .imul, .iadd, .istore 5, .aload 0, .getfield 700, .iload 5, .sipush (0), .iadd, .iload 1, .iastore, .aload 0, .getfield 700, .iload 5, .sipush (1), .iadd, .iload 2, .iastore, .aload 0, .getfield 700, .iload 5, .sipush (2), .iadd, .iload 3, .iastore, .aload 0, .getfield 700, .iload 5, .sipush (3), .iadd, .iload 4, .iastore, .aload 0, .getfield 700, .iload 5, .sipush (4), .iadd, .sipush (0), .iastore, .aload 0, .getfield 700, .sipush (38), .dup2, .iaload, .sipush (1), .iadd, .iastore, .aload 0, .getfield 700, .sipush (38), .iaload, .sipush (1), .isub, .ireturn] L st m := by rw [rn_eq, b_X7_find_62]
theorem r_X7_hire_0 : rn sh tb mN mO C rt (codeZ 148) 0 L st m = exI sh tb mN mO C rt (rn sh tb mN mO C rt (codeZ 148)) [.aload 0, .iload 1, .invokevirtual 121, .ifCond .ne 10, .sipush (-1), .ireturn] L st m := by rw [rn_eq, b_X7_hire_0]
theorem r_X7_hire_10 : rn sh tb mN mO C rt (codeZ 148) 10 L st m = exI sh tb mN mO C rt (rn sh tb mN mO C rt (codeZ 148)) [.aload 0, .invokevirtual 123, .aload 0, .iload 1, .sipush (1), .invokevirtual 125, .istore 2, .aload 0, .iload 1, .invokevirtual 144, .ifCond .eq 57, .aload 0, .iload 1, .invokevirtual 129, .ifCond .eq 57, .aload 0, .getfield 701, .sipush (2), .iload 2, .imul, .sipush (0), .iadd, .iaload, .aload 0, .getfield 701, .sipush (39), .iaload, .if_icmp .ge 60, .sipush (-2), .ireturn] L st m := by rw [rn_eq, b_X7_hire_10]
theorem r_X7_hire_57 : rn sh tb mN mO C rt (codeZ 148) 57 L st m = exI sh tb mN mO C rt (rn sh tb mN mO C rt (codeZ 148)) [.sipush (-2), .ireturn] L st m := by rw [rn_eq, b_X7_hire_57]
theorem r_X7_hire_60 : rn sh tb mN mO C rt (codeZ 148) 60 L st m = exI sh tb mN mO C rt (rn sh tb mN mO C rt (codeZ 148)) [.aload 0, .iload 1, .sipush (1), .invokevirtual 128, .ifCond .le 73, .sipush (2), .goto 74] L st m := by rw [rn_eq, b_X7_hire_60]
theorem r_X7_hire_73 : rn sh tb mN mO C rt (codeZ 148) 73 L st m = exI sh tb mN mO C rt (rn sh tb mN mO C rt (codeZ 148)) [.sipush (3), .istore 3, .aload 0, .getfield 701, .sipush (2), .iload 2, .imul, .sipush (0), .iadd, .dup2, .iaload, .aload 0, .getfield 701, .sipush (39), .iaload, .isub, .iastore, .aload 0, .iload 1, .iload 3, .aload 0, .iload 1, .iload 3, .invokevirtual 125, .sipush (1), .iadd, .invokevirtual 126, .aload 0, .invokevirtual 124, .aload 0, .iload 1, .invokevirtual 129, .ireturn] L st m := by rw [rn_eq, b_X7_hire_73]
theorem r_X7_hire_74 : rn sh tb mN mO C rt (codeZ 148) 74 L st m = exI sh tb mN mO C rt (rn sh tb mN mO C rt (codeZ 148)) [.istore 3, .aload 0, .getfield 701, .sipush (2), .iload 2, .imul, .sipush (0), .iadd, .dup2, .iaload, .aload 0, .getfield 701, .sipush (39), .iaload, .isub, .iastore, .aload 0, .iload 1, .iload 3, .aload 0, .iload 1, .iload 3, .invokevirtual 125, .sipush (1), .iadd, .invokevirtual 126, .aload 0, .invokevirtual 124, .aload 0, .iload 1, .invokevirtual 129, .ireturn] L st m := by rw [rn_eq, b_X7_hire_74]
theorem r_X7_nights_0 : rn sh tb mN mO C rt (codeZ 149) 0 L st m = exI sh tb mN mO C rt (rn sh tb mN mO C rt (codeZ 149)) [.iload 1, .i2l, .jsr (0), .jsr (30), .invokestatic 101, .ifCond .ne 14, .sipush (-1), .ireturn] L st m := by rw [rn_eq, b_X7_nights_0]
theorem r_X7_nights_14 : rn sh tb mN mO C rt (codeZ 149) 14 L st m = exI sh tb mN mO C rt (rn sh tb mN mO C rt (codeZ 149)) [.aload 0, .getfield 700, .sipush (42), .iaload, .iload 1, .iadd, .sipush (999), .if_icmp .le 32, .sipush (-3), .ireturn] L st m := by rw [rn_eq, b_X7_nights_14]
theorem r_X7_nights_32 : rn sh tb mN mO C rt (codeZ 149) 32 L st m = exI sh tb mN mO C rt (rn sh tb mN mO C rt (codeZ 149)) [.aload 0, .invokevirtual 123, .aload 0, .iload 1, .invokevirtual 135, .istore 2, .aload 0, .invokevirtual 124, .iload 2, .ireturn] L st m := by rw [rn_eq, b_X7_nights_32]
theorem r_X7_runs_0 : rn sh tb mN mO C rt (codeZ 150) 0 L st m = exI sh tb mN mO C rt (rn sh tb mN mO C rt (codeZ 150)) [.iload 1, .i2l, .jsr (0), .jsr (30), .invokestatic 101, .ifCond .eq 24, .iload 2, .i2l, .jsr (0), .jsr (4), .invokestatic 101, .ifCond .ne 26, .sipush (-1), .ireturn] L st m := by rw [rn_eq, b_X7_runs_0]
theorem r_X7_runs_24 : rn sh tb mN mO C rt (codeZ 150) 24 L st m = exI sh tb mN mO C rt (rn sh tb mN mO C rt (codeZ 150)) [.sipush (-1), .ireturn] L st m := by rw [rn_eq, b_X7_runs_24]
theorem r_X7_runs_26 : rn sh tb mN mO C rt (codeZ 150) 26 L st m = exI sh tb mN mO C rt (rn sh tb mN mO C rt (codeZ 150)) [.aload 0, .invokevirtual 123, .aload 0, .iload 1, .invokevirtual 135, .istore 3, .iload 2, .tableswitch 81 (0) (3) #[68, 70, 70, 76]] L st m := by rw [rn_eq, b_X7_runs_26]
theorem r_X7_runs_68 : rn sh tb mN mO C rt (codeZ 150) 68 L st m = exI sh tb mN mO C rt (rn sh tb mN mO C rt (codeZ 150)) [.iload 3, .ireturn] L st m := by rw [rn_eq, b_X7_runs_68]
theorem r_X7_runs_70 : rn sh tb mN mO C rt (codeZ 150) 70 L st m = exI sh tb mN mO C rt (rn sh tb mN mO C rt (codeZ 150)) [.aload 0, .iload 2, .invokevirtual 136, .ireturn] L st m := by rw [rn_eq, b_X7_runs_70]
theorem r_X7_runs_76 : rn sh tb mN mO C rt (codeZ 150) 76 L st m = exI sh tb mN mO C rt (rn sh tb mN mO C rt (codeZ 150)) [.aload 0, .getfield 717, .ireturn] L st m := by rw [rn_eq, b_X7_runs_76]
theorem r_X7_runs_81 : rn sh tb mN mO C rt (codeZ 150) 81 L st m = exI sh tb mN mO C rt (rn sh tb mN mO C rt (codeZ 150)) [.aload 0, .getfield 718, .ireturn] L st m := by rw [rn_eq, b_X7_runs_81]
theorem r_X7_ahead_0 : rn sh tb mN mO C rt (codeZ 151) 0 L st m = exI sh tb mN mO C rt (rn sh tb mN mO C rt (codeZ 151)) [.aload 0, .iload 1, .invokevirtual 121, .ifCond .eq 27, .iload 2, .i2l, .jsr (0), .jsr (30), .invokestatic 101, .ifCond .eq 27, .iload 3, .invokestatic 122, .ifCond .ne 29, .sipush (-1), .ireturn] L st m := by rw [rn_eq, b_X7_ahead_0]
theorem r_X7_ahead_27 : rn sh tb mN mO C rt (codeZ 151) 27 L st m = exI sh tb mN mO C rt (rn sh tb mN mO C rt (codeZ 151)) [.sipush (-1), .ireturn] L st m := by rw [rn_eq, b_X7_ahead_27]
theorem r_X7_ahead_29 : rn sh tb mN mO C rt (codeZ 151) 29 L st m = exI sh tb mN mO C rt (rn sh tb mN mO C rt (codeZ 151)) [.aload 0, .invokevirtual 123, .aload 0, .iload 2, .invokevirtual 135, .pop, .aload 0, .iload 1, .iload 3, .ifCond .ne 49, .sipush (1), .goto 50] L st m := by rw [rn_eq, b_X7_ahead_29]
theorem r_X7_ahead_49 : rn sh tb mN mO C rt (codeZ 151) 49 L st m = exI sh tb mN mO C rt (rn sh tb mN mO C rt (codeZ 151)) [.sipush (4), .invokevirtual 125, .ireturn] L st m := by rw [rn_eq, b_X7_ahead_49]
theorem r_X7_ahead_50 : rn sh tb mN mO C rt (codeZ 151) 50 L st m = exI sh tb mN mO C rt (rn sh tb mN mO C rt (codeZ 151)) [.invokevirtual 125, .ireturn] L st m := by rw [rn_eq, b_X7_ahead_50]
theorem r_X7_settled_0 : rn sh tb mN mO C rt (codeZ 152) 0 L st m = exI sh tb mN mO C rt (rn sh tb mN mO C rt (codeZ 152)) [.aload 0, .iload 1, .invokevirtual 121, .ifCond .ne 10, .sipush (-1), .ireturn] L st m := by rw [rn_eq, b_X7_settled_0]
theorem r_X7_settled_10 : rn sh tb mN mO C rt (codeZ 152) 10 L st m = exI sh tb mN mO C rt (rn sh tb mN mO C rt (codeZ 152)) [.aload 0, .invokevirtual 123, .sipush (0), .istore 2, .goto_w 16] L st m := by rw [rn_eq, b_X7_settled_10]
theorem r_X7_settled_16 : rn sh tb mN mO C rt (codeZ 152) 16 L st m = exI sh tb mN mO C rt (rn sh tb mN mO C rt (codeZ 152)) [.iload 2, .sipush (30), .if_icmp .gt 43, .aload 0, .iload 1, .sipush (4), .invokevirtual 125, .ifCond .eq 33, .iload 2, .ireturn] L st m := by rw [rn_eq, b_X7_settled_16]
theorem r_X7_settled_33 : rn sh tb mN mO C rt (codeZ 152) 33 L st m = exI sh tb mN mO C rt (rn sh tb mN mO C rt (codeZ 152)) [.aload 0, .invokevirtual 133, .iinc 2 (1), .goto 16] L st m := by rw [rn_eq, b_X7_settled_33]
theorem r_X7_settled_43 : rn sh tb mN mO C rt (codeZ 152) 43 L st m = exI sh tb mN mO C rt (rn sh tb mN mO C rt (codeZ 152)) [.sipush (-4), .ireturn] L st m := by rw [rn_eq, b_X7_settled_43]
theorem r_X7_isJudged_0 : rn sh tb mN mO C rt (codeZ 153) 0 L st m = exI sh tb mN mO C rt (rn sh tb mN mO C rt (codeZ 153)) [.iload 0, .i2l, .jsr (0), .jsr (20), .invokestatic 101, .ireturn] L st m := by rw [rn_eq, b_X7_isJudged_0]
theorem r_X7_paidWith_0 : rn sh tb mN mO C rt (codeZ 154) 0 L st m = exI sh tb mN mO C rt (rn sh tb mN mO C rt (codeZ 154)) [.aload 0, .invokevirtual 123, .aload 0, .getfield 701, .iload 1, .iload 2, .iastore, .aload 0, .iload 3, .invokevirtual 135, .ireturn] L st m := by rw [rn_eq, b_X7_paidWith_0]
theorem r_X7_dear_0 : rn sh tb mN mO C rt (codeZ 155) 0 L st m = exI sh tb mN mO C rt (rn sh tb mN mO C rt (codeZ 155)) [.iload 1, .invokestatic 153, .ifCond .ne 9, .sipush (-1), .ireturn] L st m := by rw [rn_eq, b_X7_dear_0]
theorem r_X7_dear_9 : rn sh tb mN mO C rt (codeZ 155) 9 L st m = exI sh tb mN mO C rt (rn sh tb mN mO C rt (codeZ 155)) [.aload 0, .sipush (39), .sipush (0), .iload 1, .invokevirtual 154, .pop, .aload 0, .sipush (1), .invokevirtual 136, .invokestatic 137, .istore 2, .sipush (0), .istore 3, .sipush (1), .istore 4, .goto_w 32] L st m := by rw [rn_eq, b_X7_dear_9]
theorem r_X7_dear_32 : rn sh tb mN mO C rt (codeZ 155) 32 L st m = exI sh tb mN mO C rt (rn sh tb mN mO C rt (codeZ 155)) [.iload 4, .sipush (20), .if_icmp .gt 74, .aload 0, .sipush (39), .iload 4, .iload 1, .invokevirtual 154, .pop, .aload 0, .sipush (1), .invokevirtual 136, .invokestatic 137, .iload 2, .if_icmp .ne 66, .iload 4, .goto 67] L st m := by rw [rn_eq, b_X7_dear_32]
theorem r_X7_dear_66 : rn sh tb mN mO C rt (codeZ 155) 66 L st m = exI sh tb mN mO C rt (rn sh tb mN mO C rt (codeZ 155)) [.iload 3, .istore 3, .iinc 4 (1), .goto 32] L st m := by rw [rn_eq, b_X7_dear_66]
theorem r_X7_dear_67 : rn sh tb mN mO C rt (codeZ 155) 67 L st m = exI sh tb mN mO C rt (rn sh tb mN mO C rt (codeZ 155)) [.istore 3, .iinc 4 (1), .goto 32] L st m := by rw [rn_eq, b_X7_dear_67]
theorem r_X7_dear_74 : rn sh tb mN mO C rt (codeZ 155) 74 L st m = exI sh tb mN mO C rt (rn sh tb mN mO C rt (codeZ 155)) [.iload 3, .ireturn] L st m := by rw [rn_eq, b_X7_dear_74]
theorem r_X7_mild_0 : rn sh tb mN mO C rt (codeZ 156) 0 L st m = exI sh tb mN mO C rt (rn sh tb mN mO C rt (codeZ 156)) [.iload 1, .invokestatic 153, .ifCond .ne 9, .sipush (-1), .ireturn] L st m := by rw [rn_eq, b_X7_mild_0]
theorem r_X7_mild_9 : rn sh tb mN mO C rt (codeZ 156) 9 L st m = exI sh tb mN mO C rt (rn sh tb mN mO C rt (codeZ 156)) [.sipush (-4), .istore 2, .sipush (0), .istore 3, .goto_w 14] L st m := by rw [rn_eq, b_X7_mild_9]
theorem r_X7_mild_14 : rn sh tb mN mO C rt (codeZ 156) 14 L st m = exI sh tb mN mO C rt (rn sh tb mN mO C rt (codeZ 156)) [.iload 3, .sipush (60), .if_icmp .gt 48, .aload 0, .sipush (40), .iload 3, .iload 1, .invokevirtual 154, .pop, .aload 0, .getfield 718, .ifCond .ne 40, .iload 3, .goto 41] L st m := by rw [rn_eq, b_X7_mild_14]
theorem r_X7_mild_40 : rn sh tb mN mO C rt (codeZ 156) 40 L st m = exI sh tb mN mO C rt (rn sh tb mN mO C rt (codeZ 156)) [.iload 2, .istore 2, .iinc 3 (1), .goto 14] L st m := by rw [rn_eq, b_X7_mild_40]
theorem r_X7_mild_41 : rn sh tb mN mO C rt (codeZ 156) 41 L st m = exI sh tb mN mO C rt (rn sh tb mN mO C rt (codeZ 156)) [.istore 2, .iinc 3 (1), .goto 14] L st m := by rw [rn_eq, b_X7_mild_41]
theorem r_X7_mild_48 : rn sh tb mN mO C rt (codeZ 156) 48 L st m = exI sh tb mN mO C rt (rn sh tb mN mO C rt (codeZ 156)) [.iload 2, .ireturn] L st m := by rw [rn_eq, b_X7_mild_48]
theorem r_X7_watch_0 : rn sh tb mN mO C rt (codeZ 157) 0 L st m = exI sh tb mN mO C rt (rn sh tb mN mO C rt (codeZ 157)) [.iload 1, .invokestatic 153, .ifCond .eq 14, .iload 2, .invokestatic 122, .ifCond .ne 16, .sipush (-1), .ireturn] L st m := by rw [rn_eq, b_X7_watch_0]
theorem r_X7_watch_14 : rn sh tb mN mO C rt (codeZ 157) 14 L st m = exI sh tb mN mO C rt (rn sh tb mN mO C rt (codeZ 157)) [.sipush (-1), .ireturn] L st m := by rw [rn_eq, b_X7_watch_14]
theorem r_X7_watch_16 : rn sh tb mN mO C rt (codeZ 157) 16 L st m = exI sh tb mN mO C rt (rn sh tb mN mO C rt (codeZ 157)) [.sipush (0), .istore 3, .sipush (-4), .istore 4, .sipush (0), .istore 5, .goto_w 25] L st m := by rw [rn_eq, b_X7_watch_16]
theorem r_X7_watch_25 : rn sh tb mN mO C rt (codeZ 157) 25 L st m = exI sh tb mN mO C rt (rn sh tb mN mO C rt (codeZ 157)) [.iload 5, .aload 0, .getfield 703, .if_icmp .ge 121, .aload 0, .invokevirtual 123, .aload 0, .iload 1, .invokevirtual 135, .pop, .aload 0, .getfield 701, .sipush (2), .iload 5, .imul, .sipush (0), .iadd, .iaload, .istore 6, .aload 0, .sipush (2), .iload 5, .imul, .sipush (1), .iadd, .sipush (9), .iload 1, .invokevirtual 154, .pop, .aload 0, .getfield 701, .sipush (2), .iload 5, .imul, .sipush (0), .iadd, .iaload, .iload 6, .isub, .istore 7, .iload 7, .iload 3, .if_icmp .le 98, .iload 5, .goto 100] L st m := by rw [rn_eq, b_X7_watch_25]
theorem r_X7_watch_98 : rn sh tb mN mO C rt (codeZ 157) 98 L st m = exI sh tb mN mO C rt (rn sh tb mN mO C rt (codeZ 157)) [.iload 4, .istore 4, .iload 7, .iload 3, .if_icmp .le 113, .iload 7, .goto 114] L st m := by rw [rn_eq, b_X7_watch_98]
theorem r_X7_watch_100 : rn sh tb mN mO C rt (codeZ 157) 100 L st m = exI sh tb mN mO C rt (rn sh tb mN mO C rt (codeZ 157)) [.istore 4, .iload 7, .iload 3, .if_icmp .le 113, .iload 7, .goto 114] L st m := by rw [rn_eq, b_X7_watch_100]
theorem r_X7_watch_113 : rn sh tb mN mO C rt (codeZ 157) 113 L st m = exI sh tb mN mO C rt (rn sh tb mN mO C rt (codeZ 157)) [.iload 3, .istore 3, .iinc 5 (1), .goto 25] L st m := by rw [rn_eq, b_X7_watch_113]
theorem r_X7_watch_114 : rn sh tb mN mO C rt (codeZ 157) 114 L st m = exI sh tb mN mO C rt (rn sh tb mN mO C rt (codeZ 157)) [.istore 3, .iinc 5 (1), .goto 25] L st m := by rw [rn_eq, b_X7_watch_114]
theorem r_X7_watch_121 : rn sh tb mN mO C rt (codeZ 157) 121 L st m = exI sh tb mN mO C rt (rn sh tb mN mO C rt (codeZ 157)) [.iload 4, .sipush (-4), .if_icmp .ne 133, .sipush (-4), .goto 143] L st m := by rw [rn_eq, b_X7_watch_121]
theorem r_X7_watch_133 : rn sh tb mN mO C rt (codeZ 157) 133 L st m = exI sh tb mN mO C rt (rn sh tb mN mO C rt (codeZ 157)) [.iload 2, .ifCond .ne 142, .iload 4, .goto 143] L st m := by rw [rn_eq, b_X7_watch_133]
theorem r_X7_watch_142 : rn sh tb mN mO C rt (codeZ 157) 142 L st m = exI sh tb mN mO C rt (rn sh tb mN mO C rt (codeZ 157)) [.iload 3, .ireturn] L st m := by rw [rn_eq, b_X7_watch_142]
theorem r_X7_watch_143 : rn sh tb mN mO C rt (codeZ 157) 143 L st m = exI sh tb mN mO C rt (rn sh tb mN mO C rt (codeZ 157)) [.ireturn] L st m := by rw [rn_eq, b_X7_watch_143]
theorem r_X7_place_0 : rn sh tb mN mO C rt (codeZ 158) 0 L st m = exI sh tb mN mO C rt (rn sh tb mN mO C rt (codeZ 158)) [.aload 0, .iload 1, .invokevirtual 121, .ifCond .eq 22, .iload 2, .invokestatic 153, .ifCond .eq 22, .iload 3, .invokestatic 122, .ifCond .ne 24, .sipush (-1), .ireturn] L st m := by rw [rn_eq, b_X7_place_0]
theorem r_X7_place_22 : rn sh tb mN mO C rt (codeZ 158) 22 L st m = exI sh tb mN mO C rt (rn sh tb mN mO C rt (codeZ 158)) [.sipush (-1), .ireturn] L st m := by rw [rn_eq, b_X7_place_22]
theorem r_X7_place_24 : rn sh tb mN mO C rt (codeZ 158) 24 L st m = exI sh tb mN mO C rt (rn sh tb mN mO C rt (codeZ 158)) [.aload 0, .iload 1, .invokevirtual 144, .ifCond .ne 35, .sipush (-2), .ireturn] L st m := by rw [rn_eq, b_X7_place_24]
theorem r_X7_place_35 : rn sh tb mN mO C rt (codeZ 158) 35 L st m = exI sh tb mN mO C rt (rn sh tb mN mO C rt (codeZ 158)) [.sipush (1000000), .istore 4, .sipush (0), .istore 5, .sipush (0), .istore 6, .goto_w 45] L st m := by rw [rn_eq, b_X7_place_35]
theorem r_X7_place_45 : rn sh tb mN mO C rt (codeZ 158) 45 L st m = exI sh tb mN mO C rt (rn sh tb mN mO C rt (codeZ 158)) [.iload 6, .aload 0, .getfield 703, .if_icmp .ge 102, .aload 0, .sipush (8), .sipush (5), .iload 1, .imul, .iadd, .sipush (1), .iadd, .iload 6, .iload 2, .invokevirtual 154, .istore 7, .iload 7, .iload 4, .if_icmp .ge 83, .iload 6, .goto 85] L st m := by rw [rn_eq, b_X7_place_45]
theorem r_X7_place_83 : rn sh tb mN mO C rt (codeZ 158) 83 L st m = exI sh tb mN mO C rt (rn sh tb mN mO C rt (codeZ 158)) [.iload 5, .istore 5, .iload 7, .iload 4, .invokestatic 138, .istore 4, .iinc 6 (1), .goto 45] L st m := by rw [rn_eq, b_X7_place_83]
theorem r_X7_place_85 : rn sh tb mN mO C rt (codeZ 158) 85 L st m = exI sh tb mN mO C rt (rn sh tb mN mO C rt (codeZ 158)) [.istore 5, .iload 7, .iload 4, .invokestatic 138, .istore 4, .iinc 6 (1), .goto 45] L st m := by rw [rn_eq, b_X7_place_85]
theorem r_X7_place_102 : rn sh tb mN mO C rt (codeZ 158) 102 L st m = exI sh tb mN mO C rt (rn sh tb mN mO C rt (codeZ 158)) [.iload 3, .ifCond .ne 111, .iload 5, .goto 113] L st m := by rw [rn_eq, b_X7_place_102]
theorem r_X7_place_111 : rn sh tb mN mO C rt (codeZ 158) 111 L st m = exI sh tb mN mO C rt (rn sh tb mN mO C rt (codeZ 158)) [.iload 4, .ireturn] L st m := by rw [rn_eq, b_X7_place_111]
theorem r_X7_place_113 : rn sh tb mN mO C rt (codeZ 158) 113 L st m = exI sh tb mN mO C rt (rn sh tb mN mO C rt (codeZ 158)) [.ireturn] L st m := by rw [rn_eq, b_X7_place_113]
theorem r_X7_kin_0 : rn sh tb mN mO C rt (codeZ 159) 0 L st m = exI sh tb mN mO C rt (rn sh tb mN mO C rt (codeZ 159)) [.iload 1, .invokestatic 153, .ifCond .eq 14, .iload 2, .invokestatic 122, .ifCond .ne 16, .sipush (-1), .ireturn] L st m := by rw [rn_eq, b_X7_kin_0]
theorem r_X7_kin_14 : rn sh tb mN mO C rt (codeZ 159) 14 L st m = exI sh tb mN mO C rt (rn sh tb mN mO C rt (codeZ 159)) [.sipush (-1), .ireturn] L st m := by rw [rn_eq, b_X7_kin_14]
theorem r_X7_kin_16 : rn sh tb mN mO C rt (codeZ 159) 16 L st m = exI sh tb mN mO C rt (rn sh tb mN mO C rt (codeZ 159)) [.aload 0, .invokevirtual 123, .aload 0, .iload 1, .invokevirtual 135, .istore 3, .sipush (-4), .istore 4, .sipush (0), .istore 5, .goto_w 33] L st m := by rw [rn_eq, b_X7_kin_16]
theorem r_X7_kin_33 : rn sh tb mN mO C rt (codeZ 159) 33 L st m = exI sh tb mN mO C rt (rn sh tb mN mO C rt (codeZ 159)) [.iload 5, .aload 0, .getfield 700, .sipush (38), .iaload, .if_icmp .ge 111, .aload 0, .iload 5, .invokevirtual 144, .ifCond .eq 105, .sipush (8), .sipush (5), .iload 5, .imul, .iadd, .sipush (2), .iadd, .istore 6, .aload 0, .iload 6, .aload 0, .getfield 700, .iload 6, .iaload, .sipush (1), .iadd, .iload 1, .invokevirtual 154, .istore 7, .iload 7, .iload 3, .if_icmp .ge 94, .iload 5, .goto 96] L st m := by rw [rn_eq, b_X7_kin_33]
theorem r_X7_kin_94 : rn sh tb mN mO C rt (codeZ 159) 94 L st m = exI sh tb mN mO C rt (rn sh tb mN mO C rt (codeZ 159)) [.iload 4, .istore 4, .iload 7, .iload 3, .invokestatic 138, .istore 3, .iinc 5 (1), .goto 33] L st m := by rw [rn_eq, b_X7_kin_94]
theorem r_X7_kin_96 : rn sh tb mN mO C rt (codeZ 159) 96 L st m = exI sh tb mN mO C rt (rn sh tb mN mO C rt (codeZ 159)) [.istore 4, .iload 7, .iload 3, .invokestatic 138, .istore 3, .iinc 5 (1), .goto 33] L st m := by rw [rn_eq, b_X7_kin_96]
theorem r_X7_kin_105 : rn sh tb mN mO C rt (codeZ 159) 105 L st m = exI sh tb mN mO C rt (rn sh tb mN mO C rt (codeZ 159)) [.iinc 5 (1), .goto 33] L st m := by rw [rn_eq, b_X7_kin_105]
theorem r_X7_kin_111 : rn sh tb mN mO C rt (codeZ 159) 111 L st m = exI sh tb mN mO C rt (rn sh tb mN mO C rt (codeZ 159)) [.iload 4, .sipush (-4), .if_icmp .ne 123, .sipush (-4), .goto 133] L st m := by rw [rn_eq, b_X7_kin_111]
theorem r_X7_kin_123 : rn sh tb mN mO C rt (codeZ 159) 123 L st m = exI sh tb mN mO C rt (rn sh tb mN mO C rt (codeZ 159)) [.iload 2, .ifCond .ne 132, .iload 4, .goto 133] L st m := by rw [rn_eq, b_X7_kin_123]
theorem r_X7_kin_132 : rn sh tb mN mO C rt (codeZ 159) 132 L st m = exI sh tb mN mO C rt (rn sh tb mN mO C rt (codeZ 159)) [.iload 3, .ireturn] L st m := by rw [rn_eq, b_X7_kin_132]
theorem r_X7_kin_133 : rn sh tb mN mO C rt (codeZ 159) 133 L st m = exI sh tb mN mO C rt (rn sh tb mN mO C rt (codeZ 159)) [.ireturn] L st m := by rw [rn_eq, b_X7_kin_133]
theorem r_X7_late_0 : rn sh tb mN mO C rt (codeZ 160) 0 L st m = exI sh tb mN mO C rt (rn sh tb mN mO C rt (codeZ 160)) [.iload 1, .invokestatic 153, .ifCond .ne 9, .sipush (-1), .ireturn] L st m := by rw [rn_eq, b_X7_late_0]
theorem r_X7_late_9 : rn sh tb mN mO C rt (codeZ 160) 9 L st m = exI sh tb mN mO C rt (rn sh tb mN mO C rt (codeZ 160)) [.sipush (1000000), .istore 2, .sipush (1), .istore 3, .sipush (1), .istore 4, .goto_w 17] L st m := by rw [rn_eq, b_X7_late_9]
theorem r_X7_late_17 : rn sh tb mN mO C rt (codeZ 160) 17 L st m = exI sh tb mN mO C rt (rn sh tb mN mO C rt (codeZ 160)) [.iload 4, .sipush (9), .if_icmp .gt 61, .aload 0, .sipush (41), .iload 4, .iload 1, .invokevirtual 154, .istore 5, .iload 5, .iload 2, .if_icmp .ge 46, .iload 4, .goto 47] L st m := by rw [rn_eq, b_X7_late_17]
theorem r_X7_late_46 : rn sh tb mN mO C rt (codeZ 160) 46 L st m = exI sh tb mN mO C rt (rn sh tb mN mO C rt (codeZ 160)) [.iload 3, .istore 3, .iload 5, .iload 2, .invokestatic 138, .istore 2, .iinc 4 (1), .goto 17] L st m := by rw [rn_eq, b_X7_late_46]
theorem r_X7_late_47 : rn sh tb mN mO C rt (codeZ 160) 47 L st m = exI sh tb mN mO C rt (rn sh tb mN mO C rt (codeZ 160)) [.istore 3, .iload 5, .iload 2, .invokestatic 138, .istore 2, .iinc 4 (1), .goto 17] L st m := by rw [rn_eq, b_X7_late_47]
theorem r_X7_late_61 : rn sh tb mN mO C rt (codeZ 160) 61 L st m = exI sh tb mN mO C rt (rn sh tb mN mO C rt (codeZ 160)) [.iload 3, .ireturn] L st m := by rw [rn_eq, b_X7_late_61]
theorem r_X7_isOrder_0 : rn sh tb mN mO C rt (codeZ 161) 0 L st m = exI sh tb mN mO C rt (rn sh tb mN mO C rt (codeZ 161)) [.iload 1, .istore 2, .sipush (0), .istore 3, .aload 0, .getfield 703, .sipush (1), .isub, .istore 4, .goto_w 12] L st m := by rw [rn_eq, b_X7_isOrder_0]
theorem r_X7_isOrder_12 : rn sh tb mN mO C rt (codeZ 161) 12 L st m = exI sh tb mN mO C rt (rn sh tb mN mO C rt (codeZ 161)) [.iload 4, .ifCond .lt 55, .aload 0, .getfield 716, .iload 4, .iload 2, .aload 0, .getfield 703, .irem, .iastore, .iload 2, .aload 0, .getfield 703, .idiv, .istore 2, .iload 3, .sipush (1), .aload 0, .getfield 716, .iload 4, .iaload, .ishl, .ior, .istore 3, .iinc 4 (-1), .goto 12] L st m := by rw [rn_eq, b_X7_isOrder_12]
theorem r_X7_isOrder_55 : rn sh tb mN mO C rt (codeZ 161) 55 L st m = exI sh tb mN mO C rt (rn sh tb mN mO C rt (codeZ 161)) [.iload 3, .sipush (1), .aload 0, .getfield 703, .ishl, .sipush (1), .isub, .if_icmp .ne 71, .sipush (1), .goto 72] L st m := by rw [rn_eq, b_X7_isOrder_55]
theorem r_X7_isOrder_71 : rn sh tb mN mO C rt (codeZ 161) 71 L st m = exI sh tb mN mO C rt (rn sh tb mN mO C rt (codeZ 161)) [.sipush (0), .ireturn] L st m := by rw [rn_eq, b_X7_isOrder_71]
theorem r_X7_isOrder_72 : rn sh tb mN mO C rt (codeZ 161) 72 L st m = exI sh tb mN mO C rt (rn sh tb mN mO C rt (codeZ 161)) [.ireturn] L st m := by rw [rn_eq, b_X7_isOrder_72]
theorem r_X7_order_0 : rn sh tb mN mO C rt (codeZ 162) 0 L st m = exI sh tb mN mO C rt (rn sh tb mN mO C rt (codeZ 162)) [.iload 1, .invokestatic 153, .ifCond .eq 26, .iload 2, .ifCond .eq 28, .iload 2, .sipush (10), .isub, .i2l, .jsr (0), .jsr (3), .invokestatic 101, .ifCond .ne 28, .sipush (-1), .ireturn] L st m := by rw [rn_eq, b_X7_order_0]
theorem r_X7_order_26 : rn sh tb mN mO C rt (codeZ 162) 26 L st m = exI sh tb mN mO C rt (rn sh tb mN mO C rt (codeZ 162)) [.sipush (-1), .ireturn] L st m := by rw [rn_eq, b_X7_order_26]
theorem r_X7_order_28 : rn sh tb mN mO C rt (codeZ 162) 28 L st m = exI sh tb mN mO C rt (rn sh tb mN mO C rt (codeZ 162)) [.sipush (1), .istore 3, .sipush (0), .istore 4, .goto_w 33] L st m := by rw [rn_eq, b_X7_order_28]
theorem r_X7_order_33 : rn sh tb mN mO C rt (codeZ 162) 33 L st m = exI sh tb mN mO C rt (rn sh tb mN mO C rt (codeZ 162)) [.iload 4, .aload 0, .getfield 703, .if_icmp .ge 55, .iload 3, .aload 0, .getfield 703, .imul, .istore 3, .iinc 4 (1), .goto 33] L st m := by rw [rn_eq, b_X7_order_33]
theorem r_X7_order_55 : rn sh tb mN mO C rt (codeZ 162) 55 L st m = exI sh tb mN mO C rt (rn sh tb mN mO C rt (codeZ 162)) [.sipush (1000000), .istore 4, .sipush (0), .istore 5, .sipush (0), .istore 6, .goto_w 65] L st m := by rw [rn_eq, b_X7_order_55]
theorem r_X7_order_65 : rn sh tb mN mO C rt (codeZ 162) 65 L st m = exI sh tb mN mO C rt (rn sh tb mN mO C rt (codeZ 162)) [.iload 6, .iload 3, .if_icmp .ge 122, .aload 0, .invokevirtual 123, .aload 0, .iload 6, .invokevirtual 161, .ifCond .eq 116, .aload 0, .iload 1, .invokevirtual 135, .istore 7, .iload 7, .iload 4, .if_icmp .ge 103, .iload 6, .goto 105] L st m := by rw [rn_eq, b_X7_order_65]
theorem r_X7_order_103 : rn sh tb mN mO C rt (codeZ 162) 103 L st m = exI sh tb mN mO C rt (rn sh tb mN mO C rt (codeZ 162)) [.iload 5, .istore 5, .iload 7, .iload 4, .invokestatic 138, .istore 4, .iinc 6 (1), .goto 65] L st m := by rw [rn_eq, b_X7_order_103]
theorem r_X7_order_105 : rn sh tb mN mO C rt (codeZ 162) 105 L st m = exI sh tb mN mO C rt (rn sh tb mN mO C rt (codeZ 162)) [.istore 5, .iload 7, .iload 4, .invokestatic 138, .istore 4, .iinc 6 (1), .goto 65] L st m := by rw [rn_eq, b_X7_order_105]
theorem r_X7_order_116 : rn sh tb mN mO C rt (codeZ 162) 116 L st m = exI sh tb mN mO C rt (rn sh tb mN mO C rt (codeZ 162)) [.iinc 6 (1), .goto 65] L st m := by rw [rn_eq, b_X7_order_116]
theorem r_X7_order_122 : rn sh tb mN mO C rt (codeZ 162) 122 L st m = exI sh tb mN mO C rt (rn sh tb mN mO C rt (codeZ 162)) [.aload 0, .iload 5, .invokevirtual 161, .pop, .iload 2, .ifCond .ne 138, .iload 4, .goto 163] L st m := by rw [rn_eq, b_X7_order_122]
theorem r_X7_order_138 : rn sh tb mN mO C rt (codeZ 162) 138 L st m = exI sh tb mN mO C rt (rn sh tb mN mO C rt (codeZ 162)) [.iload 2, .sipush (10), .isub, .aload 0, .getfield 703, .if_icmp .ge 161, .aload 0, .getfield 716, .iload 2, .sipush (10), .isub, .iaload, .goto 163] L st m := by rw [rn_eq, b_X7_order_138]
theorem r_X7_order_161 : rn sh tb mN mO C rt (codeZ 162) 161 L st m = exI sh tb mN mO C rt (rn sh tb mN mO C rt (codeZ 162)) [.sipush (-4), .ireturn] L st m := by rw [rn_eq, b_X7_order_161]
theorem r_X7_order_163 : rn sh tb mN mO C rt (codeZ 162) 163 L st m = exI sh tb mN mO C rt (rn sh tb mN mO C rt (codeZ 162)) [.ireturn] L st m := by rw [rn_eq, b_X7_order_163]
theorem r_X7_common_0 : rn sh tb mN mO C rt (codeZ 163) 0 L st m = exI sh tb mN mO C rt (rn sh tb mN mO C rt (codeZ 163)) [.lload 0, .lstore 4, .lload 2, .lstore 6, .goto_w 6] L st m := by rw [rn_eq, b_X7_common_0]
theorem r_X7_common_6 : rn sh tb mN mO C rt (codeZ 163) 6 L st m = exI sh tb mN mO C rt (rn sh tb mN mO C rt (codeZ 163)) [.lload 6, .jsr (0), .lcmp, .ifCond .eq 31, .lload 4, .lload 6, .lrem, .lstore 8, .lload 6, .lstore 4, .lload 8, .lstore 6, .goto 6] L st m := by rw [rn_eq, b_X7_common_6]
theorem r_X7_common_31 : rn sh tb mN mO C rt (codeZ 163) 31 L st m = exI sh tb mN mO C rt (rn sh tb mN mO C rt (codeZ 163)) [.lload 4, .lreturn] L st m := by rw [rn_eq, b_X7_common_31]
theorem r_X7_told_0 : rn sh tb mN mO C rt (codeZ 164) 0 L st m = exI sh tb mN mO C rt (rn sh tb mN mO C rt (codeZ 164)) [.lload 2, .lload 0, .invokestatic 163, .lstore 5, .iload 4, .ifCond .ne 19, .lload 0, .lload 5, .ldiv, .goto 23] L st m := by rw [rn_eq, b_X7_told_0]
theorem r_X7_told_19 : rn sh tb mN mO C rt (codeZ 164) 19 L st m = exI sh tb mN mO C rt (rn sh tb mN mO C rt (codeZ 164)) [.lload 2, .lload 5, .ldiv, .lreturn] L st m := by rw [rn_eq, b_X7_told_19]
theorem r_X7_told_23 : rn sh tb mN mO C rt (codeZ 164) 23 L st m = exI sh tb mN mO C rt (rn sh tb mN mO C rt (codeZ 164)) [.lreturn] L st m := by rw [rn_eq, b_X7_told_23]
theorem r_X7_findOdds_0 : rn sh tb mN mO C rt (codeZ 165) 0 L st m = exI sh tb mN mO C rt (rn sh tb mN mO C rt (codeZ 165)) [.aload 0, .invokevirtual 123, .aload 0, .sipush (0), .invokevirtual 136, .istore 4, .aload 0, .jsr (0), .putfield 719, .aload 0, .jsr (0), .putfield 720, .aload 0, .jsr (1), .putfield 721, .sipush (0), .istore 5, .goto_w 29] L st m := by rw [rn_eq, b_X7_findOdds_0]
theorem r_X7_findOdds_29 : rn sh tb mN mO C rt (codeZ 165) 29 L st m = exI sh tb mN mO C rt (rn sh tb mN mO C rt (codeZ 165)) [.iload 5, .sipush (6), .if_icmp .ge 69, .aload 0, .dup, .getfield 721, .iload 4, .iload 5, .ishr, .sipush (1), .iand, .sipush (1), .if_icmp .ne 58, .jsr (10), .goto 59] L st m := by rw [rn_eq, b_X7_findOdds_29]
theorem r_X7_findOdds_58 : rn sh tb mN mO C rt (codeZ 165) 58 L st m = exI sh tb mN mO C rt (rn sh tb mN mO C rt (codeZ 165)) [.jsr (1), .lmul, .putfield 721, .iinc 5 (1), .goto 29] L st m := by rw [rn_eq, b_X7_findOdds_58]
theorem r_X7_findOdds_59 : rn sh tb mN mO C rt (codeZ 165) 59 L st m = exI sh tb mN mO C rt (rn sh tb mN mO C rt (codeZ 165)) [.lmul, .putfield 721, .iinc 5 (1), .goto 29] L st m := by rw [rn_eq, b_X7_findOdds_59]
theorem r_X7_findOdds_69 : rn sh tb mN mO C rt (codeZ 165) 69 L st m = exI sh tb mN mO C rt (rn sh tb mN mO C rt (codeZ 165)) [.sipush (0), .istore 5, .goto_w 72] L st m := by rw [rn_eq, b_X7_findOdds_69]
theorem r_X7_findOdds_72 : rn sh tb mN mO C rt (codeZ 165) 72 L st m = exI sh tb mN mO C rt (rn sh tb mN mO C rt (codeZ 165)) [.iload 5, .sipush (64), .if_icmp .ge 244, .iload 5, .iload 4, .sipush (-1), .ixor, .iand, .ifCond .ne 238, .jsr (1), .lstore 6, .aload 0, .invokevirtual 123, .sipush (0), .istore 8, .goto_w 99] L st m := by rw [rn_eq, b_X7_findOdds_72]
theorem r_X7_findOdds_99 : rn sh tb mN mO C rt (codeZ 165) 99 L st m = exI sh tb mN mO C rt (rn sh tb mN mO C rt (codeZ 165)) [.iload 8, .aload 0, .getfield 701, .sipush (38), .iaload, .if_icmp .ge 192, .iload 5, .iload 8, .ishr, .sipush (1), .iand, .sipush (1), .if_icmp .ne 126, .sipush (1), .goto 127] L st m := by rw [rn_eq, b_X7_findOdds_99]
theorem r_X7_findOdds_126 : rn sh tb mN mO C rt (codeZ 165) 126 L st m = exI sh tb mN mO C rt (rn sh tb mN mO C rt (codeZ 165)) [.sipush (0), .istore 9, .lload 6, .iload 4, .iload 8, .ishr, .sipush (1), .iand, .ifCond .ne 145, .jsr (1), .goto 160] L st m := by rw [rn_eq, b_X7_findOdds_126]
theorem r_X7_findOdds_127 : rn sh tb mN mO C rt (codeZ 165) 127 L st m = exI sh tb mN mO C rt (rn sh tb mN mO C rt (codeZ 165)) [.istore 9, .lload 6, .iload 4, .iload 8, .ishr, .sipush (1), .iand, .ifCond .ne 145, .jsr (1), .goto 160] L st m := by rw [rn_eq, b_X7_findOdds_127]
theorem r_X7_findOdds_145 : rn sh tb mN mO C rt (codeZ 165) 145 L st m = exI sh tb mN mO C rt (rn sh tb mN mO C rt (codeZ 165)) [.iload 9, .ifCond .eq 155, .iload 1, .i2l, .goto 160] L st m := by rw [rn_eq, b_X7_findOdds_145]
theorem r_X7_findOdds_155 : rn sh tb mN mO C rt (codeZ 165) 155 L st m = exI sh tb mN mO C rt (rn sh tb mN mO C rt (codeZ 165)) [.sipush (10), .iload 1, .isub, .i2l, .lmul, .lstore 6, .aload 0, .iload 8, .sipush (0), .iload 9, .ifCond .eq 176, .sipush (3), .goto 183] L st m := by rw [rn_eq, b_X7_findOdds_155]
theorem r_X7_findOdds_160 : rn sh tb mN mO C rt (codeZ 165) 160 L st m = exI sh tb mN mO C rt (rn sh tb mN mO C rt (codeZ 165)) [.lmul, .lstore 6, .aload 0, .iload 8, .sipush (0), .iload 9, .ifCond .eq 176, .sipush (3), .goto 183] L st m := by rw [rn_eq, b_X7_findOdds_160]
theorem r_X7_findOdds_176 : rn sh tb mN mO C rt (codeZ 165) 176 L st m = exI sh tb mN mO C rt (rn sh tb mN mO C rt (codeZ 165)) [.aload 0, .iload 8, .sipush (0), .invokevirtual 125, .invokevirtual 126, .iinc 8 (1), .goto 99] L st m := by rw [rn_eq, b_X7_findOdds_176]
theorem r_X7_findOdds_183 : rn sh tb mN mO C rt (codeZ 165) 183 L st m = exI sh tb mN mO C rt (rn sh tb mN mO C rt (codeZ 165)) [.invokevirtual 126, .iinc 8 (1), .goto 99] L st m := by rw [rn_eq, b_X7_findOdds_183]
theorem r_X7_findOdds_192 : rn sh tb mN mO C rt (codeZ 165) 192 L st m = exI sh tb mN mO C rt (rn sh tb mN mO C rt (codeZ 165)) [.aload 0, .dup, .getfield 719, .lload 6, .aload 0, .iload 3, .invokevirtual 135, .i2l, .lmul, .ladd, .putfield 719, .aload 0, .dup, .getfield 720, .aload 0, .sipush (2), .invokevirtual 136, .iload 2, .ishr, .sipush (1), .iand, .sipush (1), .if_icmp .ne 233, .lload 6, .goto 234] L st m := by rw [rn_eq, b_X7_findOdds_192]
theorem r_X7_findOdds_233 : rn sh tb mN mO C rt (codeZ 165) 233 L st m = exI sh tb mN mO C rt (rn sh tb mN mO C rt (codeZ 165)) [.jsr (0), .ladd, .putfield 720, .iinc 5 (1), .goto 72] L st m := by rw [rn_eq, b_X7_findOdds_233]
theorem r_X7_findOdds_234 : rn sh tb mN mO C rt (codeZ 165) 234 L st m = exI sh tb mN mO C rt (rn sh tb mN mO C rt (codeZ 165)) [.ladd, .putfield 720, .iinc 5 (1), .goto 72] L st m := by rw [rn_eq, b_X7_findOdds_234]
theorem r_X7_findOdds_238 : rn sh tb mN mO C rt (codeZ 165) 238 L st m = exI sh tb mN mO C rt (rn sh tb mN mO C rt (codeZ 165)) [.iinc 5 (1), .goto 72] L st m := by rw [rn_eq, b_X7_findOdds_238]
theorem r_X7_findOdds_244 : rn sh tb mN mO C rt (codeZ 165) 244 L st m = exI sh tb mN mO C rt (rn sh tb mN mO C rt (codeZ 165)) [.return_] L st m := by rw [rn_eq, b_X7_findOdds_244]
theorem r_X7_mean_0 : rn sh tb mN mO C rt (codeZ 166) 0 L st m = exI sh tb mN mO C rt (rn sh tb mN mO C rt (codeZ 166)) [.iload 1, .i2l, .jsr (0), .jsr (10), .invokestatic 101, .ifCond .eq 26, .iload 2, .invokestatic 153, .ifCond .eq 26, .iload 3, .invokestatic 122, .ifCond .ne 30, .jsr (-1), .lreturn] L st m := by rw [rn_eq, b_X7_mean_0]
theorem r_X7_mean_26 : rn sh tb mN mO C rt (codeZ 166) 26 L st m = exI sh tb mN mO C rt (rn sh tb mN mO C rt (codeZ 166)) [.jsr (-1), .lreturn] L st m := by rw [rn_eq, b_X7_mean_26]
theorem r_X7_mean_30 : rn sh tb mN mO C rt (codeZ 166) 30 L st m = exI sh tb mN mO C rt (rn sh tb mN mO C rt (codeZ 166)) [.aload 0, .iload 1, .sipush (0), .iload 2, .invokevirtual 165, .aload 0, .getfield 719, .aload 0, .getfield 721, .iload 3, .invokestatic 164, .lreturn] L st m := by rw [rn_eq, b_X7_mean_30]
theorem r_X7_luck_0 : rn sh tb mN mO C rt (codeZ 167) 0 L st m = exI sh tb mN mO C rt (rn sh tb mN mO C rt (codeZ 167)) [.iload 1, .i2l, .jsr (0), .jsr (10), .invokestatic 101, .ifCond .eq 35, .aload 0, .iload 2, .invokevirtual 121, .ifCond .eq 35, .iload 3, .invokestatic 153, .ifCond .eq 35, .iload 4, .invokestatic 122, .ifCond .ne 39, .jsr (-1), .lreturn] L st m := by rw [rn_eq, b_X7_luck_0]
theorem r_X7_luck_35 : rn sh tb mN mO C rt (codeZ 167) 35 L st m = exI sh tb mN mO C rt (rn sh tb mN mO C rt (codeZ 167)) [.jsr (-1), .lreturn] L st m := by rw [rn_eq, b_X7_luck_35]
theorem r_X7_luck_39 : rn sh tb mN mO C rt (codeZ 167) 39 L st m = exI sh tb mN mO C rt (rn sh tb mN mO C rt (codeZ 167)) [.aload 0, .iload 1, .iload 2, .iload 3, .invokevirtual 165, .aload 0, .getfield 720, .aload 0, .getfield 721, .iload 4, .invokestatic 164, .lreturn] L st m := by rw [rn_eq, b_X7_luck_39]
theorem r_X7_see_0 : rn sh tb mN mO C rt (codeZ 168) 0 L st m = exI sh tb mN mO C rt (rn sh tb mN mO C rt (codeZ 168)) [.aload 0, .iload 1, .invokevirtual 121, .ifCond .eq 28, .iload 2, .i2l, .jsr (0), .jsr (9), .invokestatic 101, .ifCond .eq 28, .aload 0, .iload 3, .invokevirtual 120, .ifCond .ne 30, .sipush (-1), .ireturn] L st m := by rw [rn_eq, b_X7_see_0]
theorem r_X7_see_28 : rn sh tb mN mO C rt (codeZ 168) 28 L st m = exI sh tb mN mO C rt (rn sh tb mN mO C rt (codeZ 168)) [.sipush (-1), .ireturn] L st m := by rw [rn_eq, b_X7_see_28]
theorem r_X7_see_30 : rn sh tb mN mO C rt (codeZ 168) 30 L st m = exI sh tb mN mO C rt (rn sh tb mN mO C rt (codeZ 168)) [.aload 0, .getfield 700, .sipush (44), .iaload, .sipush (6), .if_icmp .ne 45, .sipush (-3), .ireturn] L st m := by rw [rn_eq, b_X7_see_30]
theorem r_X7_see_45 : rn sh tb mN mO C rt (codeZ 168) 45 L st m = exI sh tb mN mO C rt (rn sh tb mN mO C rt (codeZ 168)) [.sipush (45), .sipush (3), .aload 0, .getfield 700, .sipush (44), .iaload, .imul, .iadd, .istore 4, .aload 0, .getfield 700, .iload 4, .iload 1, .iastore, .aload 0, .getfield 700, .iload 4, .sipush (1), .iadd, .iload 2, .iastore, .aload 0, .getfield 700, .iload 4, .sipush (2), .iadd, .iload 3, .iastore, .aload 0, .getfield 700, .sipush (44), .dup2, .iaload, .sipush (1), .iadd, .iastore, .aload 0, .getfield 700, .sipush (44), .iaload, .ireturn] L st m := by rw [rn_eq, b_X7_see_45]
theorem r_X7_forget_0 : rn sh tb mN mO C rt (codeZ 169) 0 L st m = exI sh tb mN mO C rt (rn sh tb mN mO C rt (codeZ 169)) [.iload 1, .i2l, .jsr (0), .aload 0, .getfield 700, .sipush (44), .iaload, .i2l, .invokestatic 101, .ifCond .eq 27, .aload 0, .sipush (44), .iload 1, .invokevirtual 142, .goto 28] L st m := by rw [rn_eq, b_X7_forget_0]
theorem r_X7_forget_27 : rn sh tb mN mO C rt (codeZ 169) 27 L st m = exI sh tb mN mO C rt (rn sh tb mN mO C rt (codeZ 169)) [.sipush (-1), .ireturn] L st m := by rw [rn_eq, b_X7_forget_27]
theorem r_X7_forget_28 : rn sh tb mN mO C rt (codeZ 169) 28 L st m = exI sh tb mN mO C rt (rn sh tb mN mO C rt (codeZ 169)) [.ireturn] L st m := by rw [rn_eq, b_X7_forget_28]
theorem r_X7_isSoWith_0 : rn sh tb mN mO C rt (codeZ 170) 0 L st m = exI sh tb mN mO C rt (rn sh tb mN mO C rt (codeZ 170)) [.aload 0, .invokevirtual 123, .aload 0, .getfield 701, .iload 1, .iload 2, .iastore, .sipush (0), .istore 3, .goto_w 13] L st m := by rw [rn_eq, b_X7_isSoWith_0]
theorem r_X7_isSoWith_13 : rn sh tb mN mO C rt (codeZ 170) 13 L st m = exI sh tb mN mO C rt (rn sh tb mN mO C rt (codeZ 170)) [.iload 3, .sipush (9), .if_icmp .gt 69, .sipush (0), .istore 4, .goto_w 22] L st m := by rw [rn_eq, b_X7_isSoWith_13]
theorem r_X7_isSoWith_22 : rn sh tb mN mO C rt (codeZ 170) 22 L st m = exI sh tb mN mO C rt (rn sh tb mN mO C rt (codeZ 170)) [.iload 4, .aload 0, .getfield 701, .sipush (38), .iaload, .if_icmp .ge 59, .aload 0, .getfield 722, .sipush (6), .iload 3, .imul, .iload 4, .iadd, .aload 0, .iload 4, .sipush (1), .invokevirtual 125, .iastore, .iinc 4 (1), .goto 22] L st m := by rw [rn_eq, b_X7_isSoWith_22]
theorem r_X7_isSoWith_59 : rn sh tb mN mO C rt (codeZ 170) 59 L st m = exI sh tb mN mO C rt (rn sh tb mN mO C rt (codeZ 170)) [.aload 0, .invokevirtual 133, .iinc 3 (1), .goto 13] L st m := by rw [rn_eq, b_X7_isSoWith_59]
theorem r_X7_isSoWith_69 : rn sh tb mN mO C rt (codeZ 170) 69 L st m = exI sh tb mN mO C rt (rn sh tb mN mO C rt (codeZ 170)) [.sipush (1), .istore 3, .sipush (0), .istore 4, .goto_w 74] L st m := by rw [rn_eq, b_X7_isSoWith_69]
theorem r_X7_isSoWith_74 : rn sh tb mN mO C rt (codeZ 170) 74 L st m = exI sh tb mN mO C rt (rn sh tb mN mO C rt (codeZ 170)) [.iload 4, .aload 0, .getfield 700, .sipush (44), .iaload, .if_icmp .ge 148, .sipush (45), .sipush (3), .iload 4, .imul, .iadd, .istore 5, .iload 3, .ifCond .eq 140, .aload 0, .getfield 722, .sipush (6), .aload 0, .getfield 700, .iload 5, .sipush (1), .iadd, .iaload, .imul, .aload 0, .getfield 700, .iload 5, .iaload, .iadd, .iaload, .aload 0, .getfield 700, .iload 5, .sipush (2), .iadd, .iaload, .if_icmp .ne 140, .sipush (1), .goto 141] L st m := by rw [rn_eq, b_X7_isSoWith_74]
theorem r_X7_isSoWith_140 : rn sh tb mN mO C rt (codeZ 170) 140 L st m = exI sh tb mN mO C rt (rn sh tb mN mO C rt (codeZ 170)) [.sipush (0), .istore 3, .iinc 4 (1), .goto 74] L st m := by rw [rn_eq, b_X7_isSoWith_140]
theorem r_X7_isSoWith_141 : rn sh tb mN mO C rt (codeZ 170) 141 L st m = exI sh tb mN mO C rt (rn sh tb mN mO C rt (codeZ 170)) [.istore 3, .iinc 4 (1), .goto 74] L st m := by rw [rn_eq, b_X7_isSoWith_141]
theorem r_X7_isSoWith_148 : rn sh tb mN mO C rt (codeZ 170) 148 L st m = exI sh tb mN mO C rt (rn sh tb mN mO C rt (codeZ 170)) [.iload 3, .ireturn] L st m := by rw [rn_eq, b_X7_isSoWith_148]
theorem r_X7_kindsOf_0 : rn sh tb mN mO C rt (codeZ 171) 0 L st m = exI sh tb mN mO C rt (rn sh tb mN mO C rt (codeZ 171)) [.sipush (0), .istore 2, .sipush (0), .istore 3, .goto_w 4] L st m := by rw [rn_eq, b_X7_kindsOf_0]
theorem r_X7_kindsOf_4 : rn sh tb mN mO C rt (codeZ 171) 4 L st m = exI sh tb mN mO C rt (rn sh tb mN mO C rt (codeZ 171)) [.iload 3, .sipush (4), .if_icmp .ge 36, .iload 2, .aload 0, .sipush (8), .sipush (5), .iload 1, .imul, .iadd, .sipush (0), .iadd, .iload 3, .invokevirtual 170, .invokestatic 102, .iload 3, .ishl, .ior, .istore 2, .iinc 3 (1), .goto 4] L st m := by rw [rn_eq, b_X7_kindsOf_4]
theorem r_X7_kindsOf_36 : rn sh tb mN mO C rt (codeZ 171) 36 L st m = exI sh tb mN mO C rt (rn sh tb mN mO C rt (codeZ 171)) [.iload 2, .ireturn] L st m := by rw [rn_eq, b_X7_kindsOf_36]
theorem r_X7_kinds_0 : rn sh tb mN mO C rt (codeZ 172) 0 L st m = exI sh tb mN mO C rt (rn sh tb mN mO C rt (codeZ 172)) [.aload 0, .iload 1, .invokevirtual 121, .ifCond .eq 16, .aload 0, .iload 1, .invokevirtual 171, .goto 17] L st m := by rw [rn_eq, b_X7_kinds_0]
theorem r_X7_kinds_16 : rn sh tb mN mO C rt (codeZ 172) 16 L st m = exI sh tb mN mO C rt (rn sh tb mN mO C rt (codeZ 172)) [.sipush (-1), .ireturn] L st m := by rw [rn_eq, b_X7_kinds_16]
theorem r_X7_kinds_17 : rn sh tb mN mO C rt (codeZ 172) 17 L st m = exI sh tb mN mO C rt (rn sh tb mN mO C rt (codeZ 172)) [.ireturn] L st m := by rw [rn_eq, b_X7_kinds_17]
theorem r_X7_fathers_0 : rn sh tb mN mO C rt (codeZ 173) 0 L st m = exI sh tb mN mO C rt (rn sh tb mN mO C rt (codeZ 173)) [.aload 0, .iload 1, .invokevirtual 121, .ifCond .ne 10, .sipush (-1), .ireturn] L st m := by rw [rn_eq, b_X7_fathers_0]
theorem r_X7_fathers_10 : rn sh tb mN mO C rt (codeZ 173) 10 L st m = exI sh tb mN mO C rt (rn sh tb mN mO C rt (codeZ 173)) [.sipush (0), .istore 2, .sipush (0), .istore 3, .goto_w 14] L st m := by rw [rn_eq, b_X7_fathers_10]
theorem r_X7_fathers_14 : rn sh tb mN mO C rt (codeZ 173) 14 L st m = exI sh tb mN mO C rt (rn sh tb mN mO C rt (codeZ 173)) [.iload 3, .sipush (9), .if_icmp .gt 47, .iload 2, .aload 0, .sipush (8), .sipush (5), .iload 1, .imul, .iadd, .sipush (2), .iadd, .iload 3, .invokevirtual 170, .invokestatic 102, .iload 3, .ishl, .ior, .istore 2, .iinc 3 (1), .goto 14] L st m := by rw [rn_eq, b_X7_fathers_14]
theorem r_X7_fathers_47 : rn sh tb mN mO C rt (codeZ 173) 47 L st m = exI sh tb mN mO C rt (rn sh tb mN mO C rt (codeZ 173)) [.iload 2, .ireturn] L st m := by rw [rn_eq, b_X7_fathers_47]
theorem r_X7_look_0 : rn sh tb mN mO C rt (codeZ 174) 0 L st m = exI sh tb mN mO C rt (rn sh tb mN mO C rt (codeZ 174)) [.aload 0, .iload 1, .invokevirtual 121, .ifCond .eq 15, .iload 2, .invokestatic 122, .ifCond .ne 17, .sipush (-1), .ireturn] L st m := by rw [rn_eq, b_X7_look_0]
theorem r_X7_look_15 : rn sh tb mN mO C rt (codeZ 174) 15 L st m = exI sh tb mN mO C rt (rn sh tb mN mO C rt (codeZ 174)) [.sipush (-1), .ireturn] L st m := by rw [rn_eq, b_X7_look_15]
theorem r_X7_look_17 : rn sh tb mN mO C rt (codeZ 174) 17 L st m = exI sh tb mN mO C rt (rn sh tb mN mO C rt (codeZ 174)) [.sipush (0), .istore 3, .sipush (-4), .istore 4, .sipush (0), .istore 5, .goto_w 26] L st m := by rw [rn_eq, b_X7_look_17]
theorem r_X7_look_26 : rn sh tb mN mO C rt (codeZ 174) 26 L st m = exI sh tb mN mO C rt (rn sh tb mN mO C rt (codeZ 174)) [.iload 5, .sipush (40), .if_icmp .ge 47, .aload 0, .getfield 723, .iload 5, .sipush (0), .iastore, .iinc 5 (1), .goto 26] L st m := by rw [rn_eq, b_X7_look_26]
theorem r_X7_look_47 : rn sh tb mN mO C rt (codeZ 174) 47 L st m = exI sh tb mN mO C rt (rn sh tb mN mO C rt (codeZ 174)) [.sipush (0), .istore 5, .goto_w 50] L st m := by rw [rn_eq, b_X7_look_47]
theorem r_X7_look_50 : rn sh tb mN mO C rt (codeZ 174) 50 L st m = exI sh tb mN mO C rt (rn sh tb mN mO C rt (codeZ 174)) [.iload 5, .sipush (4), .if_icmp .ge 124, .aload 0, .sipush (8), .sipush (5), .iload 1, .imul, .iadd, .sipush (0), .iadd, .iload 5, .invokevirtual 170, .ifCond .eq 118, .iinc 3 (1), .sipush (0), .istore 6, .goto_w 79] L st m := by rw [rn_eq, b_X7_look_50]
theorem r_X7_look_79 : rn sh tb mN mO C rt (codeZ 174) 79 L st m = exI sh tb mN mO C rt (rn sh tb mN mO C rt (codeZ 174)) [.iload 6, .sipush (9), .if_icmp .gt 118, .aload 0, .getfield 723, .sipush (4), .iload 6, .imul, .aload 0, .getfield 722, .sipush (6), .iload 6, .imul, .iload 1, .iadd, .iaload, .iadd, .dup2, .iaload, .sipush (1), .iadd, .iastore, .iinc 6 (1), .goto 79] L st m := by rw [rn_eq, b_X7_look_79]
theorem r_X7_look_118 : rn sh tb mN mO C rt (codeZ 174) 118 L st m = exI sh tb mN mO C rt (rn sh tb mN mO C rt (codeZ 174)) [.iinc 5 (1), .goto 50] L st m := by rw [rn_eq, b_X7_look_118]
theorem r_X7_look_124 : rn sh tb mN mO C rt (codeZ 174) 124 L st m = exI sh tb mN mO C rt (rn sh tb mN mO C rt (codeZ 174)) [.sipush (0), .istore 5, .goto_w 127] L st m := by rw [rn_eq, b_X7_look_124]
theorem r_X7_look_127 : rn sh tb mN mO C rt (codeZ 174) 127 L st m = exI sh tb mN mO C rt (rn sh tb mN mO C rt (codeZ 174)) [.iload 5, .sipush (9), .if_icmp .gt 216, .sipush (0), .istore 6, .sipush (0), .istore 7, .goto_w 140] L st m := by rw [rn_eq, b_X7_look_127]
theorem r_X7_look_140 : rn sh tb mN mO C rt (codeZ 174) 140 L st m = exI sh tb mN mO C rt (rn sh tb mN mO C rt (codeZ 174)) [.iload 7, .sipush (4), .if_icmp .ge 188, .aload 0, .getfield 723, .sipush (4), .iload 5, .imul, .iload 7, .iadd, .iaload, .iload 6, .if_icmp .le 178, .aload 0, .getfield 723, .sipush (4), .iload 5, .imul, .iload 7, .iadd, .iaload, .goto 180] L st m := by rw [rn_eq, b_X7_look_140]
theorem r_X7_look_178 : rn sh tb mN mO C rt (codeZ 174) 178 L st m = exI sh tb mN mO C rt (rn sh tb mN mO C rt (codeZ 174)) [.iload 6, .istore 6, .iinc 7 (1), .goto 140] L st m := by rw [rn_eq, b_X7_look_178]
theorem r_X7_look_180 : rn sh tb mN mO C rt (codeZ 174) 180 L st m = exI sh tb mN mO C rt (rn sh tb mN mO C rt (codeZ 174)) [.istore 6, .iinc 7 (1), .goto 140] L st m := by rw [rn_eq, b_X7_look_180]
theorem r_X7_look_188 : rn sh tb mN mO C rt (codeZ 174) 188 L st m = exI sh tb mN mO C rt (rn sh tb mN mO C rt (codeZ 174)) [.iload 6, .iload 3, .if_icmp .ge 199, .iload 5, .goto 201] L st m := by rw [rn_eq, b_X7_look_188]
theorem r_X7_look_199 : rn sh tb mN mO C rt (codeZ 174) 199 L st m = exI sh tb mN mO C rt (rn sh tb mN mO C rt (codeZ 174)) [.iload 4, .istore 4, .iload 6, .iload 3, .invokestatic 138, .istore 3, .iinc 5 (1), .goto 127] L st m := by rw [rn_eq, b_X7_look_199]
theorem r_X7_look_201 : rn sh tb mN mO C rt (codeZ 174) 201 L st m = exI sh tb mN mO C rt (rn sh tb mN mO C rt (codeZ 174)) [.istore 4, .iload 6, .iload 3, .invokestatic 138, .istore 3, .iinc 5 (1), .goto 127] L st m := by rw [rn_eq, b_X7_look_201]
theorem r_X7_look_216 : rn sh tb mN mO C rt (codeZ 174) 216 L st m = exI sh tb mN mO C rt (rn sh tb mN mO C rt (codeZ 174)) [.iload 4, .sipush (-4), .if_icmp .ne 228, .sipush (-4), .goto 238] L st m := by rw [rn_eq, b_X7_look_216]
theorem r_X7_look_228 : rn sh tb mN mO C rt (codeZ 174) 228 L st m = exI sh tb mN mO C rt (rn sh tb mN mO C rt (codeZ 174)) [.iload 2, .ifCond .ne 237, .iload 4, .goto 238] L st m := by rw [rn_eq, b_X7_look_228]
theorem r_X7_look_237 : rn sh tb mN mO C rt (codeZ 174) 237 L st m = exI sh tb mN mO C rt (rn sh tb mN mO C rt (codeZ 174)) [.iload 3, .ireturn] L st m := by rw [rn_eq, b_X7_look_237]
theorem r_X7_look_238 : rn sh tb mN mO C rt (codeZ 174) 238 L st m = exI sh tb mN mO C rt (rn sh tb mN mO C rt (codeZ 174)) [.ireturn] L st m := by rw [rn_eq, b_X7_look_238]
theorem r_X7_drift_0 : rn sh tb mN mO C rt (codeZ 175) 0 L st m = exI sh tb mN mO C rt (rn sh tb mN mO C rt (codeZ 175)) [.iload 2, .i2l, .jsr (1), .jsr (60), .invokestatic 101, .ifCond .eq 19, .iload 3, .invokestatic 122, .ifCond .ne 21, .sipush (-1), .ireturn] L st m := by rw [rn_eq, b_X7_drift_0]
theorem r_X7_drift_19 : rn sh tb mN mO C rt (codeZ 175) 19 L st m = exI sh tb mN mO C rt (rn sh tb mN mO C rt (codeZ 175)) [.sipush (-1), .ireturn] L st m := by rw [rn_eq, b_X7_drift_19]
theorem r_X7_drift_21 : rn sh tb mN mO C rt (codeZ 175) 21 L st m = exI sh tb mN mO C rt (rn sh tb mN mO C rt (codeZ 175)) [.aload 0, .getfield 703, .ifCond .ne 31, .sipush (-2), .ireturn] L st m := by rw [rn_eq, b_X7_drift_21]
theorem r_X7_drift_31 : rn sh tb mN mO C rt (codeZ 175) 31 L st m = exI sh tb mN mO C rt (rn sh tb mN mO C rt (codeZ 175)) [.iload 1, .istore 4, .aload 0, .invokevirtual 123, .aload 0, .invokevirtual 134, .istore 5, .sipush (0), .istore 6, .goto_w 47] L st m := by rw [rn_eq, b_X7_drift_31]
theorem r_X7_drift_47 : rn sh tb mN mO C rt (codeZ 175) 47 L st m = exI sh tb mN mO C rt (rn sh tb mN mO C rt (codeZ 175)) [.iload 6, .iload 2, .if_icmp .ge 110, .iload 4, .sipush (1103515245), .imul, .sipush (12345), .iadd, .istore 4, .iload 4, .sipush (16), .ishr, .sipush (32767), .iand, .istore 7, .aload 0, .getfield 701, .sipush (2), .iload 7, .aload 0, .getfield 703, .irem, .imul, .sipush (1), .iadd, .iload 7, .sipush (8), .idiv, .sipush (10), .irem, .iastore, .aload 0, .invokevirtual 133, .iinc 6 (1), .goto 47] L st m := by rw [rn_eq, b_X7_drift_47]
theorem r_X7_drift_110 : rn sh tb mN mO C rt (codeZ 175) 110 L st m = exI sh tb mN mO C rt (rn sh tb mN mO C rt (codeZ 175)) [.iload 3, .ifCond .ne 124, .iload 5, .aload 0, .invokevirtual 134, .isub, .goto 129] L st m := by rw [rn_eq, b_X7_drift_110]
theorem r_X7_drift_124 : rn sh tb mN mO C rt (codeZ 175) 124 L st m = exI sh tb mN mO C rt (rn sh tb mN mO C rt (codeZ 175)) [.aload 0, .sipush (2), .invokevirtual 136, .ireturn] L st m := by rw [rn_eq, b_X7_drift_124]
theorem r_X7_drift_129 : rn sh tb mN mO C rt (codeZ 175) 129 L st m = exI sh tb mN mO C rt (rn sh tb mN mO C rt (codeZ 175)) [.ireturn] L st m := by rw [rn_eq, b_X7_drift_129]
theorem r_X7_copies_0 : rn sh tb mN mO C rt (codeZ 176) 0 L st m = exI sh tb mN mO C rt (rn sh tb mN mO C rt (codeZ 176)) [.sipush (0), .istore 3, .goto_w 2] L st m := by rw [rn_eq, b_X7_copies_0]
theorem r_X7_copies_2 : rn sh tb mN mO C rt (codeZ 176) 2 L st m = exI sh tb mN mO C rt (rn sh tb mN mO C rt (codeZ 176)) [.iload 3, .sipush (63), .if_icmp .ge 30, .aload 0, .getfield 700, .iload 1, .iload 3, .iadd, .aload 0, .getfield 700, .iload 2, .iload 3, .iadd, .iaload, .iastore, .iinc 3 (1), .goto 2] L st m := by rw [rn_eq, b_X7_copies_2]
theorem r_X7_copies_30 : rn sh tb mN mO C rt (codeZ 176) 30 L st m = exI sh tb mN mO C rt (rn sh tb mN mO C rt (codeZ 176)) [.return_] L st m := by rw [rn_eq, b_X7_copies_30]
theorem r_X7_keep_0 : rn sh tb mN mO C rt (codeZ 177) 0 L st m = exI sh tb mN mO C rt (rn sh tb mN mO C rt (codeZ 177)) [.iload 1, .i2l, .jsr (0), .jsr (1), .invokestatic 101, .ifCond .ne 12, .sipush (-1), .ireturn] L st m := by rw [rn_eq, b_X7_keep_0]
theorem r_X7_keep_12 : rn sh tb mN mO C rt (codeZ 177) 12 L st m = exI sh tb mN mO C rt (rn sh tb mN mO C rt (codeZ 177)) [.aload 0, .getfield 702, .iload 1, .baload, .invokestatic 102, .istore 2, .aload 0, .getfield 702, .iload 1, .sipush (1), .bastore, .aload 0, .sipush (63), .iload 1, .sipush (1), .iadd, .imul, .sipush (0), .invokevirtual 176, .iload 2, .ireturn] L st m := by rw [rn_eq, b_X7_keep_12]
theorem r_X7_back_0 : rn sh tb mN mO C rt (codeZ 178) 0 L st m = exI sh tb mN mO C rt (rn sh tb mN mO C rt (codeZ 178)) [.iload 1, .i2l, .jsr (0), .jsr (1), .invokestatic 101, .ifCond .ne 12, .sipush (-1), .ireturn] L st m := by rw [rn_eq, b_X7_back_0]
theorem r_X7_back_12 : rn sh tb mN mO C rt (codeZ 178) 12 L st m = exI sh tb mN mO C rt (rn sh tb mN mO C rt (codeZ 178)) [.aload 0, .getfield 702, .iload 1, .baload, .ifCond .ne 24, .sipush (-2), .ireturn] L st m := by rw [rn_eq, b_X7_back_12]
theorem r_X7_back_24 : rn sh tb mN mO C rt (codeZ 178) 24 L st m = exI sh tb mN mO C rt (rn sh tb mN mO C rt (codeZ 178)) [.aload 0, .sipush (0), .sipush (63), .iload 1, .sipush (1), .iadd, .imul, .invokevirtual 176, .aload 0, .getfield 700, .sipush (42), .iaload, .ireturn] L st m := by rw [rn_eq, b_X7_back_24]
theorem r_X7_isSheet_0 : rn sh tb mN mO C rt (codeZ 179) 0 L st m = exI sh tb mN mO C rt (rn sh tb mN mO C rt (codeZ 179)) [.iload 0, .i2l, .jsr (0), .jsr (3), .invokestatic 101, .ifCond .eq 28, .iload 1, .i2l, .jsr (0), .jsr (2), .invokestatic 101, .ifCond .eq 28, .sipush (1), .goto 29] L st m := by rw [rn_eq, b_X7_isSheet_0]
theorem r_X7_isSheet_28 : rn sh tb mN mO C rt (codeZ 179) 28 L st m = exI sh tb mN mO C rt (rn sh tb mN mO C rt (codeZ 179)) [.sipush (0), .ireturn] L st m := by rw [rn_eq, b_X7_isSheet_28]
theorem r_X7_isSheet_29 : rn sh tb mN mO C rt (codeZ 179) 29 L st m = exI sh tb mN mO C rt (rn sh tb mN mO C rt (codeZ 179)) [.ireturn] L st m := by rw [rn_eq, b_X7_isSheet_29]
theorem r_X7_sheet_0 : rn sh tb mN mO C rt (codeZ 180) 0 L st m = exI sh tb mN mO C rt (rn sh tb mN mO C rt (codeZ 180)) [.iload 1, .iload 2, .invokestatic 179, .ifCond .eq 14, .iload 3, .sipush (40), .if_icmp .le 16, .sipush (-1), .ireturn] L st m := by rw [rn_eq, b_X7_sheet_0]
theorem r_X7_sheet_14 : rn sh tb mN mO C rt (codeZ 180) 14 L st m = exI sh tb mN mO C rt (rn sh tb mN mO C rt (codeZ 180)) [.sipush (-1), .ireturn] L st m := by rw [rn_eq, b_X7_sheet_14]
theorem r_X7_sheet_16 : rn sh tb mN mO C rt (codeZ 180) 16 L st m = exI sh tb mN mO C rt (rn sh tb mN mO C rt (codeZ 180)) [.iload 3, .ifCond .ge 23, .sipush (-14), .ireturn] L st m := by rw [rn_eq, b_X7_sheet_16]
theorem r_X7_sheet_23 : rn sh tb mN mO C rt (codeZ 180) 23 L st m = exI sh tb mN mO C rt (rn sh tb mN mO C rt (codeZ 180)) [.aload 0, .getfield 724, .iload 1, .iload 2, .iastore, .aload 0, .getfield 725, .iload 1, .iload 3, .iastore, .sipush (0), .istore 4, .goto_w 40] L st m := by rw [rn_eq, b_X7_sheet_23]
theorem r_X7_sheet_40 : rn sh tb mN mO C rt (codeZ 180) 40 L st m = exI sh tb mN mO C rt (rn sh tb mN mO C rt (codeZ 180)) [.iload 4, .sipush (40), .if_icmp .ge 66, .aload 0, .getfield 726, .sipush (40), .iload 1, .imul, .iload 4, .iadd, .sipush (0), .iastore, .iinc 4 (1), .goto 40] L st m := by rw [rn_eq, b_X7_sheet_40]
theorem r_X7_sheet_66 : rn sh tb mN mO C rt (codeZ 180) 66 L st m = exI sh tb mN mO C rt (rn sh tb mN mO C rt (codeZ 180)) [.sipush (1), .ireturn] L st m := by rw [rn_eq, b_X7_sheet_66]
theorem r_X7_lay_0 : rn sh tb mN mO C rt (codeZ 181) 0 L st m = exI sh tb mN mO C rt (rn sh tb mN mO C rt (codeZ 181)) [.iload 1, .sipush (0), .invokestatic 179, .ifCond .ne 10, .sipush (-1), .ireturn] L st m := by rw [rn_eq, b_X7_lay_0]
theorem r_X7_lay_10 : rn sh tb mN mO C rt (codeZ 181) 10 L st m = exI sh tb mN mO C rt (rn sh tb mN mO C rt (codeZ 181)) [.aload 0, .getfield 724, .iload 1, .iaload, .sipush (-4), .if_icmp .ne 24, .sipush (-11), .ireturn] L st m := by rw [rn_eq, b_X7_lay_10]
theorem r_X7_lay_24 : rn sh tb mN mO C rt (codeZ 181) 24 L st m = exI sh tb mN mO C rt (rn sh tb mN mO C rt (codeZ 181)) [.iload 2, .i2l, .jsr (0), .aload 0, .getfield 725, .iload 1, .iaload, .sipush (1), .isub, .i2l, .invokestatic 101, .ifCond .ne 45, .sipush (-12), .ireturn] L st m := by rw [rn_eq, b_X7_lay_24]
theorem r_X7_lay_45 : rn sh tb mN mO C rt (codeZ 181) 45 L st m = exI sh tb mN mO C rt (rn sh tb mN mO C rt (codeZ 181)) [.aload 0, .getfield 726, .sipush (40), .iload 1, .imul, .iload 2, .iadd, .aload 0, .getfield 724, .iload 1, .iaload, .ifCond .ne 69, .iload 3, .i2b, .goto 85] L st m := by rw [rn_eq, b_X7_lay_45]
theorem r_X7_lay_69 : rn sh tb mN mO C rt (codeZ 181) 69 L st m = exI sh tb mN mO C rt (rn sh tb mN mO C rt (codeZ 181)) [.aload 0, .getfield 724, .iload 1, .iaload, .sipush (1), .if_icmp .ne 84, .iload 3, .i2s, .goto 85] L st m := by rw [rn_eq, b_X7_lay_69]
theorem r_X7_lay_84 : rn sh tb mN mO C rt (codeZ 181) 84 L st m = exI sh tb mN mO C rt (rn sh tb mN mO C rt (codeZ 181)) [.iload 3, .iastore, .sipush (1), .ireturn] L st m := by rw [rn_eq, b_X7_lay_84]
theorem r_X7_lay_85 : rn sh tb mN mO C rt (codeZ 181) 85 L st m = exI sh tb mN mO C rt (rn sh tb mN mO C rt (codeZ 181)) [.iastore, .sipush (1), .ireturn] L st m := by rw [rn_eq, b_X7_lay_85]
theorem r_X7_read_0 : rn sh tb mN mO C rt (codeZ 182) 0 L st m = exI sh tb mN mO C rt (rn sh tb mN mO C rt (codeZ 182)) [.iload 1, .iload 2, .invokestatic 179, .ifCond .eq 21, .iload 4, .i2l, .jsr (0), .jsr (20), .invokestatic 101, .ifCond .ne 23, .sipush (-1), .ireturn] L st m := by rw [rn_eq, b_X7_read_0]
theorem r_X7_read_21 : rn sh tb mN mO C rt (codeZ 182) 21 L st m = exI sh tb mN mO C rt (rn sh tb mN mO C rt (codeZ 182)) [.sipush (-1), .ireturn] L st m := by rw [rn_eq, b_X7_read_21]
theorem r_X7_read_23 : rn sh tb mN mO C rt (codeZ 182) 23 L st m = exI sh tb mN mO C rt (rn sh tb mN mO C rt (codeZ 182)) [.sipush (0), .istore 5, .goto_w 26] L st m := by rw [rn_eq, b_X7_read_23]
theorem r_X7_read_26 : rn sh tb mN mO C rt (codeZ 182) 26 L st m = exI sh tb mN mO C rt (rn sh tb mN mO C rt (codeZ 182)) [.iload 5, .sipush (63), .if_icmp .ge 53, .aload 0, .getfield 728, .iload 5, .aload 0, .getfield 700, .iload 5, .iaload, .iastore, .iinc 5 (1), .goto 26] L st m := by rw [rn_eq, b_X7_read_26]
theorem r_X7_read_53 : rn sh tb mN mO C rt (codeZ 182) 53 L st m = exI sh tb mN mO C rt (rn sh tb mN mO C rt (codeZ 182)) [.sipush (0), .istore 5, .sipush (0), .istore 6, .sipush (0), .istore 7, .goto_w 62] L st m := by rw [rn_eq, b_X7_read_53]
theorem r_X7_read_62 : rn sh tb mN mO C rt (codeZ 182) 62 L st m = exI sh tb mN mO C rt (rn sh tb mN mO C rt (codeZ 182)) [.iload 7, .iload 4, .if_icmp .ge 252, .iload 5, .ifCond .ne 252, .sipush (0), .istore 8, .goto_w 77] L st m := by rw [rn_eq, b_X7_read_62]
theorem r_X7_read_77 : rn sh tb mN mO C rt (codeZ 182) 77 L st m = exI sh tb mN mO C rt (rn sh tb mN mO C rt (codeZ 182)) [.iload 8, .sipush (2), .if_icmp .ge 164, .iload 5, .ifCond .ne 164, .iload 3, .i2l, .sipush (2), .iload 7, .imul, .i2l, .ladd, .iload 8, .i2l, .ladd, .lstore 9, .aload 0, .getfield 724, .iload 1, .iaload, .sipush (-4), .if_icmp .ne 117, .sipush (1), .goto 156] L st m := by rw [rn_eq, b_X7_read_77]
theorem r_X7_read_117 : rn sh tb mN mO C rt (codeZ 182) 117 L st m = exI sh tb mN mO C rt (rn sh tb mN mO C rt (codeZ 182)) [.aload 0, .getfield 724, .iload 1, .iaload, .iload 2, .if_icmp .eq 131, .sipush (3), .goto 156] L st m := by rw [rn_eq, b_X7_read_117]
theorem r_X7_read_131 : rn sh tb mN mO C rt (codeZ 182) 131 L st m = exI sh tb mN mO C rt (rn sh tb mN mO C rt (codeZ 182)) [.lload 9, .jsr (0), .lcmp, .ifCond .lt 151, .lload 9, .aload 0, .getfield 725, .iload 1, .iaload, .i2l, .lcmp, .ifCond .lt 155, .sipush (2), .goto 156] L st m := by rw [rn_eq, b_X7_read_131]
theorem r_X7_read_151 : rn sh tb mN mO C rt (codeZ 182) 151 L st m = exI sh tb mN mO C rt (rn sh tb mN mO C rt (codeZ 182)) [.sipush (2), .goto 156] L st m := by rw [rn_eq, b_X7_read_151]
theorem r_X7_read_155 : rn sh tb mN mO C rt (codeZ 182) 155 L st m = exI sh tb mN mO C rt (rn sh tb mN mO C rt (codeZ 182)) [.sipush (0), .istore 5, .iinc 8 (1), .goto 77] L st m := by rw [rn_eq, b_X7_read_155]
theorem r_X7_read_156 : rn sh tb mN mO C rt (codeZ 182) 156 L st m = exI sh tb mN mO C rt (rn sh tb mN mO C rt (codeZ 182)) [.istore 5, .iinc 8 (1), .goto 77] L st m := by rw [rn_eq, b_X7_read_156]
theorem r_X7_read_164 : rn sh tb mN mO C rt (codeZ 182) 164 L st m = exI sh tb mN mO C rt (rn sh tb mN mO C rt (codeZ 182)) [.iload 5, .ifCond .ne 246, .sipush (40), .iload 1, .imul, .iload 3, .iadd, .sipush (2), .iload 7, .imul, .iadd, .istore 8, .aload 0, .aload 0, .getfield 726, .iload 8, .iaload, .aload 0, .getfield 726, .iload 8, .sipush (1), .iadd, .iaload, .sipush (0), .sipush (0), .invokevirtual 147, .ifCond .ge 243, .sipush (0), .istore 9, .goto_w 210] L st m := by rw [rn_eq, b_X7_read_164]
theorem r_X7_read_210 : rn sh tb mN mO C rt (codeZ 182) 210 L st m = exI sh tb mN mO C rt (rn sh tb mN mO C rt (codeZ 182)) [.iload 9, .sipush (63), .if_icmp .ge 237, .aload 0, .getfield 700, .iload 9, .aload 0, .getfield 728, .iload 9, .iaload, .iastore, .iinc 9 (1), .goto 210] L st m := by rw [rn_eq, b_X7_read_210]
theorem r_X7_read_237 : rn sh tb mN mO C rt (codeZ 182) 237 L st m = exI sh tb mN mO C rt (rn sh tb mN mO C rt (codeZ 182)) [.sipush (-20), .iload 7, .isub, .ireturn] L st m := by rw [rn_eq, b_X7_read_237]
theorem r_X7_read_243 : rn sh tb mN mO C rt (codeZ 182) 243 L st m = exI sh tb mN mO C rt (rn sh tb mN mO C rt (codeZ 182)) [.iinc 6 (1), .iinc 7 (1), .goto 62] L st m := by rw [rn_eq, b_X7_read_243]
theorem r_X7_read_246 : rn sh tb mN mO C rt (codeZ 182) 246 L st m = exI sh tb mN mO C rt (rn sh tb mN mO C rt (codeZ 182)) [.iinc 7 (1), .goto 62] L st m := by rw [rn_eq, b_X7_read_246]
theorem r_X7_read_252 : rn sh tb mN mO C rt (codeZ 182) 252 L st m = exI sh tb mN mO C rt (rn sh tb mN mO C rt (codeZ 182)) [.aload 0, .iload 5, .putfield 727, .iload 6, .ireturn] L st m := by rw [rn_eq, b_X7_read_252]
theorem r_X7_torn_0 : rn sh tb mN mO C rt (codeZ 183) 0 L st m = exI sh tb mN mO C rt (rn sh tb mN mO C rt (codeZ 183)) [.aload 0, .getfield 727, .ireturn] L st m := by rw [rn_eq, b_X7_torn_0]
theorem r_X7_count_0 : rn sh tb mN mO C rt (codeZ 184) 0 L st m = exI sh tb mN mO C rt (rn sh tb mN mO C rt (codeZ 184)) [.aload 0, .invokevirtual 123, .sipush (0), .istore 2, .sipush (0), .istore 3, .goto_w 8] L st m := by rw [rn_eq, b_X7_count_0]
theorem r_X7_count_8 : rn sh tb mN mO C rt (codeZ 184) 8 L st m = exI sh tb mN mO C rt (rn sh tb mN mO C rt (codeZ 184)) [.iload 3, .aload 0, .getfield 701, .sipush (38), .iaload, .if_icmp .ge 46, .iload 2, .aload 0, .iload 3, .sipush (4), .invokevirtual 125, .ifCond .ne 37, .aload 0, .iload 3, .invokevirtual 129, .goto 38] L st m := by rw [rn_eq, b_X7_count_8]
theorem r_X7_count_37 : rn sh tb mN mO C rt (codeZ 184) 37 L st m = exI sh tb mN mO C rt (rn sh tb mN mO C rt (codeZ 184)) [.sipush (0), .iadd, .istore 2, .iinc 3 (1), .goto 8] L st m := by rw [rn_eq, b_X7_count_37]
theorem r_X7_count_38 : rn sh tb mN mO C rt (codeZ 184) 38 L st m = exI sh tb mN mO C rt (rn sh tb mN mO C rt (codeZ 184)) [.iadd, .istore 2, .iinc 3 (1), .goto 8] L st m := by rw [rn_eq, b_X7_count_38]
theorem r_X7_count_46 : rn sh tb mN mO C rt (codeZ 184) 46 L st m = exI sh tb mN mO C rt (rn sh tb mN mO C rt (codeZ 184)) [.iload 1, .tableswitch 147 (0) (5) #[84, 89, 97, 117, 122, 145]] L st m := by rw [rn_eq, b_X7_count_46]
theorem r_X7_count_84 : rn sh tb mN mO C rt (codeZ 184) 84 L st m = exI sh tb mN mO C rt (rn sh tb mN mO C rt (codeZ 184)) [.aload 0, .invokevirtual 134, .ireturn] L st m := by rw [rn_eq, b_X7_count_84]
theorem r_X7_count_89 : rn sh tb mN mO C rt (codeZ 184) 89 L st m = exI sh tb mN mO C rt (rn sh tb mN mO C rt (codeZ 184)) [.aload 0, .getfield 700, .sipush (44), .iaload, .ireturn] L st m := by rw [rn_eq, b_X7_count_89]
theorem r_X7_count_97 : rn sh tb mN mO C rt (codeZ 184) 97 L st m = exI sh tb mN mO C rt (rn sh tb mN mO C rt (codeZ 184)) [.aload 0, .getfield 702, .sipush (0), .baload, .invokestatic 102, .aload 0, .getfield 702, .sipush (1), .baload, .invokestatic 102, .iadd, .ireturn] L st m := by rw [rn_eq, b_X7_count_97]
theorem r_X7_count_117 : rn sh tb mN mO C rt (codeZ 184) 117 L st m = exI sh tb mN mO C rt (rn sh tb mN mO C rt (codeZ 184)) [.aload 0, .getfield 709, .ireturn] L st m := by rw [rn_eq, b_X7_count_117]
theorem r_X7_count_122 : rn sh tb mN mO C rt (codeZ 184) 122 L st m = exI sh tb mN mO C rt (rn sh tb mN mO C rt (codeZ 184)) [.aload 0, .getfield 724, .sipush (0), .iaload, .sipush (-4), .if_icmp .ne 138, .sipush (-4), .goto 144] L st m := by rw [rn_eq, b_X7_count_122]
theorem r_X7_count_138 : rn sh tb mN mO C rt (codeZ 184) 138 L st m = exI sh tb mN mO C rt (rn sh tb mN mO C rt (codeZ 184)) [.aload 0, .getfield 725, .sipush (0), .iaload, .ireturn] L st m := by rw [rn_eq, b_X7_count_138]
theorem r_X7_count_144 : rn sh tb mN mO C rt (codeZ 184) 144 L st m = exI sh tb mN mO C rt (rn sh tb mN mO C rt (codeZ 184)) [.ireturn] L st m := by rw [rn_eq, b_X7_count_144]
theorem r_X7_count_145 : rn sh tb mN mO C rt (codeZ 184) 145 L st m = exI sh tb mN mO C rt (rn sh tb mN mO C rt (codeZ 184)) [.iload 2, .ireturn] L st m := by rw [rn_eq, b_X7_count_145]
theorem r_X7_count_147 : rn sh tb mN mO C rt (codeZ 184) 147 L st m = exI sh tb mN mO C rt (rn sh tb mN mO C rt (codeZ 184)) [.sipush (-1), .ireturn] L st m := by rw [rn_eq, b_X7_count_147]
theorem r_J6_bitCount_0f7a4_0 : rn sh tb mN mO C rt (codeZ 185) 0 L st m = exI sh tb mN mO C rt (rn sh tb mN mO C rt (codeZ 185)) [.iload 0, .iload 0, .sipush (1), .iushr, .sipush (1431655765), .iand, .isub, .istore 0, .iload 0, .sipush (858993459), .iand, .iload 0, .sipush (2), .iushr, .sipush (858993459), .iand, .iadd, .istore 0, .iload 0, .iload 0, .sipush (4), .iushr, .iadd, .sipush (252645135), .iand, .istore 0, .iload 0, .iload 0, .sipush (8), .iushr, .iadd, .istore 0, .iload 0, .iload 0, .sipush (16), .iushr, .iadd, .istore 0, .iload 0, .sipush (63), .iand, .ireturn] L st m := by rw [rn_eq, b_J6_bitCount_0f7a4_0]
end RR
end
section
/-! BECOME: written by wip/gen/become.py -/
theorem cp_of {sh : List ShE} {o0 o1 N k : Nat} {r0 r1 : List Nat} (h0 : sh[o0]? = some (.inr (0, N, r0))) (h1 : sh[o1]? = some (.inr (0, N, r1))) (hne : o0 ≠ o1) (hk : k ≤ N) (hN : N < 2 ^ 31) (m : Mm) : cpI sh o0 o1 0 0 (nI k) m = some (setR m o1 (fillR (m.1 o0) (m.1 o1) k)) := by
  have z : (0 : Int32).toNatClampNeg = 0 := by decide
  have c : (nI k).toNatClampNeg = k := nI_clamp (by omega)
  have p : (0 : Int32) ≤ nI k := nI_pos' (by omega)
  unfold cpI
  rw [h0, h1]
  simp only
  rw [if_pos ⟨by decide, by decide, p, by rw [z, c]; omega, by rw [z, c]; omega, hne⟩, z, c]
  unfold setR
  congr 3
  funext j
  unfold va_cpy fillR
  by_cases h : j < k
  · rw [if_pos (by omega), if_pos h, show 0 + (j - 0) = j by omega]
  · rw [if_neg (by omega), if_neg h]
theorem t_becomeW {sh : List ShE} {w v : Nat} (wS : List Value → Mm → Option Rs) (d : Nat) (hw : WSh sh w) (hv : WSh sh v) (hd : v + 8 < w ∨ w + 8 < v) (m : Mm) : ∃ m', semZ sh wS (d + 1) 25 [.ref w, .ref v] m = some (none, m') ∧ (∀ j, j < 8 → m'.1 w j = m.1 v j) ∧ (∀ j, j < 4 → m'.1 (w + 1) j = m.1 (v + 1) j) ∧ (∀ j, j < 4 → m'.1 (w + 2) j = m.1 (v + 2) j) ∧ (∀ j, j < 4 → m'.1 (w + 3) j = m.1 (v + 3) j) ∧ (∀ j, j < 6 → m'.1 (w + 4) j = m.1 (v + 4) j) ∧ (∀ j, j < 6 → m'.1 (w + 5) j = m.1 (v + 5) j) ∧ (∀ j, j < 6 → m'.1 (w + 6) j = m.1 (v + 6) j) ∧ (∀ j, j < 6 → m'.1 (w + 7) j = m.1 (v + 7) j) ∧ (∀ j, j < 6 → m'.1 (w + 8) j = m.1 (v + 8) j) ∧ (∀ q, q < w ∨ w + 8 < q → m'.1 q = m.1 q) := by
  have ne : v ≠ w := by omega
  have fr : ∀ (m : Mm) (j : Nat) (x : Int32) (i : Nat), (wI m w j x).1 v i = m.1 v i := fun m j x i => wI_o m w j x i ne
  have M0 : ∃ M, M = wI (wI (wI (wI (wI (wI (wI (wI m w 0 (m.1 v 0)) w 1 (m.1 v 1)) w 2 (m.1 v 2)) w 3 (m.1 v 3)) w 4 (m.1 v 4)) w 5 (m.1 v 5)) w 6 (m.1 v 6)) w 7 (m.1 v 7) := ⟨_, rfl⟩
  obtain ⟨M0, e0⟩ := M0
  obtain ⟨M1, e1⟩ : ∃ M, M = setR M0 (w + 1) (fillR (M0.1 (v + 1)) (M0.1 (w + 1)) 4) := ⟨_, rfl⟩
  obtain ⟨M2, e2⟩ : ∃ M, M = setR M1 (w + 2) (fillR (M1.1 (v + 2)) (M1.1 (w + 2)) 4) := ⟨_, rfl⟩
  obtain ⟨M3, e3⟩ : ∃ M, M = setR M2 (w + 3) (fillR (M2.1 (v + 3)) (M2.1 (w + 3)) 4) := ⟨_, rfl⟩
  obtain ⟨M4, e4⟩ : ∃ M, M = setR M3 (w + 4) (fillR (M3.1 (v + 4)) (M3.1 (w + 4)) 6) := ⟨_, rfl⟩
  obtain ⟨M5, e5⟩ : ∃ M, M = setR M4 (w + 5) (fillR (M4.1 (v + 5)) (M4.1 (w + 5)) 6) := ⟨_, rfl⟩
  obtain ⟨M6, e6⟩ : ∃ M, M = setR M5 (w + 6) (fillR (M5.1 (v + 6)) (M5.1 (w + 6)) 6) := ⟨_, rfl⟩
  obtain ⟨M7, e7⟩ : ∃ M, M = setR M6 (w + 7) (fillR (M6.1 (v + 7)) (M6.1 (w + 7)) 6) := ⟨_, rfl⟩
  obtain ⟨M8, e8⟩ : ∃ M, M = setR M7 (w + 8) (fillR (M7.1 (v + 8)) (M7.1 (w + 8)) 6) := ⟨_, rfl⟩
  have c1 : cpI sh (v + 1) (w + 1) 0 0 4 M0 = some M1 := by
    rw [e1]
    exact cp_of (k := 4) hv.2.1 hw.2.1 (by omega) (by omega) (by omega) M0
  have c2 : cpI sh (v + 2) (w + 2) 0 0 4 M1 = some M2 := by
    rw [e2]
    exact cp_of (k := 4) hv.2.2.1 hw.2.2.1 (by omega) (by omega) (by omega) M1
  have c3 : cpI sh (v + 3) (w + 3) 0 0 4 M2 = some M3 := by
    rw [e3]
    exact cp_of (k := 4) hv.2.2.2.1 hw.2.2.2.1 (by omega) (by omega) (by omega) M2
  have c4 : cpI sh (v + 4) (w + 4) 0 0 6 M3 = some M4 := by
    rw [e4]
    exact cp_of (k := 6) hv.2.2.2.2.1 hw.2.2.2.2.1 (by omega) (by omega) (by omega) M3
  have c5 : cpI sh (v + 5) (w + 5) 0 0 6 M4 = some M5 := by
    rw [e5]
    exact cp_of (k := 6) hv.2.2.2.2.2.1 hw.2.2.2.2.2.1 (by omega) (by omega) (by omega) M4
  have c6 : cpI sh (v + 6) (w + 6) 0 0 6 M5 = some M6 := by
    rw [e6]
    exact cp_of (k := 6) hv.2.2.2.2.2.2.1 hw.2.2.2.2.2.2.1 (by omega) (by omega) (by omega) M5
  have c7 : cpI sh (v + 7) (w + 7) 0 0 6 M6 = some M7 := by
    rw [e7]
    exact cp_of (k := 6) hv.2.2.2.2.2.2.2.1 hw.2.2.2.2.2.2.2.1 (by omega) (by omega) (by omega) M6
  have c8 : cpI sh (v + 8) (w + 8) 0 0 6 M7 = some M8 := by
    rw [e8]
    exact cp_of (k := 6) hv.2.2.2.2.2.2.2.2 hw.2.2.2.2.2.2.2.2 (by omega) (by omega) (by omega) M7
  have r0 : ∀ q, q ≠ w → M0.1 q = m.1 q := fun q h => by
    rw [e0]
    rw [wI_n _ _ _ _ h, wI_n _ _ _ _ h, wI_n _ _ _ _ h, wI_n _ _ _ _ h, wI_n _ _ _ _ h, wI_n _ _ _ _ h, wI_n _ _ _ _ h, wI_n _ _ _ _ h]
  have s1 : ∀ q, q ≠ w + 1 → M1.1 q = M0.1 q := fun q h => by
    rw [e1]
    exact setR_n _ _ h
  have s2 : ∀ q, q ≠ w + 2 → M2.1 q = M1.1 q := fun q h => by
    rw [e2]
    exact setR_n _ _ h
  have s3 : ∀ q, q ≠ w + 3 → M3.1 q = M2.1 q := fun q h => by
    rw [e3]
    exact setR_n _ _ h
  have s4 : ∀ q, q ≠ w + 4 → M4.1 q = M3.1 q := fun q h => by
    rw [e4]
    exact setR_n _ _ h
  have s5 : ∀ q, q ≠ w + 5 → M5.1 q = M4.1 q := fun q h => by
    rw [e5]
    exact setR_n _ _ h
  have s6 : ∀ q, q ≠ w + 6 → M6.1 q = M5.1 q := fun q h => by
    rw [e6]
    exact setR_n _ _ h
  have s7 : ∀ q, q ≠ w + 7 → M7.1 q = M6.1 q := fun q h => by
    rw [e7]
    exact setR_n _ _ h
  have s8 : ∀ q, q ≠ w + 8 → M8.1 q = M7.1 q := fun q h => by
    rw [e8]
    exact setR_n _ _ h
  refine ⟨M8, ?_, fun j hj => ?_, fun j hj => ?_, fun j hj => ?_, fun j hj => ?_, fun j hj => ?_, fun j hj => ?_, fun j hj => ?_, fun j hj => ?_, fun j hj => ?_, fun q hq => ?_⟩
  · rw [se_X5_become, r_X5_become_0]
    simp only [EV, LV, CB, OI, OL, NP, CZ, popN, CT, OZ, List.map_nil, List.map_cons, List.sum_nil, List.sum_cons, Option.toList, List.nil_append, List.cons_append, Int.reduceToNat, Nat.reduceAdd, Nat.reduceLT, Nat.reduceLeDiff, List.length_cons, List.length_nil, Nat.zero_add, if_true, if_false, reduceIte, and_self, and_true, true_and, eq_self, reduceCtorEq, gW hw, gW hv, pW hw, fr, ← e0, c1, c2, c3, c4, c5, c6, c7, c8]
  · rw [s8 _ (by omega), s7 _ (by omega), s6 _ (by omega), s5 _ (by omega), s4 _ (by omega), s3 _ (by omega), s2 _ (by omega), s1 _ (by omega), e0]
    match j, hj with
    | 0, _ => rw [wI_j _ _ _ _ _ (by omega), wI_j _ _ _ _ _ (by omega), wI_j _ _ _ _ _ (by omega), wI_j _ _ _ _ _ (by omega), wI_j _ _ _ _ _ (by omega), wI_j _ _ _ _ _ (by omega), wI_j _ _ _ _ _ (by omega), wI_s]
    | 1, _ => rw [wI_j _ _ _ _ _ (by omega), wI_j _ _ _ _ _ (by omega), wI_j _ _ _ _ _ (by omega), wI_j _ _ _ _ _ (by omega), wI_j _ _ _ _ _ (by omega), wI_j _ _ _ _ _ (by omega), wI_s]
    | 2, _ => rw [wI_j _ _ _ _ _ (by omega), wI_j _ _ _ _ _ (by omega), wI_j _ _ _ _ _ (by omega), wI_j _ _ _ _ _ (by omega), wI_j _ _ _ _ _ (by omega), wI_s]
    | 3, _ => rw [wI_j _ _ _ _ _ (by omega), wI_j _ _ _ _ _ (by omega), wI_j _ _ _ _ _ (by omega), wI_j _ _ _ _ _ (by omega), wI_s]
    | 4, _ => rw [wI_j _ _ _ _ _ (by omega), wI_j _ _ _ _ _ (by omega), wI_j _ _ _ _ _ (by omega), wI_s]
    | 5, _ => rw [wI_j _ _ _ _ _ (by omega), wI_j _ _ _ _ _ (by omega), wI_s]
    | 6, _ => rw [wI_j _ _ _ _ _ (by omega), wI_s]
    | 7, _ => rw [wI_s]
  · rw [s8 _ (by omega), s7 _ (by omega), s6 _ (by omega), s5 _ (by omega), s4 _ (by omega), s3 _ (by omega), s2 _ (by omega), e1, setR_s]
    unfold fillR
    rw [if_pos hj, r0 _ (by omega)]
  · rw [s8 _ (by omega), s7 _ (by omega), s6 _ (by omega), s5 _ (by omega), s4 _ (by omega), s3 _ (by omega), e2, setR_s]
    unfold fillR
    rw [if_pos hj, s1 _ (by omega), r0 _ (by omega)]
  · rw [s8 _ (by omega), s7 _ (by omega), s6 _ (by omega), s5 _ (by omega), s4 _ (by omega), e3, setR_s]
    unfold fillR
    rw [if_pos hj, s2 _ (by omega), s1 _ (by omega), r0 _ (by omega)]
  · rw [s8 _ (by omega), s7 _ (by omega), s6 _ (by omega), s5 _ (by omega), e4, setR_s]
    unfold fillR
    rw [if_pos hj, s3 _ (by omega), s2 _ (by omega), s1 _ (by omega), r0 _ (by omega)]
  · rw [s8 _ (by omega), s7 _ (by omega), s6 _ (by omega), e5, setR_s]
    unfold fillR
    rw [if_pos hj, s4 _ (by omega), s3 _ (by omega), s2 _ (by omega), s1 _ (by omega), r0 _ (by omega)]
  · rw [s8 _ (by omega), s7 _ (by omega), e6, setR_s]
    unfold fillR
    rw [if_pos hj, s5 _ (by omega), s4 _ (by omega), s3 _ (by omega), s2 _ (by omega), s1 _ (by omega), r0 _ (by omega)]
  · rw [s8 _ (by omega), e7, setR_s]
    unfold fillR
    rw [if_pos hj, s6 _ (by omega), s5 _ (by omega), s4 _ (by omega), s3 _ (by omega), s2 _ (by omega), s1 _ (by omega), r0 _ (by omega)]
  · rw [e8, setR_s]
    unfold fillR
    rw [if_pos hj, s7 _ (by omega), s6 _ (by omega), s5 _ (by omega), s4 _ (by omega), s3 _ (by omega), s2 _ (by omega), s1 _ (by omega), r0 _ (by omega)]
  · rw [s8 _ (by omega), s7 _ (by omega), s6 _ (by omega), s5 _ (by omega), s4 _ (by omega), s3 _ (by omega), s2 _ (by omega), s1 _ (by omega), r0 _ (by omega)]
theorem t_becomeS {sh : List ShE} {w v : Nat} (wS : List Value → Mm → Option Rs) (d : Nat) (hw : SSh sh w) (hv : SSh sh v) (hd : v + 3 < w ∨ w + 3 < v) (m : Mm) : ∃ m', semZ sh wS (d + 1) 6 [.ref w, .ref v] m = some (none, m') ∧ (∀ j, j < 1 → m'.1 w j = m.1 v j) ∧ (∀ j, j < 6 → m'.1 (w + 1) j = m.1 (v + 1) j) ∧ (∀ j, j < 6 → m'.1 (w + 2) j = m.1 (v + 2) j) ∧ (∀ j, j < 6 → m'.1 (w + 3) j = m.1 (v + 3) j) ∧ (∀ q, q < w ∨ w + 3 < q → m'.1 q = m.1 q) := by
  have ne : v ≠ w := by omega
  have fr : ∀ (m : Mm) (j : Nat) (x : Int32) (i : Nat), (wI m w j x).1 v i = m.1 v i := fun m j x i => wI_o m w j x i ne
  have M0 : ∃ M, M = wI m w 0 (m.1 v 0) := ⟨_, rfl⟩
  obtain ⟨M0, e0⟩ := M0
  obtain ⟨M1, e1⟩ : ∃ M, M = setR M0 (w + 1) (fillR (M0.1 (v + 1)) (M0.1 (w + 1)) 6) := ⟨_, rfl⟩
  obtain ⟨M2, e2⟩ : ∃ M, M = setR M1 (w + 2) (fillR (M1.1 (v + 2)) (M1.1 (w + 2)) 6) := ⟨_, rfl⟩
  obtain ⟨M3, e3⟩ : ∃ M, M = setR M2 (w + 3) (fillR (M2.1 (v + 3)) (M2.1 (w + 3)) 6) := ⟨_, rfl⟩
  have c1 : cpI sh (v + 1) (w + 1) 0 0 6 M0 = some M1 := by
    rw [e1]
    exact cp_of (k := 6) hv.2.1 hw.2.1 (by omega) (by omega) (by omega) M0
  have c2 : cpI sh (v + 2) (w + 2) 0 0 6 M1 = some M2 := by
    rw [e2]
    exact cp_of (k := 6) hv.2.2.1 hw.2.2.1 (by omega) (by omega) (by omega) M1
  have c3 : cpI sh (v + 3) (w + 3) 0 0 6 M2 = some M3 := by
    rw [e3]
    exact cp_of (k := 6) hv.2.2.2 hw.2.2.2 (by omega) (by omega) (by omega) M2
  have r0 : ∀ q, q ≠ w → M0.1 q = m.1 q := fun q h => by
    rw [e0]
    rw [wI_n _ _ _ _ h]
  have s1 : ∀ q, q ≠ w + 1 → M1.1 q = M0.1 q := fun q h => by
    rw [e1]
    exact setR_n _ _ h
  have s2 : ∀ q, q ≠ w + 2 → M2.1 q = M1.1 q := fun q h => by
    rw [e2]
    exact setR_n _ _ h
  have s3 : ∀ q, q ≠ w + 3 → M3.1 q = M2.1 q := fun q h => by
    rw [e3]
    exact setR_n _ _ h
  refine ⟨M3, ?_, fun j hj => ?_, fun j hj => ?_, fun j hj => ?_, fun j hj => ?_, fun q hq => ?_⟩
  · rw [se_X2_become, r_X2_become_0]
    simp only [EV, LV, CB, OI, OL, NP, CZ, popN, CT, OZ, List.map_nil, List.map_cons, List.sum_nil, List.sum_cons, Option.toList, List.nil_append, List.cons_append, Int.reduceToNat, Nat.reduceAdd, Nat.reduceLT, Nat.reduceLeDiff, List.length_cons, List.length_nil, Nat.zero_add, if_true, if_false, reduceIte, and_self, and_true, true_and, eq_self, reduceCtorEq, gS hw, gS hv, pS hw, fr, ← e0, c1, c2, c3]
  · rw [s3 _ (by omega), s2 _ (by omega), s1 _ (by omega), e0]
    match j, hj with
    | 0, _ => rw [wI_s]
  · rw [s3 _ (by omega), s2 _ (by omega), e1, setR_s]
    unfold fillR
    rw [if_pos hj, r0 _ (by omega)]
  · rw [s3 _ (by omega), e2, setR_s]
    unfold fillR
    rw [if_pos hj, s1 _ (by omega), r0 _ (by omega)]
  · rw [e3, setR_s]
    unfold fillR
    rw [if_pos hj, s2 _ (by omega), s1 _ (by omega), r0 _ (by omega)]
  · rw [s3 _ (by omega), s2 _ (by omega), s1 _ (by omega), r0 _ (by omega)]
end
