/-! one plain instruction -/
section SimS
variable {l : Launch} {sh : List ShE} {ad : Nat → Nat} {dA : Nat → ClassId} {D : va_G}
variable {p : Program} {e : Env} {R : Room} {s : State} {m : MethodId} {args : Array Value} {below : List Frame} {meth : Method} {c : Code} {cells slots : Nat} {Q : State → Prop}
variable {tb : Nat → Option (List Int32)} {A : Nat → Prop} {own nL fr lo : Nat} {cc : ByteArray} {C : CallS}
theorem meth_of {own x z : Nat} {b : Bool} (h : methTab.any (fun q => decide (q.1 = own ∧ q.2.1 = x ∧ q.2.2.1 = z ∧ q.2.2.2.1 = b)) = true) : z + 1 < nZ ∧ mS z = b ∧ Cond.methodLink (clsN own) x (mY z) ∈ tblG := by
  obtain ⟨q, hq, h1⟩ := List.any_eq_true.mp h
  obtain ⟨rfl, rfl, rfl, rfl⟩ := of_decide_eq_true h1
  have h2 := List.all_eq_true.mp mT_ok q hq
  simp only [Bool.and_eq_true, decide_eq_true_eq] at h2
  exact ⟨h2.2.1, h2.2.2, wAt_mem h2.1⟩
/-- getfield -/
theorem go_get (X : Cx sh tb ad dA D A own nL cc p s m args c) {k o x pc : Nat} {L st : List Value} {m0 : Mm} {v : Value} (h : gfI sh k o m0 = some v) (hf : fieldTab.any (fun q => decide (q.1 = own ∧ q.2.1 = x ∧ q.2.2.1 = k)) = true) (hd : decode cc pc = .ok (.getfield x, 3))
    (kk : Gd l sh ad dA D A nL p e R s m args below meth c cells slots Q (pc + 3) L (v :: st) m0) : Gd l sh ad dA D A nL p e R s m args below meth c cells slots Q pc L (.ref o :: st) m0 := by
  intro ls H locs hl hH
  obtain ⟨hx, hb, hml, hown, hts, hK, hsh, hSt, hA⟩ := X
  obtain ⟨f1, f2, f3⟩ := fld_of hf
  unfold gfI at h
  split at h
  · rename_i ci fs ho
    split at h
    · rename_i hci
      split at h
      · rename_i t hj
        simp only [Option.some.injEq] at h
        subst h
        subst hci
        exact va_get (D := D) (cl := clsT) (C := (clE (k / 100)).1) (T := (clE (k / 100)).2.1) (N := (clE (k / 100)).2.2) hx hb hts (lay_ok f1) hown hK hH.1 o (cells_get ho) (clE_get f1) (k % 100) f2 (hts _ f3) (fun _ h9 => h9) (v := cv ad (fval m0 o (k % 100) t)) (by simp [mapI_get, hj]) hd (kk ls H locs hl hH)
      · cases h
    · cases h
  · cases h
theorem k_int {ci j : Nat} (h : ci < 8) (hj : j < (clE ci).2.2) (hk : kOK ci j 0 = true) : parseFieldDescriptor ((clE ci).2.1 j).2.2.1 = some .int ∧ ((clE ci).2.1 j).2.2.2 = false := by
  have := of_decide_eq_true hk
  exact ⟨by rw [this.1]; decide +kernel, this.2⟩
theorem k_long {ci j : Nat} (h : ci < 8) (hj : j < (clE ci).2.2) (hk : kOK ci j 1 = true) : parseFieldDescriptor ((clE ci).2.1 j).2.2.1 = some .long ∧ ((clE ci).2.1 j).2.2.2 = false := by
  have := of_decide_eq_true hk
  exact ⟨by rw [this.1]; decide +kernel, this.2⟩
theorem k_bool {ci j : Nat} (h : ci < 8) (hj : j < (clE ci).2.2) (hk : kOK ci j 2 = true) : parseFieldDescriptor ((clE ci).2.1 j).2.2.1 = some .boolean ∧ ((clE ci).2.1 j).2.2.2 = false := by
  have := of_decide_eq_true hk
  exact ⟨by rw [this.1]; decide +kernel, this.2⟩
/-- putfield -/
theorem go_put (X : Cx sh tb ad dA D A own nL cc p s m args c) {k o x pc : Nat} {L st : List Value} {m0 m1 : Mm} {v : Value} (h : pfI sh k o v m0 = some m1) (hf : fieldTab.any (fun q => decide (q.1 = own ∧ q.2.1 = x ∧ q.2.2.1 = k)) = true) (hd : decode cc pc = .ok (.putfield x, 3))
    (kk : Gd l sh ad dA D A nL p e R s m args below meth c cells slots Q (pc + 3) L st m1) : Gd l sh ad dA D A nL p e R s m args below meth c cells slots Q pc L (v :: .ref o :: st) m0 := by
  intro ls H locs hl hH
  obtain ⟨hx, hb, hml, hown, hts, hK, hsh, hSt, hA⟩ := X
  obtain ⟨f1, f2, f3⟩ := fld_of hf
  unfold pfI at h
  split at h
  · rename_i ci fs ho
    obtain ⟨s1, s2, s3⟩ := sh_at hsh ho
    split at h
    · rename_i hci
      subst hci
      split at h
      · rename_i y hj
        simp only [Option.some.injEq] at h
        subst h
        obtain ⟨g1, g2⟩ := k_int f1 f2 (s3 _ _ hj)
        refine va_put (D := D) (cl := clsT) (C := (clE (k / 100)).1) (T := (clE (k / 100)).2.1) (N := (clE (k / 100)).2.2) hx hb hts (lay_ok f1) (tyT (k / 100)) (ty_ok f1) (nm_ok f1) hown hK hH.1 hH.2.1 hH.2.2 o (cells_get ho) (clE_get f1) (k % 100) f2 (hts _ f3) (fun _ h9 => h9) g2 (v := .int y) g1 rfl rfl (by rw [mapI_len, s2]; exact f2) hd (fun H1 locs1 p1 p2 p3 => ?_)
        rw [cells_fI y ho hj (Or.inl rfl)] at p1 p2
        exact kk ls H1 locs1 hl ⟨p1, p2, p3⟩
      · rename_i y hj
        simp only [Option.some.injEq] at h
        subst h
        obtain ⟨g1, g2⟩ := k_long f1 f2 (s3 _ _ hj)
        refine va_put (D := D) (cl := clsT) (C := (clE (k / 100)).1) (T := (clE (k / 100)).2.1) (N := (clE (k / 100)).2.2) hx hb hts (lay_ok f1) (tyT (k / 100)) (ty_ok f1) (nm_ok f1) hown hK hH.1 hH.2.1 hH.2.2 o (cells_get ho) (clE_get f1) (k % 100) f2 (hts _ f3) (fun _ h9 => h9) g2 (v := .long y) g1 rfl rfl (by rw [mapI_len, s2]; exact f2) hd (fun H1 locs1 p1 p2 p3 => ?_)
        rw [cells_fL y ho hj] at p1 p2
        exact kk ls H1 locs1 hl ⟨p1, p2, p3⟩
      · rename_i y hj
        split at h
        · rename_i h01
          simp only [Option.some.injEq] at h
          subst h
          obtain ⟨g1, g2⟩ := k_bool f1 f2 (s3 _ _ hj)
          refine va_put (D := D) (cl := clsT) (C := (clE (k / 100)).1) (T := (clE (k / 100)).2.1) (N := (clE (k / 100)).2.2) hx hb hts (lay_ok f1) (tyT (k / 100)) (ty_ok f1) (nm_ok f1) hown hK hH.1 hH.2.1 hH.2.2 o (cells_get ho) (clE_get f1) (k % 100) f2 (hts _ f3) (fun _ h9 => h9) g2 (v := .int y) g1 (by rcases h01 with rfl | rfl <;> decide +kernel) (by rcases h01 with rfl | rfl <;> decide +kernel) (by rw [mapI_len, s2]; exact f2) hd (fun H1 locs1 p1 p2 p3 => ?_)
          rw [cells_fI y ho hj (Or.inr rfl)] at p1 p2
          exact kk ls H1 locs1 hl ⟨p1, p2, p3⟩
        · cases h
      · cases h
    · cases h
  · cases h
/-- arrays -/
theorem go_iald (X : Cx sh tb ad dA D A own nL cc p s m args c) {o pc : Nat} {i y : Int32} {L st : List Value} {m0 : Mm} (h : alI sh tb 0 o i m0 = some y) (hd : decode cc pc = .ok (.iaload, 1))
    (kk : Gd l sh ad dA D A nL p e R s m args below meth c cells slots Q (pc + 1) L (.int y :: st) m0) : Gd l sh ad dA D A nL p e R s m args below meth c cells slots Q pc L (.int i :: .ref o :: st) m0 := by
  intro ls H locs hl hH
  obtain ⟨hx, hb, hml, hown, hts, hK, hsh, hSt, hA⟩ := X
  unfold alI at h
  split at h
  · rename_i k n rs ho
    split at h
    · rename_i hc
      obtain ⟨rfl, hin⟩ := hc
      simp only [Option.some.injEq] at h
      subst h
      exact va_iald (D := D) (cl := clsT) hx hb hK hH.1 o 0 (cells_get ho) rfl (vp_inR hin) hd (kk ls H locs hl hH)
    · cases h
  · cases h
  · rename_i ho
    split at h
    · rename_i T ht
      split at h
      · rename_i hc
        simp only [Option.some.injEq] at h
        exact va_ti (v := .int y) hx hb (hSt.1 o T ho ht) hH.2.2 (vp_inR hc.2) (by rw [← h]) hd (kk ls H locs hl hH)
      · cases h
    · cases h
theorem go_bald (X : Cx sh tb ad dA D A own nL cc p s m args c) {o pc : Nat} {i y : Int32} {L st : List Value} {m0 : Mm} (h : alI sh tb 1 o i m0 = some y) (hd : decode cc pc = .ok (.baload, 1))
    (kk : Gd l sh ad dA D A nL p e R s m args below meth c cells slots Q (pc + 1) L (.int y :: st) m0) : Gd l sh ad dA D A nL p e R s m args below meth c cells slots Q pc L (.int i :: .ref o :: st) m0 := by
  intro ls H locs hl hH
  obtain ⟨hx, hb, hml, hown, hts, hK, hsh, hSt, hA⟩ := X
  unfold alI at h
  split at h
  · rename_i k n rs ho
    split at h
    · rename_i hc
      obtain ⟨rfl, hin⟩ := hc
      simp only [Option.some.injEq] at h
      subst h
      exact va_zald (D := D) (cl := clsT) hx hb hK hH.1 o 1 (cells_get ho) rfl (vp_inR hin) hd (kk ls H locs hl hH)
    · cases h
  · cases h
  · split at h
    · split at h
      · rename_i hc
        exact absurd hc.1 (by decide)
      · cases h
    · cases h
theorem go_iast (X : Cx sh tb ad dA D A own nL cc p s m args c) {o pc : Nat} {i y : Int32} {L st : List Value} {m0 m1 : Mm} (h : asI sh 0 o i y m0 = some m1) (hd : decode cc pc = .ok (.iastore, 1))
    (kk : Gd l sh ad dA D A nL p e R s m args below meth c cells slots Q (pc + 1) L st m1) : Gd l sh ad dA D A nL p e R s m args below meth c cells slots Q pc L (.int y :: .int i :: .ref o :: st) m0 := by
  intro ls H locs hl hH
  obtain ⟨hx, hb, hml, hown, hts, hK, hsh, hSt, hA⟩ := X
  unfold asI at h
  split at h
  · rename_i k n rs ho
    split at h
    · rename_i hc
      obtain ⟨rfl, hin, -⟩ := hc
      simp only [Option.some.injEq] at h
      subst h
      refine va_iast (D := D) (cl := clsT) hx hb hK hH.1 hH.2.1 hH.2.2 o 0 (cells_get ho) rfl (vp_inR hin) hd (fun H1 locs1 p1 p2 p3 => ?_)
      rw [cells_row _ ho (by decide)] at p1 p2
      exact kk ls H1 locs1 hl ⟨p1, p2, p3⟩
    · cases h
  · cases h
theorem nar_z {y : Int32} (h : y = 0 ∨ y = 1) : vp_nar .boolean y = y := by rcases h with rfl | rfl <;> decide +kernel
theorem go_bast (X : Cx sh tb ad dA D A own nL cc p s m args c) {o pc : Nat} {i y : Int32} {L st : List Value} {m0 m1 : Mm} (h : asI sh 1 o i y m0 = some m1) (hd : decode cc pc = .ok (.bastore, 1))
    (kk : Gd l sh ad dA D A nL p e R s m args below meth c cells slots Q (pc + 1) L st m1) : Gd l sh ad dA D A nL p e R s m args below meth c cells slots Q pc L (.int y :: .int i :: .ref o :: st) m0 := by
  intro ls H locs hl hH
  obtain ⟨hx, hb, hml, hown, hts, hK, hsh, hSt, hA⟩ := X
  unfold asI at h
  split at h
  · rename_i k n rs ho
    split at h
    · rename_i hc
      obtain ⟨rfl, hin, h01⟩ := hc
      have h01 : y = 0 ∨ y = 1 := by
        rcases h01 with h | h | h
        · cases h
        · exact Or.inl h
        · exact Or.inr h
      simp only [Option.some.injEq] at h
      subst h
      refine va_zast (D := D) (cl := clsT) hx hb hK hH.1 hH.2.1 hH.2.2 o 1 (cells_get ho) rfl (vp_inR hin) hd (fun H1 locs1 p1 p2 p3 => ?_)
      rw [nar_z h01] at p1 p2
      rw [cells_row _ ho (by decide)] at p1 p2
      exact kk ls H1 locs1 hl ⟨p1, p2, p3⟩
    · cases h
  · cases h
theorem go_aald (X : Cx sh tb ad dA D A own nL cc p s m args c) {o q pc : Nat} {i : Int32} {L st : List Value} {m0 : Mm} (h : arI sh o i = some q) (hd : decode cc pc = .ok (.aaload, 1))
    (kk : Gd l sh ad dA D A nL p e R s m args below meth c cells slots Q (pc + 1) L (.ref q :: st) m0) : Gd l sh ad dA D A nL p e R s m args below meth c cells slots Q pc L (.int i :: .ref o :: st) m0 := by
  intro ls H locs hl hH
  obtain ⟨hx, hb, hml, hown, hts, hK, hsh, hSt, hA⟩ := X
  unfold arI at h
  split at h
  · rename_i k n rs ho
    split at h
    · rename_i hc
      obtain ⟨hk, hin⟩ := hc
      have hcell := cells_get (ad := ad) (dA := dA) (m := m0) ho
      have kk' := kk ls H locs hl hH
      rcases hk with rfl | rfl
      · refine va_aldq (D := D) (cl := clsT) hx hb hK hH.1 o 2 hcell rfl (vp_inR hin) hd ?_
        simp only [h, Option.map_some]
        exact kk'
      · refine va_aldq (D := D) (cl := clsT) hx hb hK hH.1 o 3 hcell rfl (vp_inR hin) hd ?_
        simp only [h, Option.map_some]
        exact kk'
    · cases h
  · cases h
theorem cp_room {n k : Nat} (h : n ≤ 8) (hk : 60 ≤ k) : n + (nativeFrameWords "java/lang/System" "arraycopy" 5 + 11) ≤ k := by
  have e9 : nativeFrameWords "java/lang/System" "arraycopy" 5 = 7 := by decide +kernel
  rw [e9]
  omega
theorem go_copy (X : Cx sh tb ad dA D A own nL cc p s m args c) (hfr : 1 ≤ R.frames) (hlo : 60 ≤ R.locals) {o0 o1 x pc : Nat} {sp dp n : Int32} {L st : List Value} {m0 m1 : Mm} (h : cpI sh o0 o1 sp dp n m0 = some m1) (hc : copyTab.any (fun q => decide (q.1 = own ∧ q.2.1 = x)) = true) (hcat : (st.map fun v => v.category).sum ≤ 8) (hd : decode cc pc = .ok (.invokestatic x, 3))
    (kk : Gd l sh ad dA D A nL p e R s m args below meth c cells slots Q (pc + 3) L st m1) : Gd l sh ad dA D A nL p e R s m args below meth c cells slots Q pc L (.int n :: .int dp :: .ref o1 :: .int sp :: .ref o0 :: st) m0 := by
  intro ls H locs hl hH
  obtain ⟨hx, hb, hml, hown, hts, hK, hsh, hSt, hA⟩ := X
  obtain ⟨q, hq, h1⟩ := List.any_eq_true.mp hc
  obtain ⟨rfl, rfl⟩ := of_decide_eq_true h1
  have hw := wAt_mem (List.all_eq_true.mp cT_ok q hq)
  have hcp := cp_ok
  simp only [Bool.and_eq_true] at hcp
  unfold cpI at h
  split at h
  · rename_i n0 r0 n1 r1 ho0 ho1
    split at h
    · rename_i hk
      obtain ⟨k1, k2, k3, k4, k5, k6⟩ := hk
      simp only [Option.some.injEq] at h
      subst h
      refine va_copyi (D := D) (cl := clsT) (ty := .int) hx hb (by rw [hml, hl.1]) hown (hts _ hw) (hts _ (wAt_mem hcp.1)) (hts _ (wAt_mem hcp.2.1)) (hts _ (wAt_mem hcp.2.2)) hK hH.1 hH.2.1 hH.2.2 o0 o1 0 0 (cells_get ho0) (cells_get ho1) rfl rfl rfl (Int32.not_lt.mpr k1) (Int32.not_lt.mpr k2) (Int32.not_lt.mpr k3) k4 k5 (fun _ _ => rfl) hfr (by rw [cat_sum]; exact cp_room hcat hlo) hd (fun H1 locs1 p1 p2 p3 => ?_)
      rw [cells_row _ ho1 (by decide)] at p1 p2
      exact kk ls H1 locs1 hl ⟨p1, p2, p3⟩
    · cases h
  · cases h
end SimS
