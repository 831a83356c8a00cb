/-! THE OBJECTS of a ProofFine (0 to 67) and of a ProofFineModel (68 to 80) -/
def worldE (w : Nat) : List ShE := [.inl (5, [0, 0, 0, 0, 0, 0, 0, 0, w + 4, w + 5, w + 6, w + 7, w + 8, w + 9, w + 10, w + 11]), .inr (0, 4, []), .inr (0, 4, []), .inr (0, 4, []), .inr (0, 6, []), .inr (0, 6, []), .inr (0, 6, []), .inr (0, 6, []), .inr (0, 6, [])]
def seenE (w : Nat) : List ShE := [.inl (2, [0, w + 4, w + 5, w + 6]), .inr (0, 6, []), .inr (0, 6, []), .inr (0, 6, [])]
def sheetE (w : Nat) : List ShE := [.inl (1, [2, 0, w + 4, 0]), .inr (0, 40, [])]
def modelE (w : Nat) : List ShE := [.inl (7, [w + 4, w + 5, w + 6, 0, w + 7, 0, 0, 0, w + 8, 0, 0, 0, 0, 0, 0, 0, w + 9, 0, 0, 1, 1, 1, w + 10, w + 11, w + 12, w + 13, w + 14, 0, w + 15]), .inr (0, 189, []), .inr (0, 63, []), .inr (1, 2, []), .inr (0, 63, []), .inr (0, 160, []), .inr (0, 4, []), .inr (0, 60, []), .inr (0, 40, []), .inr (0, 4, []), .inr (0, 4, []), .inr (0, 160, []), .inr (0, 63, [])]
def shP : List ShE := .inl (6, [4, 13, 22, 26, 30, 31, 32, 33, 34, 0]) :: (worldE 1 ++ (worldE 10 ++ (seenE 19 ++ ([.inl (4, [27, 0, 0, 29, 0]), .inl (3, [0, 0, 0, 28]), .inr (0, 160, []), .inr (0, 3, []), .inr (2, 2, [32, 46]), .inr (3, 4, [60, 62, 64, 66]), .inr (0, 4, []), .inr (0, 4, []), .inr (0, 40, [])] ++ ((.inl (0, [2, 36, 45]) :: worldE 33) ++ (seenE 42 ++ ((.inl (0, [2, 50, 59]) :: worldE 47) ++ (seenE 56 ++ (sheetE 60 ++ (sheetE 62 ++ (sheetE 64 ++ (sheetE 66 ++ modelE 68))))))))))))
theorem shP_ok : shOK shP = true := by decide +kernel
theorem shP_len : shP.length = 81 := by decide +kernel
/-! lists -/
theorem ld_0 (v : Value) (L : List Value) : ldL (v :: L) 0 = v := rfl
theorem ld_s (v : Value) (L : List Value) (i : Nat) : ldL (v :: L) (i + 1) = ldL L i := rfl
theorem st_0 (a v : Value) (L : List Value) : stL (a :: L) 0 v = v :: L := rfl
theorem st_i (x : Int32) (b v : Value) (L : List Value) : stL (.int x :: b :: L) 1 v = .int x :: v :: L := rfl
theorem st_r (x : Nat) (b v : Value) (L : List Value) : stL (.ref x :: b :: L) 1 v = .ref x :: v :: L := rfl
theorem st_n (b v : Value) (L : List Value) : stL (noV :: b :: L) 1 v = noV :: v :: L := rfl
theorem st_l (x : Int64) (b v : Value) (L : List Value) : stL (.long x :: b :: L) 1 v = noV :: v :: L := rfl
theorem st_s (a v : Value) (L : List Value) (i : Nat) : stL (a :: L) (i + 2) v = a :: stL L (i + 1) v := by
  show ((if (L.getD i noV).category = 2 then _ else _) : List Value).set (i + 2) v = a :: ((if (L.getD i noV).category = 2 then _ else _) : List Value).set (i + 1) v
  split <;> rfl
theorem s2_e (L : List Value) (i : Nat) (v : Value) : st2 L i v = (stL L i v).set (i + 1) noV := rfl
theorem LV : (∀ (v : Value) (L : List Value), ldL (v :: L) 0 = v) ∧ (∀ (v : Value) (L : List Value) (i : Nat), ldL (v :: L) (i + 1) = ldL L i) ∧ (∀ (a v : Value) (L : List Value), stL (a :: L) 0 v = v :: L) ∧ (∀ (x : Int32) (b v : Value) (L : List Value), stL (.int x :: b :: L) 1 v = .int x :: v :: L) ∧ (∀ (x : Nat) (b v : Value) (L : List Value), stL (.ref x :: b :: L) 1 v = .ref x :: v :: L) ∧ (∀ (b v : Value) (L : List Value), stL (noV :: b :: L) 1 v = noV :: v :: L) ∧ (∀ (x : Int64) (b v : Value) (L : List Value), stL (.long x :: b :: L) 1 v = noV :: v :: L) ∧ (∀ (a v : Value) (L : List Value) (i : Nat), stL (a :: L) (i + 2) v = a :: stL L (i + 1) v) ∧ (∀ (L : List Value) (i : Nat) (v : Value), st2 L i v = (stL L i v).set (i + 1) noV) ∧ (∀ (a b : Value) (L : List Value), (a :: L).set 0 b = b :: L) ∧ (∀ (a b : Value) (L : List Value) (i : Nat), (a :: L).set (i + 1) b = a :: L.set i b) :=
  ⟨ld_0, ld_s, st_0, st_i, st_r, st_n, st_l, st_s, s2_e, fun _ _ _ => rfl, fun _ _ _ _ => rfl⟩
/-! rows of an object of a kind, wherever it lies -/
theorem al_of {sh : List ShE} {o n : Nat} {rs : List Nat} (h : sh[o]? = some (.inr (0, n, rs))) (tb : Nat → Option (List Int32)) (i : Int32) (m : Mm) : alI sh tb 0 o i m = if inR i n = true then some (m.1 o i.toNatClampNeg) else none := by
  unfold alI
  rw [h]
  simp
theorem as_of {sh : List ShE} {o n : Nat} {rs : List Nat} (h : sh[o]? = some (.inr (0, n, rs))) (i x : Int32) (m : Mm) : asI sh 0 o i x m = if inR i n = true then some (wI m o i.toNatClampNeg x) else none := by
  unfold asI
  rw [h]
  simp
theorem az_of {sh : List ShE} {o n : Nat} {rs : List Nat} (h : sh[o]? = some (.inr (1, n, rs))) (tb : Nat → Option (List Int32)) (i : Int32) (m : Mm) : alI sh tb 1 o i m = if inR i n = true then some (m.1 o i.toNatClampNeg) else none := by
  unfold alI
  rw [h]
  simp
theorem sz_of {sh : List ShE} {o n : Nat} {rs : List Nat} (h : sh[o]? = some (.inr (1, n, rs))) (i x : Int32) (m : Mm) : asI sh 1 o i x m = if inR i n = true ∧ (x = 0 ∨ x = 1) then some (wI m o i.toNatClampNeg x) else none := by
  unfold asI
  rw [h]
  simp
/-- a World at w -/
def WSh (sh : List ShE) (w : Nat) : Prop := sh[w]? = some (.inl (5, [0, 0, 0, 0, 0, 0, 0, 0, w + 4, w + 5, w + 6, w + 7, w + 8, w + 9, w + 10, w + 11])) ∧ sh[w + 1]? = some (.inr (0, 4, [])) ∧ sh[w + 2]? = some (.inr (0, 4, [])) ∧ sh[w + 3]? = some (.inr (0, 4, [])) ∧ sh[w + 4]? = some (.inr (0, 6, [])) ∧ sh[w + 5]? = some (.inr (0, 6, [])) ∧ sh[w + 6]? = some (.inr (0, 6, [])) ∧ sh[w + 7]? = some (.inr (0, 6, [])) ∧ sh[w + 8]? = some (.inr (0, 6, []))
theorem gW {sh : List ShE} {w : Nat} (h : WSh sh w) : clO sh w = some 5 ∧ (∀ m : Mm, gfI sh 500 w m = some (.int (m.1 w 0)) ∧ gfI sh 501 w m = some (.int (m.1 w 1)) ∧ gfI sh 502 w m = some (.int (m.1 w 2)) ∧ gfI sh 503 w m = some (.int (m.1 w 3)) ∧ gfI sh 504 w m = some (.int (m.1 w 4)) ∧ gfI sh 505 w m = some (.int (m.1 w 5)) ∧ gfI sh 506 w m = some (.int (m.1 w 6)) ∧ gfI sh 507 w m = some (.int (m.1 w 7)) ∧ gfI sh 508 w m = some (.ref (w + 1)) ∧ gfI sh 509 w m = some (.ref (w + 2)) ∧ gfI sh 510 w m = some (.ref (w + 3)) ∧ gfI sh 511 w m = some (.ref (w + 4)) ∧ gfI sh 512 w m = some (.ref (w + 5)) ∧ gfI sh 513 w m = some (.ref (w + 6)) ∧ gfI sh 514 w m = some (.ref (w + 7)) ∧ gfI sh 515 w m = some (.ref (w + 8))) := by
  have e := h.1
  refine ⟨by unfold clO; rw [e], fun m => ?_⟩
  unfold gfI
  rw [e]
  exact ⟨rfl, rfl, rfl, rfl, rfl, rfl, rfl, rfl, rfl, rfl, rfl, rfl, rfl, rfl, rfl, rfl⟩
theorem pW {sh : List ShE} {w : Nat} (h : WSh sh w) (m : Mm) : (∀ x : Int32, pfI sh 500 w (.int x) m = some (wI m w 0 x)) ∧ (∀ x : Int32, pfI sh 501 w (.int x) m = some (wI m w 1 x)) ∧ (∀ x : Int32, pfI sh 502 w (.int x) m = some (wI m w 2 x)) ∧ (∀ x : Int32, pfI sh 503 w (.int x) m = some (wI m w 3 x)) ∧ (∀ x : Int32, pfI sh 504 w (.int x) m = some (wI m w 4 x)) ∧ (∀ x : Int32, pfI sh 505 w (.int x) m = some (wI m w 5 x)) ∧ (∀ x : Int32, pfI sh 506 w (.int x) m = some (wI m w 6 x)) ∧ (∀ x : Int32, pfI sh 507 w (.int x) m = some (wI m w 7 x)) := by
  have e := h.1
  unfold pfI
  rw [e]
  exact ⟨fun _ => rfl, fun _ => rfl, fun _ => rfl, fun _ => rfl, fun _ => rfl, fun _ => rfl, fun _ => rfl, fun _ => rfl⟩
theorem aW {sh : List ShE} {w : Nat} (h : WSh sh w) : (∀ (tb : Nat → Option (List Int32)) (i : Int32) (m : Mm), alI sh tb 0 (w + 1) i m = if inR i 4 = true then some (m.1 (w + 1) i.toNatClampNeg) else none) ∧ (∀ (tb : Nat → Option (List Int32)) (i : Int32) (m : Mm), alI sh tb 0 (w + 2) i m = if inR i 4 = true then some (m.1 (w + 2) i.toNatClampNeg) else none) ∧ (∀ (tb : Nat → Option (List Int32)) (i : Int32) (m : Mm), alI sh tb 0 (w + 3) i m = if inR i 4 = true then some (m.1 (w + 3) i.toNatClampNeg) else none) ∧ (∀ (tb : Nat → Option (List Int32)) (i : Int32) (m : Mm), alI sh tb 0 (w + 4) i m = if inR i 6 = true then some (m.1 (w + 4) i.toNatClampNeg) else none) ∧ (∀ (tb : Nat → Option (List Int32)) (i : Int32) (m : Mm), alI sh tb 0 (w + 5) i m = if inR i 6 = true then some (m.1 (w + 5) i.toNatClampNeg) else none) ∧ (∀ (tb : Nat → Option (List Int32)) (i : Int32) (m : Mm), alI sh tb 0 (w + 6) i m = if inR i 6 = true then some (m.1 (w + 6) i.toNatClampNeg) else none) ∧ (∀ (tb : Nat → Option (List Int32)) (i : Int32) (m : Mm), alI sh tb 0 (w + 7) i m = if inR i 6 = true then some (m.1 (w + 7) i.toNatClampNeg) else none) ∧ (∀ (tb : Nat → Option (List Int32)) (i : Int32) (m : Mm), alI sh tb 0 (w + 8) i m = if inR i 6 = true then some (m.1 (w + 8) i.toNatClampNeg) else none) := by
  obtain ⟨-, h0, h1, h2, h3, h4, h5, h6, h7⟩ := h
  exact ⟨al_of h0, al_of h1, al_of h2, al_of h3, al_of h4, al_of h5, al_of h6, al_of h7⟩
theorem sW {sh : List ShE} {w : Nat} (h : WSh sh w) : (∀ (i x : Int32) (m : Mm), asI sh 0 (w + 1) i x m = if inR i 4 = true then some (wI m (w + 1) i.toNatClampNeg x) else none) ∧ (∀ (i x : Int32) (m : Mm), asI sh 0 (w + 2) i x m = if inR i 4 = true then some (wI m (w + 2) i.toNatClampNeg x) else none) ∧ (∀ (i x : Int32) (m : Mm), asI sh 0 (w + 3) i x m = if inR i 4 = true then some (wI m (w + 3) i.toNatClampNeg x) else none) ∧ (∀ (i x : Int32) (m : Mm), asI sh 0 (w + 4) i x m = if inR i 6 = true then some (wI m (w + 4) i.toNatClampNeg x) else none) ∧ (∀ (i x : Int32) (m : Mm), asI sh 0 (w + 5) i x m = if inR i 6 = true then some (wI m (w + 5) i.toNatClampNeg x) else none) ∧ (∀ (i x : Int32) (m : Mm), asI sh 0 (w + 6) i x m = if inR i 6 = true then some (wI m (w + 6) i.toNatClampNeg x) else none) ∧ (∀ (i x : Int32) (m : Mm), asI sh 0 (w + 7) i x m = if inR i 6 = true then some (wI m (w + 7) i.toNatClampNeg x) else none) ∧ (∀ (i x : Int32) (m : Mm), asI sh 0 (w + 8) i x m = if inR i 6 = true then some (wI m (w + 8) i.toNatClampNeg x) else none) := by
  obtain ⟨-, h0, h1, h2, h3, h4, h5, h6, h7⟩ := h
  exact ⟨as_of h0, as_of h1, as_of h2, as_of h3, as_of h4, as_of h5, as_of h6, as_of h7⟩
/-- Sightings at w -/
def SSh (sh : List ShE) (w : Nat) : Prop := sh[w]? = some (.inl (2, [0, w + 4, w + 5, w + 6])) ∧ sh[w + 1]? = some (.inr (0, 6, [])) ∧ sh[w + 2]? = some (.inr (0, 6, [])) ∧ sh[w + 3]? = some (.inr (0, 6, []))
theorem gS {sh : List ShE} {w : Nat} (h : SSh sh w) : clO sh w = some 2 ∧ (∀ m : Mm, gfI sh 200 w m = some (.int (m.1 w 0)) ∧ gfI sh 201 w m = some (.ref (w + 1)) ∧ gfI sh 202 w m = some (.ref (w + 2)) ∧ gfI sh 203 w m = some (.ref (w + 3))) := by
  have e := h.1
  refine ⟨by unfold clO; rw [e], fun m => ?_⟩
  unfold gfI
  rw [e]
  exact ⟨rfl, rfl, rfl, rfl⟩
theorem pS {sh : List ShE} {w : Nat} (h : SSh sh w) (m : Mm) : (∀ x : Int32, pfI sh 200 w (.int x) m = some (wI m w 0 x)) := by
  have e := h.1
  unfold pfI
  rw [e]
  exact fun _ => rfl
theorem aS {sh : List ShE} {w : Nat} (h : SSh sh w) : (∀ (tb : Nat → Option (List Int32)) (i : Int32) (m : Mm), alI sh tb 0 (w + 1) i m = if inR i 6 = true then some (m.1 (w + 1) i.toNatClampNeg) else none) ∧ (∀ (tb : Nat → Option (List Int32)) (i : Int32) (m : Mm), alI sh tb 0 (w + 2) i m = if inR i 6 = true then some (m.1 (w + 2) i.toNatClampNeg) else none) ∧ (∀ (tb : Nat → Option (List Int32)) (i : Int32) (m : Mm), alI sh tb 0 (w + 3) i m = if inR i 6 = true then some (m.1 (w + 3) i.toNatClampNeg) else none) := by
  obtain ⟨-, h0, h1, h2⟩ := h
  exact ⟨al_of h0, al_of h1, al_of h2⟩
theorem sS {sh : List ShE} {w : Nat} (h : SSh sh w) : (∀ (i x : Int32) (m : Mm), asI sh 0 (w + 1) i x m = if inR i 6 = true then some (wI m (w + 1) i.toNatClampNeg x) else none) ∧ (∀ (i x : Int32) (m : Mm), asI sh 0 (w + 2) i x m = if inR i 6 = true then some (wI m (w + 2) i.toNatClampNeg x) else none) ∧ (∀ (i x : Int32) (m : Mm), asI sh 0 (w + 3) i x m = if inR i 6 = true then some (wI m (w + 3) i.toNatClampNeg x) else none) := by
  obtain ⟨-, h0, h1, h2⟩ := h
  exact ⟨as_of h0, as_of h1, as_of h2⟩
/-- a Sheet at w -/
def HSh (sh : List ShE) (w : Nat) : Prop := sh[w]? = some (.inl (1, [2, 0, w + 4, 0])) ∧ sh[w + 1]? = some (.inr (0, 40, []))
theorem gH {sh : List ShE} {w : Nat} (h : HSh sh w) : clO sh w = some 1 ∧ (∀ m : Mm, gfI sh 100 w m = some (.int (m.1 w 0)) ∧ gfI sh 101 w m = some (.int (m.1 w 1)) ∧ gfI sh 102 w m = some (.ref (w + 1)) ∧ gfI sh 103 w m = some (.int (m.1 w 3))) := by
  have e := h.1
  refine ⟨by unfold clO; rw [e], fun m => ?_⟩
  unfold gfI
  rw [e]
  exact ⟨rfl, rfl, rfl, rfl⟩
theorem pH {sh : List ShE} {w : Nat} (h : HSh sh w) (m : Mm) : (∀ x : Int32, pfI sh 100 w (.int x) m = if x = 0 ∨ x = 1 then some (wI m w 0 x) else none) ∧ (∀ x : Int32, pfI sh 101 w (.int x) m = some (wI m w 1 x)) ∧ (∀ x : Int32, pfI sh 103 w (.int x) m = some (wI m w 3 x)) := by
  have e := h.1
  unfold pfI
  rw [e]
  exact ⟨fun _ => rfl, fun _ => rfl, fun _ => rfl⟩
theorem aH {sh : List ShE} {w : Nat} (h : HSh sh w) : (∀ (tb : Nat → Option (List Int32)) (i : Int32) (m : Mm), alI sh tb 0 (w + 1) i m = if inR i 40 = true then some (m.1 (w + 1) i.toNatClampNeg) else none) := by
  obtain ⟨-, h0⟩ := h
  exact al_of h0
theorem sH {sh : List ShE} {w : Nat} (h : HSh sh w) : (∀ (i x : Int32) (m : Mm), asI sh 0 (w + 1) i x m = if inR i 40 = true then some (wI m (w + 1) i.toNatClampNeg x) else none) := by
  obtain ⟨-, h0⟩ := h
  exact as_of h0
/-- a ProofFineModel at w -/
def MSh (sh : List ShE) (w : Nat) : Prop := sh[w]? = some (.inl (7, [w + 4, w + 5, w + 6, 0, w + 7, 0, 0, 0, w + 8, 0, 0, 0, 0, 0, 0, 0, w + 9, 0, 0, 1, 1, 1, w + 10, w + 11, w + 12, w + 13, w + 14, 0, w + 15])) ∧ sh[w + 1]? = some (.inr (0, 189, [])) ∧ sh[w + 2]? = some (.inr (0, 63, [])) ∧ sh[w + 3]? = some (.inr (1, 2, [])) ∧ sh[w + 4]? = some (.inr (0, 63, [])) ∧ sh[w + 5]? = some (.inr (0, 160, [])) ∧ sh[w + 6]? = some (.inr (0, 4, [])) ∧ sh[w + 7]? = some (.inr (0, 60, [])) ∧ sh[w + 8]? = some (.inr (0, 40, [])) ∧ sh[w + 9]? = some (.inr (0, 4, [])) ∧ sh[w + 10]? = some (.inr (0, 4, [])) ∧ sh[w + 11]? = some (.inr (0, 160, [])) ∧ sh[w + 12]? = some (.inr (0, 63, []))
theorem gM {sh : List ShE} {w : Nat} (h : MSh sh w) : clO sh w = some 7 ∧ (∀ m : Mm, gfI sh 700 w m = some (.ref (w + 1)) ∧ gfI sh 701 w m = some (.ref (w + 2)) ∧ gfI sh 702 w m = some (.ref (w + 3)) ∧ gfI sh 703 w m = some (.int (m.1 w 3)) ∧ gfI sh 704 w m = some (.ref (w + 4)) ∧ gfI sh 705 w m = some (.int (m.1 w 5)) ∧ gfI sh 706 w m = some (.int (m.1 w 6)) ∧ gfI sh 707 w m = some (.int (m.1 w 7)) ∧ gfI sh 708 w m = some (.ref (w + 5)) ∧ gfI sh 709 w m = some (.int (m.1 w 9)) ∧ gfI sh 710 w m = some (.int (m.1 w 10)) ∧ gfI sh 711 w m = some (.int (m.1 w 11)) ∧ gfI sh 712 w m = some (.int (m.1 w 12)) ∧ gfI sh 713 w m = some (.int (m.1 w 13)) ∧ gfI sh 714 w m = some (.int (m.1 w 14)) ∧ gfI sh 715 w m = some (.int (m.1 w 15)) ∧ gfI sh 716 w m = some (.ref (w + 6)) ∧ gfI sh 717 w m = some (.int (m.1 w 17)) ∧ gfI sh 718 w m = some (.int (m.1 w 18)) ∧ gfI sh 719 w m = some (.long (m.2 w 19)) ∧ gfI sh 720 w m = some (.long (m.2 w 20)) ∧ gfI sh 721 w m = some (.long (m.2 w 21)) ∧ gfI sh 722 w m = some (.ref (w + 7)) ∧ gfI sh 723 w m = some (.ref (w + 8)) ∧ gfI sh 724 w m = some (.ref (w + 9)) ∧ gfI sh 725 w m = some (.ref (w + 10)) ∧ gfI sh 726 w m = some (.ref (w + 11)) ∧ gfI sh 727 w m = some (.int (m.1 w 27)) ∧ gfI sh 728 w m = some (.ref (w + 12))) := by
  have e := h.1
  refine ⟨by unfold clO; rw [e], fun m => ?_⟩
  unfold gfI
  rw [e]
  exact ⟨rfl, rfl, rfl, rfl, rfl, rfl, rfl, rfl, rfl, rfl, rfl, rfl, rfl, rfl, rfl, rfl, rfl, rfl, rfl, rfl, rfl, rfl, rfl, rfl, rfl, rfl, rfl, rfl, rfl⟩
theorem pM {sh : List ShE} {w : Nat} (h : MSh sh w) (m : Mm) : (∀ x : Int32, pfI sh 703 w (.int x) m = some (wI m w 3 x)) ∧ (∀ x : Int32, pfI sh 705 w (.int x) m = some (wI m w 5 x)) ∧ (∀ x : Int32, pfI sh 706 w (.int x) m = some (wI m w 6 x)) ∧ (∀ x : Int32, pfI sh 707 w (.int x) m = some (wI m w 7 x)) ∧ (∀ x : Int32, pfI sh 709 w (.int x) m = some (wI m w 9 x)) ∧ (∀ x : Int32, pfI sh 710 w (.int x) m = some (wI m w 10 x)) ∧ (∀ x : Int32, pfI sh 711 w (.int x) m = some (wI m w 11 x)) ∧ (∀ x : Int32, pfI sh 712 w (.int x) m = some (wI m w 12 x)) ∧ (∀ x : Int32, pfI sh 713 w (.int x) m = some (wI m w 13 x)) ∧ (∀ x : Int32, pfI sh 714 w (.int x) m = some (wI m w 14 x)) ∧ (∀ x : Int32, pfI sh 715 w (.int x) m = some (wI m w 15 x)) ∧ (∀ x : Int32, pfI sh 717 w (.int x) m = some (wI m w 17 x)) ∧ (∀ x : Int32, pfI sh 718 w (.int x) m = some (wI m w 18 x)) ∧ (∀ x : Int64, pfI sh 719 w (.long x) m = some (wL m w 19 x)) ∧ (∀ x : Int64, pfI sh 720 w (.long x) m = some (wL m w 20 x)) ∧ (∀ x : Int64, pfI sh 721 w (.long x) m = some (wL m w 21 x)) ∧ (∀ x : Int32, pfI sh 727 w (.int x) m = some (wI m w 27 x)) := by
  have e := h.1
  unfold pfI
  rw [e]
  exact ⟨fun _ => rfl, fun _ => rfl, fun _ => rfl, fun _ => rfl, fun _ => rfl, fun _ => rfl, fun _ => rfl, fun _ => rfl, fun _ => rfl, fun _ => rfl, fun _ => rfl, fun _ => rfl, fun _ => rfl, fun _ => rfl, fun _ => rfl, fun _ => rfl, fun _ => rfl⟩
theorem aM {sh : List ShE} {w : Nat} (h : MSh sh w) : (∀ (tb : Nat → Option (List Int32)) (i : Int32) (m : Mm), alI sh tb 0 (w + 1) i m = if inR i 189 = true then some (m.1 (w + 1) i.toNatClampNeg) else none) ∧ (∀ (tb : Nat → Option (List Int32)) (i : Int32) (m : Mm), alI sh tb 0 (w + 2) i m = if inR i 63 = true then some (m.1 (w + 2) i.toNatClampNeg) else none) ∧ (∀ (tb : Nat → Option (List Int32)) (i : Int32) (m : Mm), alI sh tb 1 (w + 3) i m = if inR i 2 = true then some (m.1 (w + 3) i.toNatClampNeg) else none) ∧ (∀ (tb : Nat → Option (List Int32)) (i : Int32) (m : Mm), alI sh tb 0 (w + 4) i m = if inR i 63 = true then some (m.1 (w + 4) i.toNatClampNeg) else none) ∧ (∀ (tb : Nat → Option (List Int32)) (i : Int32) (m : Mm), alI sh tb 0 (w + 5) i m = if inR i 160 = true then some (m.1 (w + 5) i.toNatClampNeg) else none) ∧ (∀ (tb : Nat → Option (List Int32)) (i : Int32) (m : Mm), alI sh tb 0 (w + 6) i m = if inR i 4 = true then some (m.1 (w + 6) i.toNatClampNeg) else none) ∧ (∀ (tb : Nat → Option (List Int32)) (i : Int32) (m : Mm), alI sh tb 0 (w + 7) i m = if inR i 60 = true then some (m.1 (w + 7) i.toNatClampNeg) else none) ∧ (∀ (tb : Nat → Option (List Int32)) (i : Int32) (m : Mm), alI sh tb 0 (w + 8) i m = if inR i 40 = true then some (m.1 (w + 8) i.toNatClampNeg) else none) ∧ (∀ (tb : Nat → Option (List Int32)) (i : Int32) (m : Mm), alI sh tb 0 (w + 9) i m = if inR i 4 = true then some (m.1 (w + 9) i.toNatClampNeg) else none) ∧ (∀ (tb : Nat → Option (List Int32)) (i : Int32) (m : Mm), alI sh tb 0 (w + 10) i m = if inR i 4 = true then some (m.1 (w + 10) i.toNatClampNeg) else none) ∧ (∀ (tb : Nat → Option (List Int32)) (i : Int32) (m : Mm), alI sh tb 0 (w + 11) i m = if inR i 160 = true then some (m.1 (w + 11) i.toNatClampNeg) else none) ∧ (∀ (tb : Nat → Option (List Int32)) (i : Int32) (m : Mm), alI sh tb 0 (w + 12) i m = if inR i 63 = true then some (m.1 (w + 12) i.toNatClampNeg) else none) := by
  obtain ⟨-, h0, h1, h2, h3, h4, h5, h6, h7, h8, h9, h10, h11⟩ := h
  exact ⟨al_of h0, al_of h1, az_of h2, al_of h3, al_of h4, al_of h5, al_of h6, al_of h7, al_of h8, al_of h9, al_of h10, al_of h11⟩
theorem sM {sh : List ShE} {w : Nat} (h : MSh sh w) : (∀ (i x : Int32) (m : Mm), asI sh 0 (w + 1) i x m = if inR i 189 = true then some (wI m (w + 1) i.toNatClampNeg x) else none) ∧ (∀ (i x : Int32) (m : Mm), asI sh 0 (w + 2) i x m = if inR i 63 = true then some (wI m (w + 2) i.toNatClampNeg x) else none) ∧ (∀ (i x : Int32) (m : Mm), asI sh 1 (w + 3) i x m = if inR i 2 = true ∧ (x = 0 ∨ x = 1) then some (wI m (w + 3) i.toNatClampNeg x) else none) ∧ (∀ (i x : Int32) (m : Mm), asI sh 0 (w + 4) i x m = if inR i 63 = true then some (wI m (w + 4) i.toNatClampNeg x) else none) ∧ (∀ (i x : Int32) (m : Mm), asI sh 0 (w + 5) i x m = if inR i 160 = true then some (wI m (w + 5) i.toNatClampNeg x) else none) ∧ (∀ (i x : Int32) (m : Mm), asI sh 0 (w + 6) i x m = if inR i 4 = true then some (wI m (w + 6) i.toNatClampNeg x) else none) ∧ (∀ (i x : Int32) (m : Mm), asI sh 0 (w + 7) i x m = if inR i 60 = true then some (wI m (w + 7) i.toNatClampNeg x) else none) ∧ (∀ (i x : Int32) (m : Mm), asI sh 0 (w + 8) i x m = if inR i 40 = true then some (wI m (w + 8) i.toNatClampNeg x) else none) ∧ (∀ (i x : Int32) (m : Mm), asI sh 0 (w + 9) i x m = if inR i 4 = true then some (wI m (w + 9) i.toNatClampNeg x) else none) ∧ (∀ (i x : Int32) (m : Mm), asI sh 0 (w + 10) i x m = if inR i 4 = true then some (wI m (w + 10) i.toNatClampNeg x) else none) ∧ (∀ (i x : Int32) (m : Mm), asI sh 0 (w + 11) i x m = if inR i 160 = true then some (wI m (w + 11) i.toNatClampNeg x) else none) ∧ (∀ (i x : Int32) (m : Mm), asI sh 0 (w + 12) i x m = if inR i 63 = true then some (wI m (w + 12) i.toNatClampNeg x) else none) := by
  obtain ⟨-, h0, h1, h2, h3, h4, h5, h6, h7, h8, h9, h10, h11⟩ := h
  exact ⟨as_of h0, as_of h1, sz_of h2, as_of h3, as_of h4, as_of h5, as_of h6, as_of h7, as_of h8, as_of h9, as_of h10, as_of h11⟩
theorem inR_nI {k n : Nat} (h : k < n) (hn : n < 2 ^ 31) : inR (nI k) n = true := by
  unfold inR
  rw [nI_clamp (by omega)]
  simp only [Bool.and_eq_true, decide_eq_true_eq]
  exact ⟨nI_pos' (by omega), h⟩
theorem WP1 : WSh shP 1 := ⟨rfl, rfl, rfl, rfl, rfl, rfl, rfl, rfl, rfl⟩
theorem WP10 : WSh shP 10 := ⟨rfl, rfl, rfl, rfl, rfl, rfl, rfl, rfl, rfl⟩
theorem WP33 : WSh shP 33 := ⟨rfl, rfl, rfl, rfl, rfl, rfl, rfl, rfl, rfl⟩
theorem WP47 : WSh shP 47 := ⟨rfl, rfl, rfl, rfl, rfl, rfl, rfl, rfl, rfl⟩
theorem MP68 : MSh shP 68 := ⟨rfl, rfl, rfl, rfl, rfl, rfl, rfl, rfl, rfl, rfl, rfl, rfl, rfl⟩
theorem SP19 : SSh shP 19 := ⟨rfl, rfl, rfl, rfl⟩
theorem SP42 : SSh shP 42 := ⟨rfl, rfl, rfl, rfl⟩
theorem SP56 : SSh shP 56 := ⟨rfl, rfl, rfl, rfl⟩
theorem HP60 : HSh shP 60 := ⟨rfl, rfl⟩
theorem HP62 : HSh shP 62 := ⟨rfl, rfl⟩
theorem HP64 : HSh shP 64 := ⟨rfl, rfl⟩
theorem HP66 : HSh shP 66 := ⟨rfl, rfl⟩
