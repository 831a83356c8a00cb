/-! THE OBJECTS of a ProofFine (0 to 67) and of a ProofFineModel (68 to 80) -/
def worldE (w : Nat) : List ShE := [.inl (5, [0, 0, 0, 0, 0, 0, 0, 0, w + 4, w + 5, w + 6, w + 7, w + 8, w + 9, w + 10, w + 11]), .inr (0, 4, []), .inr (0, 4, []), .inr (0, 4, []), .inr (0, 6, []), .inr (0, 6, []), .inr (0, 6, []), .inr (0, 6, []), .inr (0, 6, [])]
def seenE (w : Nat) : List ShE := [.inl (2, [0, w + 4, w + 5, w + 6]), .inr (0, 6, []), .inr (0, 6, []), .inr (0, 6, [])]
def sheetE (w : Nat) : List ShE := [.inl (1, [2, 0, w + 4, 0]), .inr (0, 40, [])]
def shP : List ShE := .inl (6, [4, 13, 22, 26, 30, 31, 32, 33, 34, 0]) :: (worldE 1 ++ (worldE 10 ++ (seenE 19 ++ ([.inl (4, [27, 0, 0, 29, 0]), .inl (3, [0, 0, 0, 28]), .inr (0, 160, []), .inr (0, 3, []), .inr (2, 2, [32, 46]), .inr (3, 4, [60, 62, 64, 66]), .inr (0, 4, []), .inr (0, 4, []), .inr (0, 40, [])] ++ ((.inl (0, [2, 36, 45]) :: worldE 33) ++ (seenE 42 ++ ((.inl (0, [2, 50, 59]) :: worldE 47) ++ (seenE 56 ++ (sheetE 60 ++ (sheetE 62 ++ (sheetE 64 ++ (sheetE 66 ++
  [.inl (7, [72, 73, 74, 0, 75, 0, 0, 0, 76, 0, 0, 0, 0, 0, 0, 0, 77, 0, 0, 1, 1, 1, 78, 79, 80, 81, 82, 0, 83]), .inr (0, 189, []), .inr (0, 63, []), .inr (1, 2, []), .inr (0, 63, []), .inr (0, 160, []), .inr (0, 4, []), .inr (0, 60, []), .inr (0, 40, []), .inr (0, 4, []), .inr (0, 4, []), .inr (0, 160, []), .inr (0, 63, [])]))))))))))))
theorem shP_ok : shOK shP = true := by decide +kernel
theorem shP_len : shP.length = 81 := by decide +kernel
/-! lists -/
theorem ld_0 (v : Value) (L : List Value) : ldL (v :: L) 0 = v := rfl
theorem ld_s (v : Value) (L : List Value) (i : Nat) : ldL (v :: L) (i + 1) = ldL L i := rfl
theorem st_0 (a v : Value) (L : List Value) : stL (a :: L) 0 v = v :: L := rfl
theorem st_i (x : Int32) (b v : Value) (L : List Value) : stL (.int x :: b :: L) 1 v = .int x :: v :: L := rfl
theorem st_r (x : Nat) (b v : Value) (L : List Value) : stL (.ref x :: b :: L) 1 v = .ref x :: v :: L := rfl
theorem st_n (b v : Value) (L : List Value) : stL (noV :: b :: L) 1 v = noV :: v :: L := rfl
theorem st_l (x : Int64) (b v : Value) (L : List Value) : stL (.long x :: b :: L) 1 v = noV :: v :: L := rfl
theorem st_s (a v : Value) (L : List Value) (i : Nat) : stL (a :: L) (i + 2) v = a :: stL L (i + 1) v := by
  show ((if (L.getD i noV).category = 2 then _ else _) : List Value).set (i + 2) v = a :: ((if (L.getD i noV).category = 2 then _ else _) : List Value).set (i + 1) v
  split <;> rfl
theorem s2_e (L : List Value) (i : Nat) (v : Value) : st2 L i v = (stL L i v).set (i + 1) noV := rfl
theorem LV : (∀ (v : Value) (L : List Value), ldL (v :: L) 0 = v) ∧ (∀ (v : Value) (L : List Value) (i : Nat), ldL (v :: L) (i + 1) = ldL L i) ∧ (∀ (a v : Value) (L : List Value), stL (a :: L) 0 v = v :: L) ∧ (∀ (x : Int32) (b v : Value) (L : List Value), stL (.int x :: b :: L) 1 v = .int x :: v :: L) ∧ (∀ (x : Nat) (b v : Value) (L : List Value), stL (.ref x :: b :: L) 1 v = .ref x :: v :: L) ∧ (∀ (b v : Value) (L : List Value), stL (noV :: b :: L) 1 v = noV :: v :: L) ∧ (∀ (x : Int64) (b v : Value) (L : List Value), stL (.long x :: b :: L) 1 v = noV :: v :: L) ∧ (∀ (a v : Value) (L : List Value) (i : Nat), stL (a :: L) (i + 2) v = a :: stL L (i + 1) v) ∧ (∀ (L : List Value) (i : Nat) (v : Value), st2 L i v = (stL L i v).set (i + 1) noV) ∧ (∀ (a b : Value) (L : List Value), (a :: L).set 0 b = b :: L) ∧ (∀ (a b : Value) (L : List Value) (i : Nat), (a :: L).set (i + 1) b = a :: L.set i b) :=
  ⟨ld_0, ld_s, st_0, st_i, st_r, st_n, st_l, st_s, s2_e, fun _ _ _ => rfl, fun _ _ _ _ => rfl⟩
/-! worlds -/
def isW (w : Nat) : Prop := w = 1 ∨ w = 10 ∨ w = 33 ∨ w = 47
theorem W_sh {w : Nat} (h : isW w) : shP[w]? = some (.inl (5, [0, 0, 0, 0, 0, 0, 0, 0, w + 4, w + 5, w + 6, w + 7, w + 8, w + 9, w + 10, w + 11])) ∧ shP[w + 1]? = some (.inr (0, 4, [])) ∧ shP[w + 2]? = some (.inr (0, 4, [])) ∧ shP[w + 3]? = some (.inr (0, 4, [])) ∧ shP[w + 4]? = some (.inr (0, 6, [])) ∧ shP[w + 5]? = some (.inr (0, 6, [])) ∧ shP[w + 6]? = some (.inr (0, 6, [])) ∧ shP[w + 7]? = some (.inr (0, 6, [])) ∧ shP[w + 8]? = some (.inr (0, 6, [])) := by
  rcases h with rfl | rfl | rfl | rfl <;> exact ⟨rfl, rfl, rfl, rfl, rfl, rfl, rfl, rfl, rfl⟩
theorem al_of {o n : Nat} {rs : List Nat} (h : shP[o]? = some (.inr (0, n, rs))) (tb : Nat → Option (List Int32)) (i : Int32) (m : Mm) : alI shP tb 0 o i m = if inR i n = true then some (m.1 o i.toNatClampNeg) else none := by
  unfold alI
  rw [h]
  simp
theorem as_of {o n : Nat} {rs : List Nat} (h : shP[o]? = some (.inr (0, n, rs))) (i x : Int32) (m : Mm) : asI shP 0 o i x m = if inR i n = true then some (wI m o i.toNatClampNeg x) else none := by
  unfold asI
  rw [h]
  simp
theorem gW {w : Nat} (h : isW w) : clO shP w = some 5 ∧ (∀ m : Mm, gfI shP 500 w m = some (.int (m.1 w 0)) ∧ gfI shP 501 w m = some (.int (m.1 w 1)) ∧ gfI shP 502 w m = some (.int (m.1 w 2)) ∧ gfI shP 503 w m = some (.int (m.1 w 3)) ∧ gfI shP 504 w m = some (.int (m.1 w 4)) ∧ gfI shP 505 w m = some (.int (m.1 w 5)) ∧ gfI shP 506 w m = some (.int (m.1 w 6)) ∧ gfI shP 507 w m = some (.int (m.1 w 7)) ∧ gfI shP 508 w m = some (.ref (w + 1)) ∧ gfI shP 509 w m = some (.ref (w + 2)) ∧ gfI shP 510 w m = some (.ref (w + 3)) ∧ gfI shP 511 w m = some (.ref (w + 4)) ∧ gfI shP 512 w m = some (.ref (w + 5)) ∧ gfI shP 513 w m = some (.ref (w + 6)) ∧ gfI shP 514 w m = some (.ref (w + 7)) ∧ gfI shP 515 w m = some (.ref (w + 8))) := by
  have e := (W_sh h).1
  refine ⟨by unfold clO; rw [e], fun m => ?_⟩
  unfold gfI
  rw [e]
  exact ⟨rfl, rfl, rfl, rfl, rfl, rfl, rfl, rfl, rfl, rfl, rfl, rfl, rfl, rfl, rfl, rfl⟩
theorem pW {w : Nat} (h : isW w) (m : Mm) (x : Int32) : pfI shP 500 w (.int x) m = some (wI m w 0 x) ∧ pfI shP 501 w (.int x) m = some (wI m w 1 x) ∧ pfI shP 502 w (.int x) m = some (wI m w 2 x) ∧ pfI shP 503 w (.int x) m = some (wI m w 3 x) ∧ pfI shP 504 w (.int x) m = some (wI m w 4 x) ∧ pfI shP 505 w (.int x) m = some (wI m w 5 x) ∧ pfI shP 506 w (.int x) m = some (wI m w 6 x) ∧ pfI shP 507 w (.int x) m = some (wI m w 7 x) := by
  have e := (W_sh h).1
  unfold pfI
  rw [e]
  exact ⟨rfl, rfl, rfl, rfl, rfl, rfl, rfl, rfl⟩
theorem aW {w : Nat} (h : isW w) (i : Int32) (m : Mm) : (alI shP tb0 0 (w + 1) i m = if inR i 4 = true then some (m.1 (w + 1) i.toNatClampNeg) else none) ∧ (alI shP tb0 0 (w + 2) i m = if inR i 4 = true then some (m.1 (w + 2) i.toNatClampNeg) else none) ∧ (alI shP tb0 0 (w + 3) i m = if inR i 4 = true then some (m.1 (w + 3) i.toNatClampNeg) else none) ∧ (alI shP tb0 0 (w + 4) i m = if inR i 6 = true then some (m.1 (w + 4) i.toNatClampNeg) else none) ∧ (alI shP tb0 0 (w + 5) i m = if inR i 6 = true then some (m.1 (w + 5) i.toNatClampNeg) else none) ∧ (alI shP tb0 0 (w + 6) i m = if inR i 6 = true then some (m.1 (w + 6) i.toNatClampNeg) else none) ∧ (alI shP tb0 0 (w + 7) i m = if inR i 6 = true then some (m.1 (w + 7) i.toNatClampNeg) else none) ∧ (alI shP tb0 0 (w + 8) i m = if inR i 6 = true then some (m.1 (w + 8) i.toNatClampNeg) else none) := by
  obtain ⟨-, h1, h2, h3, h4, h5, h6, h7, h8⟩ := W_sh h
  exact ⟨al_of h1 _ i m, al_of h2 _ i m, al_of h3 _ i m, al_of h4 _ i m, al_of h5 _ i m, al_of h6 _ i m, al_of h7 _ i m, al_of h8 _ i m⟩
theorem sW {w : Nat} (h : isW w) (i x : Int32) (m : Mm) : (asI shP 0 (w + 1) i x m = if inR i 4 = true then some (wI m (w + 1) i.toNatClampNeg x) else none) ∧ (asI shP 0 (w + 2) i x m = if inR i 4 = true then some (wI m (w + 2) i.toNatClampNeg x) else none) ∧ (asI shP 0 (w + 3) i x m = if inR i 4 = true then some (wI m (w + 3) i.toNatClampNeg x) else none) ∧ (asI shP 0 (w + 4) i x m = if inR i 6 = true then some (wI m (w + 4) i.toNatClampNeg x) else none) ∧ (asI shP 0 (w + 5) i x m = if inR i 6 = true then some (wI m (w + 5) i.toNatClampNeg x) else none) ∧ (asI shP 0 (w + 6) i x m = if inR i 6 = true then some (wI m (w + 6) i.toNatClampNeg x) else none) ∧ (asI shP 0 (w + 7) i x m = if inR i 6 = true then some (wI m (w + 7) i.toNatClampNeg x) else none) ∧ (asI shP 0 (w + 8) i x m = if inR i 6 = true then some (wI m (w + 8) i.toNatClampNeg x) else none) := by
  obtain ⟨-, h1, h2, h3, h4, h5, h6, h7, h8⟩ := W_sh h
  exact ⟨as_of h1 i x m, as_of h2 i x m, as_of h3 i x m, as_of h4 i x m, as_of h5 i x m, as_of h6 i x m, as_of h7 i x m, as_of h8 i x m⟩
theorem inR_nI {k n : Nat} (h : k < n) (hn : n < 2 ^ 31) : inR (nI k) n = true := by
  unfold inR
  rw [nI_clamp (by omega)]
  simp only [Bool.and_eq_true, decide_eq_true_eq]
  exact ⟨nI_pos' (by omega), h⟩
