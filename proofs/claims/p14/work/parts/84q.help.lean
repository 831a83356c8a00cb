/-! rows of memories -/
theorem wI_n (m : Mm) (o j : Nat) (x : Int32) {o' : Nat} (h : o' ≠ o) : (wI m o j x).1 o' = m.1 o' := by
  funext i
  rw [wI_at, if_neg (fun z => h z.1)]
theorem upd_s (f : Nat → Int32) (j : Nat) (x : Int32) : upd f j x j = x := by
  unfold upd
  rw [if_pos rfl]
theorem upd_n (f : Nat → Int32) {j i : Nat} (x : Int32) (h : i ≠ j) : upd f j x i = f i := by
  unfold upd
  rw [if_neg h]
theorem wI_s (m : Mm) (o j : Nat) (x : Int32) : (wI m o j x).1 o j = x := by rw [wI_at, if_pos ⟨rfl, rfl⟩]
theorem wI_o (m : Mm) (o j : Nat) (x : Int32) {o' : Nat} (j' : Nat) (h : o' ≠ o) : (wI m o j x).1 o' j' = m.1 o' j' := by rw [wI_at, if_neg (fun z => h z.1)]
theorem wI_j (m : Mm) (o j : Nat) (x : Int32) (o' : Nat) {j' : Nat} (h : j' ≠ j) : (wI m o j x).1 o' j' = m.1 o' j' := by rw [wI_at, if_neg (fun z => h z.2)]
