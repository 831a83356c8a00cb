/-! THE LAW'S BYTES are its program: four blocks a row -/
theorem all_chunk {α : Type} {l : List α} {f : α → Bool} {n : Nat} (h : ∀ k, k < n → ((l.drop (4 * k)).take 4).all f = true) (hl : l.length ≤ 4 * n) : l.all f = true := by
  refine List.all_eq_true.mpr (fun x hx => ?_)
  obtain ⟨i, hi⟩ := List.getElem?_of_mem hx
  have h1 : i < l.length := (List.getElem?_eq_some_iff.mp hi).1
  have h2 := h (i / 4) (by omega)
  refine List.all_eq_true.mp h2 x (List.mem_of_getElem? (i := i % 4) ?_)
  rw [List.getElem?_take_of_lt (by omega), List.getElem?_drop, show 4 * (i / 4) + i % 4 = i by omega]
  exact hi
def okC (k : Nat) : Bool := (((cdL.getD 186 []).drop (4 * k)).take 4).all (fun q => okL 9 9 271 code q.2 q.1)
theorem okC_0 : okC 0 = true := by decide +kernel
theorem okC_1 : okC 1 = true := by decide +kernel
theorem okC_2 : okC 2 = true := by decide +kernel
theorem okC_3 : okC 3 = true := by decide +kernel
theorem okC_4 : okC 4 = true := by decide +kernel
theorem okC_5 : okC 5 = true := by decide +kernel
theorem okC_6 : okC 6 = true := by decide +kernel
theorem okC_7 : okC 7 = true := by decide +kernel
theorem okC_8 : okC 8 = true := by decide +kernel
theorem okC_9 : okC 9 = true := by decide +kernel
theorem okC_10 : okC 10 = true := by decide +kernel
theorem okLaw : okM 9 9 271 code (cdL.getD 186 []) = true := by
  refine all_chunk (n := 11) (fun k hk => ?_) (by decide +kernel)
  match k, hk with
  | 0, _ => exact okC_0
  | 1, _ => exact okC_1
  | 2, _ => exact okC_2
  | 3, _ => exact okC_3
  | 4, _ => exact okC_4
  | 5, _ => exact okC_5
  | 6, _ => exact okC_6
  | 7, _ => exact okC_7
  | 8, _ => exact okC_8
  | 9, _ => exact okC_9
  | 10, _ => exact okC_10
  | k + 11, h => exact absurd h (by omega)
