/-! THE RELATION between the small machine and the JVM: 'ad o' is the address of object o. -/
def cv (ad : Nat → Nat) (v : Value) : Value := match v with
  | .ref k => .ref (ad k)
  | v => v
theorem cv_cat (ad : Nat → Nat) (v : Value) : (cv ad v).category = v.category := by cases v <;> rfl
def isV (v : Value) : Bool := match v with
  | .retAddr _ => false
  | _ => true
/-- a map by places, in its plain form -/
def mapI {α β : Type} (f : Nat → α → β) : Nat → List α → List β
  | _, [] => []
  | k, a :: l => f k a :: mapI f (k + 1) l
theorem mapI_getk {α β : Type} (f : Nat → α → β) : ∀ (l : List α) (k i : Nat), (mapI f k l)[i]? = (l[i]?).map (f (k + i))
  | [], _, _ => rfl
  | a :: l, k, 0 => rfl
  | a :: l, k, i + 1 => by
    show (mapI f (k + 1) l)[i]? = _
    rw [mapI_getk f l (k + 1) i, List.getElem?_cons_succ, show k + 1 + i = k + (i + 1) by omega]
theorem mapI_get {α β : Type} (f : Nat → α → β) (l : List α) (i : Nat) : (mapI f 0 l)[i]? = (l[i]?).map (f i) := by
  rw [mapI_getk, Nat.zero_add]
theorem mapI_lenk {α β : Type} (f : Nat → α → β) : ∀ (l : List α) (k : Nat), (mapI f k l).length = l.length
  | [], _ => rfl
  | a :: l, k => by
    show (mapI f (k + 1) l).length + 1 = _
    rw [mapI_lenk f l (k + 1)]
    rfl
theorem mapI_len {α β : Type} (f : Nat → α → β) (l : List α) : (mapI f 0 l).length = l.length := mapI_lenk f l 0
def cellE (ad : Nat → Nat) (dA : Nat → ClassId) (m : Mm) (o : Nat) (e : ShE) : va_E := match e with
  | .inl (ci, fs) => .inr (ci, mapI (fun j t => cv ad (fval m o j t)) 0 fs)
  | .inr (k, n, rs) => if k < 2 then .inl (dA k, n, .inl (m.1 o)) else .inl (dA k, n, .inr (.inr (.inr (.inr (fun j => (rs[j]?).map ad)))))
def cellsW (sh : List ShE) (ad : Nat → Nat) (dA : Nat → ClassId) (m : Mm) : va_W := mapI (fun o e => (ad o, cellE ad dA m o e)) 0 sh
section Rel
variable {sh : List ShE} {ad : Nat → Nat} {dA : Nat → ClassId} {m : Mm}
theorem cells_get {o : Nat} {e : ShE} (h : sh[o]? = some e) : (cellsW sh ad dA m)[o]? = some (ad o, cellE ad dA m o e) := by
  simp [cellsW, mapI_get, h]
theorem up_s {α : Type} (f : Nat → α) (k : Nat) (v : α) : va_up f k v k = v := by simp [va_up]
theorem up_n {α : Type} (f : Nat → α) {j k : Nat} (v : α) (h : j ≠ k) : va_up f k v j = f j := by simp [va_up, h]
/-- another row for an array of whole numbers -/
theorem cells_row {o k n : Nat} {rs : List Nat} (f : Nat → Int32) (h : sh[o]? = some (.inr (k, n, rs))) (hk : k < 2) : (cellsW sh ad dA m).set o (ad o, .inl (dA k, n, .inl f)) = cellsW sh ad dA (va_up m.1 o f, m.2) := by
  apply List.ext_getElem?
  intro q
  rw [List.getElem?_set]
  by_cases hq : o = q
  · subst hq
    have hl : o < sh.length := (List.getElem?_eq_some_iff.mp h).1
    rw [if_pos rfl, if_pos (by unfold cellsW; rw [mapI_len]; exact hl), cells_get h]
    simp [cellE, hk, up_s]
  · rw [if_neg hq]
    simp only [cellsW, mapI_get]
    cases hs : sh[q]? with
    | none => rfl
    | some e =>
      have hne : q ≠ o := fun z => hq z.symm
      cases e with
      | inl x =>
        simp only [cellE, Option.map_some]
        congr 4
        apply List.ext_getElem?
        intro j
        simp only [mapI_get]
        cases x.2[j]? with
        | none => rfl
        | some t =>
          simp only [Option.map_some]
          rcases t with _ | _ | _ | t <;> simp [fval, up_n _ _ hne]
      | inr x => simp only [cellE, Option.map_some, up_n _ _ hne]
theorem map_set {α β : Type} (f g : Nat → α → β) : ∀ (l : List α) (j : Nat) (v : β), (∀ i, i ≠ j → ∀ a, f i a = g i a) → (∀ a, l[j]? = some a → v = g j a) → (mapI f 0 l).set j v = mapI g 0 l := by
  intro l j v h1 h2
  apply List.ext_getElem?
  intro q
  rw [List.getElem?_set]
  by_cases hq : j = q
  · subst hq
    simp only [mapI_len, mapI_get]
    rw [if_pos trivial]
    by_cases hl : j < l.length
    · rw [if_pos hl]
      have e := List.getElem?_eq_getElem hl
      rw [e, Option.map_some, h2 _ e]
    · rw [if_neg hl]
      rw [List.getElem?_eq_none (by omega)]
      rfl
  · rw [if_neg hq]
    simp only [mapI_get]
    cases l[q]? with
    | none => rfl
    | some a => rw [Option.map_some, Option.map_some, h1 q (fun z => hq z.symm)]
/-- another value of a field -/
theorem cells_fI {o j ci t : Nat} {fs : List Nat} (x : Int32) (h : sh[o]? = some (.inl (ci, fs))) (hj : fs[j]? = some t) (ht : t = 0 ∨ t = 2) : (cellsW sh ad dA m).set o (ad o, .inr (ci, (mapI (fun j t => cv ad (fval m o j t)) 0 fs).set j (.int x))) = cellsW sh ad dA (wI m o j x) := by
  unfold cellsW
  apply map_set
  · intro i hi e
    cases e with
    | inl y =>
      simp only [cellE]
      congr 3
      apply List.ext_getElem?
      intro q
      simp only [mapI_get]
      cases y.2[q]? with
      | none => rfl
      | some t => rcases t with _ | _ | _ | t <;> simp [fval, wI, up_n _ _ hi]
    | inr y => simp only [cellE, wI, up_n _ _ hi]
  · intro e he
    cases h.symm.trans he
    simp only [cellE]
    congr 3
    apply map_set
    · intro i hi t
      rcases t with _ | _ | _ | t <;> simp [fval, wI, up_s, upd, hi]
    · intro t' ht'
      cases hj.symm.trans ht'
      rcases ht with rfl | rfl <;> simp [fval, wI, up_s, upd, cv]
theorem cells_fL {o j ci : Nat} {fs : List Nat} (x : Int64) (h : sh[o]? = some (.inl (ci, fs))) (hj : fs[j]? = some 1) : (cellsW sh ad dA m).set o (ad o, .inr (ci, (mapI (fun j t => cv ad (fval m o j t)) 0 fs).set j (.long x))) = cellsW sh ad dA (wL m o j x) := by
  unfold cellsW
  apply map_set
  · intro i hi e
    cases e with
    | inl y =>
      simp only [cellE]
      congr 3
      apply List.ext_getElem?
      intro q
      simp only [mapI_get]
      cases y.2[q]? with
      | none => rfl
      | some t => rcases t with _ | _ | _ | t <;> simp [fval, wL, up_n _ _ hi]
    | inr y => simp only [cellE, wL]
  · intro e he
    cases h.symm.trans he
    simp only [cellE]
    congr 3
    apply map_set
    · intro i hi t
      rcases t with _ | _ | _ | t <;> simp [fval, wL, up_s, vp_updL, hi]
    · intro t' ht'
      cases hj.symm.trans ht'
      simp [fval, wL, up_s, vp_updL, cv]
end Rel
/-! locals -/
def LR (ad : Nat → Nat) (ls : Array Slot) (nL : Nat) (L : List Value) : Prop := ls.size = nL ∧ lv_wf ls ∧ L.length = nL ∧ ∀ (i : Nat) (v : Value), L[i]? = some v → isV v = true → ls[i]? = some (.val (cv ad v))
def lvl (ad : Nat → Nat) (L : List Value) : List (Nat × Value) := L.zipIdx.filterMap (fun q => if isV q.1 = true then some (q.2, cv ad q.1) else none)
section Loc
variable {ad : Nat → Nat} {ls : Array Slot} {nL : Nat} {L : List Value}
theorem lvl_mem {i : Nat} {w : Value} : (i, w) ∈ lvl ad L ↔ ∃ v, L[i]? = some v ∧ isV v = true ∧ cv ad v = w := by
  unfold lvl
  rw [List.mem_filterMap]
  constructor
  · rintro ⟨⟨v, j⟩, h1, h2⟩
    by_cases hv : isV v = true
    · rw [if_pos hv] at h2
      simp only [Option.some.injEq, Prod.mk.injEq] at h2
      obtain ⟨rfl, rfl⟩ := h2
      exact ⟨v, List.mem_zipIdx_iff_getElem?.mp h1, hv, rfl⟩
    · rw [if_neg hv] at h2
      cases h2
  · rintro ⟨v, h1, h2, rfl⟩
    exact ⟨(v, i), List.mem_zipIdx_iff_getElem?.mpr h1, by rw [if_pos h2]⟩
theorem LR.has (h : LR ad ls nL L) : lv_has ls nL (lvl ad L) := by
  refine ⟨h.1, h.2.1, fun q hq => ?_⟩
  obtain ⟨i, w⟩ := q
  obtain ⟨v, h1, h2, rfl⟩ := lvl_mem.mp hq
  exact h.2.2.2 i v h1 h2
theorem ld_some {i : Nat} {v : Value} (h : ldL L i = v) (hv : isV v = true) : L[i]? = some v := by
  unfold ldL at h
  rw [List.getD_eq_getElem?_getD] at h
  cases hq : L[i]? with
  | none => rw [hq] at h; simp only [Option.getD_none] at h; rw [← h] at hv; cases hv
  | some w => rw [hq] at h; simp only [Option.getD_some] at h; rw [h]
theorem LR.at (h : LR ad ls nL L) {i : Nat} {v : Value} (hv : ldL L i = v) (h2 : isV v = true) : ls[i]? = some (.val (cv ad v)) := h.2.2.2 i v (ld_some hv h2) h2
theorem preL_len (i : Nat) : (preL L i).length = L.length := by
  unfold preL
  split
  · rfl
  · split <;> simp
theorem preL_at {i j : Nat} {w : Value} (h : (preL L i)[j]? = some w) (hw : isV w = true) : L[j]? = some w ∧ ¬ (j + 1 = i ∧ w.category = 2) := by
  unfold preL at h
  split at h
  · exact ⟨h, fun z => by omega⟩
  · rename_i k
    split at h
    · rename_i hc
      rw [List.getElem?_set] at h
      by_cases hk : k = j
      · rw [if_pos hk] at h
        split at h
        · cases h; cases hw
        · cases h
      · rw [if_neg hk] at h
        exact ⟨h, fun z => hk (by omega)⟩
    · rename_i hc
      refine ⟨h, fun z => hc ?_⟩
      have : k = j := by omega
      subst this
      rw [List.getD_eq_getElem?_getD, h]
      exact z.2
theorem LR.put1 {ls' : Array Slot} {i : Nat} {v : Value} (hL : L.length = nL) (hv : isV v = true) (h : lv_has ls' nL ((i, cv ad v) :: (lvl ad L).filter (fun q => !(q.1 == i) && !(q.1 + 1 == i && q.2.category == 2)))) : LR ad ls' nL (stL L i v) := by
  refine ⟨h.1, h.2.1, by unfold stL; rw [List.length_set, preL_len, hL], fun j w hj hw => ?_⟩
  unfold stL at hj
  rw [List.getElem?_set] at hj
  by_cases e : i = j
  · rw [if_pos e] at hj
    split at hj
    · cases hj
      subst e
      exact h.2.2 (i, cv ad v) List.mem_cons_self
    · cases hj
  · rw [if_neg e] at hj
    obtain ⟨h1, h2⟩ := preL_at hj hw
    refine h.2.2 (j, cv ad w) (List.mem_cons_of_mem _ (List.mem_filter.mpr ⟨lvl_mem.mpr ⟨w, h1, hw, rfl⟩, ?_⟩))
    simp only [cv_cat, Bool.and_eq_true, Bool.not_eq_true', beq_eq_false_iff_ne, ne_eq, Bool.and_eq_false_iff]
    refine ⟨fun z => e z.symm, ?_⟩
    by_cases z : j + 1 = i
    · exact Or.inr fun z2 => h2 ⟨z, z2⟩
    · exact Or.inl z
theorem LR.put2 {ls' : Array Slot} {i : Nat} {v : Value} (hL : L.length = nL) (hv : isV v = true) (h : lv_has ls' nL ((i, cv ad v) :: (lvl ad L).filter (fun q => !(q.1 == i) && (!(q.1 == i + 1) && !(q.1 + 1 == i && q.2.category == 2))))) : LR ad ls' nL (st2 L i v) := by
  refine ⟨h.1, h.2.1, by unfold st2; rw [List.length_set, List.length_set, preL_len, hL], fun j w hj hw => ?_⟩
  unfold st2 at hj
  rw [List.getElem?_set] at hj
  by_cases e1 : i + 1 = j
  · rw [if_pos e1] at hj
    split at hj
    · cases hj; cases hw
    · cases hj
  · rw [if_neg e1, List.getElem?_set] at hj
    by_cases e : i = j
    · rw [if_pos e] at hj
      split at hj
      · cases hj
        subst e
        exact h.2.2 (i, cv ad v) List.mem_cons_self
      · cases hj
    · rw [if_neg e] at hj
      obtain ⟨h1, h2⟩ := preL_at hj hw
      refine h.2.2 (j, cv ad w) (List.mem_cons_of_mem _ (List.mem_filter.mpr ⟨lvl_mem.mpr ⟨w, h1, hw, rfl⟩, ?_⟩))
      simp only [cv_cat, Bool.and_eq_true, Bool.not_eq_true', beq_eq_false_iff_ne, ne_eq, Bool.and_eq_false_iff]
      refine ⟨fun z => e z.symm, fun z => e1 z.symm, ?_⟩
      by_cases z : j + 1 = i
      · exact Or.inr fun z2 => h2 ⟨z, z2⟩
      · exact Or.inl z
theorem vp_inR {i : Int32} {n : Nat} (h : inR i n = true) : vp_in i n := by
  unfold inR at h
  simp only [Bool.and_eq_true, decide_eq_true_eq] at h
  unfold vp_in
  rintro (q | q)
  · exact absurd h.1 (Int32.not_le.mpr q)
  · omega
end Loc
/-! the entry -/
def argL : List Value → List Value
  | [] => []
  | v :: vs => if v.category = 2 then v :: noV :: argL vs else v :: argL vs
def initL (n : Nat) (As : List Value) : List Value := argL As ++ List.replicate (n - (argL As).length) noV
theorem argL_len (ad : Nat → Nat) : ∀ As : List Value, (lg_sl (As.map (cv ad))).length = (argL As).length
  | [] => rfl
  | v :: vs => by
    have ih := argL_len ad vs
    simp only [lg_sl, List.map_cons, List.flatMap_cons, cv_cat, argL] at ih ⊢
    split <;> simp_all <;> omega
theorem argL_mem (ad : Nat → Nat) : ∀ (As : List Value) (i b : Nat) (v : Value), (argL As)[i]? = some v → isV v = true → (b + i, cv ad v) ∈ lv_args b (As.map (cv ad))
  | [], i, b, v, h, _ => by simp [argL] at h
  | w :: As, i, b, v, h, hv => by
    simp only [List.map_cons, lv_args, cv_cat]
    unfold argL at h
    by_cases hc : w.category = 2
    · rw [if_pos hc] at h
      rw [if_pos hc]
      match i, h with
      | 0, h => simp at h; subst h; exact List.mem_cons_self
      | 1, h => simp at h; subst h; cases hv
      | i + 2, h =>
        simp only [List.getElem?_cons_succ] at h
        have := argL_mem ad As i (b + 2) v h hv
        rw [show b + (i + 2) = b + 2 + i by omega]
        exact List.mem_cons_of_mem _ this
    · rw [if_neg hc] at h
      rw [if_neg hc]
      match i, h with
      | 0, h => simp at h; subst h; exact List.mem_cons_self
      | i + 1, h =>
        simp only [List.getElem?_cons_succ] at h
        have := argL_mem ad As i (b + 1) v h hv
        rw [show b + (i + 1) = b + 1 + i by omega]
        exact List.mem_cons_of_mem _ this
theorem LR_entry (ad : Nat → Nat) (As : List Value) {n : Nat} (h : (argL As).length ≤ n) : LR ad ((lg_sl (As.map (cv ad)) ++ List.replicate (n - (lg_sl (As.map (cv ad))).length) Slot.unset).toArray) n (initL n As) := by
  have h0 := lv_entry (As.map (cv ad)) (n := n) (by rw [argL_len]; exact h)
  refine ⟨h0.1, h0.2.1, by unfold initL; rw [List.length_append, List.length_replicate]; omega, fun i v hi hv => ?_⟩
  unfold initL at hi
  by_cases hl : i < (argL As).length
  · rw [List.getElem?_append_left hl] at hi
    have := h0.2.2 _ (argL_mem ad As i 0 v hi hv)
    simpa using this
  · rw [List.getElem?_append_right (by omega), List.getElem?_replicate] at hi
    split at hi
    · cases hi; cases hv
    · cases hi
