/-! METHODS THAT THE CHECKER LETS PASS: they return -/
/-- a block's place, its state, its rank: a constant and a factor for each local -/
abbrev AnE : Type := Nat × AS × Int × List Int
def vI (v : Value) : Int := match v with
  | .int x => x.toInt
  | _ => 0
def rkF (f : Nat → Value) : Nat → List Int → Int
  | _, [] => 0
  | k, c :: cs => c * vI (f k) + rkF f (k + 1) cs
def ubA (c : Int) (a : AV) : Option Int := if c = 0 then some 0 else match a with
  | some (.inl (ai, e, _, _, _)) => some (if 0 ≤ c then c * (hul ai e).2.1 else c * (hul ai e).1)
  | _ => none
def ad2 (a b : Option Int) : Option Int := match a, b with
  | some x, some y => some (x + y)
  | _, _ => none
def ubL : List Int → List AV → Option Int
  | [], _ => some 0
  | _ :: _, [] => none
  | c :: cs, a :: as => ad2 (ubA c a) (ubL cs as)
def ogA (k : Nat) (a : AV) : Option Int := match a with
  | some (.inl (_, _, _, o, _)) => if o.1 = k + 1 then some o.2 else none
  | _ => none
/-- how far the rank rises at most: factors behind and ahead, values behind and ahead -/
def rkD (k : Nat) : List Int → List Int → List AV → List AV → Option Int
  | [], [], _, _ => some 0
  | c' :: cs', c :: cs, a' :: as', a :: as => ad2 (match ogA k a' with
    | some d => if c' = c then some (c * d) else ad2 (ubA c' a') (ubA (-c) a)
    | none => ad2 (ubA c' a') (ubA (-c) a)) (rkD (k + 1) cs' cs as' as)
  | _, _, _, _ => none
def orgA (as : List AV) : List AV := mapI (fun k a => match a with
  | some (.inl (ai, e, s, _, im)) => some (.inl (ai, e, s, (k + 1, 0), im))
  | a => a) 0 as
def argA : List AV → List AV
  | [] => []
  | a :: as => if isJ a = true then a :: none :: argA as else a :: argA as
def padA (n : Nat) (as : List AV) : List AV := argA as ++ List.replicate (n - (argA as).length) none
section Me
variable {L0 L st : List Value} {m mE : Mm} {T : List (List (Int × Int))} {sh : List ShE} {Tc : List CE} {C : CallS}
theorem ad2_some {a b : Option Int} {d : Int} (h : ad2 a b = some d) : ∃ x y, a = some x ∧ b = some y ∧ d = x + y := by
  unfold ad2 at h
  split at h
  · cases h; exact ⟨_, _, rfl, rfl, rfl⟩
  · cases h
theorem ubA_ok {c u : Int} {a : AV} {v : Value} (h : ubA c a = some u) (g : gv L0 L m a v) : c * vI v ≤ u := by
  unfold ubA at h
  split at h
  · rename_i hc
    cases h
    rw [hc]
    omega
  · split at h
    · rename_i ai e s o im
      obtain ⟨x, rfl, k1, -⟩ := g
      have A := gN_hul k1
      cases h
      show c * x.toInt ≤ _
      split
      · rename_i h0
        exact Int.mul_le_mul_of_nonneg_left A.2.1 h0
      · rename_i h0
        exact Int.mul_le_mul_of_nonpos_left (by omega) A.1
    · cases h
theorem ubL_ok {f : Nat → Value} : ∀ {cs : List Int} {as : List AV} {u : Int} (k : Nat), ubL cs as = some u → (∀ i a, as[i]? = some a → gv L0 L m a (f (k + i))) → rkF f k cs ≤ u
  | [], _, u, k, h, _ => by
    cases h
    exact Int.le_refl _
  | c :: cs, [], u, k, h, _ => by cases h
  | c :: cs, a :: as, u, k, h, g => by
    obtain ⟨x, y, h1, h2, rfl⟩ := ad2_some h
    have q1 := ubA_ok h1 (g 0 a rfl)
    have q2 := ubL_ok (f := f) (k + 1) h2 (fun i b hb => by
      have := g (i + 1) b hb
      rw [show k + 1 + i = k + (i + 1) by omega]
      exact this)
    show c * vI (f k) + rkF f (k + 1) cs ≤ _
    have e : f (k + 0) = f k := rfl
    rw [e] at q1
    omega
theorem rkD_ok {L1 : List Value} {m1 : Mm} : ∀ {cs' cs : List Int} {as' as : List AV} {d : Int} (k : Nat), rkD k cs' cs as' as = some d → (∀ i a, as'[i]? = some a → gv L0 L m a (ldL L (k + i))) → (∀ i a, as[i]? = some a → gv L1 L0 m1 a (ldL L0 (k + i))) → rkF (ldL L) k cs' - rkF (ldL L0) k cs ≤ d
  | [], [], _, _, d, k, h, _, _ => by
    cases h
    show (0 : Int) - 0 ≤ 0
    omega
  | [], _ :: _, _, _, d, k, h, _, _ => by cases h
  | _ :: _, [], _, _, d, k, h, _, _ => by cases h
  | c' :: cs', c :: cs, [], _, d, k, h, _, _ => by cases h
  | c' :: cs', c :: cs, _ :: _, [], d, k, h, _, _ => by cases h
  | c' :: cs', c :: cs, a' :: as', a :: as, d, k, h, g', g => by
    obtain ⟨x, y, h1, h2, rfl⟩ := ad2_some h
    have q2 := rkD_ok (k + 1) h2 (fun i b hb => by
      rw [show k + 1 + i = k + (i + 1) by omega]
      exact g' (i + 1) b hb) (fun i b hb => by
      rw [show k + 1 + i = k + (i + 1) by omega]
      exact g (i + 1) b hb)
    have ga' : gv L0 L m a' (ldL L k) := g' 0 a' rfl
    have ga : gv L1 L0 m1 a (ldL L0 k) := g 0 a rfl
    have key : ad2 (ubA c' a') (ubA (-c) a) = some x → c' * vI (ldL L k) - c * vI (ldL L0 k) ≤ x := fun z => by
      obtain ⟨p, q, z1, z2, rfl⟩ := ad2_some z
      have w1 := ubA_ok z1 ga'
      have w2 := ubA_ok z2 ga
      rw [Int.neg_mul] at w2
      omega
    have q1 : c' * vI (ldL L k) - c * vI (ldL L0 k) ≤ x := by
      split at h1
      · rename_i dd hd
        split at h1
        · rename_i hc
          cases h1
          unfold ogA at hd
          split at hd
          · rename_i ai e s o im
            split at hd
            · rename_i ho
              cases hd
              obtain ⟨w, hw, -, -, k3, -⟩ := ga'
              rcases k3 with k3 | ⟨y0, k3, k4⟩
              · omega
              · rw [ho] at k3
                rw [hw, show ldL L0 k = .int y0 from k3, hc]
                show c * w.toInt - c * y0.toInt ≤ c * o.2
                rw [k4, Int.mul_add]
                omega
            · cases hd
          · cases hd
        · exact key h1
      · exact key h1
    show c' * vI (ldL L k) + rkF (ldL L) (k + 1) cs' - (c * vI (ldL L0 k) + rkF (ldL L0) (k + 1) cs) ≤ _
    omega
theorem leT_len {as bs : List AV} (h : leT as bs = true) : as.length = bs.length := by
  induction as generalizing bs with
  | nil => cases bs with
    | nil => rfl
    | cons b bs => cases h
  | cons a as ih => cases bs with
    | nil => cases h
    | cons b bs =>
      simp only [leT, Bool.and_eq_true] at h
      simp only [List.length_cons, ih h.2]
theorem leT_at {as bs : List AV} (h : leT as bs = true) {i : Nat} {b : AV} (hb : bs[i]? = some b) : ∃ a, as[i]? = some a ∧ leV a b = true := by
  induction as generalizing bs i with
  | nil => cases bs with
    | nil => cases hb
    | cons b bs => cases h
  | cons a as ih => cases bs with
    | nil => cases h
    | cons c bs =>
      simp only [leT, Bool.and_eq_true] at h
      cases i with
      | zero => cases hb; exact ⟨a, rfl, h.1⟩
      | succ i => exact ih h.2 hb
theorem leL_ok {as bs : List AV} (h : leT as bs = true) (g : gL L0 L m as) (L1 : List Value) : gL L1 L m bs := by
  refine ⟨by rw [← leT_len h]; exact g.1, fun i b hb => ?_⟩
  obtain ⟨a, h1, h2⟩ := leT_at h hb
  exact leV_ok h2 (g.2 i a h1) L1
theorem org_ok {as : List AV} (g : gL L0 L m as) : gL L L m (orgA as) := by
  refine ⟨by unfold orgA; rw [mapI_len]; exact g.1, fun i b hb => ?_⟩
  unfold orgA at hb
  rw [mapI_get] at hb
  cases ha : as[i]? with
  | none => rw [ha] at hb; cases hb
  | some a =>
    rw [ha] at hb
    simp only [Option.map_some, Option.some.injEq] at hb
    subst hb
    have k := g.2 i a ha
    match a, k with
    | none, _ => trivial
    | some (.inl (ai, e, s, o, im)), ⟨x, hx, k1, k2, k3, k4⟩ => exact ⟨x, hx, k1, k2, Or.inr ⟨x, hx, by show _ = _ + (0 : Int); omega⟩, k4⟩
    | some (.inr (.inl rs)), k => exact k
    | some (.inr (.inr (lo, hi, s))), k => exact k
/-- an exit fits the next block's state, and the rank falls -/
def exOK (T : List (List (Int × Int))) (ann : List AnE) (e : AnE) (q : Nat × AS) : Bool := match ann.find? (fun p => p.1 == q.1) with
  | some p => leT q.2.1 p.2.1.1 && leT q.2.2.1 p.2.1.2.1 && leR T q.2.2.2 p.2.1.2.2 && (match rkD 0 p.2.2.2 e.2.2.2 q.2.1 e.2.1.1 with
    | some d => decide (p.2.2.1 - e.2.2.1 + d < 0)
    | none => false) && (match ubL (p.2.2.2.map (fun c => -c)) q.2.1 with
    | some u => decide (u ≤ p.2.2.1)
    | none => false)
  | none => false
def blkOK (sh : List ShE) (T : List (List (Int × Int))) (Tc : List CE) (rt : Option FieldType) (c0 : CE) (code : Nat → List ClassFile.Instr) (ann : List AnE) (e : AnE) : Bool := match absX sh T Tc c0.2.2.2.2.2.1 rt c0 (code e.1) (orgA e.2.1.1, e.2.1.2) with
  | some ex => ex.all (exOK T ann e)
  | none => false
def rkS (e : AnE) (L : List Value) : Int := e.2.2.1 + rkF (ldL L) 0 e.2.2.2
theorem rkF_neg (f : Nat → Value) : ∀ (cs : List Int) (k : Nat), rkF f k (cs.map (fun c => -c)) = - rkF f k cs
  | [], k => rfl
  | c :: cs, k => by
    show -c * vI (f k) + rkF f (k + 1) (cs.map (fun c => -c)) = -(c * vI (f k) + rkF f (k + 1) cs)
    rw [rkF_neg f cs (k + 1), Int.neg_mul]
    omega
/-- a run from any block whose state holds -/
theorem run_ok {rt : Option FieldType} {c0 : CE} {code : Nat → List ClassFile.Instr} {ann : List AnE} (hC : ∀ c ∈ Tc, Hd T C c) (hall : ann.all (blkOK sh T Tc rt c0 code ann) = true) : ∀ (n : Nat) (e : AnE), e ∈ ann → ∀ (L st : List Value) (m : Mm), (∀ L1, gZ T c0.2.2.2.2.2.1 mE L1 e.2.1 L st m) → (rkS e L).toNat ≤ n → ∃ r, rn sh tb0 mN mO C rt code e.1 L st m = some r ∧ PostR T mE c0 r := by
  intro n
  induction n using Nat.strongRecOn with
  | ind n ih =>
    intro e he L st m hg hn
    have hb := List.all_eq_true.mp hall e he
    unfold blkOK at hb
    split at hb
    · rename_i ex hex
      rw [rn_eq]
      obtain ⟨g1, g2, g3, g4, g5⟩ := hg L
      refine absX_ok (L0 := L) hC (code e.1) (orgA e.2.1.1, e.2.1.2) L st m ex hex ⟨org_ok g1, g2, g3, g4, g5⟩ ?_
      intro q hq L' st' m' hg'
      have hx := List.all_eq_true.mp hb q hq
      unfold exOK at hx
      split at hx
      · rename_i p hp
        have hm := List.mem_of_find?_eq_some hp
        have hpe := List.find?_some hp
        simp only [beq_iff_eq] at hpe
        simp only [Bool.and_eq_true] at hx
        obtain ⟨⟨⟨⟨x1, x2⟩, x3⟩, x4⟩, x5⟩ := hx
        obtain ⟨k1, k2, k3, k4, k5⟩ := hg'
        split at x4
        · rename_i d hd
          split at x5
          · rename_i u hu
            have r1 := rkD_ok (L := L') 0 hd (fun i a ha => by rw [Nat.zero_add]; exact k1.2 i a ha) (fun i a ha => by rw [Nat.zero_add]; exact g1.2 i a ha)
            have r2 := ubL_ok (f := ldL L') 0 hu (fun i a ha => by rw [Nat.zero_add]; exact k1.2 i a ha)
            rw [rkF_neg] at r2
            have x4 := of_decide_eq_true x4
            have x5 := of_decide_eq_true x5
            have hlt : (rkS p L').toNat < (rkS e L).toNat := by
              unfold rkS
              omega
            rw [← hpe]
            exact ih (rkS p L').toNat (by omega) p hm L' st' m' (fun L1 => ⟨leL_ok x1 k1 L1, leT_ok x2 k2 L1, k3, leR_ok x3 k3 k4, k5⟩) (Nat.le_refl _)
          · cases x5
        · cases x4
      · cases hx
    · cases hb
theorem argA_ok {as : List AV} {As : List Value} (g : gT L0 L m as As) (hk : as.all (fun a => is1 a || isJ a) = true) : (argA as).length = (argL As).length ∧ ∀ i a, (argA as)[i]? = some a → gv L0 L m a (ldL (argL As) i) := by
  induction as generalizing As with
  | nil => rw [gT_nil g]; exact ⟨rfl, fun i a h => by cases h⟩
  | cons a as ih =>
    obtain ⟨v, vs, rfl, g1, g2⟩ := gT_cons g
    rw [List.all_cons, Bool.and_eq_true] at hk
    obtain ⟨h1, h2⟩ := ih g2 hk.2
    by_cases hj : isJ a = true
    · obtain ⟨x, rfl⟩ := isJ_v hj g1
      have e1 : argA (a :: as) = a :: none :: argA as := by
        show (if isJ a = true then _ else _) = _
        rw [if_pos hj]
      have e2 : argL (.long x :: vs) = .long x :: noV :: argL vs := rfl
      rw [e1, e2]
      refine ⟨by simp only [List.length_cons, h1], fun i b hb => ?_⟩
      match i, hb with
      | 0, hb => cases hb; exact g1
      | 1, hb => cases hb; trivial
      | i + 2, hb => exact h2 i b hb
    · have hc : v.category = 1 := by
        have := hk.1
        rw [Bool.or_eq_true] at this
        rcases this with q | q
        · exact is1_v q g1
        · exact absurd q hj
      have e1 : argA (a :: as) = a :: argA as := by
        show (if isJ a = true then _ else _) = _
        rw [if_neg hj]
      have e2 : argL (v :: vs) = v :: argL vs := by
        show (if v.category = 2 then _ else _) = _
        rw [if_neg (by omega)]
      rw [e1, e2]
      refine ⟨by simp only [List.length_cons, h1], fun i b hb => ?_⟩
      match i, hb with
      | 0, hb => cases hb; exact g1
      | i + 1, hb => exact h2 i b hb
theorem pad_ok {as : List AV} {As : List Value} {n : Nat} (g : gT L0 L m as As) (hk : as.all (fun a => is1 a || isJ a) = true) (hn : (argA as).length ≤ n) : (initL n As).length = n ∧ (padA n as).length = n ∧ ∀ i a, (padA n as)[i]? = some a → gv L0 L m a (ldL (initL n As) i) := by
  obtain ⟨h1, h2⟩ := argA_ok g hk
  refine ⟨by unfold initL; rw [List.length_append, List.length_replicate]; omega, by unfold padA; rw [List.length_append, List.length_replicate]; omega, fun i a ha => ?_⟩
  unfold padA at ha
  by_cases hi : i < (argA as).length
  · rw [List.getElem?_append_left hi] at ha
    have := h2 i a ha
    have e : ldL (initL n As) i = ldL (argL As) i := by
      unfold initL ldL
      rw [List.getD_eq_getElem?_getD, List.getD_eq_getElem?_getD, List.getElem?_append_left (by omega)]
    rw [e]
    exact this
  · rw [List.getElem?_append_right (by omega), List.getElem?_replicate] at ha
    split at ha
    · cases ha; trivial
    · cases ha
theorem cle_cle (a : AV) : cle (cle a) = cle a := by
  match a with
  | none => rfl
  | some (.inl _) => rfl
  | some (.inr (.inl _)) => rfl
  | some (.inr (.inr _)) => rfl
theorem gT_free {as : List AV} {As : List Value} (g : gT L0 L m (as.map cle) As) (L1 L' : List Value) (m' : Mm) : gT L1 L' m' (as.map cle) As := by
  have := gT_cle g L1 L' m'
  rw [List.map_map, show (cle ∘ cle) = cle from funext cle_cle] at this
  exact this
/-- the whole check of a method against a contract -/
def chkM (sh : List ShE) (T : List (List (Int × Int))) (Tc : List CE) (c0 : CE) (ann : List AnE) : Bool := decide (c0.1 ≠ zX3_isWord) && decide (c0.1 + 1 < nZ) && (c0.2.1.map cle).all (fun a => is1 a || isJ a) && decide ((argA (c0.2.1.map cle)).length ≤ mX c0.1) && (match ann.find? (fun p => p.1 == 0) with
  | some p => leT (padA (mX c0.1) (c0.2.1.map cle)) p.2.1.1 && p.2.1.2.1.isEmpty && leR T c0.2.2.1 p.2.1.2.2
  | none => false) && ann.all (blkOK sh T Tc (mT c0.1) c0 (codeZ c0.1) ann) && c0.2.2.2.2.2.2.isEmpty
theorem chk_ok {wS : List Value → Mm → Option Rs} {d : Nat} {c0 : CE} {ann : List AnE} (hC : ∀ c ∈ Tc, Hd T (semZ sh wS d) c) (h : chkM sh T Tc c0 ann = true) : Hd T (semZ sh wS (d + 1)) c0 := by
  unfold chkM at h
  simp only [Bool.and_eq_true, decide_eq_true_eq] at h
  obtain ⟨⟨⟨⟨⟨⟨h1, h2⟩, h3⟩, h4⟩, h5⟩, h6⟩, h7⟩ := h
  intro As m hA hI hR
  have hlen := (argA_ok hA h3).1
  have es : semZ sh wS (d + 1) c0.1 As m = rn sh tb0 mN mO (semZ sh wS d) (mT c0.1) (codeZ c0.1) 0 (initL (mX c0.1) As) [] m := by
    show (if c0.1 = zX3_isWord then _ else _) = _
    rw [if_neg h1, if_pos ⟨by omega, h2⟩]
  split at h5
  · rename_i p hp
    have hm := List.mem_of_find?_eq_some hp
    have hpe := List.find?_some hp
    simp only [beq_iff_eq] at hpe
    simp only [Bool.and_eq_true] at h5
    obtain ⟨⟨q1, q2⟩, q3⟩ := h5
    have hst : p.2.1.2.1 = [] := List.isEmpty_iff.mp q2
    have hg : ∀ L1, gZ T c0.2.2.2.2.2.1 m L1 p.2.1 (initL (mX c0.1) As) [] m := by
      intro L1
      have k := pad_ok (n := mX c0.1) (gT_free hA [] (initL (mX c0.1) As) m) h3 h4
      refine ⟨leL_ok (L0 := []) q1 ⟨by rw [k.2.1, k.1], k.2.2⟩ L1, ?_, hI, leR_ok q3 hI hR, fun _ _ _ _ _ => ⟨rfl, rfl⟩⟩
      rw [hst]
      trivial
    obtain ⟨r, r1, r2⟩ := run_ok (mE := m) hC h6 _ p hm _ _ _ hg (Nat.le_refl _)
    rw [hpe] at r1
    obtain ⟨v, m'⟩ := r
    refine ⟨v, m', by rw [es]; exact r1, r2.1, r2.2.1, r2.2.2.1, r2.2.2.2.1, ?_⟩
    rw [r2.2.2.2.2]
    exact fun _ _ _ q hq => by cases hq
  · cases h5
end Me
/-- contracts that hold at every depth from k on -/
def Hall (T : List (List (Int × Int))) (wS : List Value → Mm → Option Rs) (k : Nat) (Tc : List CE) : Prop := ∀ d, ∀ c ∈ Tc, Hd T (semZ shP wS (d + k)) c
theorem Hall_up {T : List (List (Int × Int))} {wS : List Value → Mm → Option Rs} {k : Nat} {Tc : List CE} (h : Hall T wS k Tc) (j : Nat) : Hall T wS (k + j) Tc := fun d c hc => by
  have := h (d + j) c hc
  rw [show d + j + k = d + (k + j) by omega] at this
  exact this
theorem Hall_app {T : List (List (Int × Int))} {wS : List Value → Mm → Option Rs} {k : Nat} {A B : List CE} (h1 : Hall T wS k A) (h2 : Hall T wS k B) : Hall T wS k (A ++ B) := fun d c hc => by
  rcases List.mem_append.mp hc with h | h
  · exact h1 d c h
  · exact h2 d c h
theorem Hall_step {T : List (List (Int × Int))} {wS : List Value → Mm → Option Rs} {k : Nat} {Tc : List CE} (h : Hall T wS k Tc) (B : List (CE × List AnE)) (hB : B.all (fun b => chkM shP T Tc b.1 b.2) = true) : Hall T wS (k + 1) (B.map (fun b => b.1) ++ Tc) := by
  apply Hall_app
  · intro d c hc
    obtain ⟨b, h1, rfl⟩ := List.mem_map.mp hc
    exact chk_ok (h d) (List.all_eq_true.mp hB b h1)
  · exact Hall_up h 1
