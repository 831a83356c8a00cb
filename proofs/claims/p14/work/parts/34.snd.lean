/-! THE CHECKER IS SOUND: every plain instruction -/
section Sk
variable {L0 L st : List Value} {m mE : Mm} {T : List (List (Int × Int))} {W : Wr} {sh : List ShE} {Tc : List CE} {C : CallS}
theorem absI_ok (hC : ∀ c ∈ Tc, Hd T C c) {i : ClassFile.Instr} {S S' : AS} (h : absI sh T Tc W i S = some S') (g : gZ T W mE L0 S L st m) : ∃ L' st' m', sI sh tb0 mN mO C i L st m = some (L', st', m') ∧ gZ T W mE L0 S' L' st' m' := by
  obtain ⟨g1, g2, g3, g4, g5⟩ := id g
  unfold absI at h
  split at h
  · rename_i n
    split at h
    · rename_i hn
      cases h
      exact ⟨_, _, _, rfl, g1, ⟨gv_cst hn, g2⟩, g3, g4, g5⟩
    · cases h
  · rename_i n
    split at h
    · rename_i hn
      cases h
      have e : (Int64.ofInt n).toInt = n := Int64.toInt_ofInt_of_le (by omega) (by omega)
      exact ⟨_, _, _, rfl, g1, ⟨⟨_, rfl, by omega, by omega, Or.inl rfl⟩, g2⟩, g3, g4, g5⟩
    · cases h
  · cases h
    exact ⟨_, _, _, rfl, g1, ⟨⟨_, rfl, List.mem_singleton.mpr rfl⟩, g2⟩, g3, g4, g5⟩
  · rename_i k
    split at h
    · rename_i ai e s o im ha
      obtain ⟨x, hx, k1, k2, k3, k4⟩ := gL_at g1 ha
      split at h
      · cases h
        refine ⟨L, .int x :: st, m, ?_, g1, ⟨⟨x, rfl, k1, ?_, k3, k4⟩, g2⟩, g3, g4, g5⟩
        · simp only [sI, hx]
        · exact Or.inr (Or.inl ⟨by omega, by omega, x, hx, rfl⟩)
      · cases h
    · cases h
  · rename_i k
    split at h
    · rename_i a ha
      obtain ⟨lo, hi, s⟩ := a
      obtain ⟨x, hx, k1, k2, k3⟩ := gL_at g1 ha
      cases h
      refine ⟨L, .long x :: st, m, ?_, g1, ⟨⟨x, rfl, k1, k2, k3⟩, g2⟩, g3, g4, g5⟩
      simp only [sI, hx]
    · cases h
  · rename_i k
    split at h
    · rename_i a ha
      obtain ⟨x, hx, k1⟩ := gL_at g1 ha
      cases h
      refine ⟨L, .ref x :: st, m, ?_, g1, ⟨⟨x, rfl, k1⟩, g2⟩, g3, g4, g5⟩
      simp only [sI, hx]
    · cases h
  · rename_i k
    split at h
    · rename_i a st1 hs
      rw [hs] at g2
      obtain ⟨v, vs, rfl, k1, k2⟩ := gT_cons g2
      split at h
      · rename_i hc
        obtain ⟨x, rfl⟩ := isI_v hc.1 k1
        have hl : k < L.length := by rw [← g1.1]; exact hc.2
        cases h
        refine ⟨_, vs, m, ?_, gL_st g1 k1 hl, gT_clr k2 _ _, g3, g4, g5⟩
        simp only [sI, if_pos hl]
      · cases h
    · cases h
  · rename_i k
    split at h
    · rename_i a st1 hs
      rw [hs] at g2
      obtain ⟨v, vs, rfl, k1, k2⟩ := gT_cons g2
      split at h
      · rename_i hc
        obtain ⟨x, rfl, k3⟩ := id k1
        have hl : k < L.length := by rw [← g1.1]; exact hc
        cases h
        refine ⟨_, vs, m, ?_, gL_st g1 k1 hl, gT_clr k2 _ _, g3, g4, g5⟩
        simp only [sI, if_pos hl]
      · cases h
    · cases h
  · rename_i k
    split at h
    · rename_i a st1 hs
      rw [hs] at g2
      obtain ⟨v, vs, rfl, k1, k2⟩ := gT_cons g2
      split at h
      · rename_i hc
        obtain ⟨x, rfl⟩ := isJ_v hc.1 k1
        have hl : k + 1 < L.length := by rw [← g1.1]; exact hc.2
        cases h
        refine ⟨st2 L k (.long x), vs, m, by simp only [sI, if_pos hl], ?_, gT_clr k2 _ _, g3, g4, g5⟩
        have q := gL_none (i := k + 1) (gL_st g1 k1 (by omega : k < L.length))
        have e1 : st2 L k (.long x) = (stL L k (.long x)).set (k + 1) noV := rfl
        rw [e1]
        refine ⟨by have := q.1; simp only [List.length_set, List.length_map] at this ⊢; exact this, fun j b hj => ?_⟩
        have q2 := q.2 j
        rw [List.getElem?_set] at hj
        by_cases e : k + 1 = j
        · rw [if_pos e] at hj
          split at hj
          · cases hj; trivial
          · cases hj
        · rw [if_neg e] at hj
          have hj2 := hj
          rw [List.getElem?_set] at hj
          have q3 := gL_st g1 k1 (by omega : k < L.length)
          have q4 := q3.2 j b hj2
          rw [ld_set, if_neg (fun z => e z.1)]
          by_cases e2 : k = j
          · rw [if_pos e2] at hj
            split at hj
            · cases hj
              exact gv_clr (a := clr a) q4 _ _ |> fun z => by
                have : clr (clr a) = clr a := by
                  match a with
                  | none => rfl
                  | some (.inl _) => rfl
                  | some (.inr (.inl _)) => rfl
                  | some (.inr (.inr _)) => rfl
                rw [this] at z
                exact z
            · cases hj
          · rw [if_neg e2] at hj
            unfold stL
            rw [ld_set, if_neg (fun z => e2 z.1)]
            exact pre_ok g1 hj _
      · cases h
    · cases h
  · rename_i k n
    split at h
    · rename_i a ha
      split at h
      · rename_i hn
        split at h
        · rename_i c hc
          obtain ⟨x, y, hx, hy, k5⟩ := add_ok hc (gL_at g1 ha) (gv_cst (L0 := L0) (L := L) (m := m) hn)
          cases hy
          split at h
          · rename_i hl
            have hl : k < L.length := by rw [← g1.1]; exact hl
            cases h
            refine ⟨_, st, m, ?_, gL_st g1 k5 hl, gT_clr g2 _ _, g3, g4, g5⟩
            simp only [sI, hx, if_pos hl]
          · cases h
        · cases h
      · cases h
    · cases h
  · obtain ⟨x, y, s0, rfl, -, k⟩ := bop_ok (P := fun _ => True) (f := fun x y => x + y) (fun h1 h2 h3 => by
      obtain ⟨x, y, a, b, c⟩ := add_ok h1 h2 h3
      exact ⟨x, y, a, b, trivial, c⟩) h g
    exact ⟨_, _, _, rfl, k⟩
  · obtain ⟨x, y, s0, rfl, -, k⟩ := bop_ok (P := fun _ => True) (f := fun x y => x - y) (fun h1 h2 h3 => by
      obtain ⟨x, y, a, b, c⟩ := sub_ok h1 h2 h3
      exact ⟨x, y, a, b, trivial, c⟩) h g
    exact ⟨_, _, _, rfl, k⟩
  · obtain ⟨x, y, s0, rfl, -, k⟩ := bop_ok (P := fun _ => True) (f := fun x y => x * y) (fun h1 h2 h3 => by
      obtain ⟨x, y, a, b, c⟩ := mul_ok h1 h2 h3
      exact ⟨x, y, a, b, trivial, c⟩) h g
    exact ⟨_, _, _, rfl, k⟩
  · obtain ⟨x, y, s0, rfl, hy, k⟩ := bop_ok (P := fun y => ¬ y = 0) (f := fun x y => x / y) (fun h1 h2 h3 => div_ok h1 h2 h3) h g
    exact ⟨L, .int (x / y) :: s0, m, by simp only [sI, if_neg hy], k⟩
  · obtain ⟨x, y, s0, rfl, hy, k⟩ := bop_ok (P := fun y => ¬ y = 0) (f := fun x y => x - x / y * y) (fun h1 h2 h3 => rem_ok h1 h2 h3) h g
    exact ⟨L, .int (x - x / y * y) :: s0, m, by simp only [sI, if_neg hy], k⟩
  · obtain ⟨x, y, s0, rfl, -, k⟩ := bop_ok (P := fun _ => True) (f := fun x y => x &&& y) (fun h1 h2 h3 => by
      obtain ⟨x, y, a, b, c⟩ := and_ok h1 h2 h3
      exact ⟨x, y, a, b, trivial, c⟩) h g
    exact ⟨_, _, _, rfl, k⟩
  · obtain ⟨x, y, s0, rfl, -, k⟩ := bop_ok (P := fun _ => True) (f := fun x y => x ||| y) (fun h1 h2 h3 => by
      obtain ⟨x, y, a, b, c⟩ := any_ok h1 h2 h3 (fun x y => x ||| y)
      exact ⟨x, y, a, b, trivial, c⟩) h g
    exact ⟨_, _, _, rfl, k⟩
  · obtain ⟨x, y, s0, rfl, -, k⟩ := bop_ok (P := fun _ => True) (f := fun x y => x ^^^ y) (fun h1 h2 h3 => by
      obtain ⟨x, y, a, b, c⟩ := any_ok h1 h2 h3 (fun x y => x ^^^ y)
      exact ⟨x, y, a, b, trivial, c⟩) h g
    exact ⟨_, _, _, rfl, k⟩
  · obtain ⟨x, y, s0, rfl, -, k⟩ := bop_ok (P := fun _ => True) (f := fun x y => x <<< (y &&& 31)) (fun h1 h2 h3 => by
      obtain ⟨x, y, a, b, c⟩ := shl_ok h1 h2 h3
      exact ⟨x, y, a, b, trivial, c⟩) h g
    exact ⟨_, _, _, rfl, k⟩
  · obtain ⟨x, y, s0, rfl, -, k⟩ := bop_ok (P := fun _ => True) (f := fun x y => x >>> (y &&& 31)) (fun h1 h2 h3 => by
      obtain ⟨x, y, a, b, c⟩ := any_ok h1 h2 h3 (fun x y => x >>> (y &&& 31))
      exact ⟨x, y, a, b, trivial, c⟩) h g
    exact ⟨_, _, _, rfl, k⟩
  · obtain ⟨x, y, s0, rfl, -, k⟩ := bop_ok (P := fun _ => True) (f := fun x y => (x.toUInt32 >>> (y.toUInt32 &&& Int32.toUInt32 31)).toInt32) (fun h1 h2 h3 => by
      obtain ⟨x, y, a, b, c⟩ := any_ok h1 h2 h3 (fun x y => (x.toUInt32 >>> (y.toUInt32 &&& Int32.toUInt32 31)).toInt32)
      exact ⟨x, y, a, b, trivial, c⟩) h g
    exact ⟨_, _, _, rfl, k⟩
  · split at h
    · rename_i b a st1 hs
      rw [hs] at g2
      obtain ⟨w, vs, rfl, k1, k2⟩ := gT_cons g2
      obtain ⟨v, vs, rfl, k3, k4⟩ := gT_cons k2
      split at h
      · rename_i hc
        obtain ⟨x, rfl⟩ := isJ_v hc.1 k3
        obtain ⟨y, rfl⟩ := isJ_v hc.2 k1
        cases h
        exact ⟨_, _, _, rfl, g1, ⟨gv_tJ _, k4⟩, g3, g4, g5⟩
      · cases h
    · cases h
  · split at h
    · rename_i b a st1 hs
      rw [hs] at g2
      obtain ⟨w, vs, rfl, k1, k2⟩ := gT_cons g2
      obtain ⟨v, vs, rfl, k3, k4⟩ := gT_cons k2
      split at h
      · rename_i hc
        obtain ⟨x, rfl⟩ := isJ_v hc.1 k3
        obtain ⟨y, rfl⟩ := isJ_v hc.2 k1
        cases h
        exact ⟨_, _, _, rfl, g1, ⟨gv_tJ _, k4⟩, g3, g4, g5⟩
      · cases h
    · cases h
  · split at h
    · rename_i b a st1 hs
      rw [hs] at g2
      obtain ⟨w, vs, rfl, k1, k2⟩ := gT_cons g2
      obtain ⟨v, vs, rfl, k3, k4⟩ := gT_cons k2
      split at h
      · rename_i hc
        obtain ⟨x, rfl⟩ := isJ_v hc.1 k3
        obtain ⟨y, rfl⟩ := isJ_v hc.2 k1
        cases h
        exact ⟨_, _, _, rfl, g1, ⟨gv_tI _, k4⟩, g3, g4, g5⟩
      · cases h
    · cases h
  · split at h
    · rename_i ai e s o im st1 hs
      rw [hs] at g2
      obtain ⟨w, vs, rfl, k1, k2⟩ := gT_cons g2
      obtain ⟨x, rfl, q1, q2, -⟩ := k1
      have A := gN_hul q1
      cases h
      refine ⟨_, _, _, rfl, g1, ⟨⟨_, rfl, ?_, ?_, ?_⟩, k2⟩, g3, g4, g5⟩
      · rw [Int32.toInt_toInt64]; exact A.1
      · rw [Int32.toInt_toInt64]; exact A.2.1
      · rw [Int32.toInt_toInt64]; exact q2
    · cases h
  · split at h
    · rename_i a st1 hs
      rw [hs] at g2
      obtain ⟨w, vs, rfl, k1, k2⟩ := gT_cons g2
      split at h
      · rename_i hc
        obtain ⟨x, rfl⟩ := isJ_v hc k1
        cases h
        exact ⟨_, _, _, rfl, g1, ⟨gv_tI _, k2⟩, g3, g4, g5⟩
      · cases h
    · cases h
  · split at h
    · rename_i a st1 hs
      rw [hs] at g2
      obtain ⟨w, vs, rfl, k1, k2⟩ := gT_cons g2
      split at h
      · rename_i hc
        obtain ⟨x, rfl⟩ := isI_v hc k1
        cases h
        exact ⟨_, _, _, rfl, g1, ⟨gv_tI _, k2⟩, g3, g4, g5⟩
      · cases h
    · cases h
  · split at h
    · rename_i a st1 hs
      rw [hs] at g2
      obtain ⟨w, vs, rfl, k1, k2⟩ := gT_cons g2
      split at h
      · rename_i hc
        obtain ⟨x, rfl⟩ := isI_v hc k1
        cases h
        exact ⟨_, _, _, rfl, g1, ⟨gv_tI _, k2⟩, g3, g4, g5⟩
      · cases h
    · cases h
  · split at h
    · rename_i a st1 hs
      rw [hs] at g2
      obtain ⟨w, vs, rfl, k1, k2⟩ := gT_cons g2
      split at h
      · rename_i hc
        have hw := is1_v hc k1
        cases h
        exact ⟨L, w :: w :: vs, m, by simp only [sI, if_pos hw], g1, ⟨k1, k1, k2⟩, g3, g4, g5⟩
      · cases h
    · cases h
  · split at h
    · rename_i a b st1 hs
      rw [hs] at g2
      obtain ⟨w, vs, rfl, k1, k2⟩ := gT_cons g2
      obtain ⟨v, vs, rfl, k3, k4⟩ := gT_cons k2
      split at h
      · rename_i hc
        have hw := is1_v hc.1 k1
        have hv := is1_v hc.2 k3
        cases h
        exact ⟨L, w :: v :: w :: v :: vs, m, by simp only [sI, if_pos (And.intro hw hv)], g1, ⟨k1, k3, k1, k3, k4⟩, g3, g4, g5⟩
      · cases h
    · cases h
  · split at h
    · rename_i a st1 hs
      rw [hs] at g2
      obtain ⟨w, vs, rfl, k1, k2⟩ := gT_cons g2
      split at h
      · rename_i hc
        have hw := is1_v hc k1
        cases h
        exact ⟨L, vs, m, by simp only [sI, if_pos hw], g1, k2, g3, g4, g5⟩
      · cases h
    · cases h
  · split at h
    · rename_i a st1 hs
      rw [hs] at g2
      obtain ⟨w, vs, rfl, k1, k2⟩ := gT_cons g2
      split at h
      · rename_i hc
        obtain ⟨x, rfl⟩ := isJ_v hc k1
        cases h
        exact ⟨_, _, _, rfl, g1, k2, g3, g4, g5⟩
      · cases h
    · cases h
  · rename_i k
    split at h
    · rename_i rs st1 hs
      rw [hs] at g2
      obtain ⟨w, vs, rfl, k1, k2⟩ := gT_cons g2
      obtain ⟨r, rfl, hr⟩ := k1
      split at h
      · rename_i a ha
        obtain ⟨v, e1, e2⟩ := get_ok (L0 := L0) (L := L) g3 g4 ha hr
        cases h
        exact ⟨L, v :: vs, m, by simp only [sI, e1], g1, ⟨e2, k2⟩, g3, g4, g5⟩
      · cases h
    · cases h
  · rename_i k
    split at h
    · rename_i a rs st1 hs
      rw [hs] at g2
      obtain ⟨w, vs, rfl, k1, k2⟩ := gT_cons g2
      obtain ⟨v, vs, rfl, k3, k4⟩ := gT_cons k2
      obtain ⟨r, rfl, hr⟩ := k3
      split at h
      · rename_i R hR
        obtain ⟨m', e1, e2, e3, e4⟩ := put_ok g3 g4 g5 hR k1 hr
        cases h
        exact ⟨L, vs, m', by simp only [sI, e1], gL_clr g1 _, gT_clr k4 _ _, e2, e3, e4⟩
      · cases h
    · cases h
  · split at h
    · rename_i ai e s o im rs st1 hs
      rw [hs] at g2
      obtain ⟨w, vs, rfl, k1, k2⟩ := gT_cons g2
      obtain ⟨v, vs, rfl, k3, k4⟩ := gT_cons k2
      obtain ⟨r, rfl, hr⟩ := k3
      obtain ⟨x, rfl, q1, -⟩ := k1
      have A := gN_hul q1
      split at h
      · rename_i a ha
        obtain ⟨v, e1, e2⟩ := ald_ok (L0 := L0) (L := L) g3 g4 ha A.1 A.2.1 A.2.2 hr
        cases h
        exact ⟨L, .int v :: vs, m, by simp only [sI, e1], g1, ⟨e2, k4⟩, g3, g4, g5⟩
      · cases h
    · cases h
  · split at h
    · rename_i ai e s o im rs st1 hs
      rw [hs] at g2
      obtain ⟨w, vs, rfl, k1, k2⟩ := gT_cons g2
      obtain ⟨v, vs, rfl, k3, k4⟩ := gT_cons k2
      obtain ⟨r, rfl, hr⟩ := k3
      obtain ⟨x, rfl, q1, -⟩ := k1
      have A := gN_hul q1
      split at h
      · rename_i a ha
        obtain ⟨v, e1, e2⟩ := ald_ok (L0 := L0) (L := L) g3 g4 ha A.1 A.2.1 A.2.2 hr
        cases h
        exact ⟨L, .int v :: vs, m, by simp only [sI, e1], g1, ⟨e2, k4⟩, g3, g4, g5⟩
      · cases h
    · cases h
  · split at h
    · rename_i vi f s1 o1 im1 ai e s o im rs st1 hs
      rw [hs] at g2
      obtain ⟨w, vs, rfl, k0, g2⟩ := gT_cons g2
      obtain ⟨w, vs, rfl, k1, k2⟩ := gT_cons g2
      obtain ⟨v, vs, rfl, k3, k4⟩ := gT_cons k2
      obtain ⟨r, rfl, hr⟩ := k3
      obtain ⟨x, rfl, q1, -⟩ := k1
      obtain ⟨y, rfl, q2, -⟩ := k0
      have A := gN_hul q1
      have B := gN_hul q2
      split at h
      · rename_i R hR
        obtain ⟨m', e1, e2, e3, e4⟩ := ast_ok g3 g4 g5 hR A.1 A.2.1 A.2.2 B.1 B.2.1 hr
        cases h
        exact ⟨L, vs, m', by simp only [sI, e1], gL_clr g1 _, gT_clr k4 _ _, e2, e3, e4⟩
      · cases h
    · cases h
  · split at h
    · rename_i vi f s1 o1 im1 ai e s o im rs st1 hs
      rw [hs] at g2
      obtain ⟨w, vs, rfl, k0, g2⟩ := gT_cons g2
      obtain ⟨w, vs, rfl, k1, k2⟩ := gT_cons g2
      obtain ⟨v, vs, rfl, k3, k4⟩ := gT_cons k2
      obtain ⟨r, rfl, hr⟩ := k3
      obtain ⟨x, rfl, q1, -⟩ := k1
      obtain ⟨y, rfl, q2, -⟩ := k0
      have A := gN_hul q1
      have B := gN_hul q2
      split at h
      · rename_i R hR
        obtain ⟨m', e1, e2, e3, e4⟩ := ast_ok g3 g4 g5 hR A.1 A.2.1 A.2.2 B.1 B.2.1 hr
        cases h
        exact ⟨L, vs, m', by simp only [sI, e1], gL_clr g1 _, gT_clr k4 _ _, e2, e3, e4⟩
      · cases h
    · cases h
  · split at h
    · rename_i ai e s o im rs st1 hs
      rw [hs] at g2
      obtain ⟨w, vs, rfl, k1, k2⟩ := gT_cons g2
      obtain ⟨v, vs, rfl, k3, k4⟩ := gT_cons k2
      obtain ⟨r, rfl, hr⟩ := k3
      obtain ⟨x, rfl, q1, -⟩ := k1
      have A := gN_hul q1
      split at h
      · rename_i a ha
        obtain ⟨v, e1, e2⟩ := alr_ok (L0 := L0) (L := L) (m := m) ha A.1 A.2.1 hr
        cases h
        exact ⟨L, .ref v :: vs, m, by simp only [sI, e1], g1, ⟨e2, k4⟩, g3, g4, g5⟩
      · cases h
    · cases h
  · obtain ⟨n, dp, o1, sp, o0, st0, m', rfl, k1, k2, k3⟩ := cpy_ok h g
    exact ⟨L, st0, m', by simp only [sI, if_pos k1, k2], k3⟩
  · rename_i z
    split at h
    · rename_i as st1 hp
      obtain ⟨As, vs, e1, e2, e3⟩ := pop_ok (va := []) hp g2 trivial
      obtain ⟨k1, v, m', k2, k3⟩ := call_ok hC h g1 e2 e3 g3 g4 g5
      exact ⟨L, v.toList ++ vs, m', by simp only [sI, e1, if_pos k1, k2], k3⟩
    · cases h
  · rename_i z
    split at h
    · rename_i as rs st1 hp
      obtain ⟨As, vs, e1, e2, e3⟩ := pop_ok (va := []) hp g2 trivial
      obtain ⟨w, vs, rfl, k1, k2⟩ := gT_cons e3
      obtain ⟨r, rfl, hr⟩ := id k1
      split at h
      · rename_i hc
        have hcl := List.all_eq_true.mp hc r hr
        simp only [beq_iff_eq] at hcl
        obtain ⟨k3, v, m', k4, k5⟩ := call_ok hC (as := some (.inr (.inl rs)) :: as) (As := .ref r :: As) h g1 ⟨k1, e2⟩ k2 g3 g4 g5
        exact ⟨L, v.toList ++ vs, m', by simp only [sI, e1, if_pos (And.intro k3 hcl), k4], k5⟩
      · cases h
    · cases h
  · cases h
end Sk
