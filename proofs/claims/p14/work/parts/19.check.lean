/-! every method's data is what stands in its bytes: by the kernel -/
theorem ck_0 : (List.range 6).all (fun k => okZ1 (0 + k)) = true := by decide +kernel
theorem ck_6 : (List.range 6).all (fun k => okZ1 (6 + k)) = true := by decide +kernel
theorem ck_12 : (List.range 6).all (fun k => okZ1 (12 + k)) = true := by decide +kernel
theorem ck_18 : (List.range 6).all (fun k => okZ1 (18 + k)) = true := by decide +kernel
theorem ck_24 : (List.range 6).all (fun k => okZ1 (24 + k)) = true := by decide +kernel
theorem ck_30 : (List.range 6).all (fun k => okZ1 (30 + k)) = true := by decide +kernel
theorem ck_36 : (List.range 6).all (fun k => okZ1 (36 + k)) = true := by decide +kernel
theorem ck_42 : (List.range 6).all (fun k => okZ1 (42 + k)) = true := by decide +kernel
theorem ck_48 : (List.range 6).all (fun k => okZ1 (48 + k)) = true := by decide +kernel
theorem ck_54 : (List.range 6).all (fun k => okZ1 (54 + k)) = true := by decide +kernel
theorem ck_60 : (List.range 6).all (fun k => okZ1 (60 + k)) = true := by decide +kernel
theorem ck_66 : (List.range 6).all (fun k => okZ1 (66 + k)) = true := by decide +kernel
theorem ck_72 : (List.range 6).all (fun k => okZ1 (72 + k)) = true := by decide +kernel
theorem ck_78 : (List.range 6).all (fun k => okZ1 (78 + k)) = true := by decide +kernel
theorem ck_84 : (List.range 6).all (fun k => okZ1 (84 + k)) = true := by decide +kernel
theorem ck_90 : (List.range 6).all (fun k => okZ1 (90 + k)) = true := by decide +kernel
theorem ck_96 : (List.range 6).all (fun k => okZ1 (96 + k)) = true := by decide +kernel
theorem ck_102 : (List.range 6).all (fun k => okZ1 (102 + k)) = true := by decide +kernel
theorem ck_108 : (List.range 6).all (fun k => okZ1 (108 + k)) = true := by decide +kernel
theorem ck_114 : (List.range 6).all (fun k => okZ1 (114 + k)) = true := by decide +kernel
theorem ck_120 : (List.range 6).all (fun k => okZ1 (120 + k)) = true := by decide +kernel
theorem ck_126 : (List.range 6).all (fun k => okZ1 (126 + k)) = true := by decide +kernel
theorem ck_132 : (List.range 6).all (fun k => okZ1 (132 + k)) = true := by decide +kernel
theorem ck_138 : (List.range 6).all (fun k => okZ1 (138 + k)) = true := by decide +kernel
theorem ck_144 : (List.range 6).all (fun k => okZ1 (144 + k)) = true := by decide +kernel
theorem ck_150 : (List.range 6).all (fun k => okZ1 (150 + k)) = true := by decide +kernel
theorem ck_156 : (List.range 6).all (fun k => okZ1 (156 + k)) = true := by decide +kernel
theorem ck_162 : (List.range 6).all (fun k => okZ1 (162 + k)) = true := by decide +kernel
theorem ck_168 : (List.range 6).all (fun k => okZ1 (168 + k)) = true := by decide +kernel
theorem ck_174 : (List.range 6).all (fun k => okZ1 (174 + k)) = true := by decide +kernel
theorem ck_180 : (List.range 6).all (fun k => okZ1 (180 + k)) = true := by decide +kernel
theorem ck_all : ∀ z, z + 1 < nZ → okZ1 z = true := by
  intro z h
  have h2 : z < 186 := by unfold nZ at h; omega
  have key : ∀ (a n : Nat), (List.range n).all (fun k => okZ1 (a + k)) = true → a ≤ z → z < a + n → okZ1 z = true := by
    intro a n h1 h3 h4
    have := List.all_eq_true.mp h1 (z - a) (List.mem_range.mpr (by omega))
    rwa [show a + (z - a) = z by omega] at this
  by_cases c0 : z < 6
  · exact key 0 6 ck_0 (by omega) (by omega)
  by_cases c6 : z < 12
  · exact key 6 6 ck_6 (by omega) (by omega)
  by_cases c12 : z < 18
  · exact key 12 6 ck_12 (by omega) (by omega)
  by_cases c18 : z < 24
  · exact key 18 6 ck_18 (by omega) (by omega)
  by_cases c24 : z < 30
  · exact key 24 6 ck_24 (by omega) (by omega)
  by_cases c30 : z < 36
  · exact key 30 6 ck_30 (by omega) (by omega)
  by_cases c36 : z < 42
  · exact key 36 6 ck_36 (by omega) (by omega)
  by_cases c42 : z < 48
  · exact key 42 6 ck_42 (by omega) (by omega)
  by_cases c48 : z < 54
  · exact key 48 6 ck_48 (by omega) (by omega)
  by_cases c54 : z < 60
  · exact key 54 6 ck_54 (by omega) (by omega)
  by_cases c60 : z < 66
  · exact key 60 6 ck_60 (by omega) (by omega)
  by_cases c66 : z < 72
  · exact key 66 6 ck_66 (by omega) (by omega)
  by_cases c72 : z < 78
  · exact key 72 6 ck_72 (by omega) (by omega)
  by_cases c78 : z < 84
  · exact key 78 6 ck_78 (by omega) (by omega)
  by_cases c84 : z < 90
  · exact key 84 6 ck_84 (by omega) (by omega)
  by_cases c90 : z < 96
  · exact key 90 6 ck_90 (by omega) (by omega)
  by_cases c96 : z < 102
  · exact key 96 6 ck_96 (by omega) (by omega)
  by_cases c102 : z < 108
  · exact key 102 6 ck_102 (by omega) (by omega)
  by_cases c108 : z < 114
  · exact key 108 6 ck_108 (by omega) (by omega)
  by_cases c114 : z < 120
  · exact key 114 6 ck_114 (by omega) (by omega)
  by_cases c120 : z < 126
  · exact key 120 6 ck_120 (by omega) (by omega)
  by_cases c126 : z < 132
  · exact key 126 6 ck_126 (by omega) (by omega)
  by_cases c132 : z < 138
  · exact key 132 6 ck_132 (by omega) (by omega)
  by_cases c138 : z < 144
  · exact key 138 6 ck_138 (by omega) (by omega)
  by_cases c144 : z < 150
  · exact key 144 6 ck_144 (by omega) (by omega)
  by_cases c150 : z < 156
  · exact key 150 6 ck_150 (by omega) (by omega)
  by_cases c156 : z < 162
  · exact key 156 6 ck_156 (by omega) (by omega)
  by_cases c162 : z < 168
  · exact key 162 6 ck_162 (by omega) (by omega)
  by_cases c168 : z < 174
  · exact key 168 6 ck_168 (by omega) (by omega)
  by_cases c174 : z < 180
  · exact key 174 6 ck_174 (by omega) (by omega)
  exact key 180 6 ck_180 (by omega) (by omega)
