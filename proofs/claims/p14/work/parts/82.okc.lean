theorem l32_1 {xs : List Int32} (h : xs.length = 1) : ∃ a0 : Int32, xs = [a0] := by
  match xs, h with
  | [a0], _ => exact ⟨a0, rfl⟩
theorem l32_2 {xs : List Int32} (h : xs.length = 2) : ∃ a0 a1 : Int32, xs = [a0, a1] := by
  match xs, h with
  | [a0, a1], _ => exact ⟨a0, a1, rfl⟩
theorem l32_3 {xs : List Int32} (h : xs.length = 3) : ∃ a0 a1 a2 : Int32, xs = [a0, a1, a2] := by
  match xs, h with
  | [a0, a1, a2], _ => exact ⟨a0, a1, a2, rfl⟩
theorem l32_4 {xs : List Int32} (h : xs.length = 4) : ∃ a0 a1 a2 a3 : Int32, xs = [a0, a1, a2, a3] := by
  match xs, h with
  | [a0, a1, a2, a3], _ => exact ⟨a0, a1, a2, a3, rfl⟩
section Ok2
variable {wS : List Value → Mm → Option Rs} (d : Nat)
theorem ok_X6_alter (hw : WOK wS) : OKm (semZ shP wS (d + 28)) 51 0 3 false (qx [8]) := by
  intro xs m hn hI hJ
  obtain ⟨a0, a1, a2, rfl⟩ := l32_3 hn
  have hr := r32 a1
  by_cases c0 : a1.toInt ≤ -1
  · exact OKv_of (hall_23 hw d c_211 (List.mem_of_getElem? (i := 47) rfl : c_211 ∈ t_23)) ⟨gv_rf 0, gv_tI a0, gv_i (by omega) (by omega), gv_tI a2, trivial⟩ hI hJ rho_nil (by decide) (by decide) (by decide +kernel)
  by_cases c1 : a1.toInt ≤ 0
  · exact OKv_of (hall_23 hw d c_226 (List.mem_of_getElem? (i := 29) rfl : c_226 ∈ t_23)) ⟨gv_rf 0, gv_tI a0, gv_ci (by omega), gv_tI a2, trivial⟩ hI hJ rho_nil (by decide) (by decide) (by decide +kernel)
  by_cases c2 : a1.toInt ≤ 1
  · exact OKv_of (hall_23 hw d c_227 (List.mem_of_getElem? (i := 30) rfl : c_227 ∈ t_23)) ⟨gv_rf 0, gv_tI a0, gv_ci (by omega), gv_tI a2, trivial⟩ hI hJ rho_nil (by decide) (by decide) (by decide +kernel)
  by_cases c3 : a1.toInt ≤ 2
  · exact OKv_of (hall_23 hw d c_228 (List.mem_of_getElem? (i := 31) rfl : c_228 ∈ t_23)) ⟨gv_rf 0, gv_tI a0, gv_ci (by omega), gv_tI a2, trivial⟩ hI hJ rho_nil (by decide) (by decide) (by decide +kernel)
  by_cases c4 : a1.toInt ≤ 3
  · exact OKv_of (hall_23 hw d c_229 (List.mem_of_getElem? (i := 32) rfl : c_229 ∈ t_23)) ⟨gv_rf 0, gv_tI a0, gv_ci (by omega), gv_tI a2, trivial⟩ hI hJ rho_nil (by decide) (by decide) (by decide +kernel)
  exact OKv_of (hall_23 hw d c_210 (List.mem_of_getElem? (i := 46) rfl : c_210 ∈ t_23)) ⟨gv_rf 0, gv_tI a0, gv_i (by omega) (by omega), gv_tI a2, trivial⟩ hI hJ rho_nil (by decide) (by decide) (by decide +kernel)
theorem ok_X6_lay (hw : WOK wS) : OKm (semZ shP wS (d + 28)) 95 0 3 false (qx [4]) := by
  intro xs m hn hI hJ
  obtain ⟨a0, a1, a2, rfl⟩ := l32_3 hn
  have hr := r32 a1
  by_cases c0 : a1.toInt ≤ -1
  · exact OKv_of (hall_23 hw d c_213 (List.mem_of_getElem? (i := 49) rfl : c_213 ∈ t_23)) ⟨gv_rf 0, gv_tI a0, gv_i (by omega) (by omega), gv_tI a2, trivial⟩ hI hJ rho_nil (by decide) (by decide) (by decide +kernel)
  by_cases c1 : a1.toInt ≤ 39
  · exact OKv_of (hall_23 hw d c_230 (List.mem_of_getElem? (i := 33) rfl : c_230 ∈ t_23)) ⟨gv_rf 0, gv_tI a0, gv_i (by omega) (by omega), gv_tI a2, trivial⟩ hI hJ rho_nil (by decide) (by decide) (by decide +kernel)
  exact OKv_of (hall_23 hw d c_212 (List.mem_of_getElem? (i := 48) rfl : c_212 ∈ t_23)) ⟨gv_rf 0, gv_tI a0, gv_i (by omega) (by omega), gv_tI a2, trivial⟩ hI hJ rho_nil (by decide) (by decide) (by decide +kernel)
theorem ok_X6_order (hw : WOK wS) : OKm (semZ shP wS (d + 28)) 69 0 2 false (qx []) := by
  intro xs m hn hI hJ
  obtain ⟨a0, a1, rfl⟩ := l32_2 hn
  have hr := r32 a1
  have hv := hI 1 0
  rw [show ivO TV 1 0 = (0, 4) from by decide +kernel] at hv
  have hv1 : 0 ≤ (m.1 1 0).toInt := hv.1
  have hv2 : (m.1 1 0).toInt ≤ 4 := hv.2
  by_cases c0 : a1.toInt ≤ -2147483639
  · exact OKv_of (hall_23 hw d c_37 (List.mem_of_getElem? (i := 223) rfl : c_37 ∈ t_23)) ⟨gv_rf 0, gv_tI a0, gv_i (by omega) (by omega), trivial⟩ hI hJ rho_nil (by decide) (by decide) (by decide +kernel)
  by_cases c1 : a1.toInt ≤ -1
  · exact OKv_of (hall_23 hw d c_39 (List.mem_of_getElem? (i := 225) rfl : c_39 ∈ t_23)) ⟨gv_rf 0, gv_tI a0, gv_i (by omega) (by omega), trivial⟩ hI hJ rho_nil (by decide) (by decide) (by decide +kernel)
  by_cases c2 : a1.toInt ≤ 0
  · by_cases e0 : (m.1 1 0).toInt ≤ 0
    · exact OKv_of (hall_23 hw d c_171 (List.mem_of_getElem? (i := 83) rfl : c_171 ∈ t_23)) ⟨gv_rf 0, gv_tI a0, gv_ci (by omega), trivial⟩ hI hJ (rho_one (by rw [cel_of m 200 1 0 rfl rfl]; omega) (by rw [cel_of m 200 1 0 rfl rfl]; omega)) (by decide) (by decide) (by decide +kernel)
    by_cases e1 : (m.1 1 0).toInt ≤ 1
    · exact OKv_of (hall_23 hw d c_172 (List.mem_of_getElem? (i := 84) rfl : c_172 ∈ t_23)) ⟨gv_rf 0, gv_tI a0, gv_ci (by omega), trivial⟩ hI hJ (rho_one (by rw [cel_of m 200 1 0 rfl rfl]; omega) (by rw [cel_of m 200 1 0 rfl rfl]; omega)) (by decide) (by decide) (by decide +kernel)
    by_cases e2 : (m.1 1 0).toInt ≤ 2
    · exact OKv_of (hall_23 hw d c_173 (List.mem_of_getElem? (i := 85) rfl : c_173 ∈ t_23)) ⟨gv_rf 0, gv_tI a0, gv_ci (by omega), trivial⟩ hI hJ (rho_one (by rw [cel_of m 200 1 0 rfl rfl]; omega) (by rw [cel_of m 200 1 0 rfl rfl]; omega)) (by decide) (by decide) (by decide +kernel)
    by_cases e3 : (m.1 1 0).toInt ≤ 3
    · exact OKv_of (hall_23 hw d c_174 (List.mem_of_getElem? (i := 86) rfl : c_174 ∈ t_23)) ⟨gv_rf 0, gv_tI a0, gv_ci (by omega), trivial⟩ hI hJ (rho_one (by rw [cel_of m 200 1 0 rfl rfl]; omega) (by rw [cel_of m 200 1 0 rfl rfl]; omega)) (by decide) (by decide) (by decide +kernel)
    exact OKv_of (hall_23 hw d c_175 (List.mem_of_getElem? (i := 87) rfl : c_175 ∈ t_23)) ⟨gv_rf 0, gv_tI a0, gv_ci (by omega), trivial⟩ hI hJ (rho_one (by rw [cel_of m 200 1 0 rfl rfl]; omega) (by rw [cel_of m 200 1 0 rfl rfl]; omega)) (by decide) (by decide) (by decide +kernel)
  by_cases c3 : a1.toInt ≤ 9
  · exact OKv_of (hall_23 hw d c_36 (List.mem_of_getElem? (i := 222) rfl : c_36 ∈ t_23)) ⟨gv_rf 0, gv_tI a0, gv_i (by omega) (by omega), trivial⟩ hI hJ rho_nil (by decide) (by decide) (by decide +kernel)
  by_cases c4 : a1.toInt ≤ 13
  · by_cases e0 : (m.1 1 0).toInt ≤ 0
    · exact OKv_of (hall_23 hw d c_35 (List.mem_of_getElem? (i := 221) rfl : c_35 ∈ t_23)) ⟨gv_rf 0, gv_tI a0, gv_i (by omega) (by omega), trivial⟩ hI hJ (rho_one (by rw [cel_of m 200 1 0 rfl rfl]; omega) (by rw [cel_of m 200 1 0 rfl rfl]; omega)) (by decide) (by decide) (by decide +kernel)
    by_cases e1 : (m.1 1 0).toInt ≤ 1
    · exact OKv_of (hall_23 hw d c_176 (List.mem_of_getElem? (i := 88) rfl : c_176 ∈ t_23)) ⟨gv_rf 0, gv_tI a0, gv_i (by omega) (by omega), trivial⟩ hI hJ (rho_one (by rw [cel_of m 200 1 0 rfl rfl]; omega) (by rw [cel_of m 200 1 0 rfl rfl]; omega)) (by decide) (by decide) (by decide +kernel)
    by_cases e2 : (m.1 1 0).toInt ≤ 2
    · exact OKv_of (hall_23 hw d c_177 (List.mem_of_getElem? (i := 89) rfl : c_177 ∈ t_23)) ⟨gv_rf 0, gv_tI a0, gv_i (by omega) (by omega), trivial⟩ hI hJ (rho_one (by rw [cel_of m 200 1 0 rfl rfl]; omega) (by rw [cel_of m 200 1 0 rfl rfl]; omega)) (by decide) (by decide) (by decide +kernel)
    by_cases e3 : (m.1 1 0).toInt ≤ 3
    · exact OKv_of (hall_23 hw d c_178 (List.mem_of_getElem? (i := 90) rfl : c_178 ∈ t_23)) ⟨gv_rf 0, gv_tI a0, gv_i (by omega) (by omega), trivial⟩ hI hJ (rho_one (by rw [cel_of m 200 1 0 rfl rfl]; omega) (by rw [cel_of m 200 1 0 rfl rfl]; omega)) (by decide) (by decide) (by decide +kernel)
    exact OKv_of (hall_23 hw d c_179 (List.mem_of_getElem? (i := 91) rfl : c_179 ∈ t_23)) ⟨gv_rf 0, gv_tI a0, gv_i (by omega) (by omega), trivial⟩ hI hJ (rho_one (by rw [cel_of m 200 1 0 rfl rfl]; omega) (by rw [cel_of m 200 1 0 rfl rfl]; omega)) (by decide) (by decide) (by decide +kernel)
  exact OKv_of (hall_23 hw d c_38 (List.mem_of_getElem? (i := 224) rfl : c_38 ∈ t_23)) ⟨gv_rf 0, gv_tI a0, gv_i (by omega) (by omega), trivial⟩ hI hJ rho_nil (by decide) (by decide) (by decide +kernel)
theorem ok_X6_keep (hw : WOK wS) : OKm (semZ shP wS (d + 28)) 92 0 1 false (qx [12]) := by
  intro xs m hn hI hJ
  obtain ⟨a0, rfl⟩ := l32_1 hn
  have hr := r32 a0
  by_cases c0 : a0.toInt ≤ -1
  · exact OKv_of (hall_23 hw d c_47 (List.mem_of_getElem? (i := 233) rfl : c_47 ∈ t_23)) ⟨gv_rf 0, gv_i (by omega) (by omega), trivial⟩ hI hJ rho_nil (by decide) (by decide) (by decide +kernel)
  by_cases c1 : a0.toInt ≤ 0
  · exact OKv_of (hall_23 hw d c_108 (List.mem_of_getElem? (i := 170) rfl : c_108 ∈ t_23)) ⟨gv_rf 0, gv_ci (by omega), trivial⟩ hI hJ rho_nil (by decide) (by decide) (by decide +kernel)
  by_cases c2 : a0.toInt ≤ 1
  · exact OKv_of (hall_23 hw d c_109 (List.mem_of_getElem? (i := 171) rfl : c_109 ∈ t_23)) ⟨gv_rf 0, gv_ci (by omega), trivial⟩ hI hJ rho_nil (by decide) (by decide) (by decide +kernel)
  exact OKv_of (hall_23 hw d c_46 (List.mem_of_getElem? (i := 232) rfl : c_46 ∈ t_23)) ⟨gv_rf 0, gv_i (by omega) (by omega), trivial⟩ hI hJ rho_nil (by decide) (by decide) (by decide +kernel)
theorem ok_X6_back (hw : WOK wS) : OKm (semZ shP wS (d + 28)) 93 0 1 false (qx [8, 10]) := by
  intro xs m hn hI hJ
  obtain ⟨a0, rfl⟩ := l32_1 hn
  have hr := r32 a0
  by_cases c0 : a0.toInt ≤ -1
  · exact OKv_of (hall_23 hw d c_49 (List.mem_of_getElem? (i := 235) rfl : c_49 ∈ t_23)) ⟨gv_rf 0, gv_i (by omega) (by omega), trivial⟩ hI hJ rho_nil (by decide) (by decide) (by decide +kernel)
  by_cases c1 : a0.toInt ≤ 0
  · exact OKv_of (hall_23 hw d c_110 (List.mem_of_getElem? (i := 172) rfl : c_110 ∈ t_23)) ⟨gv_rf 0, gv_ci (by omega), trivial⟩ hI hJ rho_nil (by decide) (by decide) (by decide +kernel)
  by_cases c2 : a0.toInt ≤ 1
  · exact OKv_of (hall_23 hw d c_111 (List.mem_of_getElem? (i := 173) rfl : c_111 ∈ t_23)) ⟨gv_rf 0, gv_ci (by omega), trivial⟩ hI hJ rho_nil (by decide) (by decide) (by decide +kernel)
  exact OKv_of (hall_23 hw d c_48 (List.mem_of_getElem? (i := 234) rfl : c_48 ∈ t_23)) ⟨gv_rf 0, gv_i (by omega) (by omega), trivial⟩ hI hJ rho_nil (by decide) (by decide) (by decide +kernel)
theorem ok_X7_set (hw : WOK wS) : OKm (semZ shP wS (d + 28)) 146 68 2 false (qx [9]) := by
  intro xs m hn hI hJ
  obtain ⟨a0, a1, rfl⟩ := l32_2 hn
  have hr := r32 a0
  by_cases c0 : a0.toInt ≤ 1
  · exact OKv_of (hall_23 hw d c_225 (List.mem_of_getElem? (i := 61) rfl : c_225 ∈ t_23)) ⟨gv_rf 68, gv_i (by omega) (by omega), gv_tI a1, trivial⟩ hI hJ rho_nil (by decide) (by decide) (by decide +kernel)
  by_cases c1 : a0.toInt ≤ 2
  · exact OKv_of (hall_23 hw d c_233 (List.mem_of_getElem? (i := 36) rfl : c_233 ∈ t_23)) ⟨gv_rf 68, gv_ci (by omega), gv_tI a1, trivial⟩ hI hJ rho_nil (by decide) (by decide) (by decide +kernel)
  by_cases c2 : a0.toInt ≤ 3
  · exact OKv_of (hall_23 hw d c_234 (List.mem_of_getElem? (i := 37) rfl : c_234 ∈ t_23)) ⟨gv_rf 68, gv_ci (by omega), gv_tI a1, trivial⟩ hI hJ rho_nil (by decide) (by decide) (by decide +kernel)
  by_cases c3 : a0.toInt ≤ 4
  · exact OKv_of (hall_23 hw d c_235 (List.mem_of_getElem? (i := 38) rfl : c_235 ∈ t_23)) ⟨gv_rf 68, gv_ci (by omega), gv_tI a1, trivial⟩ hI hJ rho_nil (by decide) (by decide) (by decide +kernel)
  exact OKv_of (hall_23 hw d c_224 (List.mem_of_getElem? (i := 60) rfl : c_224 ∈ t_23)) ⟨gv_rf 68, gv_i (by omega) (by omega), gv_tI a1, trivial⟩ hI hJ rho_nil (by decide) (by decide) (by decide +kernel)
theorem ok_X7_order (hw : WOK wS) : OKm (semZ shP wS (d + 28)) 162 68 2 false (qx []) := by
  intro xs m hn hI hJ
  obtain ⟨a0, a1, rfl⟩ := l32_2 hn
  have hr := r32 a1
  have hv := hI 68 3
  rw [show ivO TV 68 3 = (0, 4) from by decide +kernel] at hv
  have hv1 : 0 ≤ (m.1 68 3).toInt := hv.1
  have hv2 : (m.1 68 3).toInt ≤ 4 := hv.2
  by_cases c0 : a1.toInt ≤ -2147483639
  · by_cases e0 : (m.1 68 3).toInt ≤ 0
    · exact OKv_of (hall_23 hw d c_76 (List.mem_of_getElem? (i := 262) rfl : c_76 ∈ t_23)) ⟨gv_rf 68, gv_tI a0, gv_i (by omega) (by omega), trivial⟩ hI hJ (rho_one (by rw [cel_of m 13603 68 3 rfl rfl]; omega) (by rw [cel_of m 13603 68 3 rfl rfl]; omega)) (by decide) (by decide) (by decide +kernel)
    exact OKv_of (hall_23 hw d c_75 (List.mem_of_getElem? (i := 261) rfl : c_75 ∈ t_23)) ⟨gv_rf 68, gv_tI a0, gv_i (by omega) (by omega), trivial⟩ hI hJ (rho_one (by rw [cel_of m 13603 68 3 rfl rfl]; omega) (by rw [cel_of m 13603 68 3 rfl rfl]; omega)) (by decide) (by decide) (by decide +kernel)
  by_cases c1 : a1.toInt ≤ -1
  · by_cases e0 : (m.1 68 3).toInt ≤ 0
    · exact OKv_of (hall_23 hw d c_80 (List.mem_of_getElem? (i := 266) rfl : c_80 ∈ t_23)) ⟨gv_rf 68, gv_tI a0, gv_i (by omega) (by omega), trivial⟩ hI hJ (rho_one (by rw [cel_of m 13603 68 3 rfl rfl]; omega) (by rw [cel_of m 13603 68 3 rfl rfl]; omega)) (by decide) (by decide) (by decide +kernel)
    exact OKv_of (hall_23 hw d c_79 (List.mem_of_getElem? (i := 265) rfl : c_79 ∈ t_23)) ⟨gv_rf 68, gv_tI a0, gv_i (by omega) (by omega), trivial⟩ hI hJ (rho_one (by rw [cel_of m 13603 68 3 rfl rfl]; omega) (by rw [cel_of m 13603 68 3 rfl rfl]; omega)) (by decide) (by decide) (by decide +kernel)
  by_cases c2 : a1.toInt ≤ 0
  · by_cases e0 : (m.1 68 3).toInt ≤ 0
    · exact OKv_of (hall_23 hw d c_191 (List.mem_of_getElem? (i := 103) rfl : c_191 ∈ t_23)) ⟨gv_rf 68, gv_tI a0, gv_ci (by omega), trivial⟩ hI hJ (rho_one (by rw [cel_of m 13603 68 3 rfl rfl]; omega) (by rw [cel_of m 13603 68 3 rfl rfl]; omega)) (by decide) (by decide) (by decide +kernel)
    exact OKv_of (hall_23 hw d c_190 (List.mem_of_getElem? (i := 102) rfl : c_190 ∈ t_23)) ⟨gv_rf 68, gv_tI a0, gv_ci (by omega), trivial⟩ hI hJ (rho_one (by rw [cel_of m 13603 68 3 rfl rfl]; omega) (by rw [cel_of m 13603 68 3 rfl rfl]; omega)) (by decide) (by decide) (by decide +kernel)
  by_cases c3 : a1.toInt ≤ 9
  · by_cases e0 : (m.1 68 3).toInt ≤ 0
    · exact OKv_of (hall_23 hw d c_74 (List.mem_of_getElem? (i := 260) rfl : c_74 ∈ t_23)) ⟨gv_rf 68, gv_tI a0, gv_i (by omega) (by omega), trivial⟩ hI hJ (rho_one (by rw [cel_of m 13603 68 3 rfl rfl]; omega) (by rw [cel_of m 13603 68 3 rfl rfl]; omega)) (by decide) (by decide) (by decide +kernel)
    exact OKv_of (hall_23 hw d c_73 (List.mem_of_getElem? (i := 259) rfl : c_73 ∈ t_23)) ⟨gv_rf 68, gv_tI a0, gv_i (by omega) (by omega), trivial⟩ hI hJ (rho_one (by rw [cel_of m 13603 68 3 rfl rfl]; omega) (by rw [cel_of m 13603 68 3 rfl rfl]; omega)) (by decide) (by decide) (by decide +kernel)
  by_cases c4 : a1.toInt ≤ 13
  · by_cases e0 : (m.1 68 3).toInt ≤ 0
    · exact OKv_of (hall_23 hw d c_193 (List.mem_of_getElem? (i := 105) rfl : c_193 ∈ t_23)) ⟨gv_rf 68, gv_tI a0, gv_i (by omega) (by omega), trivial⟩ hI hJ (rho_one (by rw [cel_of m 13603 68 3 rfl rfl]; omega) (by rw [cel_of m 13603 68 3 rfl rfl]; omega)) (by decide) (by decide) (by decide +kernel)
    exact OKv_of (hall_23 hw d c_192 (List.mem_of_getElem? (i := 104) rfl : c_192 ∈ t_23)) ⟨gv_rf 68, gv_tI a0, gv_i (by omega) (by omega), trivial⟩ hI hJ (rho_one (by rw [cel_of m 13603 68 3 rfl rfl]; omega) (by rw [cel_of m 13603 68 3 rfl rfl]; omega)) (by decide) (by decide) (by decide +kernel)
  by_cases e0 : (m.1 68 3).toInt ≤ 0
  · exact OKv_of (hall_23 hw d c_78 (List.mem_of_getElem? (i := 264) rfl : c_78 ∈ t_23)) ⟨gv_rf 68, gv_tI a0, gv_i (by omega) (by omega), trivial⟩ hI hJ (rho_one (by rw [cel_of m 13603 68 3 rfl rfl]; omega) (by rw [cel_of m 13603 68 3 rfl rfl]; omega)) (by decide) (by decide) (by decide +kernel)
  exact OKv_of (hall_23 hw d c_77 (List.mem_of_getElem? (i := 263) rfl : c_77 ∈ t_23)) ⟨gv_rf 68, gv_tI a0, gv_i (by omega) (by omega), trivial⟩ hI hJ (rho_one (by rw [cel_of m 13603 68 3 rfl rfl]; omega) (by rw [cel_of m 13603 68 3 rfl rfl]; omega)) (by decide) (by decide) (by decide +kernel)
theorem ok_X7_alter (hw : WOK wS) : OKm (semZ shP wS (d + 28)) 145 68 3 false (qx [9]) := by
  intro xs m hn hI hJ
  obtain ⟨a0, a1, a2, rfl⟩ := l32_3 hn
  have hr := r32 a1
  by_cases c0 : a1.toInt ≤ -1
  · exact OKv_of (hall_23 hw d c_223 (List.mem_of_getElem? (i := 59) rfl : c_223 ∈ t_23)) ⟨gv_rf 68, gv_tI a0, gv_i (by omega) (by omega), gv_tI a2, trivial⟩ hI hJ rho_nil (by decide) (by decide) (by decide +kernel)
  by_cases c1 : a1.toInt ≤ 0
  · exact OKv_of (hd_al0 wS (d + 11)) ⟨gv_rf 68, gv_tI a0, gv_ci (by omega), gv_tI a2, trivial⟩ hI hJ rho_nil (by decide) (by decide) (by decide +kernel)
  by_cases c2 : a1.toInt ≤ 1
  · exact OKv_of (hd_al1 wS (d + 11)) ⟨gv_rf 68, gv_tI a0, gv_ci (by omega), gv_tI a2, trivial⟩ hI hJ rho_nil (by decide) (by decide) (by decide +kernel)
  by_cases c3 : a1.toInt ≤ 2
  · exact OKv_of (hall_23 hw d c_231 (List.mem_of_getElem? (i := 34) rfl : c_231 ∈ t_23)) ⟨gv_rf 68, gv_tI a0, gv_ci (by omega), gv_tI a2, trivial⟩ hI hJ rho_nil (by decide) (by decide) (by decide +kernel)
  by_cases c4 : a1.toInt ≤ 3
  · exact OKv_of (hall_23 hw d c_232 (List.mem_of_getElem? (i := 35) rfl : c_232 ∈ t_23)) ⟨gv_rf 68, gv_tI a0, gv_ci (by omega), gv_tI a2, trivial⟩ hI hJ rho_nil (by decide) (by decide) (by decide +kernel)
  exact OKv_of (hall_23 hw d c_222 (List.mem_of_getElem? (i := 58) rfl : c_222 ∈ t_23)) ⟨gv_rf 68, gv_tI a0, gv_i (by omega) (by omega), gv_tI a2, trivial⟩ hI hJ rho_nil (by decide) (by decide) (by decide +kernel)
end Ok2
