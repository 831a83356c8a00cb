/-! the class' text -/
theorem hall_17 {wS : List Value → Mm → Option Rs} (hw : WOK wS) : Hall TV wS 22 t_17 := by
  intro d c hc
  unfold t_17 at hc
  rcases List.mem_append.mp hc with hc | hc
  · rcases List.mem_cons.mp hc with rfl | hc
    · exact hd_tl hw d
    cases hc
  · exact Hall_up (hall_16 hw) 1 d c hc
theorem hall_19 {wS : List Value → Mm → Option Rs} (hw : WOK wS) : Hall TV wS 24 t_19 := h_up19 (h_up18 (hall_17 hw))
