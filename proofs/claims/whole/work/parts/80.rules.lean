/-! LAYER 2: rules agree (OPEN) -/
theorem ag_rules : jz_A F_X11_rules_0 F_X12_rules_82 := by
  sorry
