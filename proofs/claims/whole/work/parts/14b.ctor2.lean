set_option maxRecDepth 100000 in
theorem zm2_ok : ((List.range 74).all fun c => (List.range (zsh c).2).all fun i => decide (zm2 c i = zmE c i)) = true := by decide +kernel
theorem zm2_at {c i : Nat} (hc : c < 74) (hi : i < (zsh c).2) : zm2 c i = zmE c i := by
  have h := List.all_eq_true.mp zm2_ok c (List.mem_range.mpr hc)
  exact of_decide_eq_true (List.all_eq_true.mp h i (List.mem_range.mpr hi))
theorem zm2_scr : zm2 2100 0 = nI 4000 := by decide +kernel
