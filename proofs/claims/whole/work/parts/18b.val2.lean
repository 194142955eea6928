/-! ===== Valley: what is said ===== -/
theorem pfs_lt {a : Nat → Nat} {u so : Nat} (hf : WF a) : ∀ n, n ≤ a 4 → pfs a u so n < 2 ^ a 2
  | 0, _ => Nat.two_pow_pos _
  | n + 1, h => by
    have ih := pfs_lt (u := u) (so := so) hf n (by omega)
    have hb := (hf.2.2.2.2.2 n (by omega)).2.2.1
    rw [pfs]
    split
    · exact Nat.or_lt_two_pow ih (Nat.pow_lt_pow_right (by omega) hb)
    · exact ih
theorem pw64 {a : Nat → Nat} (hf : WF a) : 2 ^ a 2 ≤ 64 := Nat.pow_le_pow_right (n := 2) (by omega) hf.2.1
theorem sp_factsSaid {d : Nat} {μ : Zm} {v u so : Nat} {a : Nat → Nat} (hv : zV v) (hc : CV μ v a) (hf : WF a) (hu : u < 128) (hso : so < 2) : zC true (d + 4) mX5_factsSaid [.ref v, .int (nI so), .int (nI u)] μ = some (some (.int (nI (pfs a u so (a 4)))), μ) := by
  have hS := hc.2.2.2.1
  have h4 := hf.2.2.2.1
  have h2 := hf.2.1
  have hl := zloop (fun i => zA (d + 3) mX5_factsSaid 5 [.ref v, .int (nI so), .int (nI u), .int (nI (pfs a u so i)), .int (nI i)] [] μ) (a 4) (fun i hi => by
    have ⟨_, _, l3, l4⟩ := hc.2.2.2.2.2 i hi
    have ⟨_, _, b3, b4⟩ := hf.2.2.2.2.2 i hi
    rw [eX5_factsSaid_5]
    by_cases hq : a (15 + 4 * i) = so <;> cases hp : pbd a u i <;>
    simp (disch := omega) only [eX5_factsSaid_0, eX5_factsSaid_1, eX5_factsSaid_2, eX5_factsSaid_3, eX5_factsSaid_7, eX5_factsSaid_8, eX5_factsSaid_11, eX5_factsSaid_14, eX5_factsSaid_15, eX5_factsSaid_18, eX5_factsSaid_20, eX5_factsSaid_21, eX5_factsSaid_22, eX5_factsSaid_25, eX5_factsSaid_26, eX5_factsSaid_28, eX5_factsSaid_29, eX5_factsSaid_32, eX5_factsSaid_35, eX5_factsSaid_36, eX5_factsSaid_37, eX5_factsSaid_38, eX5_factsSaid_41, eX5_factsSaid_43, eX5_factsSaid_44, eX5_factsSaid_45, eX5_factsSaid_46, eX5_factsSaid_47, eX5_factsSaid_50, eX5_factsSaid_53, eX5_factsSaid_54, sp_isBound hv hc hf hi, obV hv, hS, hp, hq, l3, l4, zrd_n (zshV hv).2.2.2.2.2.1, zrd_n (zshV hv).2.2.2.2.2.2, not_true_eq_false, not_false_eq_true, zok1, zok0, Bool.false_eq_true, zpush_s, zpush_n, Option.bind_some, Option.bind_none, ite_true, ite_false, if_true, if_false, reduceIte, nI_add, pk_mul, ob0, ob2, ob3, ob22, ob25, ob63, Nat.reduceEqDiff, Nat.reduceAdd, Nat.reduceMul, Nat.reduceSub, iLeT, iLeF, iLtT, iLtF, iEqT, iEqF, iNeT, iNeF, iZT, iZF, nI_sub', zbt_t, zbt_f, pfs, nI_shl, nI_or, and_true, and_false, true_and, false_and])
  have hx : zA (d + 3) mX5_factsSaid 5 [.ref v, .int (nI so), .int (nI u), .int (nI (pfs a u so (a 4))), .int (nI (a 4))] [] μ = some (some (.int (nI (pfs a u so (a 4)))), μ) := by
    rw [eX5_factsSaid_5]
    simp (disch := omega) only [eX5_factsSaid_0, eX5_factsSaid_1, eX5_factsSaid_2, eX5_factsSaid_3, eX5_factsSaid_7, eX5_factsSaid_8, eX5_factsSaid_11, eX5_factsSaid_14, eX5_factsSaid_15, eX5_factsSaid_18, eX5_factsSaid_20, eX5_factsSaid_21, eX5_factsSaid_22, eX5_factsSaid_25, eX5_factsSaid_26, eX5_factsSaid_28, eX5_factsSaid_29, eX5_factsSaid_32, eX5_factsSaid_35, eX5_factsSaid_36, eX5_factsSaid_37, eX5_factsSaid_38, eX5_factsSaid_41, eX5_factsSaid_43, eX5_factsSaid_44, eX5_factsSaid_45, eX5_factsSaid_46, eX5_factsSaid_47, eX5_factsSaid_50, eX5_factsSaid_53, eX5_factsSaid_54, obV hv, hS, not_true_eq_false, not_false_eq_true, zok1, zok0, Bool.false_eq_true, zpush_s, zpush_n, Option.bind_some, Option.bind_none, ite_true, ite_false, if_true, if_false, reduceIte, nI_add, pk_mul, ob0, ob2, ob3, ob22, ob25, ob63, Nat.reduceEqDiff, Nat.reduceAdd, Nat.reduceMul, Nat.reduceSub, iLeT, iLeF, iLtT, iLtF, iEqT, iEqF, iNeT, iNeF, iZT, iZF, nI_sub']
  rw [nX5_factsSaid]
  simp only [eX5_factsSaid_0, eX5_factsSaid_1, eX5_factsSaid_2, eX5_factsSaid_3]
  exact hl.trans hx
theorem sp_linesOf {d : Nat} {μ : Zm} {v u : Nat} {a : Nat → Nat} (hv : zV v) (hc : CV μ v a) (hf : WF a) (hu : u < 128) : zC true (d + 2) mX5_linesOf [.ref v, .int (nI u)] μ = some (some (.int (nI (nsum (fun w => if u.testBit w then a (60 + w) else 0) (a 3)))), μ) := by
  have hW := hc.2.2.1
  have h3 := hf.2.2.1
  have hl := zloop (fun i => zA (d + 1) mX5_linesOf 4 [.ref v, .int (nI u), .int (nI (nsum (fun w => if u.testBit w then a (60 + w) else 0) i)), .int (nI i)] [] μ) (a 3) (fun i hi => by
    have l2 := (hc.2.2.2.2.1 i hi).2.1
    rw [eX5_linesOf_4]
    cases hp : u.testBit i <;>
    simp (disch := omega) only [eX5_linesOf_0, eX5_linesOf_1, eX5_linesOf_2, eX5_linesOf_3, eX5_linesOf_5, eX5_linesOf_6, eX5_linesOf_9, eX5_linesOf_12, eX5_linesOf_13, eX5_linesOf_14, eX5_linesOf_17, eX5_linesOf_20, eX5_linesOf_21, eX5_linesOf_22, eX5_linesOf_25, eX5_linesOf_26, eX5_linesOf_27, eX5_linesOf_28, eX5_linesOf_29, eX5_linesOf_32, eX5_linesOf_35, eX5_linesOf_36, sp_isIn, obV hv, hW, hp, l2, zrd_n (zshV hv).2.1, not_true_eq_false, not_false_eq_true, zok1, zok0, Bool.false_eq_true, zpush_s, zpush_n, Option.bind_some, Option.bind_none, ite_true, ite_false, if_true, if_false, reduceIte, nI_add, pk_mul, ob0, ob2, ob3, ob22, ob25, ob63, Nat.reduceEqDiff, Nat.reduceAdd, Nat.reduceMul, Nat.reduceSub, iLeT, iLeF, iLtT, iLtF, iEqT, iEqF, iNeT, iNeF, iZT, iZF, nI_sub', zbt_t, zbt_f, nsum, Nat.add_zero])
  have hx : zA (d + 1) mX5_linesOf 4 [.ref v, .int (nI u), .int (nI (nsum (fun w => if u.testBit w then a (60 + w) else 0) (a 3))), .int (nI (a 3))] [] μ = some (some (.int (nI (nsum (fun w => if u.testBit w then a (60 + w) else 0) (a 3)))), μ) := by
    rw [eX5_linesOf_4]
    simp (disch := omega) only [eX5_linesOf_0, eX5_linesOf_1, eX5_linesOf_2, eX5_linesOf_3, eX5_linesOf_5, eX5_linesOf_6, eX5_linesOf_9, eX5_linesOf_12, eX5_linesOf_13, eX5_linesOf_14, eX5_linesOf_17, eX5_linesOf_20, eX5_linesOf_21, eX5_linesOf_22, eX5_linesOf_25, eX5_linesOf_26, eX5_linesOf_27, eX5_linesOf_28, eX5_linesOf_29, eX5_linesOf_32, eX5_linesOf_35, eX5_linesOf_36, obV hv, hW, not_true_eq_false, not_false_eq_true, zok1, zok0, Bool.false_eq_true, zpush_s, zpush_n, Option.bind_some, Option.bind_none, ite_true, ite_false, if_true, if_false, reduceIte, nI_add, pk_mul, ob0, ob2, ob3, ob22, ob25, ob63, Nat.reduceEqDiff, Nat.reduceAdd, Nat.reduceMul, Nat.reduceSub, iLeT, iLeF, iLtT, iLtF, iEqT, iEqF, iNeT, iNeF, iZT, iZF, nI_sub']
  rw [nX5_linesOf]
  simp only [eX5_linesOf_0, eX5_linesOf_1, eX5_linesOf_2, eX5_linesOf_3]
  exact hl.trans hx
theorem sp_warmth {d : Nat} {μ : Zm} {v w : Nat} {a : Nat → Nat} (hv : zV v) (hc : CV μ v a) (hf : WF a) (hw : w < a 3) : zC true (d + 2) mX5_warmth [.ref v, .int (nI w)] μ = some (some (.int (nI (pwarm a w))), μ) := by
  have ⟨l1, l2, l3⟩ := hc.2.2.2.2.1 w hw
  have ⟨b1, b2, b3, b4⟩ := hf.2.2.2.2.1 w hw
  have h3 := hf.2.2.1
  unfold pwarm
  by_cases h0 : a (60 + w) = 0
  · simp (disch := omega) only [nX5_warmth, eX5_warmth_0, eX5_warmth_1, eX5_warmth_2, eX5_warmth_5, eX5_warmth_8, eX5_warmth_9, eX5_warmth_10, eX5_warmth_11, eX5_warmth_14, eX5_warmth_15, eX5_warmth_16, eX5_warmth_48, eX5_warmth_49, eX5_warmth_52, eX5_warmth_53, eX5_warmth_54, eX5_warmth_55, eX5_warmth_56, eX5_warmth_57, eX5_warmth_58, eX5_warmth_61, eX5_warmth_62, eX5_warmth_63, eX5_warmth_64, eX5_warmth_65, eX5_warmth_66, eX5_warmth_67, eX5_warmth_68, eX5_warmth_69, eX5_warmth_72, eX5_warmth_73, eX5_warmth_74, sp_isGone hv hc hf hw, obV hv, zrd_n (zshV hv).1, zrd_n (zshV hv).2.1, l1, l2, h0, not_true_eq_false, not_false_eq_true, zok1, zok0, Bool.false_eq_true, zpush_s, zpush_n, Option.bind_some, Option.bind_none, ite_true, ite_false, if_true, if_false, reduceIte, nI_add, pk_mul, ob0, ob2, ob3, ob22, ob25, ob63, Nat.reduceEqDiff, Nat.reduceAdd, Nat.reduceMul, Nat.reduceSub, iLeT, iLeF, iLtT, iLtF, iEqT, iEqF, iNeT, iNeF, iZT, iZF, nI_sub', zbt_t, decide_true, true_or]
  · rcases (show a (5 + w) = 1 ∨ a (5 + w) = 2 ∨ a (5 + w) = 3 ∨ a (5 + w) = 4 ∨ a (5 + w) = 5 by omega) with h5 | h5 | h5 | h5 | h5 <;>
    simp (disch := omega) only [nX5_warmth, eX5_warmth_0, eX5_warmth_1, eX5_warmth_2, eX5_warmth_5, eX5_warmth_8, eX5_warmth_9, eX5_warmth_10, eX5_warmth_11, eX5_warmth_14, eX5_warmth_15, eX5_warmth_16, eX5_warmth_48, eX5_warmth_49, eX5_warmth_52, eX5_warmth_53, eX5_warmth_54, eX5_warmth_55, eX5_warmth_56, eX5_warmth_57, eX5_warmth_58, eX5_warmth_61, eX5_warmth_62, eX5_warmth_63, eX5_warmth_64, eX5_warmth_65, eX5_warmth_66, eX5_warmth_67, eX5_warmth_68, eX5_warmth_69, eX5_warmth_72, eX5_warmth_73, eX5_warmth_74, sp_isGone hv hc hf hw, obV hv, zrd_n (zshV hv).1, zrd_n (zshV hv).2.1, l1, l2, h0, h5, not_true_eq_false, not_false_eq_true, zok1, zok0, Bool.false_eq_true, zpush_s, zpush_n, Option.bind_some, Option.bind_none, ite_true, ite_false, if_true, if_false, reduceIte, nI_add, pk_mul, ob0, ob2, ob3, ob22, ob25, ob63, Nat.reduceEqDiff, Nat.reduceAdd, Nat.reduceMul, Nat.reduceSub, iLeT, iLeF, iLtT, iLtF, iEqT, iEqF, iNeT, iNeF, iZT, iZF, nI_sub', zbt_f, decide_false, false_or, nI_div]
