/-! ===== Valley: reads ===== -/
theorem sp_isIn {d : Nat} {μ : Zm} {a b : Int32} : zC true (d + 1) mX5_isIn [.int a, .int b] μ = some (some (.int (zbt (zbit a b))), μ) := by
  unfold zbit
  by_cases h : (a >>> (b &&& 31)) &&& nI 1 = nI 1
  · simp only [nX5_isIn, eX5_isIn_0, eX5_isIn_1, eX5_isIn_2, eX5_isIn_3, eX5_isIn_4, eX5_isIn_5, eX5_isIn_6, eX5_isIn_9, eX5_isIn_10, eX5_isIn_13, eX5_isIn_14, h, zpush_s, zpush_n, Option.bind_some, Option.bind_none, ite_true, ite_false, if_true, if_false, reduceIte, nI_add, pk_mul, ob0, ob2, ob4, ob22, ob25, ob63, zok1, not_true, decide_true, zbt_t]
  · simp only [nX5_isIn, eX5_isIn_0, eX5_isIn_1, eX5_isIn_2, eX5_isIn_3, eX5_isIn_4, eX5_isIn_5, eX5_isIn_6, eX5_isIn_9, eX5_isIn_10, eX5_isIn_13, eX5_isIn_14, h, zpush_s, zpush_n, Option.bind_some, Option.bind_none, ite_true, ite_false, if_true, if_false, reduceIte, nI_add, pk_mul, ob0, ob2, ob4, ob22, ob25, ob63, zok0, not_false_eq_true, decide_false, zbt_f]
theorem sp_isGone {d : Nat} {μ : Zm} {v w : Nat} (hv : zV v) (hw : w < 7) : zC true (d + 1) mX5_isGone [.ref v, .int (nI w)] μ = some (some (.int (zbt (decide (μ (v + 2) w = nI 0)))), μ) := by
  by_cases h : μ (v + 2) w = nI 0
  · simp (disch := omega) only [nX5_isGone, eX5_isGone_0, eX5_isGone_1, eX5_isGone_4, eX5_isGone_5, eX5_isGone_6, eX5_isGone_9, eX5_isGone_10, eX5_isGone_13, eX5_isGone_14, obV hv, zrd_n (zshV hv).2.1, h, zpush_s, zpush_n, Option.bind_some, Option.bind_none, ite_true, ite_false, if_true, if_false, reduceIte, nI_add, pk_mul, ob0, ob2, ob4, ob22, ob25, ob63, zok1, not_true, decide_true, zbt_t]
  · simp (disch := omega) only [nX5_isGone, eX5_isGone_0, eX5_isGone_1, eX5_isGone_4, eX5_isGone_5, eX5_isGone_6, eX5_isGone_9, eX5_isGone_10, eX5_isGone_13, eX5_isGone_14, obV hv, zrd_n (zshV hv).2.1, h, zpush_s, zpush_n, Option.bind_some, Option.bind_none, ite_true, ite_false, if_true, if_false, reduceIte, nI_add, pk_mul, ob0, ob2, ob4, ob22, ob25, ob63, zok0, not_false_eq_true, decide_false, zbt_f]
