/-! ===== the abstract valley ===== -/
def WF (a : Nat → Nat) : Prop := a 1 ≤ 5 ∧ a 2 ≤ 6 ∧ a 3 ≤ 7 ∧ a 4 ≤ 12 ∧ (∀ w, w < a 3 → 1 ≤ a (5 + w) ∧ a (5 + w) ≤ 5 ∧ a (60 + w) ≤ 99 ∧ a (67 + w) < 32) ∧ (∀ s, s < a 4 → a (12 + 4 * s) < a 1 ∧ (a (13 + 4 * s) = 99 ∨ a (13 + 4 * s) < a 3) ∧ a (14 + 4 * s) < a 2 ∧ a (15 + 4 * s) ≤ 1)
def CV (μ : Zm) (v : Nat) (a : Nat → Nat) : Prop := μ v 0 = nI (a 1) ∧ μ v 1 = nI (a 2) ∧ μ v 2 = nI (a 3) ∧ μ v 6 = nI (a 4) ∧ (∀ w, w < a 3 → μ (v + 1) w = nI (a (5 + w)) ∧ μ (v + 2) w = nI (a (60 + w)) ∧ μ (v + 3) w = nI (a (67 + w))) ∧ (∀ s, s < a 4 → μ (v + 4) s = nI (a (12 + 4 * s)) ∧ μ (v + 5) s = (if a (13 + 4 * s) = 99 then -1 else nI (a (13 + 4 * s))) ∧ μ (v + 6) s = nI (a (14 + 4 * s)) ∧ μ (v + 7) s = nI (a (15 + 4 * s)))
/-- may K lie in W -/
def pml (a : Nat → Nat) (k w : Nat) : Bool := decide (a (60 + w) ≠ 0) && (decide (a (5 + w) = 5) || ((a (67 + w)).testBit k && !(decide (a (5 + w) = 4) && decide (a (60 + w) % 2 = 1))))
def pbd (a : Nat → Nat) (u s : Nat) : Bool := decide (a (13 + 4 * s) = 99) || u.testBit (a (13 + 4 * s)) || !pml a (a (12 + 4 * s)) (a (13 + 4 * s))
/-- the facts of which bound sayings below n say so -/
def pfs (a : Nat → Nat) (u so : Nat) : Nat → Nat
  | 0 => 0
  | n + 1 => if a (15 + 4 * n) = so ∧ pbd a u n = true then pfs a u so n ||| 2 ^ a (14 + 4 * n) else pfs a u so n
def pwarm (a : Nat → Nat) (w : Nat) : Nat := if a (60 + w) = 0 ∨ a (5 + w) = 5 then 0 else if a (5 + w) = 2 then a (60 + w) / 2 else if a (5 + w) = 3 then a (60 + w) + 2 else a (60 + w)
theorem sp_isIn {d : Nat} {μ : Zm} {m k : Nat} (hm : m < 2 ^ 31) (hk : k < 31) : zC true (d + 1) mX5_isIn [.int (nI m), .int (nI k)] μ = some (some (.int (zbt (m.testBit k))), μ) := by
  rw [← zbit_n hm hk]
  unfold zbit
  by_cases h : (nI m >>> (nI k &&& 31)) &&& nI 1 = nI 1
  · simp only [nX5_isIn, eX5_isIn_0, eX5_isIn_1, eX5_isIn_2, eX5_isIn_3, eX5_isIn_4, eX5_isIn_5, eX5_isIn_6, eX5_isIn_9, eX5_isIn_10, eX5_isIn_13, eX5_isIn_14, h, not_true_eq_false, not_false_eq_true, zok1, zok0, Bool.false_eq_true, zpush_s, zpush_n, Option.bind_some, Option.bind_none, ite_true, ite_false, if_true, if_false, reduceIte, nI_add, pk_mul, ob0, ob2, ob3, ob22, ob25, ob63, decide_true, zbt_t]
  · simp only [nX5_isIn, eX5_isIn_0, eX5_isIn_1, eX5_isIn_2, eX5_isIn_3, eX5_isIn_4, eX5_isIn_5, eX5_isIn_6, eX5_isIn_9, eX5_isIn_10, eX5_isIn_13, eX5_isIn_14, h, not_true_eq_false, not_false_eq_true, zok1, zok0, Bool.false_eq_true, zpush_s, zpush_n, Option.bind_some, Option.bind_none, ite_true, ite_false, if_true, if_false, reduceIte, nI_add, pk_mul, ob0, ob2, ob3, ob22, ob25, ob63, decide_false, zbt_f]
theorem sp_isGone {d : Nat} {μ : Zm} {v w : Nat} {a : Nat → Nat} (hv : zV v) (hc : CV μ v a) (hf : WF a) (hw : w < a 3) : zC true (d + 1) mX5_isGone [.ref v, .int (nI w)] μ = some (some (.int (zbt (decide (a (60 + w) = 0)))), μ) := by
  have hl := (hc.2.2.2.2.1 w hw).2.1
  have hb := (hf.2.2.2.2.1 w hw).2.2.1
  have h3 := hf.2.2.1
  by_cases h : a (60 + w) = 0
  · simp (disch := omega) only [nX5_isGone, eX5_isGone_0, eX5_isGone_1, eX5_isGone_4, eX5_isGone_5, eX5_isGone_6, eX5_isGone_9, eX5_isGone_10, eX5_isGone_13, eX5_isGone_14, obV hv, zrd_n (zshV hv).2.1, hl, h, not_true_eq_false, not_false_eq_true, zok1, zok0, Bool.false_eq_true, zpush_s, zpush_n, Option.bind_some, Option.bind_none, ite_true, ite_false, if_true, if_false, reduceIte, nI_add, pk_mul, ob0, ob2, ob3, ob22, ob25, ob63, Nat.reduceEqDiff, Nat.reduceAdd, Nat.reduceMul, Nat.reduceSub, iLeT, iLeF, iLtT, iLtF, iEqT, iEqF, iNeT, iNeF, iZT, iZF, nI_sub', decide_true, zbt_t]
  · simp (disch := omega) only [nX5_isGone, eX5_isGone_0, eX5_isGone_1, eX5_isGone_4, eX5_isGone_5, eX5_isGone_6, eX5_isGone_9, eX5_isGone_10, eX5_isGone_13, eX5_isGone_14, obV hv, zrd_n (zshV hv).2.1, hl, h, not_true_eq_false, not_false_eq_true, zok1, zok0, Bool.false_eq_true, zpush_s, zpush_n, Option.bind_some, Option.bind_none, ite_true, ite_false, if_true, if_false, reduceIte, nI_add, pk_mul, ob0, ob2, ob3, ob22, ob25, ob63, Nat.reduceEqDiff, Nat.reduceAdd, Nat.reduceMul, Nat.reduceSub, iLeT, iLeF, iLtT, iLtF, iEqT, iEqF, iNeT, iNeF, iZT, iZF, nI_sub', decide_false, zbt_f]
theorem sp_mayLieN {d : Nat} {μ : Zm} {v : Nat} {k u : Int32} : zC true (d + 2) mX5_mayLie [.ref v, .int k, .int (-1), .int u] μ = some (some (.int (nI 0)), μ) := by
  simp (disch := omega) only [nX5_mayLie, eX5_mayLie_0, eX5_mayLie_1, eX5_mayLie_2, eX5_mayLie_5, eX5_mayLie_6, eX5_mayLie_7, eX5_mayLie_10, eX5_mayLie_13, eX5_mayLie_14, eX5_mayLie_15, eX5_mayLie_18, eX5_mayLie_21, eX5_mayLie_22, eX5_mayLie_23, eX5_mayLie_24, eX5_mayLie_27, eX5_mayLie_28, eX5_mayLie_29, eX5_mayLie_30, eX5_mayLie_33, eX5_mayLie_34, eX5_mayLie_35, eX5_mayLie_36, eX5_mayLie_39, eX5_mayLie_40, eX5_mayLie_41, eX5_mayLie_42, eX5_mayLie_43, eX5_mayLie_44, eX5_mayLie_47, eX5_mayLie_48, eX5_mayLie_51, eX5_mayLie_52, eX5_mayLie_54, eX5_mayLie_55, eX5_mayLie_58, eX5_mayLie_59, eX5_mayLie_60, eX5_mayLie_61, eX5_mayLie_64, eX5_mayLie_67, eX5_mayLie_68, eX5_mayLie_71, eX5_mayLie_72, eX5_mayLie_73, eX5_mayLie_74, eX5_mayLie_77, eX5_mayLie_79, eX5_mayLie_82, eX5_mayLie_83, eX5_mayLie_86, eX5_mayLie_87, not_true_eq_false, not_false_eq_true, zok1, zok0, Bool.false_eq_true, zpush_s, zpush_n, Option.bind_some, Option.bind_none, ite_true, ite_false, if_true, if_false, reduceIte, nI_add, pk_mul, ob0, ob2, ob3, ob22, ob25, ob63]
set_option maxHeartbeats 4000000 in
theorem sp_mayLie {d : Nat} {μ : Zm} {v w k u : Nat} {a : Nat → Nat} (hv : zV v) (hc : CV μ v a) (hf : WF a) (hw : w < a 3) (hk : k < 5) (hu : u < 128) : zC true (d + 2) mX5_mayLie [.ref v, .int (nI k), .int (nI w), .int (nI u)] μ = some (some (.int (zbt (pml a k w && !u.testBit w))), μ) := by
  have ⟨l1, l2, l3⟩ := hc.2.2.2.2.1 w hw
  have ⟨b1, b2, b3, b4⟩ := hf.2.2.2.2.1 w hw
  have h3 := hf.2.2.1
  unfold pml
  by_cases h0 : a (60 + w) = 0 <;> by_cases h2 : a (5 + w) = 5 <;> by_cases h5 : a (5 + w) = 4 <;> cases h1 : u.testBit w <;> by_cases h6 : a (60 + w) % 2 = 1 <;> cases h4 : (a (67 + w)).testBit k <;> first | (exfalso; omega) |
  simp (disch := omega) only [nX5_mayLie, eX5_mayLie_0, eX5_mayLie_1, eX5_mayLie_2, eX5_mayLie_5, eX5_mayLie_6, eX5_mayLie_7, eX5_mayLie_10, eX5_mayLie_13, eX5_mayLie_14, eX5_mayLie_15, eX5_mayLie_18, eX5_mayLie_21, eX5_mayLie_22, eX5_mayLie_23, eX5_mayLie_24, eX5_mayLie_27, eX5_mayLie_28, eX5_mayLie_29, eX5_mayLie_30, eX5_mayLie_33, eX5_mayLie_34, eX5_mayLie_35, eX5_mayLie_36, eX5_mayLie_39, eX5_mayLie_40, eX5_mayLie_41, eX5_mayLie_42, eX5_mayLie_43, eX5_mayLie_44, eX5_mayLie_47, eX5_mayLie_48, eX5_mayLie_51, eX5_mayLie_52, eX5_mayLie_54, eX5_mayLie_55, eX5_mayLie_58, eX5_mayLie_59, eX5_mayLie_60, eX5_mayLie_61, eX5_mayLie_64, eX5_mayLie_67, eX5_mayLie_68, eX5_mayLie_71, eX5_mayLie_72, eX5_mayLie_73, eX5_mayLie_74, eX5_mayLie_77, eX5_mayLie_79, eX5_mayLie_82, eX5_mayLie_83, eX5_mayLie_86, eX5_mayLie_87, sp_isGone hv hc hf hw, sp_isIn, obV hv, zrd_n (zshV hv).1, zrd_n (zshV hv).2.1, zrd_n (zshV hv).2.2.1, l1, l2, l3, h0, h1, h2, h4, h5, h6, nI_rem, not_true_eq_false, not_false_eq_true, zok1, zok0, Bool.false_eq_true, zpush_s, zpush_n, Option.bind_some, Option.bind_none, ite_true, ite_false, if_true, if_false, reduceIte, nI_add, pk_mul, ob0, ob2, ob3, ob22, ob25, ob63, Nat.reduceEqDiff, Nat.reduceAdd, Nat.reduceMul, Nat.reduceSub, iLeT, iLeF, iLtT, iLtF, iEqT, iEqF, iNeT, iNeF, iZT, iZF, nI_sub', zbt_t, zbt_f, nI_m1, decide_true, decide_false, ne_eq, Bool.not_true, Bool.not_false, Bool.and_true, Bool.true_and, Bool.true_or, Bool.or_true, Bool.false_or, Bool.or_false, Bool.false_and, Bool.and_false, Bool.or_self, Bool.and_self]
theorem sp_liars {d : Nat} {μ : Zm} {v w : Nat} {a : Nat → Nat} (hv : zV v) (hc : CV μ v a) (hf : WF a) (hw : w < a 3) : zC true (d + 3) mX5_liars [.ref v, .int (nI w)] μ = some (some (.int (nI (nor (fun k => pml a k w) (a 1)))), μ) := by
  have hK := hc.1
  have hK5 := hf.1
  have h37 := hf.2.2.1
  have hs : ∀ k, k < 5 → zC true (d + 2) mX5_mayLie [.ref v, .int (nI k), .int (nI w), .int (nI 0)] μ = some (some (.int (zbt (pml a k w))), μ) := by
    intro k hk
    rw [sp_mayLie hv hc hf hw hk (by omega)]
    simp
  have hl := zloop (fun i => zA (d + 2) mX5_liars 4 [.ref v, .int (nI w), .int (nI (nor (fun k => pml a k w) i)), .int (nI i)] [] μ) (a 1) (fun i hi => by
    rw [eX5_liars_4]
    cases hp : pml a i w <;>
    simp (disch := omega) only [eX5_liars_0, eX5_liars_1, eX5_liars_2, eX5_liars_3, eX5_liars_5, eX5_liars_6, eX5_liars_9, eX5_liars_12, eX5_liars_13, eX5_liars_14, eX5_liars_15, eX5_liars_16, eX5_liars_19, eX5_liars_22, eX5_liars_23, eX5_liars_24, eX5_liars_25, eX5_liars_26, eX5_liars_27, eX5_liars_28, eX5_liars_31, eX5_liars_34, eX5_liars_35, hs, obV hv, hK, hp, not_true_eq_false, not_false_eq_true, zok1, zok0, Bool.false_eq_true, zpush_s, zpush_n, Option.bind_some, Option.bind_none, ite_true, ite_false, if_true, if_false, reduceIte, nI_add, pk_mul, ob0, ob2, ob3, ob22, ob25, ob63, Nat.reduceEqDiff, Nat.reduceAdd, Nat.reduceMul, Nat.reduceSub, iLeT, iLeF, iLtT, iLtF, iEqT, iEqF, iNeT, iNeF, iZT, iZF, nI_sub', zbt_t, zbt_f, nI_shl, nI_or, nor])
  have hx : zA (d + 2) mX5_liars 4 [.ref v, .int (nI w), .int (nI (nor (fun k => pml a k w) (a 1))), .int (nI (a 1))] [] μ = some (some (.int (nI (nor (fun k => pml a k w) (a 1)))), μ) := by
    rw [eX5_liars_4]
    simp (disch := omega) only [eX5_liars_0, eX5_liars_1, eX5_liars_2, eX5_liars_3, eX5_liars_5, eX5_liars_6, eX5_liars_9, eX5_liars_12, eX5_liars_13, eX5_liars_14, eX5_liars_15, eX5_liars_16, eX5_liars_19, eX5_liars_22, eX5_liars_23, eX5_liars_24, eX5_liars_25, eX5_liars_26, eX5_liars_27, eX5_liars_28, eX5_liars_31, eX5_liars_34, eX5_liars_35, obV hv, hK, not_true_eq_false, not_false_eq_true, zok1, zok0, Bool.false_eq_true, zpush_s, zpush_n, Option.bind_some, Option.bind_none, ite_true, ite_false, if_true, if_false, reduceIte, nI_add, pk_mul, ob0, ob2, ob3, ob22, ob25, ob63, Nat.reduceEqDiff, Nat.reduceAdd, Nat.reduceMul, Nat.reduceSub, iLeT, iLeF, iLtT, iLtF, iEqT, iEqF, iNeT, iNeF, iZT, iZF, nI_sub']
  rw [nX5_liars]
  simp only [eX5_liars_0, eX5_liars_1, eX5_liars_2, eX5_liars_3]
  exact hl.trans hx
theorem sp_isBound {d : Nat} {μ : Zm} {v s u : Nat} {a : Nat → Nat} (hv : zV v) (hc : CV μ v a) (hf : WF a) (hs : s < a 4) (hu : u < 128) : zC true (d + 3) mX5_isBound [.ref v, .int (nI s), .int (nI u)] μ = some (some (.int (zbt (pbd a u s))), μ) := by
  have ⟨l1, l2, l3, l4⟩ := hc.2.2.2.2.2 s hs
  have ⟨b1, b2, b3, b4⟩ := hf.2.2.2.2.2 s hs
  have h4 := hf.2.2.2.1
  have h3 := hf.2.2.1
  have h1 := hf.1
  unfold pbd
  by_cases h9 : a (13 + 4 * s) = 99
  · rw [if_pos h9] at l2
    simp (disch := omega) only [nX5_isBound, eX5_isBound_0, eX5_isBound_1, eX5_isBound_2, eX5_isBound_5, eX5_isBound_6, eX5_isBound_7, eX5_isBound_8, eX5_isBound_11, eX5_isBound_12, eX5_isBound_13, eX5_isBound_14, eX5_isBound_17, eX5_isBound_20, eX5_isBound_21, eX5_isBound_24, eX5_isBound_25, sp_mayLieN, obV hv, zrd_n (zshV hv).2.2.2.1, zrd_n (zshV hv).2.2.2.2.1, l1, l2, h9, not_true_eq_false, not_false_eq_true, zok1, zok0, Bool.false_eq_true, zpush_s, zpush_n, Option.bind_some, Option.bind_none, ite_true, ite_false, if_true, if_false, reduceIte, nI_add, pk_mul, ob0, ob2, ob3, ob22, ob25, ob63, Nat.reduceEqDiff, Nat.reduceAdd, Nat.reduceMul, Nat.reduceSub, iLeT, iLeF, iLtT, iLtF, iEqT, iEqF, iNeT, iNeF, iZT, iZF, nI_sub', decide_true, Bool.true_or, zbt_t]
  · rw [if_neg h9] at l2
    have hw : a (13 + 4 * s) < a 3 := by omega
    cases h5 : u.testBit (a (13 + 4 * s)) <;> cases h6 : pml a (a (12 + 4 * s)) (a (13 + 4 * s)) <;>
    simp (disch := omega) only [nX5_isBound, eX5_isBound_0, eX5_isBound_1, eX5_isBound_2, eX5_isBound_5, eX5_isBound_6, eX5_isBound_7, eX5_isBound_8, eX5_isBound_11, eX5_isBound_12, eX5_isBound_13, eX5_isBound_14, eX5_isBound_17, eX5_isBound_20, eX5_isBound_21, eX5_isBound_24, eX5_isBound_25, sp_mayLie hv hc hf hw, obV hv, zrd_n (zshV hv).2.2.2.1, zrd_n (zshV hv).2.2.2.2.1, l1, l2, h9, h5, h6, not_true_eq_false, not_false_eq_true, zok1, zok0, Bool.false_eq_true, zpush_s, zpush_n, Option.bind_some, Option.bind_none, ite_true, ite_false, if_true, if_false, reduceIte, nI_add, pk_mul, ob0, ob2, ob3, ob22, ob25, ob63, Nat.reduceEqDiff, Nat.reduceAdd, Nat.reduceMul, Nat.reduceSub, iLeT, iLeF, iLtT, iLtF, iEqT, iEqF, iNeT, iNeF, iZT, iZF, nI_sub', decide_false, Bool.false_or, Bool.not_true, Bool.not_false, Bool.and_true, Bool.and_false, Bool.true_or, Bool.or_false, Bool.or_true, Bool.false_and, Bool.and_self, Bool.or_self, zbt_t, zbt_f]
theorem sp_countBound {d : Nat} {μ : Zm} {v : Nat} {a : Nat → Nat} (hv : zV v) (hc : CV μ v a) (hf : WF a) : zC true (d + 4) mX5_countBound [.ref v] μ = some (some (.int (nI (nct (pbd a 0) (a 4)))), μ) := by
  have hS := hc.2.2.2.1
  have h4 := hf.2.2.2.1
  have hl := zloop (fun i => zA (d + 3) mX5_countBound 4 [.ref v, .int (nI (nct (pbd a 0) i)), .int (nI i)] [] μ) (a 4) (fun i hi => by
    rw [eX5_countBound_4]
    cases hp : pbd a 0 i <;>
    simp (disch := omega) only [eX5_countBound_0, eX5_countBound_1, eX5_countBound_2, eX5_countBound_3, eX5_countBound_5, eX5_countBound_6, eX5_countBound_9, eX5_countBound_12, eX5_countBound_13, eX5_countBound_14, eX5_countBound_15, eX5_countBound_18, eX5_countBound_21, eX5_countBound_24, eX5_countBound_27, eX5_countBound_30, eX5_countBound_31, sp_isBound hv hc hf hi, obV hv, hS, hp, not_true_eq_false, not_false_eq_true, zok1, zok0, Bool.false_eq_true, zpush_s, zpush_n, Option.bind_some, Option.bind_none, ite_true, ite_false, if_true, if_false, reduceIte, nI_add, pk_mul, ob0, ob2, ob3, ob22, ob25, ob63, Nat.reduceEqDiff, Nat.reduceAdd, Nat.reduceMul, Nat.reduceSub, iLeT, iLeF, iLtT, iLtF, iEqT, iEqF, iNeT, iNeF, iZT, iZF, nI_sub', zbt_t, zbt_f, nct])
  have hx : zA (d + 3) mX5_countBound 4 [.ref v, .int (nI (nct (pbd a 0) (a 4))), .int (nI (a 4))] [] μ = some (some (.int (nI (nct (pbd a 0) (a 4)))), μ) := by
    rw [eX5_countBound_4]
    simp (disch := omega) only [eX5_countBound_0, eX5_countBound_1, eX5_countBound_2, eX5_countBound_3, eX5_countBound_5, eX5_countBound_6, eX5_countBound_9, eX5_countBound_12, eX5_countBound_13, eX5_countBound_14, eX5_countBound_15, eX5_countBound_18, eX5_countBound_21, eX5_countBound_24, eX5_countBound_27, eX5_countBound_30, eX5_countBound_31, obV hv, hS, not_true_eq_false, not_false_eq_true, zok1, zok0, Bool.false_eq_true, zpush_s, zpush_n, Option.bind_some, Option.bind_none, ite_true, ite_false, if_true, if_false, reduceIte, nI_add, pk_mul, ob0, ob2, ob3, ob22, ob25, ob63, Nat.reduceEqDiff, Nat.reduceAdd, Nat.reduceMul, Nat.reduceSub, iLeT, iLeF, iLtT, iLtF, iEqT, iEqF, iNeT, iNeF, iZT, iZF, nI_sub']
  rw [nX5_countBound]
  simp only [eX5_countBound_0, eX5_countBound_1, eX5_countBound_2, eX5_countBound_3]
  exact hl.trans hx
