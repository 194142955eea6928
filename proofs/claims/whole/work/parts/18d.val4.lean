/-! ===== Valley: lies, out, the first that is false ===== -/
def plie (a : Nat → Nat) (s : Nat) : Bool := !pbd a 0 s && (if a (15 + 4 * s) = 1 then pfs a 0 0 (a 4) else pfs a 0 1 (a 4)).testBit (a (14 + 4 * s))
def plies (a : Nat → Nat) : Nat := if pwo a 0 = 0 then 0 else nor (plie a) (a 4)
theorem pwo_lt {a : Nat → Nat} {u : Nat} (hf : WF a) : pwo a u < 1000000 := by
  unfold pwo
  have h2 := hf.2.1
  have : 2 ^ (a 2 - npop (pfs a u 1 (a 4) ||| pfs a u 0 (a 4))) ≤ 2 ^ 6 := Nat.pow_le_pow_right (by omega) (by omega)
  split <;> omega
theorem sp_lies {d : Nat} {μ : Zm} {v : Nat} {a : Nat → Nat} (hv : zV v) (hc : CV μ v a) (hf : WF a) : zC true (d + 6) mX5_lies [.ref v] μ = some (some (.int (nI (plies a))), μ) := by
  have h1 := pfs_lt (u := 0) (so := 1) hf _ (Nat.le_refl _)
  have h0 := pfs_lt (u := 0) (so := 0) hf _ (Nat.le_refl _)
  have h64 := pw64 hf
  have h2 := hf.2.1
  have hS := hc.2.2.2.1
  have h4 := hf.2.2.2.1
  have hp := pwo_lt (u := 0) hf
  unfold plies
  by_cases q : pwo a 0 = 0
  · simp (disch := omega) only [nX5_lies, eX5_lies_0, eX5_lies_1, eX5_lies_4, eX5_lies_7, eX5_lies_8, eX5_lies_9, eX5_lies_10, eX5_lies_11, eX5_lies_12, eX5_lies_15, eX5_lies_16, eX5_lies_17, eX5_lies_18, eX5_lies_19, eX5_lies_22, eX5_lies_23, eX5_lies_24, eX5_lies_25, eX5_lies_26, eX5_lies_28, eX5_lies_30, eX5_lies_31, eX5_lies_34, eX5_lies_37, eX5_lies_38, eX5_lies_40, eX5_lies_41, eX5_lies_44, eX5_lies_47, eX5_lies_48, eX5_lies_51, eX5_lies_53, eX5_lies_54, eX5_lies_55, eX5_lies_58, eX5_lies_59, eX5_lies_62, eX5_lies_63, eX5_lies_64, eX5_lies_67, eX5_lies_69, eX5_lies_70, eX5_lies_73, eX5_lies_76, eX5_lies_77, eX5_lies_78, eX5_lies_80, eX5_lies_81, eX5_lies_82, eX5_lies_83, eX5_lies_86, eX5_lies_89, eX5_lies_90, sp_worlds hv hc hf, obV hv, q, not_true_eq_false, not_false_eq_true, zok1, zok0, Bool.false_eq_true, zpush_s, zpush_n, Option.bind_some, Option.bind_none, ite_true, ite_false, if_true, if_false, reduceIte, nI_add, pk_mul, ob0, ob2, ob3, ob22, ob25, ob63, Nat.reduceEqDiff, Nat.reduceAdd, Nat.reduceMul, Nat.reduceSub, iLeT, iLeF, iLtT, iLtF, iEqT, iEqF, iNeT, iNeF, iZT, iZF, nI_sub']
  · rw [if_neg q]
    have hl := zloop (fun i => zA (d + 5) mX5_lies 28 [.ref v, .int (nI (pfs a 0 1 (a 4))), .int (nI (pfs a 0 0 (a 4))), .int (nI (nor (plie a) i)), .int (nI i)] [] μ) (a 4) (fun i hi => by
      have ⟨_, _, l3, l4⟩ := hc.2.2.2.2.2 i hi
      have ⟨_, _, b3, b4⟩ := hf.2.2.2.2.2 i hi
      rw [eX5_lies_28, nor]
      cases hb : pbd a 0 i
      · by_cases hq : a (15 + 4 * i) = 1
        · cases ht : (pfs a 0 0 (a 4)).testBit (a (14 + 4 * i)) <;>
          simp (disch := omega) only [eX5_lies_0, eX5_lies_1, eX5_lies_4, eX5_lies_7, eX5_lies_8, eX5_lies_9, eX5_lies_10, eX5_lies_11, eX5_lies_12, eX5_lies_15, eX5_lies_16, eX5_lies_17, eX5_lies_18, eX5_lies_19, eX5_lies_22, eX5_lies_23, eX5_lies_24, eX5_lies_25, eX5_lies_26, eX5_lies_30, eX5_lies_31, eX5_lies_34, eX5_lies_37, eX5_lies_38, eX5_lies_40, eX5_lies_41, eX5_lies_44, eX5_lies_47, eX5_lies_48, eX5_lies_51, eX5_lies_53, eX5_lies_54, eX5_lies_55, eX5_lies_58, eX5_lies_59, eX5_lies_62, eX5_lies_63, eX5_lies_64, eX5_lies_67, eX5_lies_69, eX5_lies_70, eX5_lies_73, eX5_lies_76, eX5_lies_77, eX5_lies_78, eX5_lies_80, eX5_lies_81, eX5_lies_82, eX5_lies_83, eX5_lies_86, eX5_lies_89, eX5_lies_90, sp_isBound hv hc hf hi, sp_isIn, obV hv, hS, hb, hq, ht, l3, l4, zrd_n (zshV hv).2.2.2.2.2.1, zrd_n (zshV hv).2.2.2.2.2.2, not_true_eq_false, not_false_eq_true, zok1, zok0, Bool.false_eq_true, zpush_s, zpush_n, Option.bind_some, Option.bind_none, ite_true, ite_false, if_true, if_false, reduceIte, nI_add, pk_mul, ob0, ob2, ob3, ob22, ob25, ob63, Nat.reduceEqDiff, Nat.reduceAdd, Nat.reduceMul, Nat.reduceSub, iLeT, iLeF, iLtT, iLtF, iEqT, iEqF, iNeT, iNeF, iZT, iZF, nI_sub', zbt_t, zbt_f, plie, nI_shl, nI_or, Bool.not_false, Bool.true_and]
        · cases ht : (pfs a 0 1 (a 4)).testBit (a (14 + 4 * i)) <;>
          simp (disch := omega) only [eX5_lies_0, eX5_lies_1, eX5_lies_4, eX5_lies_7, eX5_lies_8, eX5_lies_9, eX5_lies_10, eX5_lies_11, eX5_lies_12, eX5_lies_15, eX5_lies_16, eX5_lies_17, eX5_lies_18, eX5_lies_19, eX5_lies_22, eX5_lies_23, eX5_lies_24, eX5_lies_25, eX5_lies_26, eX5_lies_30, eX5_lies_31, eX5_lies_34, eX5_lies_37, eX5_lies_38, eX5_lies_40, eX5_lies_41, eX5_lies_44, eX5_lies_47, eX5_lies_48, eX5_lies_51, eX5_lies_53, eX5_lies_54, eX5_lies_55, eX5_lies_58, eX5_lies_59, eX5_lies_62, eX5_lies_63, eX5_lies_64, eX5_lies_67, eX5_lies_69, eX5_lies_70, eX5_lies_73, eX5_lies_76, eX5_lies_77, eX5_lies_78, eX5_lies_80, eX5_lies_81, eX5_lies_82, eX5_lies_83, eX5_lies_86, eX5_lies_89, eX5_lies_90, sp_isBound hv hc hf hi, sp_isIn, obV hv, hS, hb, hq, ht, l3, l4, zrd_n (zshV hv).2.2.2.2.2.1, zrd_n (zshV hv).2.2.2.2.2.2, not_true_eq_false, not_false_eq_true, zok1, zok0, Bool.false_eq_true, zpush_s, zpush_n, Option.bind_some, Option.bind_none, ite_true, ite_false, if_true, if_false, reduceIte, nI_add, pk_mul, ob0, ob2, ob3, ob22, ob25, ob63, Nat.reduceEqDiff, Nat.reduceAdd, Nat.reduceMul, Nat.reduceSub, iLeT, iLeF, iLtT, iLtF, iEqT, iEqF, iNeT, iNeF, iZT, iZF, nI_sub', zbt_t, zbt_f, plie, nI_shl, nI_or, Bool.not_false, Bool.true_and]
      · simp (disch := omega) only [eX5_lies_0, eX5_lies_1, eX5_lies_4, eX5_lies_7, eX5_lies_8, eX5_lies_9, eX5_lies_10, eX5_lies_11, eX5_lies_12, eX5_lies_15, eX5_lies_16, eX5_lies_17, eX5_lies_18, eX5_lies_19, eX5_lies_22, eX5_lies_23, eX5_lies_24, eX5_lies_25, eX5_lies_26, eX5_lies_30, eX5_lies_31, eX5_lies_34, eX5_lies_37, eX5_lies_38, eX5_lies_40, eX5_lies_41, eX5_lies_44, eX5_lies_47, eX5_lies_48, eX5_lies_51, eX5_lies_53, eX5_lies_54, eX5_lies_55, eX5_lies_58, eX5_lies_59, eX5_lies_62, eX5_lies_63, eX5_lies_64, eX5_lies_67, eX5_lies_69, eX5_lies_70, eX5_lies_73, eX5_lies_76, eX5_lies_77, eX5_lies_78, eX5_lies_80, eX5_lies_81, eX5_lies_82, eX5_lies_83, eX5_lies_86, eX5_lies_89, eX5_lies_90, sp_isBound hv hc hf hi, sp_isIn, obV hv, hS, hb, not_true_eq_false, not_false_eq_true, zok1, zok0, Bool.false_eq_true, zpush_s, zpush_n, Option.bind_some, Option.bind_none, ite_true, ite_false, if_true, if_false, reduceIte, nI_add, pk_mul, ob0, ob2, ob3, ob22, ob25, ob63, Nat.reduceEqDiff, Nat.reduceAdd, Nat.reduceMul, Nat.reduceSub, iLeT, iLeF, iLtT, iLtF, iEqT, iEqF, iNeT, iNeF, iZT, iZF, nI_sub', zbt_t, zbt_f, plie, Bool.not_true, Bool.false_and])
    have hx : zA (d + 5) mX5_lies 28 [.ref v, .int (nI (pfs a 0 1 (a 4))), .int (nI (pfs a 0 0 (a 4))), .int (nI (nor (plie a) (a 4))), .int (nI (a 4))] [] μ = some (some (.int (nI (nor (plie a) (a 4)))), μ) := by
      rw [eX5_lies_28]
      simp (disch := omega) only [eX5_lies_0, eX5_lies_1, eX5_lies_4, eX5_lies_7, eX5_lies_8, eX5_lies_9, eX5_lies_10, eX5_lies_11, eX5_lies_12, eX5_lies_15, eX5_lies_16, eX5_lies_17, eX5_lies_18, eX5_lies_19, eX5_lies_22, eX5_lies_23, eX5_lies_24, eX5_lies_25, eX5_lies_26, eX5_lies_30, eX5_lies_31, eX5_lies_34, eX5_lies_37, eX5_lies_38, eX5_lies_40, eX5_lies_41, eX5_lies_44, eX5_lies_47, eX5_lies_48, eX5_lies_51, eX5_lies_53, eX5_lies_54, eX5_lies_55, eX5_lies_58, eX5_lies_59, eX5_lies_62, eX5_lies_63, eX5_lies_64, eX5_lies_67, eX5_lies_69, eX5_lies_70, eX5_lies_73, eX5_lies_76, eX5_lies_77, eX5_lies_78, eX5_lies_80, eX5_lies_81, eX5_lies_82, eX5_lies_83, eX5_lies_86, eX5_lies_89, eX5_lies_90, obV hv, hS, not_true_eq_false, not_false_eq_true, zok1, zok0, Bool.false_eq_true, zpush_s, zpush_n, Option.bind_some, Option.bind_none, ite_true, ite_false, if_true, if_false, reduceIte, nI_add, pk_mul, ob0, ob2, ob3, ob22, ob25, ob63, Nat.reduceEqDiff, Nat.reduceAdd, Nat.reduceMul, Nat.reduceSub, iLeT, iLeF, iLtT, iLtF, iEqT, iEqF, iNeT, iNeF, iZT, iZF, nI_sub']
    simp (disch := omega) only [nX5_lies, eX5_lies_0, eX5_lies_1, eX5_lies_4, eX5_lies_7, eX5_lies_8, eX5_lies_9, eX5_lies_10, eX5_lies_11, eX5_lies_12, eX5_lies_15, eX5_lies_16, eX5_lies_17, eX5_lies_18, eX5_lies_19, eX5_lies_22, eX5_lies_23, eX5_lies_24, eX5_lies_25, eX5_lies_26, eX5_lies_30, eX5_lies_31, eX5_lies_34, eX5_lies_37, eX5_lies_38, eX5_lies_40, eX5_lies_41, eX5_lies_44, eX5_lies_47, eX5_lies_48, eX5_lies_51, eX5_lies_53, eX5_lies_54, eX5_lies_55, eX5_lies_58, eX5_lies_59, eX5_lies_62, eX5_lies_63, eX5_lies_64, eX5_lies_67, eX5_lies_69, eX5_lies_70, eX5_lies_73, eX5_lies_76, eX5_lies_77, eX5_lies_78, eX5_lies_80, eX5_lies_81, eX5_lies_82, eX5_lies_83, eX5_lies_86, eX5_lies_89, eX5_lies_90, sp_worlds hv hc hf, sp_factsSaid hv hc hf, obV hv, not_true_eq_false, not_false_eq_true, zok1, zok0, Bool.false_eq_true, zpush_s, zpush_n, Option.bind_some, Option.bind_none, ite_true, ite_false, if_true, if_false, reduceIte, nI_add, pk_mul, ob0, ob2, ob3, ob22, ob25, ob63, Nat.reduceEqDiff, Nat.reduceAdd, Nat.reduceMul, Nat.reduceSub, iLeT, iLeF, iLtT, iLtF, iEqT, iEqF, iNeT, iNeF, iZT, iZF, nI_sub']
    exact hl.trans hx
/-- it comes out -/
def pco (a : Nat → Nat) (f u : Nat) : Bool := ((pfs a u 1 (a 4)).testBit f != (pfs a u 0 (a 4)).testBit f) && decide (pwo a u ≠ 0)
def plin (a : Nat → Nat) (u : Nat) : Nat := nsum (fun w => if u.testBit w then a (60 + w) else 0) (a 3)
/-- the best set below n, and its lines -/
def pob (a : Nat → Nat) (f : Nat) : Nat → Nat × Nat
  | 0 => (999, 0)
  | n + 1 => if ((pob a f n).1 = 999 ∨ plin a n < (pob a f n).2) ∧ pco a f n = true then (n, plin a n) else pob a f n
theorem sp_comesOut {d : Nat} {μ : Zm} {v u f : Nat} {a : Nat → Nat} (hv : zV v) (hc : CV μ v a) (hf : WF a) (hu : u < 128) (hk : f < a 2) : zC true (d + 6) mX5_comesOut [.ref v, .int (nI f), .int (nI u)] μ = some (some (.int (zbt (pco a f u))), μ) := by
  have h1 := pfs_lt (u := u) (so := 1) hf _ (Nat.le_refl _)
  have h0 := pfs_lt (u := u) (so := 0) hf _ (Nat.le_refl _)
  have h64 := pw64 hf
  have h2 := hf.2.1
  have ha : pfs a u 1 (a 4) &&& pfs a u 0 (a 4) ≤ pfs a u 1 (a 4) := Nat.and_le_left
  have ho : pfs a u 1 (a 4) ||| pfs a u 0 (a 4) < 2 ^ a 2 := Nat.or_lt_two_pow h1 h0
  have hw : ∀ x : Nat, 2 ^ x ≠ 0 := fun x => Nat.ne_of_gt (Nat.two_pow_pos x)
  by_cases q : pfs a u 1 (a 4) &&& pfs a u 0 (a 4) = 0
  · have e : pco a f u = (pfs a u 1 (a 4) ||| pfs a u 0 (a 4)).testBit f := by
      have hb : ((pfs a u 1 (a 4)) &&& (pfs a u 0 (a 4))).testBit f = false := by rw [q]; exact Nat.zero_testBit f
      rw [Nat.testBit_and] at hb
      unfold pco pwo
      rw [if_neg (fun z => z q), decide_eq_true (hw _), Nat.testBit_or]
      cases q1 : (pfs a u 1 (a 4)).testBit f <;> cases q0 : (pfs a u 0 (a 4)).testBit f <;> simp [q1, q0] at hb ⊢
    rw [e]
    cases q1 : (pfs a u 1 (a 4) ||| pfs a u 0 (a 4)).testBit f <;>
    simp (disch := omega) only [nX5_comesOut, eX5_comesOut_0, eX5_comesOut_1, eX5_comesOut_2, eX5_comesOut_3, eX5_comesOut_6, eX5_comesOut_7, eX5_comesOut_8, eX5_comesOut_9, eX5_comesOut_10, eX5_comesOut_13, eX5_comesOut_15, eX5_comesOut_16, eX5_comesOut_18, eX5_comesOut_19, eX5_comesOut_22, eX5_comesOut_23, eX5_comesOut_25, eX5_comesOut_26, eX5_comesOut_27, eX5_comesOut_30, eX5_comesOut_33, eX5_comesOut_34, eX5_comesOut_37, eX5_comesOut_38, sp_factsSaid hv hc hf hu, sp_isIn, q, q1, obV hv, nI_and, nI_or, not_true_eq_false, not_false_eq_true, zok1, zok0, Bool.false_eq_true, zpush_s, zpush_n, Option.bind_some, Option.bind_none, ite_true, ite_false, if_true, if_false, reduceIte, nI_add, pk_mul, ob0, ob2, ob3, ob22, ob25, ob63, Nat.reduceEqDiff, Nat.reduceAdd, Nat.reduceMul, Nat.reduceSub, iLeT, iLeF, iLtT, iLtF, iEqT, iEqF, iNeT, iNeF, iZT, iZF, nI_sub', zbt_t, zbt_f]
  · have e : pco a f u = false := by
      unfold pco pwo
      rw [if_pos q]
      simp
    rw [e]
    simp (disch := omega) only [nX5_comesOut, eX5_comesOut_0, eX5_comesOut_1, eX5_comesOut_2, eX5_comesOut_3, eX5_comesOut_6, eX5_comesOut_7, eX5_comesOut_8, eX5_comesOut_9, eX5_comesOut_10, eX5_comesOut_13, eX5_comesOut_15, eX5_comesOut_16, eX5_comesOut_18, eX5_comesOut_19, eX5_comesOut_22, eX5_comesOut_23, eX5_comesOut_25, eX5_comesOut_26, eX5_comesOut_27, eX5_comesOut_30, eX5_comesOut_33, eX5_comesOut_34, eX5_comesOut_37, eX5_comesOut_38, sp_factsSaid hv hc hf hu, q, obV hv, nI_and, nI_or, not_true_eq_false, not_false_eq_true, zok1, zok0, Bool.false_eq_true, zpush_s, zpush_n, Option.bind_some, Option.bind_none, ite_true, ite_false, if_true, if_false, reduceIte, nI_add, pk_mul, ob0, ob2, ob3, ob22, ob25, ob63, Nat.reduceEqDiff, Nat.reduceAdd, Nat.reduceMul, Nat.reduceSub, iLeT, iLeF, iLtT, iLtF, iEqT, iEqF, iNeT, iNeF, iZT, iZF, nI_sub', zbt_t, zbt_f]
theorem plin_le {a : Nat → Nat} {u : Nat} (hf : WF a) : plin a u ≤ 700 := by
  have h := nsum_le (f := fun w => if u.testBit w then a (60 + w) else 0) (b := 99) (a 3) (fun i hi => by
    have := (hf.2.2.2.2.1 i hi).2.2.1
    split <;> omega)
  have h3 := hf.2.2.1
  have : a 3 * 99 ≤ 7 * 99 := Nat.mul_le_mul_right _ h3
  unfold plin
  omega
theorem pob_le {a : Nat → Nat} {f : Nat} (hf : WF a) : ∀ n, n ≤ 128 → ((pob a f n).1 = 999 ∨ (pob a f n).1 < n) ∧ (pob a f n).2 ≤ 700
  | 0, _ => ⟨Or.inl rfl, Nat.zero_le _⟩
  | n + 1, h => by
    have ⟨h1, h2⟩ := pob_le (f := f) hf n (by omega)
    have := plin_le (u := n) hf
    rw [pob]
    split
    · exact ⟨Or.inr (Nat.lt_succ_self n), this⟩
    · exact ⟨h1.imp id (fun q => by omega), h2⟩
theorem pw128 {a : Nat → Nat} (hf : WF a) : 2 ^ a 3 ≤ 128 := Nat.pow_le_pow_right (n := 2) (by omega) hf.2.2.1
set_option maxHeartbeats 4000000 in
theorem sp_fewest {d : Nat} {μ : Zm} {v f : Nat} {a : Nat → Nat} (hv : zV v) (hc : CV μ v a) (hf : WF a) (hk : f < a 2) : zC true (d + 7) mX5_fewestToUnpick [.ref v, .int (nI f)] μ = some (some (.int (zno (pob a f (2 ^ a 3)).1)), μ) := by
  have hW := hc.2.2.1
  have h3 := hf.2.2.1
  have h128 := pw128 hf
  have hl := zloop (fun i => zA (d + 6) mX5_fewestToUnpick 8 [.ref v, .int (nI f), .int (zno (pob a f i).1), .int (nI (pob a f i).2), .int (nI i), (match i with | 0 => zjk | j + 1 => .int (nI (plin a j)))] [] μ) (2 ^ a 3) (fun i hi => by
    have ⟨hb1, hb2⟩ := pob_le (f := f) hf i (by omega)
    have hb3 := plin_le (u := i) hf
    have hlin : zC true (d + 6) mX5_linesOf [.ref v, .int (nI i)] μ = some (some (.int (nI (plin a i))), μ) := sp_linesOf hv hc hf (by omega)
    simp only
    generalize (match i with | 0 => zjk | j + 1 => Value.int (nI (plin a j))) = l5
    have hi9 : ¬ i = 999 := by omega
    rw [eX5_fewestToUnpick_8, pob]
    unfold zno
    by_cases q1 : (pob a f i).1 = 999
    · cases q3 : pco a f i <;>
      simp (disch := omega) only [eX5_fewestToUnpick_0, eX5_fewestToUnpick_2, eX5_fewestToUnpick_3, eX5_fewestToUnpick_4, eX5_fewestToUnpick_5, eX5_fewestToUnpick_6, eX5_fewestToUnpick_10, eX5_fewestToUnpick_11, eX5_fewestToUnpick_12, eX5_fewestToUnpick_15, eX5_fewestToUnpick_16, eX5_fewestToUnpick_19, eX5_fewestToUnpick_20, eX5_fewestToUnpick_22, eX5_fewestToUnpick_25, eX5_fewestToUnpick_27, eX5_fewestToUnpick_28, eX5_fewestToUnpick_30, eX5_fewestToUnpick_33, eX5_fewestToUnpick_35, eX5_fewestToUnpick_36, eX5_fewestToUnpick_39, eX5_fewestToUnpick_40, eX5_fewestToUnpick_41, eX5_fewestToUnpick_43, eX5_fewestToUnpick_46, eX5_fewestToUnpick_49, eX5_fewestToUnpick_51, eX5_fewestToUnpick_52, eX5_fewestToUnpick_54, eX5_fewestToUnpick_55, eX5_fewestToUnpick_58, eX5_fewestToUnpick_61, eX5_fewestToUnpick_62, sp_comesOut hv hc hf, hlin, obV hv, hW, hi9, q1, q3, nI_shl, not_true_eq_false, not_false_eq_true, zok1, zok0, Bool.false_eq_true, zpush_s, zpush_n, Option.bind_some, Option.bind_none, ite_true, ite_false, if_true, if_false, reduceIte, nI_add, pk_mul, ob0, ob2, ob3, ob22, ob25, ob63, Nat.reduceEqDiff, Nat.reduceAdd, Nat.reduceMul, Nat.reduceSub, iLeT, iLeF, iLtT, iLtF, iEqT, iEqF, iNeT, iNeF, iZT, iZF, nI_sub', zbt_t, zbt_f, true_or, true_and, and_true, and_false, iNM]
    · by_cases q2 : plin a i < (pob a f i).2 <;> cases q3 : pco a f i <;>
      simp (disch := omega) only [eX5_fewestToUnpick_0, eX5_fewestToUnpick_2, eX5_fewestToUnpick_3, eX5_fewestToUnpick_4, eX5_fewestToUnpick_5, eX5_fewestToUnpick_6, eX5_fewestToUnpick_10, eX5_fewestToUnpick_11, eX5_fewestToUnpick_12, eX5_fewestToUnpick_15, eX5_fewestToUnpick_16, eX5_fewestToUnpick_19, eX5_fewestToUnpick_20, eX5_fewestToUnpick_22, eX5_fewestToUnpick_25, eX5_fewestToUnpick_27, eX5_fewestToUnpick_28, eX5_fewestToUnpick_30, eX5_fewestToUnpick_33, eX5_fewestToUnpick_35, eX5_fewestToUnpick_36, eX5_fewestToUnpick_39, eX5_fewestToUnpick_40, eX5_fewestToUnpick_41, eX5_fewestToUnpick_43, eX5_fewestToUnpick_46, eX5_fewestToUnpick_49, eX5_fewestToUnpick_51, eX5_fewestToUnpick_52, eX5_fewestToUnpick_54, eX5_fewestToUnpick_55, eX5_fewestToUnpick_58, eX5_fewestToUnpick_61, eX5_fewestToUnpick_62, sp_comesOut hv hc hf, hlin, obV hv, hW, hi9, q1, q2, q3, nI_shl, not_true_eq_false, not_false_eq_true, zok1, zok0, Bool.false_eq_true, zpush_s, zpush_n, Option.bind_some, Option.bind_none, ite_true, ite_false, if_true, if_false, reduceIte, nI_add, pk_mul, ob0, ob2, ob3, ob22, ob25, ob63, Nat.reduceEqDiff, Nat.reduceAdd, Nat.reduceMul, Nat.reduceSub, iLeT, iLeF, iLtT, iLtF, iEqT, iEqF, iNeT, iNeF, iZT, iZF, nI_sub', zbt_t, zbt_f, false_or, true_and, and_true, and_false, false_and, iNM])
  have hx : zA (d + 6) mX5_fewestToUnpick 8 [.ref v, .int (nI f), .int (zno (pob a f (2 ^ a 3)).1), .int (nI (pob a f (2 ^ a 3)).2), .int (nI (2 ^ a 3)), (match (2 ^ a 3) with | 0 => zjk | j + 1 => .int (nI (plin a j)))] [] μ = some (some (.int (zno (pob a f (2 ^ a 3)).1)), μ) := by
    rw [eX5_fewestToUnpick_8]
    simp (disch := omega) only [eX5_fewestToUnpick_0, eX5_fewestToUnpick_2, eX5_fewestToUnpick_3, eX5_fewestToUnpick_4, eX5_fewestToUnpick_5, eX5_fewestToUnpick_6, eX5_fewestToUnpick_10, eX5_fewestToUnpick_11, eX5_fewestToUnpick_12, eX5_fewestToUnpick_15, eX5_fewestToUnpick_16, eX5_fewestToUnpick_19, eX5_fewestToUnpick_20, eX5_fewestToUnpick_22, eX5_fewestToUnpick_25, eX5_fewestToUnpick_27, eX5_fewestToUnpick_28, eX5_fewestToUnpick_30, eX5_fewestToUnpick_33, eX5_fewestToUnpick_35, eX5_fewestToUnpick_36, eX5_fewestToUnpick_39, eX5_fewestToUnpick_40, eX5_fewestToUnpick_41, eX5_fewestToUnpick_43, eX5_fewestToUnpick_46, eX5_fewestToUnpick_49, eX5_fewestToUnpick_51, eX5_fewestToUnpick_52, eX5_fewestToUnpick_54, eX5_fewestToUnpick_55, eX5_fewestToUnpick_58, eX5_fewestToUnpick_61, eX5_fewestToUnpick_62, obV hv, hW, nI_shl, not_true_eq_false, not_false_eq_true, zok1, zok0, Bool.false_eq_true, zpush_s, zpush_n, Option.bind_some, Option.bind_none, ite_true, ite_false, if_true, if_false, reduceIte, nI_add, pk_mul, ob0, ob2, ob3, ob22, ob25, ob63, Nat.reduceEqDiff, Nat.reduceAdd, Nat.reduceMul, Nat.reduceSub, iLeT, iLeF, iLtT, iLtF, iEqT, iEqF, iNeT, iNeF, iZT, iZF, nI_sub']
  rw [nX5_fewestToUnpick]
  simp only [eX5_fewestToUnpick_0, eX5_fewestToUnpick_2, eX5_fewestToUnpick_3, eX5_fewestToUnpick_4, eX5_fewestToUnpick_5, eX5_fewestToUnpick_6]
  exact hl.trans hx
