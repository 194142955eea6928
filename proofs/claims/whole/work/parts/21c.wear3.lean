/-! ===== wear: the reference ===== -/
/-- what is warm of the last j, so many taken, by a row's figures -/
def pwv (a : Nat → Nat) (t : Nat) : Nat → Nat → Nat → Option Nat
  | 0, _, _ => some 0
  | j + 1, s, r => if r / (a 3 + 1) ^ j % (a 3 + 1) = 0 then pwv a t j s r else if (pcw a t (a 1 - (j + 1)) (r / (a 3 + 1) ^ j % (a 3 + 1) - 1) && !s.testBit (r / (a 3 + 1) ^ j % (a 3 + 1) - 1)) = true then (pwv a t j (s ||| 2 ^ (r / (a 3 + 1) ^ j % (a 3 + 1) - 1)) r).map (fun v => pwarm a (r / (a 3 + 1) ^ j % (a 3 + 1) - 1) + v) else none
def zov : Option Nat → Int32
  | none => -1
  | some v => nI v
theorem b_pos {a : Nat → Nat} {j : Nat} : 0 < (a 3 + 1) ^ j := Nat.pow_pos (by omega)
theorem b_le {a : Nat → Nat} {j : Nat} (hf : WF a) (hj : j ≤ 5) : (a 3 + 1) ^ j ≤ 32768 := by
  have h3 := hf.2.2.1
  calc (a 3 + 1) ^ j ≤ 8 ^ j := Nat.pow_le_pow_left (by omega) j
    _ ≤ 8 ^ 5 := Nat.pow_le_pow_right (by omega) hj
set_option maxRecDepth 100000 in
set_option maxHeartbeats 4000000 in
theorem sm_warmLoop {d t r : Nat} {rows : Value} {μ : Zm} {a : Nat → Nat} (hm : MS μ a) (hf : WF a) (ht : t < 32) (hr : r < 100000) : ∀ j, j ≤ a 1 → ∀ s sum l9, s < 128 → sum < 1000 * (a 1 - j + 1) → zA (d + 4) mX7_warmBy 25 [.ref 63, .int (nI r), rows, .int (nI t), .int (nI (a 3 + 1)), .int (nI ((a 3 + 1) ^ j / (a 3 + 1))), .int (nI s), .int (nI sum), .int (nI (a 1 - j)), l9] [] μ = some (some (.int (zov ((pwv a t j s r).map (fun v => sum + v)))), μ)
  | 0, _, s, sum, l9, hs, hsum => by
    have hK := hm.2.1
    have h1 := hf.1
    rw [eX7_warmBy_25]
    simp (disch := omega) only [eX7_warmBy_0, eX7_warmBy_1, eX7_warmBy_4, eX7_warmBy_5, eX7_warmBy_6, eX7_warmBy_7, eX7_warmBy_8, eX7_warmBy_10, eX7_warmBy_11, eX7_warmBy_13, eX7_warmBy_14, eX7_warmBy_16, eX7_warmBy_17, eX7_warmBy_19, eX7_warmBy_20, eX7_warmBy_22, eX7_warmBy_23, eX7_warmBy_27, eX7_warmBy_28, eX7_warmBy_31, eX7_warmBy_32, eX7_warmBy_33, eX7_warmBy_36, eX7_warmBy_37, eX7_warmBy_39, eX7_warmBy_40, eX7_warmBy_42, eX7_warmBy_43, eX7_warmBy_44, eX7_warmBy_45, eX7_warmBy_47, eX7_warmBy_49, eX7_warmBy_52, eX7_warmBy_54, eX7_warmBy_56, eX7_warmBy_59, eX7_warmBy_62, eX7_warmBy_63, eX7_warmBy_65, eX7_warmBy_68, eX7_warmBy_71, eX7_warmBy_72, eX7_warmBy_74, eX7_warmBy_77, eX7_warmBy_80, eX7_warmBy_81, eX7_warmBy_83, eX7_warmBy_85, eX7_warmBy_88, eX7_warmBy_91, eX7_warmBy_92, eX7_warmBy_93, eX7_warmBy_95, eX7_warmBy_96, eX7_warmBy_98, eX7_warmBy_99, eX7_warmBy_100, eX7_warmBy_102, eX7_warmBy_104, eX7_warmBy_105, eX7_warmBy_107, eX7_warmBy_110, eX7_warmBy_111, eX7_warmBy_113, eX7_warmBy_115, eX7_warmBy_117, eX7_warmBy_118, eX7_warmBy_120, eX7_warmBy_123, eX7_warmBy_126, eX7_warmBy_128, hK, Nat.sub_zero, rd6, wr6, rd7, wr7, rd8, wr8, rd9, wr9, rd10, wr10, rd11, wr11, rd12, wr12, rd14, wr14, rd15, wr15, rd16, wr16, rd17, wr17, rd18, wr18, rd19, wr19, rd20, wr20, rd23, wr23, rd24, wr24, rd26, wr26, rd27, wr27, rd28, wr28, rd29, wr29, rd30, wr30, rd64, wr64, rd65, wr65, rd67, wr67, rd68, wr68, rd69, wr69, rd70, wr70, rd71, wr71, rd72, wr72, rd73, wr73, rb4, rb66, wb4, wb66, rdR, wrR, lenR, len1, len21, ofNat_nI, not_true_eq_false, not_false_eq_true, zok1, zok0, Bool.false_eq_true, zpush_s, zpush_n, Option.bind_some, Option.bind_none, ite_true, ite_false, if_true, if_false, reduceIte, nI_add, pk_mul, ob0, ob2, ob3, ob22, ob25, ob63, Nat.reduceEqDiff, Nat.reduceAdd, Nat.reduceMul, Nat.reduceSub, jLeT, jLeF, jLtT, jLtF, jEqT, jEqF, jNeT, jNeF, iZF, iZT, nI_sub2, nI_dec, nLtT, nLtF, nLeT, nLeF, nEqF, nNeT, ob5, ob13, pwv, Option.map_some, zov, Nat.add_zero]
  | j + 1, hj, s, sum, l9, hs, hsum => by
    have ih := sm_warmLoop (d := d) (rows := rows) hm hf ht hr j (by omega)
    have hK := hm.2.1
    have h1 := hf.1
    have h3 := hf.2.2.1
    have hb := b_pos (a := a) (j := j)
    have hb2 := b_le (j := j) hf (by omega)
    have e1 : (a 3 + 1) ^ (j + 1) / (a 3 + 1) = (a 3 + 1) ^ j := by rw [Nat.pow_succ, Nat.mul_div_cancel _ (by omega)]
    have e2 : a 1 - (j + 1) + 1 = a 1 - j := by omega
    have hd0 : r / (a 3 + 1) ^ j ≤ r := Nat.div_le_self _ _
    have hd1 : r / (a 3 + 1) ^ j % (a 3 + 1) < a 3 + 1 := Nat.mod_lt _ (by omega)
    have x0 : nI 0 - nI 1 = (-1 : Int32) := by decide
    have x1 : ((-1 : Int32) < nI 0) = True := by decide
    rw [e1, eX7_warmBy_25, pwv]
    have e3 : nI (r / (a 3 + 1) ^ j) - nI (r / (a 3 + 1) ^ j) / nI (a 3 + 1) * nI (a 3 + 1) = nI (r / (a 3 + 1) ^ j % (a 3 + 1)) := nI_rem (by omega)
    have e4 : nI r / nI ((a 3 + 1) ^ j) = nI (r / (a 3 + 1) ^ j) := nI_div (by omega) (by omega)
    have e5 : nI ((a 3 + 1) ^ j) / nI (a 3 + 1) = nI ((a 3 + 1) ^ j / (a 3 + 1)) := nI_div (by omega) (by omega)
    generalize hg : r / (a 3 + 1) ^ j % (a 3 + 1) = dg at hd1 e3 ⊢
    by_cases q0 : dg = 0
    · rw [if_pos q0]
      subst q0
      simp (disch := omega) only [eX7_warmBy_0, eX7_warmBy_1, eX7_warmBy_4, eX7_warmBy_5, eX7_warmBy_6, eX7_warmBy_7, eX7_warmBy_8, eX7_warmBy_10, eX7_warmBy_11, eX7_warmBy_13, eX7_warmBy_14, eX7_warmBy_16, eX7_warmBy_17, eX7_warmBy_19, eX7_warmBy_20, eX7_warmBy_22, eX7_warmBy_23, eX7_warmBy_27, eX7_warmBy_28, eX7_warmBy_31, eX7_warmBy_32, eX7_warmBy_33, eX7_warmBy_36, eX7_warmBy_37, eX7_warmBy_39, eX7_warmBy_40, eX7_warmBy_42, eX7_warmBy_43, eX7_warmBy_44, eX7_warmBy_45, eX7_warmBy_47, eX7_warmBy_49, eX7_warmBy_52, eX7_warmBy_54, eX7_warmBy_56, eX7_warmBy_59, eX7_warmBy_62, eX7_warmBy_63, eX7_warmBy_65, eX7_warmBy_68, eX7_warmBy_71, eX7_warmBy_72, eX7_warmBy_74, eX7_warmBy_77, eX7_warmBy_80, eX7_warmBy_81, eX7_warmBy_83, eX7_warmBy_85, eX7_warmBy_88, eX7_warmBy_91, eX7_warmBy_92, eX7_warmBy_93, eX7_warmBy_95, eX7_warmBy_96, eX7_warmBy_98, eX7_warmBy_99, eX7_warmBy_100, eX7_warmBy_102, eX7_warmBy_104, eX7_warmBy_105, eX7_warmBy_107, eX7_warmBy_110, eX7_warmBy_111, eX7_warmBy_113, eX7_warmBy_115, eX7_warmBy_117, eX7_warmBy_118, eX7_warmBy_120, eX7_warmBy_123, eX7_warmBy_128, hK, e2, e3, e4, e5, x0, x1, rd6, wr6, rd7, wr7, rd8, wr8, rd9, wr9, rd10, wr10, rd11, wr11, rd12, wr12, rd14, wr14, rd15, wr15, rd16, wr16, rd17, wr17, rd18, wr18, rd19, wr19, rd20, wr20, rd23, wr23, rd24, wr24, rd26, wr26, rd27, wr27, rd28, wr28, rd29, wr29, rd30, wr30, rd64, wr64, rd65, wr65, rd67, wr67, rd68, wr68, rd69, wr69, rd70, wr70, rd71, wr71, rd72, wr72, rd73, wr73, rb4, rb66, wb4, wb66, rdR, wrR, lenR, len1, len21, ofNat_nI, not_true_eq_false, not_false_eq_true, zok1, zok0, Bool.false_eq_true, zpush_s, zpush_n, Option.bind_some, Option.bind_none, ite_true, ite_false, if_true, if_false, reduceIte, nI_add, pk_mul, ob0, ob2, ob3, ob22, ob25, ob63, Nat.reduceEqDiff, Nat.reduceAdd, Nat.reduceMul, Nat.reduceSub, jLeT, jLeF, jLtT, jLtF, jEqT, jEqF, jNeT, jNeF, iZF, iZT, nI_sub2, nI_dec, nLtT, nLtF, nLeT, nLeF, nEqF, nNeT, ob5, ob13]
      exact ih s sum _ hs (by have : a 1 - (j + 1) + 1 = a 1 - j := by omega
                              omega)
    · rw [if_neg q0]
      have hw : dg - 1 < a 3 := by omega
      have hwm := pwarm_le hf hw
      have hmb := sm_mayLie (d := d + 1) (k := a 1 - (j + 1)) hm hf hw (by omega)
      have hg2 := sm_isGone (d := d + 3) hm hf hw
      have ih2 := ih (s ||| 2 ^ (dg - 1)) (sum + pwarm a (dg - 1))
      have hs2 : s ||| 2 ^ (dg - 1) < 128 := Nat.or_lt_two_pow (n := 7) hs (Nat.pow_lt_pow_right (by omega) (by omega))
      unfold pcw
      by_cases g0 : a (60 + (dg - 1)) = 0 <;> cases g1 : s.testBit (dg - 1) <;> cases g2 : t.testBit (a 1 - (j + 1)) <;> cases g3 : pml a (a 1 - (j + 1)) (dg - 1) <;>
      simp (disch := omega) only [eX7_warmBy_0, eX7_warmBy_1, eX7_warmBy_4, eX7_warmBy_5, eX7_warmBy_6, eX7_warmBy_7, eX7_warmBy_8, eX7_warmBy_10, eX7_warmBy_11, eX7_warmBy_13, eX7_warmBy_14, eX7_warmBy_16, eX7_warmBy_17, eX7_warmBy_19, eX7_warmBy_20, eX7_warmBy_22, eX7_warmBy_23, eX7_warmBy_27, eX7_warmBy_28, eX7_warmBy_31, eX7_warmBy_32, eX7_warmBy_33, eX7_warmBy_36, eX7_warmBy_37, eX7_warmBy_39, eX7_warmBy_40, eX7_warmBy_42, eX7_warmBy_43, eX7_warmBy_44, eX7_warmBy_45, eX7_warmBy_47, eX7_warmBy_49, eX7_warmBy_52, eX7_warmBy_54, eX7_warmBy_56, eX7_warmBy_59, eX7_warmBy_62, eX7_warmBy_63, eX7_warmBy_65, eX7_warmBy_68, eX7_warmBy_71, eX7_warmBy_72, eX7_warmBy_74, eX7_warmBy_77, eX7_warmBy_80, eX7_warmBy_81, eX7_warmBy_83, eX7_warmBy_85, eX7_warmBy_88, eX7_warmBy_91, eX7_warmBy_92, eX7_warmBy_93, eX7_warmBy_95, eX7_warmBy_96, eX7_warmBy_98, eX7_warmBy_99, eX7_warmBy_100, eX7_warmBy_102, eX7_warmBy_104, eX7_warmBy_105, eX7_warmBy_107, eX7_warmBy_110, eX7_warmBy_111, eX7_warmBy_113, eX7_warmBy_115, eX7_warmBy_117, eX7_warmBy_118, eX7_warmBy_120, eX7_warmBy_123, eX7_warmBy_128, hK, e2, e3, e4, e5, hmb, hg2, sm_has, sm_warmOf hm hf hw, g0, g1, g2, g3, ih2, nI_shl, nI_or, rd6, wr6, rd7, wr7, rd8, wr8, rd9, wr9, rd10, wr10, rd11, wr11, rd12, wr12, rd14, wr14, rd15, wr15, rd16, wr16, rd17, wr17, rd18, wr18, rd19, wr19, rd20, wr20, rd23, wr23, rd24, wr24, rd26, wr26, rd27, wr27, rd28, wr28, rd29, wr29, rd30, wr30, rd64, wr64, rd65, wr65, rd67, wr67, rd68, wr68, rd69, wr69, rd70, wr70, rd71, wr71, rd72, wr72, rd73, wr73, rb4, rb66, wb4, wb66, rdR, wrR, lenR, len1, len21, ofNat_nI, not_true_eq_false, not_false_eq_true, zok1, zok0, Bool.false_eq_true, zpush_s, zpush_n, Option.bind_some, Option.bind_none, ite_true, ite_false, if_true, if_false, reduceIte, nI_add, pk_mul, ob0, ob2, ob3, ob22, ob25, ob63, Nat.reduceEqDiff, Nat.reduceAdd, Nat.reduceMul, Nat.reduceSub, jLeT, jLeF, jLtT, jLtF, jEqT, jEqF, jNeT, jNeF, iZF, iZT, nI_sub2, nI_dec, nLtT, nLtF, nLeT, nLeF, nEqF, nNeT, ob5, ob13, zbt_t, zbt_f, ne_eq, decide_true, decide_false, Bool.false_and, Bool.true_and, Bool.not_true, Bool.not_false, Bool.and_true, Bool.and_false, Bool.and_self, Option.map_none, Option.map_map, zov, Function.comp_def, Nat.add_assoc]
theorem sm_warmBy {d t r : Nat} {μ : Zm} {a : Nat → Nat} (hm : MS μ a) (hf : WF a) (ht : t < 32) (hr : r < 100000) : zC true (d + 5) mX7_warmBy [.ref 63, .int (nI r), .int (nI ((a 3 + 1) ^ a 1)), .int (nI t)] μ = some (some (.int (zov (pwv a t (a 1) 0 r))), μ) := by
  have hW := hm.2.2.2.1
  have h1 := hf.1
  have h3 := hf.2.2.1
  have hb2 := b_le (j := a 1) hf (by omega)
  have e5 : nI ((a 3 + 1) ^ a 1) / nI (a 3 + 1) = nI ((a 3 + 1) ^ a 1 / (a 3 + 1)) := nI_div (by omega) (by omega)
  have hl := sm_warmLoop (d := d) (rows := .int (nI ((a 3 + 1) ^ a 1))) hm hf ht hr (a 1) (Nat.le_refl _) 0 0 zjk (by omega) (by omega)
  rw [Nat.sub_self] at hl
  have e6 : (pwv a t (a 1) 0 r).map (fun v => 0 + v) = pwv a t (a 1) 0 r := by cases pwv a t (a 1) 0 r <;> simp
  rw [e6] at hl
  rw [nX7_warmBy]
  simp (disch := omega) only [eX7_warmBy_0, eX7_warmBy_1, eX7_warmBy_4, eX7_warmBy_5, eX7_warmBy_6, eX7_warmBy_7, eX7_warmBy_8, eX7_warmBy_10, eX7_warmBy_11, eX7_warmBy_13, eX7_warmBy_14, eX7_warmBy_16, eX7_warmBy_17, eX7_warmBy_19, eX7_warmBy_20, eX7_warmBy_22, eX7_warmBy_23, hW, e5, hl, rd6, wr6, rd7, wr7, rd8, wr8, rd9, wr9, rd10, wr10, rd11, wr11, rd12, wr12, rd14, wr14, rd15, wr15, rd16, wr16, rd17, wr17, rd18, wr18, rd19, wr19, rd20, wr20, rd23, wr23, rd24, wr24, rd26, wr26, rd27, wr27, rd28, wr28, rd29, wr29, rd30, wr30, rd64, wr64, rd65, wr65, rd67, wr67, rd68, wr68, rd69, wr69, rd70, wr70, rd71, wr71, rd72, wr72, rd73, wr73, rb4, rb66, wb4, wb66, rdR, wrR, lenR, len1, len21, ofNat_nI, not_true_eq_false, not_false_eq_true, zok1, zok0, Bool.false_eq_true, zpush_s, zpush_n, Option.bind_some, Option.bind_none, ite_true, ite_false, if_true, if_false, reduceIte, nI_add, pk_mul, ob0, ob2, ob3, ob22, ob25, ob63, Nat.reduceEqDiff, Nat.reduceAdd, Nat.reduceMul, Nat.reduceSub, jLeT, jLeF, jLtT, jLtF, jEqT, jEqF, jNeT, jNeF, iZF, iZT, nI_sub2, nI_dec, nLtT, nLtF, nLeT, nLeF, nEqF, nNeT, ob5, ob13]
/-- the first best of the rows below n -/
def pbt : Option Nat → Option Nat → Bool
  | none, _ => false
  | some _, none => true
  | some v, some m => decide (m < v)
def pbs (f : Nat → Option Nat) : Nat → Option Nat × Nat
  | 0 => (none, 0)
  | n + 1 => if pbt (f n) (pbs f n).1 = true then (f n, n) else pbs f n
theorem pbs_best {f : Nat → Option Nat} {m r : Nat} (h1 : ∀ i v, f i = some v → v ≤ m) (h2 : f r = some m) (h3 : ∀ i, i < r → f i ≠ some m) : ∀ n, (n ≤ r → ∀ v, (pbs f n).1 = some v → v < m) ∧ (r < n → pbs f n = (some m, r))
  | 0 => ⟨fun _ v h => (by cases h), fun h => by omega⟩
  | n + 1 => by
    have ⟨i1, i2⟩ := pbs_best h1 h2 h3 n
    constructor
    · intro hn v hv
      rw [pbs] at hv
      split at hv
      · have e1 := h1 n v hv
        have e2 := h3 n (by omega)
        (try dsimp only at hv)
        rw [hv] at e2
        have : v ≠ m := fun q => e2 (by rw [q])
        omega
      · exact i1 (by omega) v hv
    · intro hn
      rw [pbs]
      by_cases e : r = n
      · subst e
        have e1 := i1 (Nat.le_refl _)
        have : pbt (f r) (pbs f r).1 = true := by
          rw [h2]
          cases q : (pbs f r).1 with
          | none => rfl
          | some v => exact decide_eq_true (e1 v q)
        rw [if_pos this, h2]
      · have e2 := i2 (by omega)
        rw [e2]
        have : ¬ pbt (f n) (some m) = true := by
          cases q : f n with
          | none => exact fun h => by cases h
          | some v =>
            have := h1 n v q
            exact fun h => by
              have := of_decide_eq_true h
              omega
        rw [if_neg this]
/-- the best row of the last j, so many taken -/
def prw (a : Nat → Nat) (t : Nat) : Nat → Nat → Nat
  | 0, _ => 0
  | j + 1, s => if pfw a t j s = 999 then prw a t j s else (pfw a t j s + 1) * (a 3 + 1) ^ j + prw a t j (s ||| 2 ^ pfw a t j s)
theorem pfw_sp {a : Nat → Nat} {t j s : Nat} (hf : WF a) : (pfw a t j s = 999 ∧ pM a t j s = pM a t (j + 1) s) ∨ (pfw a t j s ≠ 999 ∧ pfw a t j s < a 3 ∧ (pcw a t (a 1 - (j + 1)) (pfw a t j s) && !s.testBit (pfw a t j s)) = true ∧ pwarm a (pfw a t j s) + pM a t j (s ||| 2 ^ pfw a t j s) = pM a t (j + 1) s ∧ pM a t j s ≠ pM a t (j + 1) s ∧ ∀ w, w < pfw a t j s → (pcw a t (a 1 - (j + 1)) w && !s.testBit w) = true → pwarm a w + pM a t j (s ||| 2 ^ w) ≠ pM a t (j + 1) s) := by
  have h3 := hf.2.2.1
  by_cases q : pM a t j s = pM a t (j + 1) s
  · left
    refine ⟨?_, q⟩
    unfold pfw
    rw [if_pos q]
  · right
    have e : pfw a t j s = nfst (fun w => (pcw a t (a 1 - (j + 1)) w && !s.testBit w) && decide (pwarm a w + pM a t j (s ||| 2 ^ w) = pM a t (j + 1) s)) (a 3) := by
      unfold pfw
      rw [if_neg q]
    have hne : nfst (fun w => (pcw a t (a 1 - (j + 1)) w && !s.testBit w) && decide (pwarm a w + pM a t j (s ||| 2 ^ w) = pM a t (j + 1) s)) (a 3) ≠ 999 := by
      intro c
      have hn := nfst_n (a 3) (by omega) c
      rcases (pmx_ge (ok := fun w => pcw a t (a 1 - (j + 1)) w && !s.testBit w) (val := fun w => pwarm a w + pM a t j (s ||| 2 ^ w)) (b := pM a t j s) (a 3)).2.2 with h | ⟨i, hi, ho, h⟩
      · exact q (by rw [pM]; exact h.symm)
      · have := hn i hi
        (try dsimp only at this ho h)
        rw [ho, Bool.true_and] at this
        have := of_decide_eq_false this
        exact this (by rw [pM]; exact h)
    have ⟨s1, s2, s3⟩ := nfst_s (a 3) (by omega) hne
    rw [← e] at s1 s2 s3 hne
    rw [Bool.and_eq_true] at s2
    refine ⟨hne, s1, s2.1, of_decide_eq_true s2.2, q, fun w hw ho c => ?_⟩
    have := s3 w hw
    (try dsimp only at this)
    rw [ho, Bool.true_and] at this
    exact of_decide_eq_false this c
theorem prw_lt {a : Nat → Nat} {t : Nat} (hf : WF a) : ∀ j s, prw a t j s < (a 3 + 1) ^ j
  | 0, _ => by rw [prw]; exact b_pos
  | j + 1, s => by
    rw [prw, Nat.pow_succ]
    have hb := b_pos (a := a) (j := j)
    rcases pfw_sp (t := t) (j := j) (s := s) hf with ⟨q, _⟩ | ⟨q, hw, _⟩
    · rw [if_pos q]
      have := prw_lt (t := t) hf j s
      calc prw a t j s < (a 3 + 1) ^ j := this
        _ = (a 3 + 1) ^ j * 1 := (Nat.mul_one _).symm
        _ ≤ (a 3 + 1) ^ j * (a 3 + 1) := Nat.mul_le_mul_left _ (by omega)
    · rw [if_neg q]
      have := prw_lt (t := t) hf j (s ||| 2 ^ pfw a t j s)
      calc (pfw a t j s + 1) * (a 3 + 1) ^ j + prw a t j (s ||| 2 ^ pfw a t j s) < (pfw a t j s + 1) * (a 3 + 1) ^ j + (a 3 + 1) ^ j := by omega
        _ = (a 3 + 1) ^ j * (pfw a t j s + 2) := by rw [Nat.mul_comm ((a 3 + 1) ^ j), Nat.add_mul, Nat.add_mul]; omega
        _ ≤ (a 3 + 1) ^ j * (a 3 + 1) := Nat.mul_le_mul_left _ (by omega)
theorem p_dig {b B q d x : Nat} (hb : 0 < B) (hx : x < B) (hd : d < b) : ((q * b + d) * B + x) / B % b = d := by
  rw [Nat.add_comm, Nat.add_mul_div_right _ _ hb, Nat.div_eq_of_lt hx, Nat.zero_add, Nat.add_comm, Nat.add_mul_mod_self_right, Nat.mod_eq_of_lt hd]
theorem pwv_le {a : Nat → Nat} {t : Nat} (hf : WF a) : ∀ j s r v, pwv a t j s r = some v → v ≤ pM a t j s
  | 0, _, _, v, h => by cases h; exact Nat.zero_le _
  | j + 1, s, r, v, h => by
    have ih := pwv_le (t := t) hf j
    have ⟨g1, g2, _⟩ := pmx_ge (ok := fun w => pcw a t (a 1 - (j + 1)) w && !s.testBit w) (val := fun w => pwarm a w + pM a t j (s ||| 2 ^ w)) (b := pM a t j s) (a 3)
    have hd : r / (a 3 + 1) ^ j % (a 3 + 1) < a 3 + 1 := Nat.mod_lt _ (by omega)
    rw [pwv] at h
    rw [pM]
    generalize r / (a 3 + 1) ^ j % (a 3 + 1) = dg at h hd
    split at h
    · exact Nat.le_trans (ih s r v h) g1
    · split at h
      · next q0 q1 =>
        cases hp : pwv a t j (s ||| 2 ^ (dg - 1)) r with
        | none => rw [hp] at h; cases h
        | some u =>
          rw [hp] at h
          cases h
          have := ih _ _ _ hp
          have := g2 (dg - 1) (by omega) q1
          show pwarm a (dg - 1) + u ≤ _
          have this : pwarm a (dg - 1) + pM a t j (s ||| 2 ^ (dg - 1)) ≤ _ := this
          omega
      · cases h
theorem pwv_b {a : Nat → Nat} {t : Nat} (hf : WF a) : ∀ j s q, pwv a t j s (q * (a 3 + 1) ^ j + prw a t j s) = some (pM a t j s)
  | 0, _, _ => rfl
  | j + 1, s, q => by
    have ih := pwv_b (t := t) hf j
    have hb := b_pos (a := a) (j := j)
    rw [pwv, prw]
    rcases pfw_sp (t := t) (j := j) (s := s) hf with ⟨q1, q2⟩ | ⟨q1, hw, ho, hv, _, _⟩
    · rw [if_pos q1]
      have e : q * (a 3 + 1) ^ (j + 1) + prw a t j s = (q * (a 3 + 1) + 0) * (a 3 + 1) ^ j + prw a t j s := by
        rw [Nat.pow_succ, show q * (a 3 + 1) + 0 = q * (a 3 + 1) from rfl, Nat.mul_assoc, Nat.mul_comm (a 3 + 1)]
      rw [e, p_dig hb (prw_lt hf j s) (by omega), if_pos rfl, ih, q2]
    · rw [if_neg q1]
      have e : q * (a 3 + 1) ^ (j + 1) + ((pfw a t j s + 1) * (a 3 + 1) ^ j + prw a t j (s ||| 2 ^ pfw a t j s)) = (q * (a 3 + 1) + (pfw a t j s + 1)) * (a 3 + 1) ^ j + prw a t j (s ||| 2 ^ pfw a t j s) := by
        rw [Nat.add_mul (q * (a 3 + 1)), Nat.pow_succ, Nat.mul_assoc, Nat.mul_comm (a 3 + 1)]
        omega
      rw [e, p_dig hb (prw_lt hf j _) (by omega), if_neg (by omega), Nat.add_sub_cancel, if_pos ho, ih, Option.map_some, hv]
theorem pwv_c {a : Nat → Nat} {t : Nat} (hf : WF a) : ∀ j s q x, x < prw a t j s → pwv a t j s (q * (a 3 + 1) ^ j + x) ≠ some (pM a t j s)
  | 0, _, _, _, h => by rw [prw] at h; omega
  | j + 1, s, q, x, h => by
    have ih := pwv_c (t := t) hf j
    have hb := b_pos (a := a) (j := j)
    have hlt := prw_lt (t := t) hf (j + 1) s
    have ⟨g1, g2, _⟩ := pmx_ge (ok := fun w => pcw a t (a 1 - (j + 1)) w && !s.testBit w) (val := fun w => pwarm a w + pM a t j (s ||| 2 ^ w)) (b := pM a t j s) (a 3)
    have ex : x = x / (a 3 + 1) ^ j * (a 3 + 1) ^ j + x % (a 3 + 1) ^ j := by
      have := Nat.div_add_mod x ((a 3 + 1) ^ j)
      rw [Nat.mul_comm] at this
      exact this.symm
    have hx' : x % (a 3 + 1) ^ j < (a 3 + 1) ^ j := Nat.mod_lt _ hb
    have hD : x / (a 3 + 1) ^ j < a 3 + 1 := by
      rw [Nat.div_lt_iff_lt_mul hb]
      have : (a 3 + 1) ^ (j + 1) = (a 3 + 1) * (a 3 + 1) ^ j := by rw [Nat.pow_succ, Nat.mul_comm]
      omega
    generalize x / (a 3 + 1) ^ j = D at ex hD
    generalize x % (a 3 + 1) ^ j = x' at ex hx'
    have e : q * (a 3 + 1) ^ (j + 1) + x = (q * (a 3 + 1) + D) * (a 3 + 1) ^ j + x' := by
      rw [ex, Nat.add_mul (q * (a 3 + 1)), Nat.pow_succ, Nat.mul_assoc, Nat.mul_comm (a 3 + 1)]
      omega
    rw [e, pwv, p_dig hb hx' hD]
    rw [prw] at h
    rcases pfw_sp (t := t) (j := j) (s := s) hf with ⟨q1, q2⟩ | ⟨q1, hw, ho, hv, hne, hfst⟩
    · rw [if_pos q1] at h
      have l1 := prw_lt (t := t) hf j s
      have D0 : D = 0 := by
        cases D with
        | zero => rfl
        | succ D =>
          rw [Nat.succ_mul] at ex
          omega
      subst D0
      rw [if_pos rfl, ← q2]
      rw [Nat.zero_mul, Nat.zero_add] at ex
      exact ih s _ _ (by omega)
    · rw [if_neg q1] at h
      by_cases D0 : D = 0
      · rw [if_pos D0]
        intro c
        have l1 := pwv_le hf _ _ _ _ c
        have l2 : pM a t j s ≤ pM a t (j + 1) s := by rw [pM]; exact g1
        omega
      · rw [if_neg D0]
        split
        · next ho2 =>
          intro c
          cases hp : pwv a t j (s ||| 2 ^ (D - 1)) ((q * (a 3 + 1) + D) * (a 3 + 1) ^ j + x') with
          | none => rw [hp] at c; cases c
          | some u =>
            rw [hp, Option.map_some] at c
            have c := Option.some.inj c
            have l1 := pwv_le hf _ _ _ _ hp
            have l2 : pwarm a (D - 1) + pM a t j (s ||| 2 ^ (D - 1)) ≤ pM a t (j + 1) s := by rw [pM]; exact g2 (D - 1) (by omega) ho2
            by_cases eD : D - 1 = pfw a t j s
            · have l3 := prw_lt (t := t) hf j (s ||| 2 ^ pfw a t j s)
              have eD2 : D = pfw a t j s + 1 := by omega
              rw [← eD2] at h
              refine ih (s ||| 2 ^ (D - 1)) (q * (a 3 + 1) + D) x' (by rw [eD]; omega) ?_
              rw [hp]
              congr 1
              omega
            · have hlt2 : D - 1 < pfw a t j s := by
                rcases Nat.lt_or_ge (D - 1) (pfw a t j s) with h5 | h5
                · exact h5
                · exfalso
                  have h6 : pfw a t j s + 2 ≤ D := by omega
                  have h7 := Nat.mul_le_mul_right ((a 3 + 1) ^ j) h6
                  have l3 := prw_lt (t := t) hf j (s ||| 2 ^ pfw a t j s)
                  have h8 : (pfw a t j s + 2) * (a 3 + 1) ^ j = (pfw a t j s + 1) * (a 3 + 1) ^ j + (a 3 + 1) ^ j := by rw [Nat.add_mul, Nat.add_mul]; omega
                  omega
              have := hfst (D - 1) hlt2 ho2
              omega
        · exact fun c => by cases c
theorem pbs_w {a : Nat → Nat} {t : Nat} (hf : WF a) : pbs (pwv a t (a 1) 0) ((a 3 + 1) ^ a 1) = (some (pM a t (a 1) 0), prw a t (a 1) 0) := by
  have hb := pwv_b (t := t) hf (a 1) 0 0
  rw [Nat.zero_mul, Nat.zero_add] at hb
  refine (pbs_best (f := pwv a t (a 1) 0) (m := pM a t (a 1) 0) (r := prw a t (a 1) 0) (fun i v h => pwv_le hf _ _ _ _ h) hb (fun i hi => ?_) ((a 3 + 1) ^ a 1)).2 (prw_lt hf _ _)
  have := pwv_c hf (a 1) 0 0 i hi
  rwa [Nat.zero_mul, Nat.zero_add] at this
/-- the figures of the best row -/
theorem prw_q {a : Nat → Nat} {t : Nat} (hf : WF a) : ∀ k, k ≤ a 1 → ∃ q, prw a t (a 1) 0 = q * (a 3 + 1) ^ (a 1 - k) + prw a t (a 1 - k) (ptk a t k)
  | 0, _ => ⟨0, by rw [Nat.zero_mul, Nat.zero_add, Nat.sub_zero, ptk]⟩
  | k + 1, hk => by
    obtain ⟨q, hq⟩ := prw_q (t := t) hf k (by omega)
    have e : a 1 - k = (a 1 - (k + 1)) + 1 := by omega
    rw [e, prw] at hq
    rw [hq, ptk]
    by_cases h : pfw a t (a 1 - (k + 1)) (ptk a t k) = 999
    · rw [if_pos h, if_pos h]
      exact ⟨q * (a 3 + 1), by rw [Nat.pow_succ, Nat.mul_assoc, Nat.mul_comm (a 3 + 1)]⟩
    · rw [if_neg h, if_neg h]
      refine ⟨q * (a 3 + 1) + (pfw a t (a 1 - (k + 1)) (ptk a t k) + 1), ?_⟩
      rw [Nat.add_mul (q * (a 3 + 1)), Nat.pow_succ, Nat.mul_assoc, Nat.mul_comm (a 3 + 1)]
      omega
theorem prw_d {a : Nat → Nat} {t k : Nat} (hf : WF a) (hk : k < a 1) : prw a t (a 1) 0 / (a 3 + 1) ^ (a 1 - (k + 1)) % (a 3 + 1) = if pfw a t (a 1 - (k + 1)) (ptk a t k) = 999 then 0 else pfw a t (a 1 - (k + 1)) (ptk a t k) + 1 := by
  obtain ⟨q, hq⟩ := prw_q (t := t) hf k (by omega)
  have hb := b_pos (a := a) (j := a 1 - (k + 1))
  have e : a 1 - k = (a 1 - (k + 1)) + 1 := by omega
  rw [e, prw] at hq
  rw [hq]
  by_cases h : pfw a t (a 1 - (k + 1)) (ptk a t k) = 999
  · rw [if_pos h, if_pos h]
    have e2 : q * (a 3 + 1) ^ (a 1 - (k + 1) + 1) = (q * (a 3 + 1) + 0) * (a 3 + 1) ^ (a 1 - (k + 1)) := by
      rw [Nat.pow_succ, show q * (a 3 + 1) + 0 = q * (a 3 + 1) from rfl, Nat.mul_assoc, Nat.mul_comm (a 3 + 1)]
    rw [e2]
    exact p_dig hb (prw_lt hf _ _) (by omega)
  · rw [if_neg h, if_neg h]
    have hw := (pfw_lt (t := t) (j := a 1 - (k + 1)) (s := ptk a t k) hf).resolve_left h
    have e2 : q * (a 3 + 1) ^ (a 1 - (k + 1) + 1) + ((pfw a t (a 1 - (k + 1)) (ptk a t k) + 1) * (a 3 + 1) ^ (a 1 - (k + 1)) + prw a t (a 1 - (k + 1)) (ptk a t k ||| 2 ^ pfw a t (a 1 - (k + 1)) (ptk a t k))) = (q * (a 3 + 1) + (pfw a t (a 1 - (k + 1)) (ptk a t k) + 1)) * (a 3 + 1) ^ (a 1 - (k + 1)) + prw a t (a 1 - (k + 1)) (ptk a t k ||| 2 ^ pfw a t (a 1 - (k + 1)) (ptk a t k)) := by
      rw [Nat.add_mul (q * (a 3 + 1)), Nat.pow_succ, Nat.mul_assoc, Nat.mul_comm (a 3 + 1)]
      omega
    rw [e2]
    exact p_dig hb (prw_lt hf _ _) (by omega)
