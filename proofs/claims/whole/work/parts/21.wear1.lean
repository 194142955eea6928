/-! ===== wear: the class ===== -/
theorem zloopP {α β : Type} (h : Nat → β → α) (P : Nat → β → Prop) (n : Nat) (hs : ∀ i j, i < n → P i j → ∃ j', P (i + 1) j' ∧ h i j = h (i + 1) j') : ∀ j, P 0 j → ∃ j', P n j' ∧ h 0 j = h n j' := by
  have key : ∀ k, k ≤ n → ∀ j, P 0 j → ∃ j', P k j' ∧ h 0 j = h k j' := by
    intro k
    induction k with
    | zero => exact fun _ j hj => ⟨j, hj, rfl⟩
    | succ k ih =>
      intro hk j hj
      obtain ⟨j1, p1, q1⟩ := ih (by omega) j hj
      obtain ⟨j2, p2, q2⟩ := hs k j1 (by omega) p1
      exact ⟨j2, p2, q1.trans q2⟩
  exact key n (Nat.le_refl _)
theorem CV_eq {μ μ' : Zm} {v : Nat} {a : Nat → Nat} (h : ∀ c i, v ≤ c → c ≤ v + 7 → μ' c i = μ c i) (hc : CV μ v a) : CV μ' v a := by
  unfold CV at hc ⊢
  obtain ⟨h1, h2, h3, h4, h5, h6⟩ := hc
  refine ⟨(h _ _ (by omega) (by omega)).trans h1, (h _ _ (by omega) (by omega)).trans h2, (h _ _ (by omega) (by omega)).trans h3, (h _ _ (by omega) (by omega)).trans h4, fun w hw => ?_, fun s hs => ?_⟩
  · obtain ⟨q1, q2, q3⟩ := h5 w hw
    exact ⟨(h _ _ (by omega) (by omega)).trans q1, (h _ _ (by omega) (by omega)).trans q2, (h _ _ (by omega) (by omega)).trans q3⟩
  · obtain ⟨q1, q2, q3, q4⟩ := h6 s hs
    exact ⟨(h _ _ (by omega) (by omega)).trans q1, (h _ _ (by omega) (by omega)).trans q2, (h _ _ (by omega) (by omega)).trans q3, (h _ _ (by omega) (by omega)).trans q4⟩
theorem zV5 : zV 5 := Or.inl rfl
theorem pwarm_le {a : Nat → Nat} {w : Nat} (hf : WF a) (hw : w < a 3) : pwarm a w ≤ 101 := by
  have := (hf.2.2.2.2.1 w hw).2.2.1
  unfold pwarm
  repeat' split
  all_goals omega
def pcw (a : Nat → Nat) (t k w : Nat) : Bool := decide (a (60 + w) ≠ 0) && !(t.testBit k && pml a k w)
def pch (a : Nat → Nat) (t k : Nat) : Nat := nor (pcw a t k) (a 3)
def pmx (ok : Nat → Bool) (val : Nat → Nat) (b : Nat) : Nat → Nat
  | 0 => b
  | n + 1 => if ok n = true then (if pmx ok val b n < val n then val n else pmx ok val b n) else pmx ok val b n
def pM (a : Nat → Nat) (t : Nat) : Nat → Nat → Nat
  | 0, _ => 0
  | j + 1, s => pmx (fun w => pcw a t (a 1 - (j + 1)) w && !s.testBit w) (fun w => pwarm a w + pM a t j (s ||| 2 ^ w)) (pM a t j s) (a 3)
theorem pmx_ge {ok : Nat → Bool} {val : Nat → Nat} {b : Nat} : ∀ n, b ≤ pmx ok val b n ∧ (∀ i, i < n → ok i = true → val i ≤ pmx ok val b n) ∧ (pmx ok val b n = b ∨ ∃ i, i < n ∧ ok i = true ∧ val i = pmx ok val b n)
  | 0 => ⟨Nat.le_refl _, fun i hi => by omega, Or.inl rfl⟩
  | n + 1 => by
    have ⟨h1, h2, h3⟩ := pmx_ge (ok := ok) (val := val) (b := b) n
    rw [pmx]
    split
    · next q =>
      split
      · next q2 =>
        refine ⟨by omega, fun i hi ho => ?_, Or.inr ⟨n, by omega, q, rfl⟩⟩
        by_cases e : i = n
        · rw [e]; exact Nat.le_refl _
        · have := h2 i (by omega) ho; omega
      · next q2 =>
        refine ⟨h1, fun i hi ho => ?_, h3.imp id (fun ⟨i, q⟩ => ⟨i, by omega, q.2⟩)⟩
        by_cases e : i = n
        · rw [e]; omega
        · exact h2 i (by omega) ho
    · next q =>
      refine ⟨h1, fun i hi ho => ?_, h3.imp id (fun ⟨i, q⟩ => ⟨i, by omega, q.2⟩)⟩
      by_cases e : i = n
      · rw [e] at ho; exact absurd ho q
      · exact h2 i (by omega) ho
theorem pM_le {a : Nat → Nat} {t : Nat} (hf : WF a) : ∀ j s, pM a t j s ≤ j * 101
  | 0, _ => Nat.zero_le _
  | j + 1, s => by
    have ih := pM_le (t := t) hf j
    rw [pM]
    rcases (pmx_ge (ok := fun w => pcw a t (a 1 - (j + 1)) w && !s.testBit w) (val := fun w => pwarm a w + pM a t j (s ||| 2 ^ w)) (b := pM a t j s) (a 3)).2.2 with h | ⟨i, hi, _, h⟩
    · rw [h]
      have := ih s
      omega
    · rw [← h]
      have h1 := ih (s ||| 2 ^ i)
      have h2 := pwarm_le hf hi
      show pwarm a i + pM a t j (s ||| 2 ^ i) ≤ _
      omega
def zn1 (n : Nat) : Int32 := if n = 999 then -1 else nI n
/-- whom the first of the last j + 1 is to wear (999: none), so many taken -/
def pfw (a : Nat → Nat) (t j s : Nat) : Nat := if pM a t j s = pM a t (j + 1) s then 999 else nfst (fun w => (pcw a t (a 1 - (j + 1)) w && !s.testBit w) && decide (pwarm a w + pM a t j (s ||| 2 ^ w) = pM a t (j + 1) s)) (a 3)
/-- what is taken ahead of knitter k -/
def ptk (a : Nat → Nat) (t : Nat) : Nat → Nat
  | 0 => 0
  | k + 1 => if pfw a t (a 1 - (k + 1)) (ptk a t k) = 999 then ptk a t k else ptk a t k ||| 2 ^ pfw a t (a 1 - (k + 1)) (ptk a t k)
def FC (μ μ' : Zm) (a : Nat → Nat) (t : Nat) : Prop := (∀ c i, c < 25 ∨ 29 < c → μ' c i = μ c i) ∧ μ' 25 4 = nI (a 1) ∧ μ' 25 5 = nI (a 3) ∧ (∀ w, w < a 3 → μ' 26 w = nI (pwarm a w)) ∧ (∀ k, k < a 1 → μ' 27 k = nI (pch a t k))
def LV (μ' : Zm) (a : Nat → Nat) (t k j : Nat) : Prop := ∀ s, s < 2 ^ a 3 → npop s ≤ k → μ' 28 (k * 128 + s) = nI (pM a t j s)
set_option maxRecDepth 100000 in
theorem pnot : ∀ c s : Fin 128, nI c.1 &&& (nI s.1 ^^^ (-1 : Int32)) = nI (c.1 &&& (127 ^^^ s.1)) := by decide +kernel
theorem t127 : ∀ w : Fin 7, Nat.testBit 127 w.1 = true := by decide
set_option maxRecDepth 100000 in
theorem por128 : ∀ k : Fin 6, ∀ s : Fin 128, ∀ w : Fin 7, (k.1 * 128 + s.1) ||| 2 ^ w.1 = k.1 * 128 + (s.1 ||| 2 ^ w.1) := by decide +kernel
set_option maxRecDepth 100000 in
theorem npop_or : ∀ s : Fin 128, ∀ w : Fin 7, npop (s.1 ||| 2 ^ w.1) ≤ npop s.1 + 1 := by decide +kernel
theorem sp_choiceOf {d k : Nat} {b : Bool} {μ : Zm} {a : Nat → Nat} (hc : CV μ 5 a) (hf : WF a) (hk : k < 5) : zC true (d + 3) mX1_choiceOf [.ref 5, .int (nI k), .int (zbt b)] μ = some (some (.int (nI (nor (fun w => decide (a (60 + w) ≠ 0) && !(b && pml a k w)) (a 3)))), μ) := by
  have hW := hc.2.2.1
  have h3 := hf.2.2.1
  have hs : ∀ w, w < a 3 → zC true (d + 2) mX5_mayLie [.ref 5, .int (nI k), .int (nI w), .int (nI 0)] μ = some (some (.int (zbt (pml a k w))), μ) := by
    intro w hw
    rw [sp_mayLie zV5 hc hf hw hk (by omega)]
    simp
  have hl := zloop (fun i => zA (d + 2) mX1_choiceOf 5 [.ref 5, .int (nI k), .int (zbt b), .int (nI (nor (fun w => decide (a (60 + w) ≠ 0) && !(b && pml a k w)) i)), .int (nI i)] [] μ) (a 3) (fun i hi => by
    rw [eX1_choiceOf_5, nor]
    cases b <;> by_cases q1 : a (60 + i) = 0 <;> cases q2 : pml a k i <;>
    simp (disch := omega) only [eX1_choiceOf_0, eX1_choiceOf_1, eX1_choiceOf_2, eX1_choiceOf_3, eX1_choiceOf_7, eX1_choiceOf_8, eX1_choiceOf_11, eX1_choiceOf_14, eX1_choiceOf_15, eX1_choiceOf_17, eX1_choiceOf_20, eX1_choiceOf_23, eX1_choiceOf_24, eX1_choiceOf_27, eX1_choiceOf_28, eX1_choiceOf_29, eX1_choiceOf_31, eX1_choiceOf_32, eX1_choiceOf_35, eX1_choiceOf_38, eX1_choiceOf_39, eX1_choiceOf_40, eX1_choiceOf_42, eX1_choiceOf_43, eX1_choiceOf_44, eX1_choiceOf_45, eX1_choiceOf_48, eX1_choiceOf_51, eX1_choiceOf_52, sp_isGone zV5 hc hf, hs, hW, q1, q2, nI_shl, nI_or, zbt_t, zbt_f, rd6, wr6, rd7, wr7, rd8, wr8, rd9, wr9, rd10, wr10, rd11, wr11, rd12, wr12, rd14, wr14, rd15, wr15, rd16, wr16, rd17, wr17, rd18, wr18, rd19, wr19, rd20, wr20, rd23, wr23, rd24, wr24, rd26, wr26, rd27, wr27, rd28, wr28, rd29, wr29, rd30, wr30, rd64, wr64, rd65, wr65, rd67, wr67, rd68, wr68, rd69, wr69, rd70, wr70, rd71, wr71, rd72, wr72, rd73, wr73, rb4, rb66, wb4, wb66, rdR, wrR, lenR, len1, len21, ofNat_nI, not_true_eq_false, not_false_eq_true, zok1, zok0, Bool.false_eq_true, zpush_s, zpush_n, Option.bind_some, Option.bind_none, ite_true, ite_false, if_true, if_false, reduceIte, nI_add, pk_mul, ob0, ob2, ob3, ob22, ob25, ob63, Nat.reduceEqDiff, Nat.reduceAdd, Nat.reduceMul, Nat.reduceSub, jLeT, jLeF, jLtT, jLtF, jEqT, jEqF, jNeT, jNeF, iZF, iZT, nI_sub2, nI_dec, nLtT, nLtF, nLeT, nLeF, nEqF, nNeT, ob5, ob13, ne_eq, decide_true, decide_false, Bool.false_and, Bool.true_and, Bool.not_true, Bool.not_false, Bool.and_true, Bool.and_false, Bool.and_self])
  refine (nX1_choiceOf ..).trans ?_
  simp only [eX1_choiceOf_0, eX1_choiceOf_1, eX1_choiceOf_2, eX1_choiceOf_3]
  refine hl.trans ?_
  show zA (d + 2) mX1_choiceOf 5 _ _ _ = _
  rw [eX1_choiceOf_5]
  simp (disch := omega) only [eX1_choiceOf_0, eX1_choiceOf_1, eX1_choiceOf_2, eX1_choiceOf_3, eX1_choiceOf_7, eX1_choiceOf_8, eX1_choiceOf_11, eX1_choiceOf_14, eX1_choiceOf_15, eX1_choiceOf_17, eX1_choiceOf_20, eX1_choiceOf_23, eX1_choiceOf_24, eX1_choiceOf_27, eX1_choiceOf_28, eX1_choiceOf_29, eX1_choiceOf_31, eX1_choiceOf_32, eX1_choiceOf_35, eX1_choiceOf_38, eX1_choiceOf_39, eX1_choiceOf_40, eX1_choiceOf_42, eX1_choiceOf_43, eX1_choiceOf_44, eX1_choiceOf_45, eX1_choiceOf_48, eX1_choiceOf_51, eX1_choiceOf_52, hW, rd6, wr6, rd7, wr7, rd8, wr8, rd9, wr9, rd10, wr10, rd11, wr11, rd12, wr12, rd14, wr14, rd15, wr15, rd16, wr16, rd17, wr17, rd18, wr18, rd19, wr19, rd20, wr20, rd23, wr23, rd24, wr24, rd26, wr26, rd27, wr27, rd28, wr28, rd29, wr29, rd30, wr30, rd64, wr64, rd65, wr65, rd67, wr67, rd68, wr68, rd69, wr69, rd70, wr70, rd71, wr71, rd72, wr72, rd73, wr73, rb4, rb66, wb4, wb66, rdR, wrR, lenR, len1, len21, ofNat_nI, not_true_eq_false, not_false_eq_true, zok1, zok0, Bool.false_eq_true, zpush_s, zpush_n, Option.bind_some, Option.bind_none, ite_true, ite_false, if_true, if_false, reduceIte, nI_add, pk_mul, ob0, ob2, ob3, ob22, ob25, ob63, Nat.reduceEqDiff, Nat.reduceAdd, Nat.reduceMul, Nat.reduceSub, jLeT, jLeF, jLtT, jLtF, jEqT, jEqF, jNeT, jNeF, iZF, iZT, nI_sub2, nI_dec, nLtT, nLtF, nLeT, nLeF, nEqF, nNeT, ob5, ob13]
theorem sp_open {d t : Nat} {μ : Zm} {a : Nat → Nat} (hc : CV μ 5 a) (hf : WF a) (ht : t < 32) : ∃ μ', zC true (d + 4) mX1_open [.ref 25, .ref 5, .int (nI t)] μ = some (none, μ') ∧ FC μ μ' a t := by
  have hK := hc.1
  have hW := hc.2.2.1
  have h1 := hf.1
  have h3 := hf.2.2.1
  refine ⟨zfl (zfl (zup (zup μ 25 4 (nI (a 1))) 25 5 (nI (a 3))) 26 0 (a 3) (fun w => nI (pwarm a w))) 27 0 (a 1) (fun k => nI (pch a t k)), ?_, ?_⟩
  · have hl1 := zloop (fun i => zA (d + 3) mX1_open 18 [.ref 25, .ref 5, .int (nI t), .int (nI i)] [] (zfl (zup (zup μ 25 4 (nI (a 1))) 25 5 (nI (a 3))) 26 0 i (fun w => nI (pwarm a w)))) (a 3) (fun i hi => by
      have hc' : CV (zfl (zup (zup μ 25 4 (nI (a 1))) 25 5 (nI (a 3))) 26 0 i (fun w => nI (pwarm a w))) 5 a := CV_eq (fun c i h h' => by simp (disch := omega) only [zfl_o, zup_o]) hc
      rw [eX1_open_18]
      simp (disch := omega) only [eX1_open_0, eX1_open_1, eX1_open_2, eX1_open_5, eX1_open_8, eX1_open_9, eX1_open_10, eX1_open_13, eX1_open_16, eX1_open_17, eX1_open_19, eX1_open_20, eX1_open_23, eX1_open_26, eX1_open_27, eX1_open_30, eX1_open_31, eX1_open_32, eX1_open_33, eX1_open_36, eX1_open_37, eX1_open_40, eX1_open_43, eX1_open_44, eX1_open_45, eX1_open_46, eX1_open_47, eX1_open_50, eX1_open_53, eX1_open_54, eX1_open_57, eX1_open_58, eX1_open_59, eX1_open_60, eX1_open_61, eX1_open_62, eX1_open_65, eX1_open_68, eX1_open_69, eX1_open_72, eX1_open_75, sp_warmth zV5 hc' hf hi, zfl_o, zup_o, zup_s, rd6, wr6, rd7, wr7, rd8, wr8, rd9, wr9, rd10, wr10, rd11, wr11, rd12, wr12, rd14, wr14, rd15, wr15, rd16, wr16, rd17, wr17, rd18, wr18, rd19, wr19, rd20, wr20, rd23, wr23, rd24, wr24, rd26, wr26, rd27, wr27, rd28, wr28, rd29, wr29, rd30, wr30, rd64, wr64, rd65, wr65, rd67, wr67, rd68, wr68, rd69, wr69, rd70, wr70, rd71, wr71, rd72, wr72, rd73, wr73, rb4, rb66, wb4, wb66, rdR, wrR, lenR, len1, len21, ofNat_nI, not_true_eq_false, not_false_eq_true, zok1, zok0, Bool.false_eq_true, zpush_s, zpush_n, Option.bind_some, Option.bind_none, ite_true, ite_false, if_true, if_false, reduceIte, nI_add, pk_mul, ob0, ob2, ob3, ob22, ob25, ob63, Nat.reduceEqDiff, Nat.reduceAdd, Nat.reduceMul, Nat.reduceSub, jLeT, jLeF, jLtT, jLtF, jEqT, jEqF, jNeT, jNeF, iZF, iZT, nI_sub2, nI_dec, nLtT, nLtF, nLeT, nLeF, nEqF, nNeT, ob5, ob13]
      rw [zfl_s (Nat.zero_le _) rfl])
    have hl2 := zloop (fun i => zA (d + 3) mX1_open 45 [.ref 25, .ref 5, .int (nI t), .int (nI i)] [] (zfl (zfl (zup (zup μ 25 4 (nI (a 1))) 25 5 (nI (a 3))) 26 0 (a 3) (fun w => nI (pwarm a w))) 27 0 i (fun k => nI (pch a t k)))) (a 1) (fun i hi => by
      have hc' : CV (zfl (zfl (zup (zup μ 25 4 (nI (a 1))) 25 5 (nI (a 3))) 26 0 (a 3) (fun w => nI (pwarm a w))) 27 0 i (fun k => nI (pch a t k))) 5 a := CV_eq (fun c i h h' => by simp (disch := omega) only [zfl_o, zup_o]) hc
      have hp : nor (fun w => decide (a (60 + w) ≠ 0) && !(t.testBit i && pml a i w)) (a 3) = pch a t i := rfl
      rw [eX1_open_45]
      simp (disch := omega) only [eX1_open_0, eX1_open_1, eX1_open_2, eX1_open_5, eX1_open_8, eX1_open_9, eX1_open_10, eX1_open_13, eX1_open_16, eX1_open_17, eX1_open_18, eX1_open_19, eX1_open_20, eX1_open_23, eX1_open_26, eX1_open_27, eX1_open_30, eX1_open_31, eX1_open_32, eX1_open_33, eX1_open_36, eX1_open_37, eX1_open_40, eX1_open_43, eX1_open_44, eX1_open_46, eX1_open_47, eX1_open_50, eX1_open_53, eX1_open_54, eX1_open_57, eX1_open_58, eX1_open_59, eX1_open_60, eX1_open_61, eX1_open_62, eX1_open_65, eX1_open_68, eX1_open_69, eX1_open_72, eX1_open_75, sp_isIn, sp_choiceOf hc' hf, hp, zfl_o, zup_o, zup_s, rd6, wr6, rd7, wr7, rd8, wr8, rd9, wr9, rd10, wr10, rd11, wr11, rd12, wr12, rd14, wr14, rd15, wr15, rd16, wr16, rd17, wr17, rd18, wr18, rd19, wr19, rd20, wr20, rd23, wr23, rd24, wr24, rd26, wr26, rd27, wr27, rd28, wr28, rd29, wr29, rd30, wr30, rd64, wr64, rd65, wr65, rd67, wr67, rd68, wr68, rd69, wr69, rd70, wr70, rd71, wr71, rd72, wr72, rd73, wr73, rb4, rb66, wb4, wb66, rdR, wrR, lenR, len1, len21, ofNat_nI, not_true_eq_false, not_false_eq_true, zok1, zok0, Bool.false_eq_true, zpush_s, zpush_n, Option.bind_some, Option.bind_none, ite_true, ite_false, if_true, if_false, reduceIte, nI_add, pk_mul, ob0, ob2, ob3, ob22, ob25, ob63, Nat.reduceEqDiff, Nat.reduceAdd, Nat.reduceMul, Nat.reduceSub, jLeT, jLeF, jLtT, jLtF, jEqT, jEqF, jNeT, jNeF, iZF, iZT, nI_sub2, nI_dec, nLtT, nLtF, nLeT, nLeF, nEqF, nNeT, ob5, ob13]
      rw [zfl_s (Nat.zero_le _) rfl])
    rw [nX1_open]
    simp (disch := omega) only [eX1_open_0, eX1_open_1, eX1_open_2, eX1_open_5, eX1_open_8, eX1_open_9, eX1_open_10, eX1_open_13, eX1_open_16, eX1_open_17, hK, hW, zup_o, rd6, wr6, rd7, wr7, rd8, wr8, rd9, wr9, rd10, wr10, rd11, wr11, rd12, wr12, rd14, wr14, rd15, wr15, rd16, wr16, rd17, wr17, rd18, wr18, rd19, wr19, rd20, wr20, rd23, wr23, rd24, wr24, rd26, wr26, rd27, wr27, rd28, wr28, rd29, wr29, rd30, wr30, rd64, wr64, rd65, wr65, rd67, wr67, rd68, wr68, rd69, wr69, rd70, wr70, rd71, wr71, rd72, wr72, rd73, wr73, rb4, rb66, wb4, wb66, rdR, wrR, lenR, len1, len21, ofNat_nI, not_true_eq_false, not_false_eq_true, zok1, zok0, Bool.false_eq_true, zpush_s, zpush_n, Option.bind_some, Option.bind_none, ite_true, ite_false, if_true, if_false, reduceIte, nI_add, pk_mul, ob0, ob2, ob3, ob22, ob25, ob63, Nat.reduceEqDiff, Nat.reduceAdd, Nat.reduceMul, Nat.reduceSub, jLeT, jLeF, jLtT, jLtF, jEqT, jEqF, jNeT, jNeF, iZF, iZT, nI_sub2, nI_dec, nLtT, nLtF, nLeT, nLeF, nEqF, nNeT, ob5, ob13]
    rw [zfl_0] at hl1 hl2
    refine hl1.trans ?_
    show zA (d + 3) mX1_open 18 _ _ _ = _
    rw [eX1_open_18]
    simp (disch := omega) only [eX1_open_0, eX1_open_1, eX1_open_2, eX1_open_5, eX1_open_8, eX1_open_9, eX1_open_10, eX1_open_13, eX1_open_16, eX1_open_17, eX1_open_19, eX1_open_20, eX1_open_23, eX1_open_26, eX1_open_27, eX1_open_30, eX1_open_31, eX1_open_32, eX1_open_33, eX1_open_36, eX1_open_37, eX1_open_40, eX1_open_43, eX1_open_44, eX1_open_46, eX1_open_47, eX1_open_50, eX1_open_53, eX1_open_54, eX1_open_57, eX1_open_58, eX1_open_59, eX1_open_60, eX1_open_61, eX1_open_62, eX1_open_65, eX1_open_68, eX1_open_69, eX1_open_72, eX1_open_75, zfl_o, zup_o, zup_s, rd6, wr6, rd7, wr7, rd8, wr8, rd9, wr9, rd10, wr10, rd11, wr11, rd12, wr12, rd14, wr14, rd15, wr15, rd16, wr16, rd17, wr17, rd18, wr18, rd19, wr19, rd20, wr20, rd23, wr23, rd24, wr24, rd26, wr26, rd27, wr27, rd28, wr28, rd29, wr29, rd30, wr30, rd64, wr64, rd65, wr65, rd67, wr67, rd68, wr68, rd69, wr69, rd70, wr70, rd71, wr71, rd72, wr72, rd73, wr73, rb4, rb66, wb4, wb66, rdR, wrR, lenR, len1, len21, ofNat_nI, not_true_eq_false, not_false_eq_true, zok1, zok0, Bool.false_eq_true, zpush_s, zpush_n, Option.bind_some, Option.bind_none, ite_true, ite_false, if_true, if_false, reduceIte, nI_add, pk_mul, ob0, ob2, ob3, ob22, ob25, ob63, Nat.reduceEqDiff, Nat.reduceAdd, Nat.reduceMul, Nat.reduceSub, jLeT, jLeF, jLtT, jLtF, jEqT, jEqF, jNeT, jNeF, iZF, iZT, nI_sub2, nI_dec, nLtT, nLtF, nLeT, nLeF, nEqF, nNeT, ob5, ob13]
    refine hl2.trans ?_
    show zA (d + 3) mX1_open 45 _ _ _ = _
    rw [eX1_open_45]
    simp (disch := omega) only [eX1_open_0, eX1_open_1, eX1_open_2, eX1_open_5, eX1_open_8, eX1_open_9, eX1_open_10, eX1_open_13, eX1_open_16, eX1_open_17, eX1_open_18, eX1_open_19, eX1_open_20, eX1_open_23, eX1_open_26, eX1_open_27, eX1_open_30, eX1_open_31, eX1_open_32, eX1_open_33, eX1_open_36, eX1_open_37, eX1_open_40, eX1_open_43, eX1_open_44, eX1_open_46, eX1_open_47, eX1_open_50, eX1_open_53, eX1_open_54, eX1_open_57, eX1_open_58, eX1_open_59, eX1_open_60, eX1_open_61, eX1_open_62, eX1_open_65, eX1_open_68, eX1_open_69, eX1_open_72, eX1_open_75, zfl_o, zup_o, zup_s, rd6, wr6, rd7, wr7, rd8, wr8, rd9, wr9, rd10, wr10, rd11, wr11, rd12, wr12, rd14, wr14, rd15, wr15, rd16, wr16, rd17, wr17, rd18, wr18, rd19, wr19, rd20, wr20, rd23, wr23, rd24, wr24, rd26, wr26, rd27, wr27, rd28, wr28, rd29, wr29, rd30, wr30, rd64, wr64, rd65, wr65, rd67, wr67, rd68, wr68, rd69, wr69, rd70, wr70, rd71, wr71, rd72, wr72, rd73, wr73, rb4, rb66, wb4, wb66, rdR, wrR, lenR, len1, len21, ofNat_nI, not_true_eq_false, not_false_eq_true, zok1, zok0, Bool.false_eq_true, zpush_s, zpush_n, Option.bind_some, Option.bind_none, ite_true, ite_false, if_true, if_false, reduceIte, nI_add, pk_mul, ob0, ob2, ob3, ob22, ob25, ob63, Nat.reduceEqDiff, Nat.reduceAdd, Nat.reduceMul, Nat.reduceSub, jLeT, jLeF, jLtT, jLtF, jEqT, jEqF, jNeT, jNeF, iZF, iZT, nI_sub2, nI_dec, nLtT, nLtF, nLeT, nLeF, nEqF, nNeT, ob5, ob13]
  · refine ⟨fun c i h => ?_, ?_, ?_, fun w hw => ?_, fun k hk => ?_⟩
    · simp (disch := omega) only [zfl_o, zup_o]
    · simp (disch := omega) only [zfl_o, zup_o, zup_s]
    · simp (disch := omega) only [zfl_o, zup_o, zup_s]
    · simp (disch := omega) only [zfl_o, zfl_i]
    · simp (disch := omega) only [zfl_i]
theorem sp_mostWithN {d k j s t : Nat} {μ' : Zm} {a : Nat → Nat} (hf : WF a) (hL : LV μ' a t (k + 1) j) (hj : a 1 = k + (j + 1)) (hs : s < 2 ^ a 3) (hp : npop s ≤ k) : zC true (d + 1) mX1_mostWith [.ref 25, .int (nI k), .int (nI s), .int (-1)] μ' = some (some (.int (nI (pM a t j s))), μ') := by
  have h1 := hf.1
  have h128 := pw128 hf
  have hl := hL s hs (by omega)
  simp (disch := omega) only [nX1_mostWith, eX1_mostWith_0, eX1_mostWith_1, eX1_mostWith_2, eX1_mostWith_3, eX1_mostWith_6, eX1_mostWith_7, eX1_mostWith_8, eX1_mostWith_9, eX1_mostWith_11, eX1_mostWith_12, eX1_mostWith_13, eX1_mostWith_16, eX1_mostWith_17, eX1_mostWith_20, eX1_mostWith_22, eX1_mostWith_23, eX1_mostWith_26, eX1_mostWith_27, eX1_mostWith_30, eX1_mostWith_31, eX1_mostWith_32, eX1_mostWith_33, eX1_mostWith_36, eX1_mostWith_38, eX1_mostWith_39, eX1_mostWith_40, eX1_mostWith_41, eX1_mostWith_42, eX1_mostWith_43, eX1_mostWith_44, hl, rd6, wr6, rd7, wr7, rd8, wr8, rd9, wr9, rd10, wr10, rd11, wr11, rd12, wr12, rd14, wr14, rd15, wr15, rd16, wr16, rd17, wr17, rd18, wr18, rd19, wr19, rd20, wr20, rd23, wr23, rd24, wr24, rd26, wr26, rd27, wr27, rd28, wr28, rd29, wr29, rd30, wr30, rd64, wr64, rd65, wr65, rd67, wr67, rd68, wr68, rd69, wr69, rd70, wr70, rd71, wr71, rd72, wr72, rd73, wr73, rb4, rb66, wb4, wb66, rdR, wrR, lenR, len1, len21, ofNat_nI, not_true_eq_false, not_false_eq_true, zok1, zok0, Bool.false_eq_true, zpush_s, zpush_n, Option.bind_some, Option.bind_none, ite_true, ite_false, if_true, if_false, reduceIte, nI_add, pk_mul, ob0, ob2, ob3, ob22, ob25, ob63, Nat.reduceEqDiff, Nat.reduceAdd, Nat.reduceMul, Nat.reduceSub, jLeT, jLeF, jLtT, jLtF, jEqT, jEqF, jNeT, jNeF, iZF, iZT, nI_sub2, nI_dec, nLtT, nLtF, nLeT, nLeF, nEqF, nNeT, ob5, ob13]
theorem sp_mostWith {d k j s t w : Nat} {μ μ' : Zm} {a : Nat → Nat} (hF : FC μ μ' a t) (hf : WF a) (hL : LV μ' a t (k + 1) j) (hj : a 1 = k + (j + 1)) (hs : s < 2 ^ a 3) (hp : npop s ≤ k) (hw : w < a 3) : zC true (d + 1) mX1_mostWith [.ref 25, .int (nI k), .int (nI s), .int (nI w)] μ' = some (some (.int (nI (pwarm a w + pM a t j (s ||| 2 ^ w)))), μ') := by
  have h1 := hf.1
  have h3 := hf.2.2.1
  have h128 := pw128 hf
  have e := por128 ⟨k + 1, by omega⟩ ⟨s, by omega⟩ ⟨w, by omega⟩
  have e2 := npop_or ⟨s, by omega⟩ ⟨w, by omega⟩
  dsimp only at e e2
  have hlt : s ||| 2 ^ w < 2 ^ a 3 := Nat.or_lt_two_pow hs (Nat.pow_lt_pow_right (by omega) hw)
  have hl := hL (s ||| 2 ^ w) hlt (by omega)
  have hwm := hF.2.2.2.1 w hw
  simp (disch := omega) only [nX1_mostWith, eX1_mostWith_0, eX1_mostWith_1, eX1_mostWith_2, eX1_mostWith_3, eX1_mostWith_6, eX1_mostWith_7, eX1_mostWith_8, eX1_mostWith_9, eX1_mostWith_11, eX1_mostWith_12, eX1_mostWith_13, eX1_mostWith_16, eX1_mostWith_17, eX1_mostWith_20, eX1_mostWith_22, eX1_mostWith_23, eX1_mostWith_26, eX1_mostWith_27, eX1_mostWith_30, eX1_mostWith_31, eX1_mostWith_32, eX1_mostWith_33, eX1_mostWith_36, eX1_mostWith_38, eX1_mostWith_39, eX1_mostWith_40, eX1_mostWith_41, eX1_mostWith_42, eX1_mostWith_43, eX1_mostWith_44, hl, hwm, e, nI_shl, nI_or, iN1', rd6, wr6, rd7, wr7, rd8, wr8, rd9, wr9, rd10, wr10, rd11, wr11, rd12, wr12, rd14, wr14, rd15, wr15, rd16, wr16, rd17, wr17, rd18, wr18, rd19, wr19, rd20, wr20, rd23, wr23, rd24, wr24, rd26, wr26, rd27, wr27, rd28, wr28, rd29, wr29, rd30, wr30, rd64, wr64, rd65, wr65, rd67, wr67, rd68, wr68, rd69, wr69, rd70, wr70, rd71, wr71, rd72, wr72, rd73, wr73, rb4, rb66, wb4, wb66, rdR, wrR, lenR, len1, len21, ofNat_nI, not_true_eq_false, not_false_eq_true, zok1, zok0, Bool.false_eq_true, zpush_s, zpush_n, Option.bind_some, Option.bind_none, ite_true, ite_false, if_true, if_false, reduceIte, nI_add, pk_mul, ob0, ob2, ob3, ob22, ob25, ob63, Nat.reduceEqDiff, Nat.reduceAdd, Nat.reduceMul, Nat.reduceSub, jLeT, jLeF, jLtT, jLtF, jEqT, jEqF, jNeT, jNeF, iZF, iZT, nI_sub2, nI_dec, nLtT, nLtF, nLeT, nLeF, nEqF, nNeT, ob5, ob13]
theorem pch_lt {a : Nat → Nat} {t k : Nat} (hf : WF a) : pch a t k < 128 := by
  have := nor_lt (P := pcw a t k) (a 3)
  have h := pw128 hf
  unfold pch
  omega
theorem pch_tb {a : Nat → Nat} {t k s w : Nat} (hf : WF a) (hw : w < a 3) : (pch a t k &&& (127 ^^^ s)).testBit w = (pcw a t k w && !s.testBit w) := by
  have h3 := hf.2.2.1
  have e := t127 ⟨w, by omega⟩
  dsimp only at e
  unfold pch
  rw [Nat.testBit_and, nor_tb, Nat.testBit_xor, e, decide_eq_true hw, Bool.true_and, Bool.true_xor]
set_option maxHeartbeats 4000000 in
theorem sp_mostFrom {d k j s t : Nat} {μ μ' : Zm} {a : Nat → Nat} (hF : FC μ μ' a t) (hf : WF a) (hL : LV μ' a t (k + 1) j) (hj : a 1 = k + (j + 1)) (hs : s < 2 ^ a 3) (hp : npop s ≤ k) : zC true (d + 2) mX1_mostFrom [.ref 25, .int (nI k), .int (nI s)] μ' = some (some (.int (nI (pM a t (j + 1) s))), μ') := by
  have h1 := hf.1
  have h3 := hf.2.2.1
  have h128 := pw128 hf
  have hk : k = a 1 - (j + 1) := by omega
  have hch := hF.2.2.2.2 k (by omega)
  have hW := hF.2.2.1
  have hcl := pch_lt (t := t) (k := k) hf
  have en := pnot ⟨pch a t k, hcl⟩ ⟨s, by omega⟩
  dsimp only at en
  have hca : pch a t k &&& (127 ^^^ s) ≤ pch a t k := Nat.and_le_left
  have hMb := pM_le (t := t) hf
  have hbnd : ∀ i, pmx (fun w => pcw a t k w && !s.testBit w) (fun w => pwarm a w + pM a t j (s ||| 2 ^ w)) (pM a t j s) i ≤ 2000 ∨ a 3 < i := by
    intro i
    by_cases hi : i ≤ a 3
    · left
      rcases (pmx_ge (ok := fun w => pcw a t k w && !s.testBit w) (val := fun w => pwarm a w + pM a t j (s ||| 2 ^ w)) (b := pM a t j s) i).2.2 with h | ⟨w, hw, _, h⟩
      · rw [h]
        have := hMb j s
        omega
      · rw [← h]
        have q1 := hMb j (s ||| 2 ^ w)
        have q2 := pwarm_le (w := w) hf (by omega)
        show pwarm a w + pM a t j (s ||| 2 ^ w) ≤ _
        omega
    · right; omega
  have hl := zloop (fun i => zA (d + 1) mX1_mostFrom 11 [.ref 25, .int (nI k), .int (nI s), .int (nI (pmx (fun w => pcw a t k w && !s.testBit w) (fun w => pwarm a w + pM a t j (s ||| 2 ^ w)) (pM a t j s) i)), .int (nI i)] [] μ') (a 3) (fun i hi => by
    have hb := hbnd i
    have q1 := hMb j (s ||| 2 ^ i)
    have q2 := pwarm_le hf hi
    have htb := pch_tb (t := t) (k := k) (s := s) hf hi
    rw [eX1_mostFrom_11, pmx]
    generalize pmx (fun w => pcw a t k w && !s.testBit w) (fun w => pwarm a w + pM a t j (s ||| 2 ^ w)) (pM a t j s) i = m at hb ⊢
    cases q : (pcw a t k i && !s.testBit i)
    · rw [q] at htb
      simp (disch := omega) only [eX1_mostFrom_0, eX1_mostFrom_1, eX1_mostFrom_2, eX1_mostFrom_3, eX1_mostFrom_4, eX1_mostFrom_7, eX1_mostFrom_8, eX1_mostFrom_9, eX1_mostFrom_13, eX1_mostFrom_14, eX1_mostFrom_17, eX1_mostFrom_20, eX1_mostFrom_21, eX1_mostFrom_24, eX1_mostFrom_25, eX1_mostFrom_26, eX1_mostFrom_27, eX1_mostFrom_28, eX1_mostFrom_29, eX1_mostFrom_30, eX1_mostFrom_32, eX1_mostFrom_35, eX1_mostFrom_38, eX1_mostFrom_39, eX1_mostFrom_40, eX1_mostFrom_41, eX1_mostFrom_42, eX1_mostFrom_44, eX1_mostFrom_47, eX1_mostFrom_50, eX1_mostFrom_51, eX1_mostFrom_54, eX1_mostFrom_57, eX1_mostFrom_58, hW, hch, en, sp_isIn, htb, zbt_t, zbt_f, rd6, wr6, rd7, wr7, rd8, wr8, rd9, wr9, rd10, wr10, rd11, wr11, rd12, wr12, rd14, wr14, rd15, wr15, rd16, wr16, rd17, wr17, rd18, wr18, rd19, wr19, rd20, wr20, rd23, wr23, rd24, wr24, rd26, wr26, rd27, wr27, rd28, wr28, rd29, wr29, rd30, wr30, rd64, wr64, rd65, wr65, rd67, wr67, rd68, wr68, rd69, wr69, rd70, wr70, rd71, wr71, rd72, wr72, rd73, wr73, rb4, rb66, wb4, wb66, rdR, wrR, lenR, len1, len21, ofNat_nI, not_true_eq_false, not_false_eq_true, zok1, zok0, Bool.false_eq_true, zpush_s, zpush_n, Option.bind_some, Option.bind_none, ite_true, ite_false, if_true, if_false, reduceIte, nI_add, pk_mul, ob0, ob2, ob3, ob22, ob25, ob63, Nat.reduceEqDiff, Nat.reduceAdd, Nat.reduceMul, Nat.reduceSub, jLeT, jLeF, jLtT, jLtF, jEqT, jEqF, jNeT, jNeF, iZF, iZT, nI_sub2, nI_dec, nLtT, nLtF, nLeT, nLeF, nEqF, nNeT, ob5, ob13]
    · rw [q] at htb
      by_cases q3 : m < pwarm a i + pM a t j (s ||| 2 ^ i) <;>
      simp (disch := omega) only [eX1_mostFrom_0, eX1_mostFrom_1, eX1_mostFrom_2, eX1_mostFrom_3, eX1_mostFrom_4, eX1_mostFrom_7, eX1_mostFrom_8, eX1_mostFrom_9, eX1_mostFrom_13, eX1_mostFrom_14, eX1_mostFrom_17, eX1_mostFrom_20, eX1_mostFrom_21, eX1_mostFrom_24, eX1_mostFrom_25, eX1_mostFrom_26, eX1_mostFrom_27, eX1_mostFrom_28, eX1_mostFrom_29, eX1_mostFrom_30, eX1_mostFrom_32, eX1_mostFrom_35, eX1_mostFrom_38, eX1_mostFrom_39, eX1_mostFrom_40, eX1_mostFrom_41, eX1_mostFrom_42, eX1_mostFrom_44, eX1_mostFrom_47, eX1_mostFrom_50, eX1_mostFrom_51, eX1_mostFrom_54, eX1_mostFrom_57, eX1_mostFrom_58, hW, hch, en, sp_isIn, htb, sp_mostWith hF hf hL hj hs hp, q3, zbt_t, zbt_f, rd6, wr6, rd7, wr7, rd8, wr8, rd9, wr9, rd10, wr10, rd11, wr11, rd12, wr12, rd14, wr14, rd15, wr15, rd16, wr16, rd17, wr17, rd18, wr18, rd19, wr19, rd20, wr20, rd23, wr23, rd24, wr24, rd26, wr26, rd27, wr27, rd28, wr28, rd29, wr29, rd30, wr30, rd64, wr64, rd65, wr65, rd67, wr67, rd68, wr68, rd69, wr69, rd70, wr70, rd71, wr71, rd72, wr72, rd73, wr73, rb4, rb66, wb4, wb66, rdR, wrR, lenR, len1, len21, ofNat_nI, not_true_eq_false, not_false_eq_true, zok1, zok0, Bool.false_eq_true, zpush_s, zpush_n, Option.bind_some, Option.bind_none, ite_true, ite_false, if_true, if_false, reduceIte, nI_add, pk_mul, ob0, ob2, ob3, ob22, ob25, ob63, Nat.reduceEqDiff, Nat.reduceAdd, Nat.reduceMul, Nat.reduceSub, jLeT, jLeF, jLtT, jLtF, jEqT, jEqF, jNeT, jNeF, iZF, iZT, nI_sub2, nI_dec, nLtT, nLtF, nLeT, nLeF, nEqF, nNeT, ob5, ob13])
  rw [nX1_mostFrom]
  simp (disch := omega) only [eX1_mostFrom_0, eX1_mostFrom_1, eX1_mostFrom_2, eX1_mostFrom_3, eX1_mostFrom_4, eX1_mostFrom_7, eX1_mostFrom_8, eX1_mostFrom_9, sp_mostWithN hf hL hj hs hp, not_true_eq_false, not_false_eq_true, zok1, zok0, Bool.false_eq_true, zpush_s, zpush_n, Option.bind_some, Option.bind_none, ite_true, ite_false, if_true, if_false, reduceIte, nI_add, pk_mul, ob0, ob2, ob3, ob22, ob25, ob63, Nat.reduceEqDiff, Nat.reduceAdd, Nat.reduceMul, Nat.reduceSub, jLeT, jLeF, jLtT, jLtF, jEqT, jEqF, jNeT, jNeF, iZF, iZT, nI_sub2, nI_dec, nLtT, nLtF, nLeT, nLeF, nEqF, nNeT, ob5, ob13]
  refine hl.trans ?_
  show zA (d + 1) mX1_mostFrom 11 _ _ _ = _
  rw [eX1_mostFrom_11]
  simp (disch := omega) only [eX1_mostFrom_0, eX1_mostFrom_1, eX1_mostFrom_2, eX1_mostFrom_3, eX1_mostFrom_4, eX1_mostFrom_7, eX1_mostFrom_8, eX1_mostFrom_9, eX1_mostFrom_13, eX1_mostFrom_14, eX1_mostFrom_17, eX1_mostFrom_20, eX1_mostFrom_21, eX1_mostFrom_24, eX1_mostFrom_25, eX1_mostFrom_26, eX1_mostFrom_27, eX1_mostFrom_28, eX1_mostFrom_29, eX1_mostFrom_30, eX1_mostFrom_32, eX1_mostFrom_35, eX1_mostFrom_38, eX1_mostFrom_39, eX1_mostFrom_40, eX1_mostFrom_41, eX1_mostFrom_42, eX1_mostFrom_44, eX1_mostFrom_47, eX1_mostFrom_50, eX1_mostFrom_51, eX1_mostFrom_54, eX1_mostFrom_57, eX1_mostFrom_58, hW, rd6, wr6, rd7, wr7, rd8, wr8, rd9, wr9, rd10, wr10, rd11, wr11, rd12, wr12, rd14, wr14, rd15, wr15, rd16, wr16, rd17, wr17, rd18, wr18, rd19, wr19, rd20, wr20, rd23, wr23, rd24, wr24, rd26, wr26, rd27, wr27, rd28, wr28, rd29, wr29, rd30, wr30, rd64, wr64, rd65, wr65, rd67, wr67, rd68, wr68, rd69, wr69, rd70, wr70, rd71, wr71, rd72, wr72, rd73, wr73, rb4, rb66, wb4, wb66, rdR, wrR, lenR, len1, len21, ofNat_nI, not_true_eq_false, not_false_eq_true, zok1, zok0, Bool.false_eq_true, zpush_s, zpush_n, Option.bind_some, Option.bind_none, ite_true, ite_false, if_true, if_false, reduceIte, nI_add, pk_mul, ob0, ob2, ob3, ob22, ob25, ob63, Nat.reduceEqDiff, Nat.reduceAdd, Nat.reduceMul, Nat.reduceSub, jLeT, jLeF, jLtT, jLtF, jEqT, jEqF, jNeT, jNeF, iZF, iZT, nI_sub2, nI_dec, nLtT, nLtF, nLeT, nLeF, nEqF, nNeT, ob5, ob13]
  rw [pM, ← hk]
set_option maxHeartbeats 4000000 in
theorem sp_firstBest {d k j s t : Nat} {μ μ' : Zm} {a : Nat → Nat} (hF : FC μ μ' a t) (hf : WF a) (hL : LV μ' a t (k + 1) j) (hL0 : LV μ' a t k (j + 1)) (hj : a 1 = k + (j + 1)) (hs : s < 2 ^ a 3) (hp : npop s ≤ k) : zC true (d + 2) mX1_firstBest [.ref 25, .int (nI k), .int (nI s)] μ' = some (some (.int (zn1 (pfw a t j s))), μ') := by
  have h1 := hf.1
  have h3 := hf.2.2.1
  have h128 := pw128 hf
  have hk : k = a 1 - (j + 1) := by omega
  have hch := hF.2.2.2.2 k (by omega)
  have hW := hF.2.2.1
  have hcl := pch_lt (t := t) (k := k) hf
  have en := pnot ⟨pch a t k, hcl⟩ ⟨s, by omega⟩
  dsimp only at en
  have hca : pch a t k &&& (127 ^^^ s) ≤ pch a t k := Nat.and_le_left
  have hM1 := pM_le (t := t) hf j s
  have hM2 := pM_le (t := t) hf (j + 1) s
  have hl0 := hL0 s hs hp
  rw [nX1_firstBest]
  unfold pfw
  rw [← hk]
  by_cases q0 : pM a t j s = pM a t (j + 1) s
  · rw [if_pos q0]
    simp (disch := omega) only [eX1_firstBest_0, eX1_firstBest_1, eX1_firstBest_4, eX1_firstBest_5, eX1_firstBest_8, eX1_firstBest_9, eX1_firstBest_10, eX1_firstBest_11, eX1_firstBest_12, eX1_firstBest_13, eX1_firstBest_14, eX1_firstBest_15, eX1_firstBest_16, eX1_firstBest_17, eX1_firstBest_20, eX1_firstBest_21, eX1_firstBest_24, eX1_firstBest_25, eX1_firstBest_26, eX1_firstBest_27, eX1_firstBest_29, eX1_firstBest_31, eX1_firstBest_32, eX1_firstBest_35, eX1_firstBest_38, eX1_firstBest_39, eX1_firstBest_42, eX1_firstBest_43, eX1_firstBest_44, eX1_firstBest_45, eX1_firstBest_46, eX1_firstBest_47, eX1_firstBest_48, eX1_firstBest_50, eX1_firstBest_53, eX1_firstBest_56, eX1_firstBest_57, eX1_firstBest_58, eX1_firstBest_59, eX1_firstBest_61, eX1_firstBest_64, eX1_firstBest_65, eX1_firstBest_68, eX1_firstBest_70, eX1_firstBest_71, eX1_firstBest_74, eX1_firstBest_77, eX1_firstBest_78, sp_mostWithN hf hL hj hs hp, hl0, q0, zn1, rd6, wr6, rd7, wr7, rd8, wr8, rd9, wr9, rd10, wr10, rd11, wr11, rd12, wr12, rd14, wr14, rd15, wr15, rd16, wr16, rd17, wr17, rd18, wr18, rd19, wr19, rd20, wr20, rd23, wr23, rd24, wr24, rd26, wr26, rd27, wr27, rd28, wr28, rd29, wr29, rd30, wr30, rd64, wr64, rd65, wr65, rd67, wr67, rd68, wr68, rd69, wr69, rd70, wr70, rd71, wr71, rd72, wr72, rd73, wr73, rb4, rb66, wb4, wb66, rdR, wrR, lenR, len1, len21, ofNat_nI, not_true_eq_false, not_false_eq_true, zok1, zok0, Bool.false_eq_true, zpush_s, zpush_n, Option.bind_some, Option.bind_none, ite_true, ite_false, if_true, if_false, reduceIte, nI_add, pk_mul, ob0, ob2, ob3, ob22, ob25, ob63, Nat.reduceEqDiff, Nat.reduceAdd, Nat.reduceMul, Nat.reduceSub, jLeT, jLeF, jLtT, jLtF, jEqT, jEqF, jNeT, jNeF, iZF, iZT, nI_sub2, nI_dec, nLtT, nLtF, nLeT, nLeF, nEqF, nNeT, ob5, ob13]
  · rw [if_neg q0]
    have hl := zfind (fun i => zA (d + 1) mX1_firstBest 29 [.ref 25, .int (nI k), .int (nI s), .int (nI (pM a t (j + 1) s)), .int (nI i)] [] μ') (fun i => some (some (.int (nI i)), μ')) (some (some (.int (-1)), μ')) (fun w => (pcw a t k w && !s.testBit w) && decide (pwarm a w + pM a t j (s ||| 2 ^ w) = pM a t (j + 1) s)) (a 3) (by omega) (fun i hi hp2 => by
      have q1 := pM_le (t := t) hf j (s ||| 2 ^ i)
      have q2 := pwarm_le hf hi
      have htb := pch_tb (t := t) (k := k) (s := s) hf hi
      (try dsimp only at hp2 ⊢)
      rw [eX1_firstBest_29]
      cases q : (pcw a t k i && !s.testBit i)
      · rw [q] at htb
        simp (disch := omega) only [eX1_firstBest_0, eX1_firstBest_1, eX1_firstBest_4, eX1_firstBest_5, eX1_firstBest_8, eX1_firstBest_9, eX1_firstBest_10, eX1_firstBest_11, eX1_firstBest_12, eX1_firstBest_13, eX1_firstBest_14, eX1_firstBest_15, eX1_firstBest_16, eX1_firstBest_17, eX1_firstBest_20, eX1_firstBest_21, eX1_firstBest_24, eX1_firstBest_25, eX1_firstBest_26, eX1_firstBest_27, eX1_firstBest_31, eX1_firstBest_32, eX1_firstBest_35, eX1_firstBest_38, eX1_firstBest_39, eX1_firstBest_42, eX1_firstBest_43, eX1_firstBest_44, eX1_firstBest_45, eX1_firstBest_46, eX1_firstBest_47, eX1_firstBest_48, eX1_firstBest_50, eX1_firstBest_53, eX1_firstBest_56, eX1_firstBest_57, eX1_firstBest_58, eX1_firstBest_59, eX1_firstBest_61, eX1_firstBest_64, eX1_firstBest_65, eX1_firstBest_68, eX1_firstBest_70, eX1_firstBest_71, eX1_firstBest_74, eX1_firstBest_77, eX1_firstBest_78, hW, hch, en, sp_isIn, htb, zbt_t, zbt_f, rd6, wr6, rd7, wr7, rd8, wr8, rd9, wr9, rd10, wr10, rd11, wr11, rd12, wr12, rd14, wr14, rd15, wr15, rd16, wr16, rd17, wr17, rd18, wr18, rd19, wr19, rd20, wr20, rd23, wr23, rd24, wr24, rd26, wr26, rd27, wr27, rd28, wr28, rd29, wr29, rd30, wr30, rd64, wr64, rd65, wr65, rd67, wr67, rd68, wr68, rd69, wr69, rd70, wr70, rd71, wr71, rd72, wr72, rd73, wr73, rb4, rb66, wb4, wb66, rdR, wrR, lenR, len1, len21, ofNat_nI, not_true_eq_false, not_false_eq_true, zok1, zok0, Bool.false_eq_true, zpush_s, zpush_n, Option.bind_some, Option.bind_none, ite_true, ite_false, if_true, if_false, reduceIte, nI_add, pk_mul, ob0, ob2, ob3, ob22, ob25, ob63, Nat.reduceEqDiff, Nat.reduceAdd, Nat.reduceMul, Nat.reduceSub, jLeT, jLeF, jLtT, jLtF, jEqT, jEqF, jNeT, jNeF, iZF, iZT, nI_sub2, nI_dec, nLtT, nLtF, nLeT, nLeF, nEqF, nNeT, ob5, ob13]
      · rw [q] at htb hp2
        rw [Bool.true_and] at hp2
        have hp2 := of_decide_eq_false hp2
        simp (disch := omega) only [eX1_firstBest_0, eX1_firstBest_1, eX1_firstBest_4, eX1_firstBest_5, eX1_firstBest_8, eX1_firstBest_9, eX1_firstBest_10, eX1_firstBest_11, eX1_firstBest_12, eX1_firstBest_13, eX1_firstBest_14, eX1_firstBest_15, eX1_firstBest_16, eX1_firstBest_17, eX1_firstBest_20, eX1_firstBest_21, eX1_firstBest_24, eX1_firstBest_25, eX1_firstBest_26, eX1_firstBest_27, eX1_firstBest_31, eX1_firstBest_32, eX1_firstBest_35, eX1_firstBest_38, eX1_firstBest_39, eX1_firstBest_42, eX1_firstBest_43, eX1_firstBest_44, eX1_firstBest_45, eX1_firstBest_46, eX1_firstBest_47, eX1_firstBest_48, eX1_firstBest_50, eX1_firstBest_53, eX1_firstBest_56, eX1_firstBest_57, eX1_firstBest_58, eX1_firstBest_59, eX1_firstBest_61, eX1_firstBest_64, eX1_firstBest_65, eX1_firstBest_68, eX1_firstBest_70, eX1_firstBest_71, eX1_firstBest_74, eX1_firstBest_77, eX1_firstBest_78, hW, hch, en, sp_isIn, htb, sp_mostWith hF hf hL hj hs hp, zbt_t, zbt_f, rd6, wr6, rd7, wr7, rd8, wr8, rd9, wr9, rd10, wr10, rd11, wr11, rd12, wr12, rd14, wr14, rd15, wr15, rd16, wr16, rd17, wr17, rd18, wr18, rd19, wr19, rd20, wr20, rd23, wr23, rd24, wr24, rd26, wr26, rd27, wr27, rd28, wr28, rd29, wr29, rd30, wr30, rd64, wr64, rd65, wr65, rd67, wr67, rd68, wr68, rd69, wr69, rd70, wr70, rd71, wr71, rd72, wr72, rd73, wr73, rb4, rb66, wb4, wb66, rdR, wrR, lenR, len1, len21, ofNat_nI, not_true_eq_false, not_false_eq_true, zok1, zok0, Bool.false_eq_true, zpush_s, zpush_n, Option.bind_some, Option.bind_none, ite_true, ite_false, if_true, if_false, reduceIte, nI_add, pk_mul, ob0, ob2, ob3, ob22, ob25, ob63, Nat.reduceEqDiff, Nat.reduceAdd, Nat.reduceMul, Nat.reduceSub, jLeT, jLeF, jLtT, jLtF, jEqT, jEqF, jNeT, jNeF, iZF, iZT, nI_sub2, nI_dec, nLtT, nLtF, nLeT, nLeF, nEqF, nNeT, ob5, ob13]) (fun i hi hp2 => by
      have q1 := pM_le (t := t) hf j (s ||| 2 ^ i)
      have q2 := pwarm_le hf hi
      have htb := pch_tb (t := t) (k := k) (s := s) hf hi
      (try dsimp only at hp2 ⊢)
      rw [Bool.and_eq_true] at hp2
      obtain ⟨q, hp2⟩ := hp2
      have hp2 := of_decide_eq_true hp2
      rw [q] at htb
      rw [eX1_firstBest_29]
      simp (disch := omega) only [eX1_firstBest_0, eX1_firstBest_1, eX1_firstBest_4, eX1_firstBest_5, eX1_firstBest_8, eX1_firstBest_9, eX1_firstBest_10, eX1_firstBest_11, eX1_firstBest_12, eX1_firstBest_13, eX1_firstBest_14, eX1_firstBest_15, eX1_firstBest_16, eX1_firstBest_17, eX1_firstBest_20, eX1_firstBest_21, eX1_firstBest_24, eX1_firstBest_25, eX1_firstBest_26, eX1_firstBest_27, eX1_firstBest_31, eX1_firstBest_32, eX1_firstBest_35, eX1_firstBest_38, eX1_firstBest_39, eX1_firstBest_42, eX1_firstBest_43, eX1_firstBest_44, eX1_firstBest_45, eX1_firstBest_46, eX1_firstBest_47, eX1_firstBest_48, eX1_firstBest_50, eX1_firstBest_53, eX1_firstBest_56, eX1_firstBest_57, eX1_firstBest_58, eX1_firstBest_59, eX1_firstBest_61, eX1_firstBest_64, eX1_firstBest_65, eX1_firstBest_68, eX1_firstBest_70, eX1_firstBest_71, eX1_firstBest_74, eX1_firstBest_77, eX1_firstBest_78, hW, hch, en, sp_isIn, htb, sp_mostWith hF hf hL hj hs hp, hp2, zbt_t, zbt_f, rd6, wr6, rd7, wr7, rd8, wr8, rd9, wr9, rd10, wr10, rd11, wr11, rd12, wr12, rd14, wr14, rd15, wr15, rd16, wr16, rd17, wr17, rd18, wr18, rd19, wr19, rd20, wr20, rd23, wr23, rd24, wr24, rd26, wr26, rd27, wr27, rd28, wr28, rd29, wr29, rd30, wr30, rd64, wr64, rd65, wr65, rd67, wr67, rd68, wr68, rd69, wr69, rd70, wr70, rd71, wr71, rd72, wr72, rd73, wr73, rb4, rb66, wb4, wb66, rdR, wrR, lenR, len1, len21, ofNat_nI, not_true_eq_false, not_false_eq_true, zok1, zok0, Bool.false_eq_true, zpush_s, zpush_n, Option.bind_some, Option.bind_none, ite_true, ite_false, if_true, if_false, reduceIte, nI_add, pk_mul, ob0, ob2, ob3, ob22, ob25, ob63, Nat.reduceEqDiff, Nat.reduceAdd, Nat.reduceMul, Nat.reduceSub, jLeT, jLeF, jLtT, jLtF, jEqT, jEqF, jNeT, jNeF, iZF, iZT, nI_sub2, nI_dec, nLtT, nLtF, nLeT, nLeF, nEqF, nNeT, ob5, ob13]) (by
      (try dsimp only)
      rw [eX1_firstBest_29]
      simp (disch := omega) only [eX1_firstBest_0, eX1_firstBest_1, eX1_firstBest_4, eX1_firstBest_5, eX1_firstBest_8, eX1_firstBest_9, eX1_firstBest_10, eX1_firstBest_11, eX1_firstBest_12, eX1_firstBest_13, eX1_firstBest_14, eX1_firstBest_15, eX1_firstBest_16, eX1_firstBest_17, eX1_firstBest_20, eX1_firstBest_21, eX1_firstBest_24, eX1_firstBest_25, eX1_firstBest_26, eX1_firstBest_27, eX1_firstBest_31, eX1_firstBest_32, eX1_firstBest_35, eX1_firstBest_38, eX1_firstBest_39, eX1_firstBest_42, eX1_firstBest_43, eX1_firstBest_44, eX1_firstBest_45, eX1_firstBest_46, eX1_firstBest_47, eX1_firstBest_48, eX1_firstBest_50, eX1_firstBest_53, eX1_firstBest_56, eX1_firstBest_57, eX1_firstBest_58, eX1_firstBest_59, eX1_firstBest_61, eX1_firstBest_64, eX1_firstBest_65, eX1_firstBest_68, eX1_firstBest_70, eX1_firstBest_71, eX1_firstBest_74, eX1_firstBest_77, eX1_firstBest_78, hW, rd6, wr6, rd7, wr7, rd8, wr8, rd9, wr9, rd10, wr10, rd11, wr11, rd12, wr12, rd14, wr14, rd15, wr15, rd16, wr16, rd17, wr17, rd18, wr18, rd19, wr19, rd20, wr20, rd23, wr23, rd24, wr24, rd26, wr26, rd27, wr27, rd28, wr28, rd29, wr29, rd30, wr30, rd64, wr64, rd65, wr65, rd67, wr67, rd68, wr68, rd69, wr69, rd70, wr70, rd71, wr71, rd72, wr72, rd73, wr73, rb4, rb66, wb4, wb66, rdR, wrR, lenR, len1, len21, ofNat_nI, not_true_eq_false, not_false_eq_true, zok1, zok0, Bool.false_eq_true, zpush_s, zpush_n, Option.bind_some, Option.bind_none, ite_true, ite_false, if_true, if_false, reduceIte, nI_add, pk_mul, ob0, ob2, ob3, ob22, ob25, ob63, Nat.reduceEqDiff, Nat.reduceAdd, Nat.reduceMul, Nat.reduceSub, jLeT, jLeF, jLtT, jLtF, jEqT, jEqF, jNeT, jNeF, iZF, iZT, nI_sub2, nI_dec, nLtT, nLtF, nLeT, nLeF, nEqF, nNeT, ob5, ob13])
    simp (disch := omega) only [eX1_firstBest_0, eX1_firstBest_1, eX1_firstBest_4, eX1_firstBest_5, eX1_firstBest_8, eX1_firstBest_9, eX1_firstBest_10, eX1_firstBest_11, eX1_firstBest_12, eX1_firstBest_13, eX1_firstBest_14, eX1_firstBest_15, eX1_firstBest_16, eX1_firstBest_17, eX1_firstBest_20, eX1_firstBest_21, eX1_firstBest_26, eX1_firstBest_27, sp_mostWithN hf hL hj hs hp, hl0, rd6, wr6, rd7, wr7, rd8, wr8, rd9, wr9, rd10, wr10, rd11, wr11, rd12, wr12, rd14, wr14, rd15, wr15, rd16, wr16, rd17, wr17, rd18, wr18, rd19, wr19, rd20, wr20, rd23, wr23, rd24, wr24, rd26, wr26, rd27, wr27, rd28, wr28, rd29, wr29, rd30, wr30, rd64, wr64, rd65, wr65, rd67, wr67, rd68, wr68, rd69, wr69, rd70, wr70, rd71, wr71, rd72, wr72, rd73, wr73, rb4, rb66, wb4, wb66, rdR, wrR, lenR, len1, len21, ofNat_nI, not_true_eq_false, not_false_eq_true, zok1, zok0, Bool.false_eq_true, zpush_s, zpush_n, Option.bind_some, Option.bind_none, ite_true, ite_false, if_true, if_false, reduceIte, nI_add, pk_mul, ob0, ob2, ob3, ob22, ob25, ob63, Nat.reduceEqDiff, Nat.reduceAdd, Nat.reduceMul, Nat.reduceSub, jLeT, jLeF, jLtT, jLtF, jEqT, jEqF, jNeT, jNeF, iZF, iZT, nI_sub2, nI_dec, nLtT, nLtF, nLeT, nLeF, nEqF, nNeT, ob5, ob13]
    refine hl.trans ?_
    unfold zn1
    split <;> rfl
