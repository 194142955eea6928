/-! ===== the class's reader: its small steps ===== -/
theorem TX_k {μ : Zm} {n : Nat} {b : Nat → Nat} {B E K : Int32} (h : TX μ n b) : TX (zTk μ B E K) n b := by
  refine ⟨h.1, (zTk_o (by omega)).trans h.2.1, fun i hi => ?_⟩
  rw [zTk_o (by omega)]
  exact h.2.2 i hi
theorem TX_fr {μ μ' : Zm} {n : Nat} {b : Nat → Nat} (h : TX μ n b) (fr : ∀ c i, (c = 3 ∧ i = 1) ∨ c = 4 → μ' c i = μ c i) : TX μ' n b := by
  refine ⟨h.1, (fr 3 1 (by omega)).trans h.2.1, fun i hi => ?_⟩
  rw [fr 4 i (by omega)]
  exact h.2.2 i hi
/-- S: the fault (0: none), and where the token looked at stands -/
def CT (μ : Zm) (n : Nat) (b : Nat → Nat) (S : Nat × Nat) : Prop := TX μ n b ∧ S.2 ≤ n ∧ True ∧ μ 2 1 = nI S.1 ∧ S.1 ≤ 3 ∧ (S.1 ≠ 0 → μ 2 2 = nI (tB n b S.2)) ∧ μ 3 2 = nI (tK n b S.2) ∧ μ 3 3 = nI (tB n b S.2) ∧ μ 3 4 = nI (tE n b S.2)
def FrT (μ μ' : Zm) : Prop := ∀ c i, ¬ ((c = 3 ∧ 2 ≤ i ∧ i ≤ 4) ∨ (c = 2 ∧ 1 ≤ i ∧ i ≤ 2)) → μ' c i = μ c i
theorem FrT_id {μ : Zm} : FrT μ μ := fun _ _ _ => rfl
theorem FrT_tr {μ μ' μ'' : Zm} (h : FrT μ μ') (h2 : FrT μ' μ'') : FrT μ μ'' := fun c i q => (h2 c i q).trans (h c i q)
theorem CT_fr {μ μ' : Zm} {n : Nat} {b : Nat → Nat} {S : Nat × Nat} (h : CT μ n b S) (fr : ∀ c i, (c = 3 ∧ 1 ≤ i) ∨ c = 4 ∨ c = 2 → μ' c i = μ c i) : CT μ' n b S := by
  obtain ⟨h1, h2, h3, h4, h5, h6, h7, h8, h9⟩ := h
  exact ⟨TX_fr h1 (fun c i q => fr c i (by omega)), h2, h3, (fr 2 1 (by omega)).trans h4, h5, fun q => (fr 2 2 (by omega)).trans (h6 q), (fr 3 2 (by omega)).trans h7, (fr 3 3 (by omega)).trans h8, (fr 3 4 (by omega)).trans h9⟩
def pfl (k : Nat) (S : Nat × Nat) : Nat × Nat := if S.1 = 0 then (k, S.2) else S
def pif (n : Nat) (b : Nat → Nat) (c : Bool) (S : Nat × Nat) : Nat × Nat := if S.1 ≠ 0 then S else if c = true then (0, tE n b S.2) else (1, S.2)
theorem sp_fail {d n k : Nat} {b : Nat → Nat} {μ : Zm} {S : Nat × Nat} (hC : CT μ n b S) (hk : 1 ≤ k ∧ k ≤ 3) : ∃ μ', zC true (d + 1) mX2_fail [.ref 2, .int (nI k)] μ = some (none, μ') ∧ FrT μ μ' ∧ CT μ' n b (pfl k S) := by
  obtain ⟨h1, h2, h3, h4, h5, h6, h7, h8, h9⟩ := id hC
  have hB := tB_le (b := b) h2
  by_cases q : S.1 = 0
  · rw [q] at h4
    have e : pfl k S = (k, S.2) := if_pos q
    rw [e]
    refine ⟨zup (zup μ 2 1 (nI k)) 2 2 (nI (tB n b S.2)), ?_, ?_, ?_⟩
    · simp (disch := omega) only [nX2_fail, eX2_fail_0, eX2_fail_1, eX2_fail_4, eX2_fail_7, eX2_fail_8, eX2_fail_9, eX2_fail_12, eX2_fail_13, eX2_fail_14, eX2_fail_17, eX2_fail_20, eX2_fail_23, h4, zup_o, h8, not_true_eq_false, not_false_eq_true, zok1, zok0, Bool.false_eq_true, zpush_s, zpush_n, Option.bind_some, Option.bind_none, ite_true, ite_false, if_true, if_false, ↓reduceIte, nI_add, pk_mul, ob0, ob2, ob3, ob22, ob25, ob63, Nat.reduceEqDiff, Nat.reduceAdd, Nat.reduceMul, Nat.reduceSub, pLeT, pLeF, pLtT, pLtF, pEqT, pEqF, qLtT, qLtF, qLeT, qLeF, qEqF, nI_sub2, nI_dec, ob5, ob13]
    · intro c i q
      rw [zup_o (by omega), zup_o (by omega)]
    · refine ⟨TX_fr h1 (fun c i q => ?_), h2, ?_, ?_, hk.2, fun _ => zup_s rfl rfl, ?_, ?_, ?_⟩
      · rw [zup_o (by omega), zup_o (by omega)]
      · trivial
      · rw [zup_o (by omega), zup_s rfl rfl]
      · rw [zup_o (by omega), zup_o (by omega)]; exact h7
      · rw [zup_o (by omega), zup_o (by omega)]; exact h8
      · rw [zup_o (by omega), zup_o (by omega)]; exact h9
  · have e : pfl k S = S := if_neg q
    rw [e]
    refine ⟨μ, ?_, FrT_id, hC⟩
    simp (disch := omega) only [nX2_fail, eX2_fail_0, eX2_fail_1, eX2_fail_4, eX2_fail_7, eX2_fail_8, eX2_fail_9, eX2_fail_12, eX2_fail_13, eX2_fail_14, eX2_fail_17, eX2_fail_20, eX2_fail_23, h4, not_true_eq_false, not_false_eq_true, zok1, zok0, Bool.false_eq_true, zpush_s, zpush_n, Option.bind_some, Option.bind_none, ite_true, ite_false, if_true, if_false, ↓reduceIte, nI_add, pk_mul, ob0, ob2, ob3, ob22, ob25, ob63, Nat.reduceEqDiff, Nat.reduceAdd, Nat.reduceMul, Nat.reduceSub, pLeT, pLeF, pLtT, pLtF, pEqT, pEqF, qLtT, qLtF, qLeT, qLeF, qEqF, nI_sub2, nI_dec, ob5, ob13]
theorem sp_stepC {d n : Nat} {b : Nat → Nat} {μ : Zm} {S : Nat × Nat} (hC : CT μ n b S) (q : S.1 = 0) : ∃ μ', zC true (d + 2) mX4_step [.ref 3] μ = some (none, μ') ∧ FrT μ μ' ∧ CT μ' n b (0, tE n b S.2) := by
  obtain ⟨h1, h2, h3, h4, h5, h6, h7, h8, h9⟩ := id hC
  have hE := tE_le (b := b) h2
  refine ⟨_, sp_step h1 hE.2 h9, fun c i q => zTk_o (by omega), TX_k h1, hE.2, trivial, (zTk_o (by omega)).trans (by rw [h4, q]), Nat.zero_le _, fun h => absurd rfl h, zTk_2, zTk_3, zTk_4⟩
theorem sp_stepIf {d n : Nat} {b : Nat → Nat} {μ : Zm} {S : Nat × Nat} {c : Bool} (hC : CT μ n b S) : ∃ μ', zC true (d + 3) mX2_stepIf [.ref 2, .int (zbt c)] μ = some (none, μ') ∧ FrT μ μ' ∧ CT μ' n b (pif n b c S) := by
  obtain ⟨h1, h2, h3, h4, h5, h6, h7, h8, h9⟩ := id hC
  by_cases q : S.1 = 0
  · cases c
    · have e : pif n b false S = pfl 1 S := by
        unfold pif pfl
        rw [if_neg (fun h => h q), if_pos q, if_neg (by decide)]
      rw [e]
      obtain ⟨μ', g1, g2, g3⟩ := sp_fail (d := d + 1) (k := 1) hC (by omega)
      refine ⟨μ', ?_, g2, g3⟩
      rw [q] at h4
      simp (disch := omega) only [nX2_stepIf, eX2_stepIf_0, eX2_stepIf_1, eX2_stepIf_4, eX2_stepIf_7, eX2_stepIf_8, eX2_stepIf_9, eX2_stepIf_12, eX2_stepIf_13, eX2_stepIf_16, eX2_stepIf_19, eX2_stepIf_22, eX2_stepIf_23, eX2_stepIf_24, eX2_stepIf_27, h4, zbt_f, g1, not_true_eq_false, not_false_eq_true, zok1, zok0, Bool.false_eq_true, zpush_s, zpush_n, Option.bind_some, Option.bind_none, ite_true, ite_false, if_true, if_false, ↓reduceIte, nI_add, pk_mul, ob0, ob2, ob3, ob22, ob25, ob63, Nat.reduceEqDiff, Nat.reduceAdd, Nat.reduceMul, Nat.reduceSub, pLeT, pLeF, pLtT, pLtF, pEqT, pEqF, qLtT, qLtF, qLeT, qLeF, qEqF, nI_sub2, nI_dec, ob5, ob13]
    · have e : pif n b true S = (0, tE n b S.2) := by
        unfold pif
        rw [if_neg (fun h => h q), if_pos rfl]
      rw [e]
      obtain ⟨μ', g1, g2, g3⟩ := sp_stepC (d := d) hC q
      refine ⟨μ', ?_, g2, g3⟩
      rw [q] at h4
      simp (disch := omega) only [nX2_stepIf, eX2_stepIf_0, eX2_stepIf_1, eX2_stepIf_4, eX2_stepIf_7, eX2_stepIf_8, eX2_stepIf_9, eX2_stepIf_12, eX2_stepIf_13, eX2_stepIf_16, eX2_stepIf_19, eX2_stepIf_22, eX2_stepIf_23, eX2_stepIf_24, eX2_stepIf_27, h4, zbt_t, g1, not_true_eq_false, not_false_eq_true, zok1, zok0, Bool.false_eq_true, zpush_s, zpush_n, Option.bind_some, Option.bind_none, ite_true, ite_false, if_true, if_false, ↓reduceIte, nI_add, pk_mul, ob0, ob2, ob3, ob22, ob25, ob63, Nat.reduceEqDiff, Nat.reduceAdd, Nat.reduceMul, Nat.reduceSub, pLeT, pLeF, pLtT, pLtF, pEqT, pEqF, qLtT, qLtF, qLeT, qLeF, qEqF, nI_sub2, nI_dec, ob5, ob13]
  · have e : pif n b c S = S := if_pos q
    rw [e]
    refine ⟨μ, ?_, FrT_id, hC⟩
    simp (disch := omega) only [nX2_stepIf, eX2_stepIf_0, eX2_stepIf_1, eX2_stepIf_4, eX2_stepIf_7, eX2_stepIf_8, eX2_stepIf_9, eX2_stepIf_12, eX2_stepIf_13, eX2_stepIf_16, eX2_stepIf_19, eX2_stepIf_22, eX2_stepIf_23, eX2_stepIf_24, eX2_stepIf_27, h4, not_true_eq_false, not_false_eq_true, zok1, zok0, Bool.false_eq_true, zpush_s, zpush_n, Option.bind_some, Option.bind_none, ite_true, ite_false, if_true, if_false, ↓reduceIte, nI_add, pk_mul, ob0, ob2, ob3, ob22, ob25, ob63, Nat.reduceEqDiff, Nat.reduceAdd, Nat.reduceMul, Nat.reduceSub, pLeT, pLeF, pLtT, pLtF, pEqT, pEqF, qLtT, qLtF, qLeT, qLeF, qEqF, nI_sub2, nI_dec, ob5, ob13]
theorem sp_isWordC {d n j r : Nat} {b : Nat → Nat} {μ : Zm} {S : Nat × Nat} (hC : CT μ n b S) (hj : j < 8) (hr : r = 2010 + j) : zC true (d + 5) mX4_isWord [.ref 3, .ref r] μ = some (some (.int (zbt (pwd n b S.2 j))), μ) := by
  obtain ⟨h1, h2, h3, h4, h5, h6, h7, h8, h9⟩ := hC
  exact sp_isWord h1 h2 h7 h8 h9 hj hr
theorem sp_readWord {d n j r : Nat} {b : Nat → Nat} {μ : Zm} {S : Nat × Nat} (hC : CT μ n b S) (hj : j < 8) (hr : r = 2010 + j) : ∃ μ', zC true (d + 6) mX2_readWord [.ref 2, .ref r] μ = some (none, μ') ∧ FrT μ μ' ∧ CT μ' n b (pif n b (pwd n b S.2 j) S) := by
  have hw := sp_isWordC (d := d) hC hj hr
  obtain ⟨μ', g1, g2, g3⟩ := sp_stepIf (d := d + 2) (c := pwd n b S.2 j) hC
  have g1 : zC true (d + 5) mX2_stepIf [.ref 2, .int (zbt (pwd n b S.2 j))] μ = some (none, μ') := g1
  refine ⟨μ', ?_, g2, g3⟩
  simp (disch := omega) only [nX2_readWord, eX2_readWord_0, eX2_readWord_1, eX2_readWord_2, eX2_readWord_5, eX2_readWord_6, eX2_readWord_9, eX2_readWord_12, hw, g1, not_true_eq_false, not_false_eq_true, zok1, zok0, Bool.false_eq_true, zpush_s, zpush_n, Option.bind_some, Option.bind_none, ite_true, ite_false, if_true, if_false, ↓reduceIte, nI_add, pk_mul, ob0, ob2, ob3, ob22, ob25, ob63, Nat.reduceEqDiff, Nat.reduceAdd, Nat.reduceMul, Nat.reduceSub, pLeT, pLeF, pLtT, pLtF, pEqT, pEqF, qLtT, qLtF, qLeT, qLeF, qEqF, nI_sub2, nI_dec, ob5, ob13]
theorem sp_readSign {d n : Nat} {b : Nat → Nat} {μ : Zm} {S : Nat × Nat} (hC : CT μ n b S) : ∃ μ', zC true (d + 4) mX2_readSign [.ref 2] μ = some (none, μ') ∧ FrT μ μ' ∧ CT μ' n b (pif n b (decide (tK n b S.2 = 3)) S) := by
  obtain ⟨h1, h2, h3, h4, h5, h6, h7, h8, h9⟩ := id hC
  have hK := tK_le (n := n) (b := b) (e := S.2)
  by_cases q : tK n b S.2 = 3
  · rw [decide_eq_true q]
    obtain ⟨μ', g1, g2, g3⟩ := sp_stepIf (d := d) (c := true) hC
    rw [zbt_t] at g1
    refine ⟨μ', ?_, g2, g3⟩
    simp (disch := omega) only [nX2_readSign, eX2_readSign_0, eX2_readSign_1, eX2_readSign_2, eX2_readSign_5, eX2_readSign_8, eX2_readSign_9, eX2_readSign_12, eX2_readSign_13, eX2_readSign_16, eX2_readSign_17, eX2_readSign_20, h7, g1, not_true_eq_false, not_false_eq_true, zok1, zok0, Bool.false_eq_true, zpush_s, zpush_n, Option.bind_some, Option.bind_none, ite_true, ite_false, if_true, if_false, ↓reduceIte, nI_add, pk_mul, ob0, ob2, ob3, ob22, ob25, ob63, Nat.reduceEqDiff, Nat.reduceAdd, Nat.reduceMul, Nat.reduceSub, pLeT, pLeF, pLtT, pLtF, pEqT, pEqF, qLtT, qLtF, qLeT, qLeF, qEqF, nI_sub2, nI_dec, ob5, ob13]
  · rw [decide_eq_false q]
    obtain ⟨μ', g1, g2, g3⟩ := sp_stepIf (d := d) (c := false) hC
    rw [zbt_f] at g1
    refine ⟨μ', ?_, g2, g3⟩
    simp (disch := omega) only [nX2_readSign, eX2_readSign_0, eX2_readSign_1, eX2_readSign_2, eX2_readSign_5, eX2_readSign_8, eX2_readSign_9, eX2_readSign_12, eX2_readSign_13, eX2_readSign_16, eX2_readSign_17, eX2_readSign_20, h7, g1, not_true_eq_false, not_false_eq_true, zok1, zok0, Bool.false_eq_true, zpush_s, zpush_n, Option.bind_some, Option.bind_none, ite_true, ite_false, if_true, if_false, ↓reduceIte, nI_add, pk_mul, ob0, ob2, ob3, ob22, ob25, ob63, Nat.reduceEqDiff, Nat.reduceAdd, Nat.reduceMul, Nat.reduceSub, pLeT, pLeF, pLtT, pLtF, pEqT, pEqF, qLtT, qLtF, qLeT, qLeF, qEqF, nI_sub2, nI_dec, ob5, ob13]
def psort (n : Nat) (b : Nat → Nat) (e : Nat) : Nat := if pwd n b e 2 = true then 1 else if pwd n b e 3 = true then 2 else if pwd n b e 4 = true then 3 else if pwd n b e 5 = true then 4 else if pwd n b e 6 = true then 5 else 0
theorem psort_le {n e : Nat} {b : Nat → Nat} : psort n b e ≤ 5 := by
  unfold psort
  repeat' split
  all_goals omega
theorem sp_sortTold {d n : Nat} {b : Nat → Nat} {μ : Zm} {S : Nat × Nat} (hC : CT μ n b S) : zC true (d + 6) mX2_sortTold [.ref 2] μ = some (some (.int (nI (psort n b S.2))), μ) := by
  have w2 := sp_isWordC (d := d) (j := 2) (r := 2012) hC (by omega) rfl
  have w3 := sp_isWordC (d := d) (j := 3) (r := 2013) hC (by omega) rfl
  have w4 := sp_isWordC (d := d) (j := 4) (r := 2014) hC (by omega) rfl
  have w5 := sp_isWordC (d := d) (j := 5) (r := 2015) hC (by omega) rfl
  have w6 := sp_isWordC (d := d) (j := 6) (r := 2016) hC (by omega) rfl
  unfold psort
  cases p2 : pwd n b S.2 2
  · cases p3 : pwd n b S.2 3
    · cases p4 : pwd n b S.2 4
      · cases p5 : pwd n b S.2 5
        · cases p6 : pwd n b S.2 6 <;>
          simp (disch := omega) only [nX2_sortTold, eX2_sortTold_0, eX2_sortTold_1, eX2_sortTold_4, eX2_sortTold_6, eX2_sortTold_9, eX2_sortTold_12, eX2_sortTold_13, eX2_sortTold_14, eX2_sortTold_15, eX2_sortTold_18, eX2_sortTold_20, eX2_sortTold_23, eX2_sortTold_26, eX2_sortTold_27, eX2_sortTold_28, eX2_sortTold_29, eX2_sortTold_32, eX2_sortTold_34, eX2_sortTold_37, eX2_sortTold_40, eX2_sortTold_41, eX2_sortTold_42, eX2_sortTold_43, eX2_sortTold_46, eX2_sortTold_48, eX2_sortTold_51, eX2_sortTold_54, eX2_sortTold_55, eX2_sortTold_56, eX2_sortTold_57, eX2_sortTold_60, eX2_sortTold_62, eX2_sortTold_65, eX2_sortTold_68, eX2_sortTold_69, eX2_sortTold_72, eX2_sortTold_73, w2, w3, w4, w5, w6, p2, p3, p4, p5, p6, zbt_t, zbt_f, not_true_eq_false, not_false_eq_true, zok1, zok0, Bool.false_eq_true, zpush_s, zpush_n, Option.bind_some, Option.bind_none, ite_true, ite_false, if_true, if_false, ↓reduceIte, nI_add, pk_mul, ob0, ob2, ob3, ob22, ob25, ob63, Nat.reduceEqDiff, Nat.reduceAdd, Nat.reduceMul, Nat.reduceSub, pLeT, pLeF, pLtT, pLtF, pEqT, pEqF, qLtT, qLtF, qLeT, qLeF, qEqF, nI_sub2, nI_dec, ob5, ob13]
        · simp (disch := omega) only [nX2_sortTold, eX2_sortTold_0, eX2_sortTold_1, eX2_sortTold_4, eX2_sortTold_6, eX2_sortTold_9, eX2_sortTold_12, eX2_sortTold_13, eX2_sortTold_14, eX2_sortTold_15, eX2_sortTold_18, eX2_sortTold_20, eX2_sortTold_23, eX2_sortTold_26, eX2_sortTold_27, eX2_sortTold_28, eX2_sortTold_29, eX2_sortTold_32, eX2_sortTold_34, eX2_sortTold_37, eX2_sortTold_40, eX2_sortTold_41, eX2_sortTold_42, eX2_sortTold_43, eX2_sortTold_46, eX2_sortTold_48, eX2_sortTold_51, eX2_sortTold_54, eX2_sortTold_55, eX2_sortTold_56, eX2_sortTold_57, eX2_sortTold_60, eX2_sortTold_62, eX2_sortTold_65, eX2_sortTold_68, eX2_sortTold_69, eX2_sortTold_72, eX2_sortTold_73, w2, w3, w4, w5, w6, p2, p3, p4, p5, zbt_t, zbt_f, not_true_eq_false, not_false_eq_true, zok1, zok0, Bool.false_eq_true, zpush_s, zpush_n, Option.bind_some, Option.bind_none, ite_true, ite_false, if_true, if_false, ↓reduceIte, nI_add, pk_mul, ob0, ob2, ob3, ob22, ob25, ob63, Nat.reduceEqDiff, Nat.reduceAdd, Nat.reduceMul, Nat.reduceSub, pLeT, pLeF, pLtT, pLtF, pEqT, pEqF, qLtT, qLtF, qLeT, qLeF, qEqF, nI_sub2, nI_dec, ob5, ob13]
      · simp (disch := omega) only [nX2_sortTold, eX2_sortTold_0, eX2_sortTold_1, eX2_sortTold_4, eX2_sortTold_6, eX2_sortTold_9, eX2_sortTold_12, eX2_sortTold_13, eX2_sortTold_14, eX2_sortTold_15, eX2_sortTold_18, eX2_sortTold_20, eX2_sortTold_23, eX2_sortTold_26, eX2_sortTold_27, eX2_sortTold_28, eX2_sortTold_29, eX2_sortTold_32, eX2_sortTold_34, eX2_sortTold_37, eX2_sortTold_40, eX2_sortTold_41, eX2_sortTold_42, eX2_sortTold_43, eX2_sortTold_46, eX2_sortTold_48, eX2_sortTold_51, eX2_sortTold_54, eX2_sortTold_55, eX2_sortTold_56, eX2_sortTold_57, eX2_sortTold_60, eX2_sortTold_62, eX2_sortTold_65, eX2_sortTold_68, eX2_sortTold_69, eX2_sortTold_72, eX2_sortTold_73, w2, w3, w4, w5, w6, p2, p3, p4, zbt_t, zbt_f, not_true_eq_false, not_false_eq_true, zok1, zok0, Bool.false_eq_true, zpush_s, zpush_n, Option.bind_some, Option.bind_none, ite_true, ite_false, if_true, if_false, ↓reduceIte, nI_add, pk_mul, ob0, ob2, ob3, ob22, ob25, ob63, Nat.reduceEqDiff, Nat.reduceAdd, Nat.reduceMul, Nat.reduceSub, pLeT, pLeF, pLtT, pLtF, pEqT, pEqF, qLtT, qLtF, qLeT, qLeF, qEqF, nI_sub2, nI_dec, ob5, ob13]
    · simp (disch := omega) only [nX2_sortTold, eX2_sortTold_0, eX2_sortTold_1, eX2_sortTold_4, eX2_sortTold_6, eX2_sortTold_9, eX2_sortTold_12, eX2_sortTold_13, eX2_sortTold_14, eX2_sortTold_15, eX2_sortTold_18, eX2_sortTold_20, eX2_sortTold_23, eX2_sortTold_26, eX2_sortTold_27, eX2_sortTold_28, eX2_sortTold_29, eX2_sortTold_32, eX2_sortTold_34, eX2_sortTold_37, eX2_sortTold_40, eX2_sortTold_41, eX2_sortTold_42, eX2_sortTold_43, eX2_sortTold_46, eX2_sortTold_48, eX2_sortTold_51, eX2_sortTold_54, eX2_sortTold_55, eX2_sortTold_56, eX2_sortTold_57, eX2_sortTold_60, eX2_sortTold_62, eX2_sortTold_65, eX2_sortTold_68, eX2_sortTold_69, eX2_sortTold_72, eX2_sortTold_73, w2, w3, w4, w5, w6, p2, p3, zbt_t, zbt_f, not_true_eq_false, not_false_eq_true, zok1, zok0, Bool.false_eq_true, zpush_s, zpush_n, Option.bind_some, Option.bind_none, ite_true, ite_false, if_true, if_false, ↓reduceIte, nI_add, pk_mul, ob0, ob2, ob3, ob22, ob25, ob63, Nat.reduceEqDiff, Nat.reduceAdd, Nat.reduceMul, Nat.reduceSub, pLeT, pLeF, pLtT, pLtF, pEqT, pEqF, qLtT, qLtF, qLeT, qLeF, qEqF, nI_sub2, nI_dec, ob5, ob13]
  · simp (disch := omega) only [nX2_sortTold, eX2_sortTold_0, eX2_sortTold_1, eX2_sortTold_4, eX2_sortTold_6, eX2_sortTold_9, eX2_sortTold_12, eX2_sortTold_13, eX2_sortTold_14, eX2_sortTold_15, eX2_sortTold_18, eX2_sortTold_20, eX2_sortTold_23, eX2_sortTold_26, eX2_sortTold_27, eX2_sortTold_28, eX2_sortTold_29, eX2_sortTold_32, eX2_sortTold_34, eX2_sortTold_37, eX2_sortTold_40, eX2_sortTold_41, eX2_sortTold_42, eX2_sortTold_43, eX2_sortTold_46, eX2_sortTold_48, eX2_sortTold_51, eX2_sortTold_54, eX2_sortTold_55, eX2_sortTold_56, eX2_sortTold_57, eX2_sortTold_60, eX2_sortTold_62, eX2_sortTold_65, eX2_sortTold_68, eX2_sortTold_69, eX2_sortTold_72, eX2_sortTold_73, w2, w3, w4, w5, w6, p2, zbt_t, zbt_f, not_true_eq_false, not_false_eq_true, zok1, zok0, Bool.false_eq_true, zpush_s, zpush_n, Option.bind_some, Option.bind_none, ite_true, ite_false, if_true, if_false, ↓reduceIte, nI_add, pk_mul, ob0, ob2, ob3, ob22, ob25, ob63, Nat.reduceEqDiff, Nat.reduceAdd, Nat.reduceMul, Nat.reduceSub, pLeT, pLeF, pLtT, pLtF, pEqT, pEqF, qLtT, qLtF, qLeT, qLeF, qEqF, nI_sub2, nI_dec, ob5, ob13]
theorem sp_readSort {d n : Nat} {b : Nat → Nat} {μ : Zm} {S : Nat × Nat} (hC : CT μ n b S) : ∃ μ', zC true (d + 7) mX2_readSort [.ref 2] μ = some (some (.int (nI (psort n b S.2))), μ') ∧ FrT μ μ' ∧ CT μ' n b (pif n b (decide (psort n b S.2 ≠ 0)) S) := by
  have hs := sp_sortTold (d := d) hC
  have hK := psort_le (n := n) (b := b) (e := S.2)
  by_cases q : psort n b S.2 = 0
  · rw [decide_eq_false (fun h => h q)]
    obtain ⟨μ', g1, g2, g3⟩ := sp_stepIf (d := d + 3) (c := false) hC
    rw [zbt_f] at g1
    have g1 : zC true (d + 6) mX2_stepIf [.ref 2, .int (nI 0)] μ = some (none, μ') := g1
    refine ⟨μ', ?_, g2, g3⟩
    simp (disch := omega) only [nX2_readSort, eX2_readSort_0, eX2_readSort_1, eX2_readSort_4, eX2_readSort_5, eX2_readSort_6, eX2_readSort_7, eX2_readSort_10, eX2_readSort_11, eX2_readSort_14, eX2_readSort_15, eX2_readSort_18, eX2_readSort_19, hs, g1, not_true_eq_false, not_false_eq_true, zok1, zok0, Bool.false_eq_true, zpush_s, zpush_n, Option.bind_some, Option.bind_none, ite_true, ite_false, if_true, if_false, ↓reduceIte, nI_add, pk_mul, ob0, ob2, ob3, ob22, ob25, ob63, Nat.reduceEqDiff, Nat.reduceAdd, Nat.reduceMul, Nat.reduceSub, pLeT, pLeF, pLtT, pLtF, pEqT, pEqF, qLtT, qLtF, qLeT, qLeF, qEqF, nI_sub2, nI_dec, ob5, ob13]
  · rw [decide_eq_true q]
    obtain ⟨μ', g1, g2, g3⟩ := sp_stepIf (d := d + 3) (c := true) hC
    rw [zbt_t] at g1
    have g1 : zC true (d + 6) mX2_stepIf [.ref 2, .int (nI 1)] μ = some (none, μ') := g1
    refine ⟨μ', ?_, g2, g3⟩
    simp (disch := omega) only [nX2_readSort, eX2_readSort_0, eX2_readSort_1, eX2_readSort_4, eX2_readSort_5, eX2_readSort_6, eX2_readSort_7, eX2_readSort_10, eX2_readSort_11, eX2_readSort_14, eX2_readSort_15, eX2_readSort_18, eX2_readSort_19, hs, g1, not_true_eq_false, not_false_eq_true, zok1, zok0, Bool.false_eq_true, zpush_s, zpush_n, Option.bind_some, Option.bind_none, ite_true, ite_false, if_true, if_false, ↓reduceIte, nI_add, pk_mul, ob0, ob2, ob3, ob22, ob25, ob63, Nat.reduceEqDiff, Nat.reduceAdd, Nat.reduceMul, Nat.reduceSub, pLeT, pLeF, pLtT, pLtF, pEqT, pEqF, qLtT, qLtF, qLeT, qLeF, qEqF, nI_sub2, nI_dec, ob5, ob13]
theorem tK_2 {n e : Nat} {b : Nat → Nat} (h : tK n b e = 2) : tB n b e < n ∧ tE n b e - tB n b e ≤ 3 ∧ tE n b e = zsk (bFg b) (n - tB n b e) (tB n b e) := by
  unfold tK at h
  split at h
  · omega
  · next q =>
    split at h
    · omega
    · next q2 =>
      split at h
      · next q3 =>
        split at h
        · next q4 =>
          refine ⟨by omega, q4, ?_⟩
          unfold tE
          rw [if_neg q, if_neg q2, if_pos q3]
        · omega
      · split at h <;> omega
theorem tK_dg {n e : Nat} {b : Nat → Nat} (h : tK n b e = 2) {i : Nat} (hi : i < tE n b e - tB n b e) : 48 ≤ b (tB n b e + i) ∧ b (tB n b e + i) ≤ 57 := by
  have ⟨q1, q2, e1⟩ := tK_2 h
  have qb : bFg b (tB n b e + i) = true := zsk_in (n - tB n b e) (tB n b e) (tB n b e + i) (by omega) (by omega)
  unfold bFg at qb
  rw [Bool.and_eq_true] at qb
  exact ⟨of_decide_eq_true qb.1, of_decide_eq_true qb.2⟩
theorem nv_lt {b : Nat → Nat} {p : Nat} : ∀ k, (∀ i, i < k → b (p + i) ≤ 57) → nv b p k < 10 ^ k
  | 0, _ => by show 0 < 10 ^ 0; decide
  | k + 1, h => by
    have ih := nv_lt (b := b) (p := p) k (fun i hi => h i (by omega))
    have hk := h k (by omega)
    rw [nv, Nat.pow_succ]
    omega
theorem tV_le {n e : Nat} {b : Nat → Nat} (h : tK n b e = 2) : tV n b e ≤ 999 := by
  have ⟨q1, q2, e1⟩ := tK_2 h
  have k1 := nv_lt (b := b) (p := tB n b e) (tE n b e - tB n b e) (fun i hi => (tK_dg h hi).2)
  have k2 : 10 ^ (tE n b e - tB n b e) ≤ 10 ^ 3 := Nat.pow_le_pow_right (by omega) q2
  unfold tV
  omega
theorem sp_value {d n : Nat} {b : Nat → Nat} {μ : Zm} {S : Nat × Nat} (hC : CT μ n b S) (h : tK n b S.2 = 2) : zC true (d + 1) mX4_value [.ref 3] μ = some (some (.int (nI (tV n b S.2))), μ) := by
  obtain ⟨⟨h4, hlen, hby⟩, h2, h3, _, h5, h6, h7, h8, h9⟩ := hC
  have hB := tB_le (b := b) h2
  have hE := tE_le (b := b) h2
  have hl := zloop (fun i => zA d mX4_value 7 [.ref 3, .int (nI (nv b (tB n b S.2) i)), .int (nI (tB n b S.2 + i))] [] μ) (tE n b S.2 - tB n b S.2) (fun i hi => by
    have dg := tK_dg h hi
    have h3 := (hby (tB n b S.2 + i) (by omega)).2
    have e : sxb (b (tB n b S.2 + i)) = nI (b (tB n b S.2 + i)) := by
      rcases sxb_c (b := b (tB n b S.2 + i)) (by omega) with ⟨_, q⟩ | ⟨q, _⟩
      · exact q
      · omega
    have m3 : 10 * nv b (tB n b S.2) i + (b (tB n b S.2 + i) - 48) = nv b (tB n b S.2) i * 10 + b (tB n b S.2 + i) - 48 := by omega
    (try dsimp only)
    rw [eX4_value_7, nv, m3]
    simp (disch := omega) only [eX4_value_0, eX4_value_1, eX4_value_2, eX4_value_3, eX4_value_6, eX4_value_8, eX4_value_9, eX4_value_12, eX4_value_15, eX4_value_16, eX4_value_18, eX4_value_19, eX4_value_20, eX4_value_23, eX4_value_24, eX4_value_25, eX4_value_26, eX4_value_28, eX4_value_29, eX4_value_30, eX4_value_33, eX4_value_37, h9, h3, e, rd6, wr6, rd7, wr7, rd8, wr8, rd9, wr9, rd10, wr10, rd11, wr11, rd12, wr12, rd14, wr14, rd15, wr15, rd16, wr16, rd17, wr17, rd18, wr18, rd19, wr19, rd20, wr20, rd23, wr23, rd24, wr24, rd26, wr26, rd27, wr27, rd28, wr28, rd29, wr29, rd30, wr30, rd64, wr64, rd65, wr65, rd67, wr67, rd68, wr68, rd69, wr69, rd70, wr70, rd71, wr71, rd72, wr72, rd73, wr73, rb4, rb66, wb4, wb66, rdR, wrR, lenR, len1, len21, ofNat_nI, not_true_eq_false, not_false_eq_true, zok1, zok0, Bool.false_eq_true, zpush_s, zpush_n, Option.bind_some, Option.bind_none, ite_true, ite_false, if_true, if_false, ↓reduceIte, nI_add, pk_mul, ob0, ob2, ob3, ob22, ob25, ob63, Nat.reduceEqDiff, Nat.reduceAdd, Nat.reduceMul, Nat.reduceSub, pLeT, pLeF, pLtT, pLtF, pEqT, pEqF, qLtT, qLtF, qLeT, qLeF, qEqF, nI_sub2, nI_dec, ob5, ob13]
    rfl)
  have e3 : tB n b S.2 + (tE n b S.2 - tB n b S.2) = tE n b S.2 := by omega
  (try dsimp only at hl)
  rw [e3, show tB n b S.2 + 0 = tB n b S.2 from rfl, show nv b (tB n b S.2) 0 = 0 from rfl] at hl
  rw [nX4_value]
  simp (disch := omega) only [eX4_value_0, eX4_value_1, eX4_value_2, eX4_value_3, eX4_value_6, h8, not_true_eq_false, not_false_eq_true, zok1, zok0, Bool.false_eq_true, zpush_s, zpush_n, Option.bind_some, Option.bind_none, ite_true, ite_false, if_true, if_false, ↓reduceIte, nI_add, pk_mul, ob0, ob2, ob3, ob22, ob25, ob63]
  refine hl.trans ?_
  rw [eX4_value_7]
  simp (disch := omega) only [eX4_value_0, eX4_value_1, eX4_value_2, eX4_value_3, eX4_value_6, eX4_value_8, eX4_value_9, eX4_value_12, eX4_value_15, eX4_value_16, eX4_value_18, eX4_value_19, eX4_value_20, eX4_value_23, eX4_value_24, eX4_value_25, eX4_value_26, eX4_value_28, eX4_value_29, eX4_value_30, eX4_value_33, eX4_value_36, eX4_value_37, h9, not_true_eq_false, not_false_eq_true, zok1, zok0, Bool.false_eq_true, zpush_s, zpush_n, Option.bind_some, Option.bind_none, ite_true, ite_false, if_true, if_false, ↓reduceIte, nI_add, pk_mul, ob0, ob2, ob3, ob22, ob25, ob63, Nat.reduceEqDiff, Nat.reduceAdd, Nat.reduceMul, Nat.reduceSub, pLeT, pLeF, pLtT, pLtF, pEqT, pEqF, qLtT, qLtF, qLeT, qLeF, qEqF, nI_sub2, nI_dec, ob5, ob13]
  rfl
def rok (v : Nat) (lo hi : Int32) : Bool := !decide (nI v < lo) && !decide (hi < nI v)
theorem rok_lt {v K : Nat} (hv : v < 1000) (hK : K < 1000) : rok v (nI 0) (nI K - nI 1) = decide (v < K) := by
  unfold rok
  have h1 : (nI v < nI 0) = False := pLtF (by omega)
  by_cases q : K = 0
  · subst q
    have e : nI 0 - nI 1 = (-1 : Int32) := by decide
    have hm1 : (-1 : Int32).toInt < 0 := by decide
    have h2 : ((-1 : Int32) < nI v) = True := qLtT (by omega)
    rw [e]
    simp [h1, h2]
  · rw [nI_sub2 (by omega)]
    by_cases c : v < K
    · have h2 : (nI (K - 1) < nI v) = False := pLtF (by omega)
      simp [h1, h2, c]
    · have h2 : (nI (K - 1) < nI v) = True := pLtT (by omega)
      simp [h2, c]
theorem rok_in {v l h : Nat} (hv : v < 1000) (hl : l < 1000) (hh : h < 1000) : rok v (nI l) (nI h) = decide (l ≤ v ∧ v ≤ h) := by
  unfold rok
  by_cases c1 : v < l
  · have h1 : (nI v < nI l) = True := pLtT (by omega)
    rw [decide_eq_false (by omega : ¬ (l ≤ v ∧ v ≤ h))]
    simp [h1]
  · have h1 : (nI v < nI l) = False := pLtF (by omega)
    by_cases c2 : h < v
    · have h2 : (nI h < nI v) = True := pLtT (by omega)
      rw [decide_eq_false (by omega : ¬ (l ≤ v ∧ v ≤ h))]
      simp [h2]
    · have h2 : (nI h < nI v) = False := pLtF (by omega)
      rw [decide_eq_true (by omega : l ≤ v ∧ v ≤ h)]
      simp [h1, h2]
def prn (n : Nat) (b : Nat → Nat) (lo hi : Int32) (S : Nat × Nat) : Nat × Nat := if S.1 ≠ 0 then S else if tK n b S.2 ≠ 2 then (1, S.2) else if rok (tV n b S.2) lo hi = true then (0, tE n b S.2) else (2, S.2)
theorem sp_readNumber {d n : Nat} {b : Nat → Nat} {μ : Zm} {S : Nat × Nat} {lo hi : Int32} (hC : CT μ n b S) : ∃ μ', zC true (d + 3) mX2_readNumber [.ref 2, .int lo, .int hi] μ = some (some (.int (nI (if (prn n b lo hi S).1 = 0 then tV n b S.2 else 0))), μ') ∧ FrT μ μ' ∧ CT μ' n b (prn n b lo hi S) := by
  obtain ⟨h1, h2, h3, h4, h5, h6, h7, h8, h9⟩ := id hC
  have hK := tK_le (n := n) (b := b) (e := S.2)
  by_cases q : S.1 = 0
  · rw [q] at h4
    by_cases k2 : tK n b S.2 = 2
    · have hv := sp_value (d := d + 1) hC k2
      cases r : rok (tV n b S.2) lo hi
      · have e : prn n b lo hi S = (2, S.2) := by
          unfold prn
          rw [if_neg (fun h => h q), if_neg (fun h => h k2), if_neg (by rw [r]; decide)]
        have e2 : pfl 2 S = (2, S.2) := if_pos q
        obtain ⟨μ', g1, g2, g3⟩ := sp_fail (d := d + 1) (k := 2) hC (by omega)
        rw [e2] at g3
        rw [e, if_neg (by omega)]
        refine ⟨μ', ?_, g2, g3⟩
        unfold rok at r
        rw [Bool.and_eq_false_iff] at r
        by_cases c1 : nI (tV n b S.2) < lo
        · simp (disch := omega) only [nX2_readNumber, eX2_readNumber_0, eX2_readNumber_1, eX2_readNumber_4, eX2_readNumber_7, eX2_readNumber_8, eX2_readNumber_11, eX2_readNumber_14, eX2_readNumber_15, eX2_readNumber_18, eX2_readNumber_19, eX2_readNumber_22, eX2_readNumber_25, eX2_readNumber_26, eX2_readNumber_27, eX2_readNumber_28, eX2_readNumber_31, eX2_readNumber_32, eX2_readNumber_33, eX2_readNumber_36, eX2_readNumber_37, eX2_readNumber_38, eX2_readNumber_41, eX2_readNumber_42, eX2_readNumber_43, eX2_readNumber_44, eX2_readNumber_47, eX2_readNumber_50, eX2_readNumber_51, eX2_readNumber_52, eX2_readNumber_53, eX2_readNumber_54, eX2_readNumber_57, eX2_readNumber_58, h4, h7, k2, hv, c1, g1, not_true_eq_false, not_false_eq_true, zok1, zok0, Bool.false_eq_true, zpush_s, zpush_n, Option.bind_some, Option.bind_none, ite_true, ite_false, if_true, if_false, ↓reduceIte, nI_add, pk_mul, ob0, ob2, ob3, ob22, ob25, ob63, Nat.reduceEqDiff, Nat.reduceAdd, Nat.reduceMul, Nat.reduceSub, pLeT, pLeF, pLtT, pLtF, pEqT, pEqF, qLtT, qLtF, qLeT, qLeF, qEqF, nI_sub2, nI_dec, ob5, ob13]
        · have c2 : ¬ nI (tV n b S.2) ≤ hi := by
            rcases r with r | r
            · simp [c1] at r
            · have : hi < nI (tV n b S.2) := by simpa using r
              exact Int32.not_le.mpr this
          simp (disch := omega) only [nX2_readNumber, eX2_readNumber_0, eX2_readNumber_1, eX2_readNumber_4, eX2_readNumber_7, eX2_readNumber_8, eX2_readNumber_11, eX2_readNumber_14, eX2_readNumber_15, eX2_readNumber_18, eX2_readNumber_19, eX2_readNumber_22, eX2_readNumber_25, eX2_readNumber_26, eX2_readNumber_27, eX2_readNumber_28, eX2_readNumber_31, eX2_readNumber_32, eX2_readNumber_33, eX2_readNumber_36, eX2_readNumber_37, eX2_readNumber_38, eX2_readNumber_41, eX2_readNumber_42, eX2_readNumber_43, eX2_readNumber_44, eX2_readNumber_47, eX2_readNumber_50, eX2_readNumber_51, eX2_readNumber_52, eX2_readNumber_53, eX2_readNumber_54, eX2_readNumber_57, eX2_readNumber_58, h4, h7, k2, hv, c1, c2, g1, not_true_eq_false, not_false_eq_true, zok1, zok0, Bool.false_eq_true, zpush_s, zpush_n, Option.bind_some, Option.bind_none, ite_true, ite_false, if_true, if_false, ↓reduceIte, nI_add, pk_mul, ob0, ob2, ob3, ob22, ob25, ob63, Nat.reduceEqDiff, Nat.reduceAdd, Nat.reduceMul, Nat.reduceSub, pLeT, pLeF, pLtT, pLtF, pEqT, pEqF, qLtT, qLtF, qLeT, qLeF, qEqF, nI_sub2, nI_dec, ob5, ob13]
      · have e : prn n b lo hi S = (0, tE n b S.2) := by
          unfold prn
          rw [if_neg (fun h => h q), if_neg (fun h => h k2), if_pos r]
        obtain ⟨μ', g1, g2, g3⟩ := sp_stepC (d := d) hC q
        rw [e, if_pos rfl]
        refine ⟨μ', ?_, g2, g3⟩
        unfold rok at r
        rw [Bool.and_eq_true] at r
        have c1 : ¬ nI (tV n b S.2) < lo := by simpa using r.1
        have c2 : nI (tV n b S.2) ≤ hi := Int32.not_lt.mp (by simpa using r.2)
        simp (disch := omega) only [nX2_readNumber, eX2_readNumber_0, eX2_readNumber_1, eX2_readNumber_4, eX2_readNumber_7, eX2_readNumber_8, eX2_readNumber_11, eX2_readNumber_14, eX2_readNumber_15, eX2_readNumber_18, eX2_readNumber_19, eX2_readNumber_22, eX2_readNumber_25, eX2_readNumber_26, eX2_readNumber_27, eX2_readNumber_28, eX2_readNumber_31, eX2_readNumber_32, eX2_readNumber_33, eX2_readNumber_36, eX2_readNumber_37, eX2_readNumber_38, eX2_readNumber_41, eX2_readNumber_42, eX2_readNumber_43, eX2_readNumber_44, eX2_readNumber_47, eX2_readNumber_50, eX2_readNumber_51, eX2_readNumber_52, eX2_readNumber_53, eX2_readNumber_54, eX2_readNumber_57, eX2_readNumber_58, h4, h7, k2, hv, c1, c2, g1, not_true_eq_false, not_false_eq_true, zok1, zok0, Bool.false_eq_true, zpush_s, zpush_n, Option.bind_some, Option.bind_none, ite_true, ite_false, if_true, if_false, ↓reduceIte, nI_add, pk_mul, ob0, ob2, ob3, ob22, ob25, ob63, Nat.reduceEqDiff, Nat.reduceAdd, Nat.reduceMul, Nat.reduceSub, pLeT, pLeF, pLtT, pLtF, pEqT, pEqF, qLtT, qLtF, qLeT, qLeF, qEqF, nI_sub2, nI_dec, ob5, ob13]
    · have e : prn n b lo hi S = (1, S.2) := by
        unfold prn
        rw [if_neg (fun h => h q), if_pos k2]
      have e2 : pfl 1 S = (1, S.2) := if_pos q
      obtain ⟨μ', g1, g2, g3⟩ := sp_fail (d := d + 1) (k := 1) hC (by omega)
      rw [e2] at g3
      rw [e, if_neg (by omega)]
      refine ⟨μ', ?_, g2, g3⟩
      simp (disch := omega) only [nX2_readNumber, eX2_readNumber_0, eX2_readNumber_1, eX2_readNumber_4, eX2_readNumber_7, eX2_readNumber_8, eX2_readNumber_11, eX2_readNumber_14, eX2_readNumber_15, eX2_readNumber_18, eX2_readNumber_19, eX2_readNumber_22, eX2_readNumber_25, eX2_readNumber_26, eX2_readNumber_27, eX2_readNumber_28, eX2_readNumber_31, eX2_readNumber_32, eX2_readNumber_33, eX2_readNumber_36, eX2_readNumber_37, eX2_readNumber_38, eX2_readNumber_41, eX2_readNumber_42, eX2_readNumber_43, eX2_readNumber_44, eX2_readNumber_47, eX2_readNumber_50, eX2_readNumber_51, eX2_readNumber_52, eX2_readNumber_53, eX2_readNumber_54, eX2_readNumber_57, eX2_readNumber_58, h4, h7, g1, not_true_eq_false, not_false_eq_true, zok1, zok0, Bool.false_eq_true, zpush_s, zpush_n, Option.bind_some, Option.bind_none, ite_true, ite_false, if_true, if_false, ↓reduceIte, nI_add, pk_mul, ob0, ob2, ob3, ob22, ob25, ob63, Nat.reduceEqDiff, Nat.reduceAdd, Nat.reduceMul, Nat.reduceSub, pLeT, pLeF, pLtT, pLtF, pEqT, pEqF, qLtT, qLtF, qLeT, qLeF, qEqF, nI_sub2, nI_dec, ob5, ob13]
  · have e : prn n b lo hi S = S := if_pos q
    have e2 : pfl 1 S = S := if_neg q
    obtain ⟨μ', g1, g2, g3⟩ := sp_fail (d := d + 1) (k := 1) hC (by omega)
    rw [e2] at g3
    rw [e, if_neg q]
    refine ⟨μ', ?_, g2, g3⟩
    simp (disch := omega) only [nX2_readNumber, eX2_readNumber_0, eX2_readNumber_1, eX2_readNumber_4, eX2_readNumber_7, eX2_readNumber_8, eX2_readNumber_11, eX2_readNumber_14, eX2_readNumber_15, eX2_readNumber_18, eX2_readNumber_19, eX2_readNumber_22, eX2_readNumber_25, eX2_readNumber_26, eX2_readNumber_27, eX2_readNumber_28, eX2_readNumber_31, eX2_readNumber_32, eX2_readNumber_33, eX2_readNumber_36, eX2_readNumber_37, eX2_readNumber_38, eX2_readNumber_41, eX2_readNumber_42, eX2_readNumber_43, eX2_readNumber_44, eX2_readNumber_47, eX2_readNumber_50, eX2_readNumber_51, eX2_readNumber_52, eX2_readNumber_53, eX2_readNumber_54, eX2_readNumber_57, eX2_readNumber_58, h4, g1, not_true_eq_false, not_false_eq_true, zok1, zok0, Bool.false_eq_true, zpush_s, zpush_n, Option.bind_some, Option.bind_none, ite_true, ite_false, if_true, if_false, ↓reduceIte, nI_add, pk_mul, ob0, ob2, ob3, ob22, ob25, ob63, Nat.reduceEqDiff, Nat.reduceAdd, Nat.reduceMul, Nat.reduceSub, pLeT, pLeF, pLtT, pLtF, pEqT, pEqF, qLtT, qLtF, qLeT, qLeF, qEqF, nI_sub2, nI_dec, ob5, ob13]
def pwn (n : Nat) (b : Nat → Nat) (W : Nat) (S : Nat × Nat) : Nat × Nat := if S.1 ≠ 0 then S else if tK n b S.2 ≠ 2 then (1, S.2) else if tV n b S.2 = 9 ∨ tV n b S.2 < W then (0, tE n b S.2) else (2, S.2)
theorem sp_readWorn {d n W : Nat} {b : Nat → Nat} {μ : Zm} {S : Nat × Nat} (hC : CT μ n b S) (hW : W ≤ 7) : ∃ μ', zC true (d + 4) mX2_readWorn [.ref 2, .int (nI W)] μ = some (some (.int (if (pwn n b W S).1 = 0 then (if tV n b S.2 = 9 then -1 else nI (tV n b S.2)) else nI 0)), μ') ∧ FrT μ μ' ∧ CT μ' n b (pwn n b W S) := by
  obtain ⟨h1, h2, h3, h4, h5, h6, h7, h8, h9⟩ := id hC
  have hK := tK_le (n := n) (b := b) (e := S.2)
  by_cases q : S.1 = 0
  · rw [q] at h4
    by_cases k2 : tK n b S.2 = 2
    · have hv := sp_value (d := d + 2) hC k2
      have hv9 := tV_le k2
      by_cases c9 : tV n b S.2 = 9
      · have e : pwn n b W S = (0, tE n b S.2) := by
          unfold pwn
          rw [if_neg (fun h => h q), if_neg (fun h => h k2), if_pos (Or.inl c9)]
        obtain ⟨μ', g1, g2, g3⟩ := sp_stepC (d := d + 1) hC q
        rw [e, if_pos rfl, if_pos c9]
        refine ⟨μ', ?_, g2, g3⟩
        simp (disch := omega) only [nX2_readWorn, eX2_readWorn_0, eX2_readWorn_1, eX2_readWorn_4, eX2_readWorn_7, eX2_readWorn_8, eX2_readWorn_11, eX2_readWorn_14, eX2_readWorn_15, eX2_readWorn_18, eX2_readWorn_19, eX2_readWorn_22, eX2_readWorn_25, eX2_readWorn_27, eX2_readWorn_30, eX2_readWorn_31, eX2_readWorn_34, eX2_readWorn_37, eX2_readWorn_38, eX2_readWorn_39, eX2_readWorn_40, eX2_readWorn_41, eX2_readWorn_42, eX2_readWorn_43, eX2_readWorn_44, eX2_readWorn_47, h4, h7, k2, hv, g1, not_true_eq_false, not_false_eq_true, zok1, zok0, Bool.false_eq_true, zpush_s, zpush_n, Option.bind_some, Option.bind_none, ite_true, ite_false, if_true, if_false, ↓reduceIte, nI_add, pk_mul, ob0, ob2, ob3, ob22, ob25, ob63, Nat.reduceEqDiff, Nat.reduceAdd, Nat.reduceMul, Nat.reduceSub, pLeT, pLeF, pLtT, pLtF, pEqT, pEqF, qLtT, qLtF, qLeT, qLeF, qEqF, nI_sub2, nI_dec, ob5, ob13]
      · have e : pwn n b W S = prn n b (nI 0) (nI W - nI 1) S := by
          unfold pwn prn
          rw [rok_lt (by omega) (by omega)]
          simp only [decide_eq_true_eq, c9, false_or]
        obtain ⟨μ', g1, g2, g3⟩ := sp_readNumber (d := d) (lo := nI 0) (hi := nI W - nI 1) hC
        rw [e]
        refine ⟨μ', ?_, g2, g3⟩
        have e3 : (if (prn n b (nI 0) (nI W - nI 1) S).1 = 0 then (if tV n b S.2 = 9 then (-1 : Int32) else nI (tV n b S.2)) else nI 0) = nI (if (prn n b (nI 0) (nI W - nI 1) S).1 = 0 then tV n b S.2 else 0) := by
          rw [if_neg c9]
          split <;> rfl
        rw [e3]
        simp (disch := omega) only [nX2_readWorn, eX2_readWorn_0, eX2_readWorn_1, eX2_readWorn_4, eX2_readWorn_7, eX2_readWorn_8, eX2_readWorn_11, eX2_readWorn_14, eX2_readWorn_15, eX2_readWorn_18, eX2_readWorn_19, eX2_readWorn_22, eX2_readWorn_25, eX2_readWorn_27, eX2_readWorn_30, eX2_readWorn_31, eX2_readWorn_34, eX2_readWorn_37, eX2_readWorn_38, eX2_readWorn_39, eX2_readWorn_40, eX2_readWorn_41, eX2_readWorn_42, eX2_readWorn_43, eX2_readWorn_44, eX2_readWorn_47, h4, h7, k2, hv, jEqF, pEqF, g1, not_true_eq_false, not_false_eq_true, zok1, zok0, Bool.false_eq_true, zpush_s, zpush_n, Option.bind_some, Option.bind_none, ite_true, ite_false, if_true, if_false, reduceIte, nI_add, pk_mul, ob0, ob2, ob3, ob22, ob25, ob63, ↓reduceIte]
    · have e0 : pwn n b W S = (1, S.2) := by
        unfold pwn
        rw [if_neg (fun h => h q), if_pos k2]
      have e1 : prn n b (nI 0) (nI W - nI 1) S = (1, S.2) := by
        unfold prn
        rw [if_neg (fun h => h q), if_pos k2]
      obtain ⟨μ', g1, g2, g3⟩ := sp_readNumber (d := d) (lo := nI 0) (hi := nI W - nI 1) hC
      rw [e1, if_neg (by omega)] at g1
      rw [e1] at g3
      rw [e0, if_neg (by omega)]
      refine ⟨μ', ?_, g2, g3⟩
      simp (disch := omega) only [nX2_readWorn, eX2_readWorn_0, eX2_readWorn_1, eX2_readWorn_4, eX2_readWorn_7, eX2_readWorn_8, eX2_readWorn_11, eX2_readWorn_14, eX2_readWorn_15, eX2_readWorn_18, eX2_readWorn_19, eX2_readWorn_22, eX2_readWorn_25, eX2_readWorn_27, eX2_readWorn_30, eX2_readWorn_31, eX2_readWorn_34, eX2_readWorn_37, eX2_readWorn_38, eX2_readWorn_39, eX2_readWorn_40, eX2_readWorn_41, eX2_readWorn_42, eX2_readWorn_43, eX2_readWorn_44, eX2_readWorn_47, h4, h7, pEqF, g1, not_true_eq_false, not_false_eq_true, zok1, zok0, Bool.false_eq_true, zpush_s, zpush_n, Option.bind_some, Option.bind_none, ite_true, ite_false, if_true, if_false, reduceIte, nI_add, pk_mul, ob0, ob2, ob3, ob22, ob25, ob63, ↓reduceIte]
  · have e : pwn n b W S = S := if_pos q
    have e1 : prn n b (nI 0) (nI W - nI 1) S = S := if_pos q
    obtain ⟨μ', g1, g2, g3⟩ := sp_readNumber (d := d) (lo := nI 0) (hi := nI W - nI 1) hC
    rw [e, if_neg q]
    rw [e1, if_neg q] at g1
    rw [e1] at g3
    refine ⟨μ', ?_, g2, g3⟩
    simp (disch := omega) only [nX2_readWorn, eX2_readWorn_0, eX2_readWorn_1, eX2_readWorn_4, eX2_readWorn_7, eX2_readWorn_8, eX2_readWorn_11, eX2_readWorn_14, eX2_readWorn_15, eX2_readWorn_18, eX2_readWorn_19, eX2_readWorn_22, eX2_readWorn_25, eX2_readWorn_27, eX2_readWorn_30, eX2_readWorn_31, eX2_readWorn_34, eX2_readWorn_37, eX2_readWorn_38, eX2_readWorn_39, eX2_readWorn_40, eX2_readWorn_41, eX2_readWorn_42, eX2_readWorn_43, eX2_readWorn_44, eX2_readWorn_47, h4, pEqF, g1, not_true_eq_false, not_false_eq_true, zok1, zok0, Bool.false_eq_true, zpush_s, zpush_n, Option.bind_some, Option.bind_none, ite_true, ite_false, if_true, if_false, reduceIte, nI_add, pk_mul, ob0, ob2, ob3, ob22, ob25, ob63, ↓reduceIte]
theorem sp_isNext {d n j r : Nat} {b : Nat → Nat} {μ : Zm} {S : Nat × Nat} (hC : CT μ n b S) (hj : j < 8) (hr : r = 2010 + j) : zC true (d + 6) mX2_isNext [.ref 2, .ref r] μ = some (some (.int (zbt (decide (S.1 = 0) && pwd n b S.2 j))), μ) := by
  obtain ⟨h1, h2, h3, h4, h5, h6, h7, h8, h9⟩ := id hC
  have hw := sp_isWordC (d := d) hC hj hr
  by_cases q : S.1 = 0
  · rw [decide_eq_true q]
    rw [q] at h4
    cases p : pwd n b S.2 j <;>
    simp (disch := omega) only [nX2_isNext, eX2_isNext_0, eX2_isNext_1, eX2_isNext_4, eX2_isNext_7, eX2_isNext_8, eX2_isNext_11, eX2_isNext_12, eX2_isNext_15, eX2_isNext_18, eX2_isNext_19, eX2_isNext_22, eX2_isNext_23, h4, hw, p, Bool.and_true, Bool.and_false, zbt_t, zbt_f, not_true_eq_false, not_false_eq_true, zok1, zok0, Bool.false_eq_true, zpush_s, zpush_n, Option.bind_some, Option.bind_none, ite_true, ite_false, if_true, if_false, ↓reduceIte, nI_add, pk_mul, ob0, ob2, ob3, ob22, ob25, ob63, Nat.reduceEqDiff, Nat.reduceAdd, Nat.reduceMul, Nat.reduceSub, pLeT, pLeF, pLtT, pLtF, pEqT, pEqF, qLtT, qLtF, qLeT, qLeF, qEqF, nI_sub2, nI_dec, ob5, ob13]
  · rw [decide_eq_false q]
    simp (disch := omega) only [nX2_isNext, eX2_isNext_0, eX2_isNext_1, eX2_isNext_4, eX2_isNext_7, eX2_isNext_8, eX2_isNext_11, eX2_isNext_12, eX2_isNext_15, eX2_isNext_18, eX2_isNext_19, eX2_isNext_22, eX2_isNext_23, h4, Bool.false_and, zbt_f, not_true_eq_false, not_false_eq_true, zok1, zok0, Bool.false_eq_true, zpush_s, zpush_n, Option.bind_some, Option.bind_none, ite_true, ite_false, if_true, if_false, ↓reduceIte, nI_add, pk_mul, ob0, ob2, ob3, ob22, ob25, ob63, Nat.reduceEqDiff, Nat.reduceAdd, Nat.reduceMul, Nat.reduceSub, pLeT, pLeF, pLtT, pLtF, pEqT, pEqF, qLtT, qLtF, qLeT, qLeF, qEqF, nI_sub2, nI_dec, ob5, ob13]
