/-! ===== valley ===== -/
def pX0 (n : Nat) (b : Nat → Nat) : zX := (pkD n b (0, 0), fun i => if i = 1 then tV n b (pkA n b (0, 0)).2 else if i = 2 then tV n b (pkB n b (0, 0)).2 else 0)
theorem pkD_v {n : Nat} {b : Nat → Nat} {S : Nat × Nat} (h : (pkD n b S).1 = 0) : (pkB n b S).1 = 0 ∧ (pkC n b S).1 = 0 ∧ 1 ≤ tV n b (pkA n b S).2 ∧ tV n b (pkA n b S).2 ≤ 5 ∧ 1 ≤ tV n b (pkB n b S).2 ∧ tV n b (pkB n b S).2 ≤ 6 := by
  have h1 := (pif_v h).1
  have h2 := prn_v h1
  have h3 := prn_v h2.1
  have v1 := tV_le h2.2.1
  have v2 := tV_le h3.2.1
  have r1 := h2.2.2.1
  have r2 := h3.2.2.1
  rw [rok_in (by omega) (by omega) (by omega)] at r1 r2
  have r1 := of_decide_eq_true r1
  have r2 := of_decide_eq_true r2
  exact ⟨h2.1, h1, r2.1, r2.2, r1.1, r1.2⟩
theorem WFr_0 {n : Nat} {b : Nat → Nat} (h : (pX0 n b).1.1 = 0) : WFr (pX0 n b).2 := by
  have ⟨h1, h2, h3, h4, h5, h6⟩ := pkD_v (S := (0, 0)) h
  have e3 : (pX0 n b).2 3 = 0 := rfl
  have e4 : (pX0 n b).2 4 = 0 := rfl
  exact ⟨⟨h4, h6, by omega, by omega, fun w hw => by omega, fun s hs => by omega⟩, h3⟩
theorem sp_rewind {d n : Nat} {b : Nat → Nat} {μ : Zm} (hT : TX μ n b) (h1 : μ 2 1 = nI 0) : ∃ μ', zC true (d + 3) mX4_rewind [.ref 3] μ = some (none, μ') ∧ FrT μ μ' ∧ CT μ' n b (0, 0) := by
  have hT2 : TX (zup μ 3 4 (nI 0)) n b := TX_fr hT (fun c i q => zup_o (by omega))
  have hs := sp_step (d := d) hT2 (Nat.zero_le n) (zup_s rfl rfl)
  refine ⟨zTk (zup μ 3 4 (nI 0)) (nI (tB n b 0)) (nI (tE n b 0)) (nI (tK n b 0)), ?_, fun c i q => ?_, TX_k hT2, Nat.zero_le _, ?_, ?_, Nat.zero_le _, fun h => absurd rfl h, zTk_2, zTk_3, zTk_4⟩
  · simp (disch := omega) only [nX4_rewind, eX4_rewind_0, eX4_rewind_1, eX4_rewind_2, eX4_rewind_5, eX4_rewind_6, eX4_rewind_9, hs, not_true_eq_false, not_false_eq_true, zok1, zok0, Bool.false_eq_true, zpush_s, zpush_n, Option.bind_some, Option.bind_none, ite_true, ite_false, if_true, if_false, ↓reduceIte, nI_add, pk_mul, ob0, ob2, ob3, ob22, ob25, ob63, Nat.reduceEqDiff, Nat.reduceAdd, Nat.reduceMul, Nat.reduceSub, pLeT, pLeF, pLtT, pLtF, pEqT, pEqF, qLtT, qLtF, qLeT, qLeF, qEqF, nI_sub2, nI_dec, ob5, ob13]
  · rw [zTk_o (by omega), zup_o (by omega)]
  · trivial
  · rw [zTk_o (by omega), zup_o (by omega), h1]
theorem sp_readK {d n : Nat} {b : Nat → Nat} {μ : Zm} (hC : CT μ n b (0, 0)) (h2 : μ 13 2 = nI 0) (h6 : μ 13 6 = nI 0) : ∃ μ', zC true (d + 7) mX2_readKnitters [.ref 2, .ref 13] μ = some (none, μ') ∧ FrC μ μ' ∧ IC μ' n b (pX0 n b) := by
  obtain ⟨M, g1, g2, g3, g4, g5⟩ := sp_readKnitters (d := d) hC
  refine ⟨M, g1, fun c i q => g2 c i (by omega), g3, fun h => ⟨?_, WFr_0 h⟩⟩
  have ⟨p1, p2, p3, p4, p5, p6⟩ := pkD_v (S := (0, 0)) h
  rw [if_pos p1] at g4
  rw [if_pos p2] at g5
  refine ⟨g4, g5, (g2 13 2 (by omega)).trans h2, (g2 13 6 (by omega)).trans h6, fun w hw => ?_, fun s hs => ?_⟩
  · have : w < 0 := hw
    omega
  · have : s < 0 := hs
    omega
theorem FrC_tr {μ μ' μ'' : Zm} (h : FrC μ μ') (h2 : FrC μ' μ'') : FrC μ μ'' := fun c i q => (h2 c i q).trans (h c i q)
theorem FrX_tr {μ μ' μ'' : Zm} (h : FrX μ μ') (h2 : FrX μ' μ'') : FrX μ μ'' := fun c i q => (h2 c i q).trans (h c i q)
theorem sp_loopW {d n : Nat} {b : Nat → Nat} {M0 : Zm} {X : zX} (hI : IC M0 n b X) {N : Nat} (hN : N ≤ 8) (hf : plc n b 1 (pit (pww n b) X N) = false) (ht : ∀ i, i < N → plc n b 1 (pit (pww n b) X i) = true) : ∃ M, zA (d + 8) mX2_read 34 [.ref 2, .ref 13, .int (nI 0)] [] M0 = zA (d + 8) mX2_read 60 [.ref 2, .ref 13, .int (nI N)] [] M ∧ FrC M0 M ∧ IC M n b (pit (pww n b) X N) := by
  have key : ∀ k, k ≤ N → ∃ M, zA (d + 8) mX2_read 34 [.ref 2, .ref 13, .int (nI 0)] [] M0 = zA (d + 8) mX2_read 34 [.ref 2, .ref 13, .int (nI k)] [] M ∧ FrC M0 M ∧ IC M n b (pit (pww n b) X k) := by
    intro k
    induction k with
    | zero => exact fun _ => ⟨M0, rfl, fun _ _ _ => rfl, hI⟩
    | succ k ih =>
      intro hk
      obtain ⟨M, g1, g2, g3⟩ := ih (by omega)
      have hp := ht k (by omega)
      have hx : zC true (d + 8) mX2_isNext [.ref 2, .ref 2011] M = some (some (.int (zbt (plc n b 1 (pit (pww n b) X k)))), M) := sp_isNext (d := d + 2) (j := 1) g3.1 (by omega) rfl
      obtain ⟨M', f1, f2, f3⟩ := st_woolC (d := d) g3 hp
      refine ⟨M', g1.trans ?_, FrC_tr g2 f2, f3⟩
      rw [hp, zbt_t] at hx
      rw [eX2_read_34]
      simp (disch := omega) only [eX2_read_0, eX2_read_1, eX2_read_2, eX2_read_5, eX2_read_6, eX2_read_7, eX2_read_10, eX2_read_11, eX2_read_12, eX2_read_15, eX2_read_16, eX2_read_17, eX2_read_20, eX2_read_21, eX2_read_24, eX2_read_27, eX2_read_28, eX2_read_29, eX2_read_32, eX2_read_33, eX2_read_35, eX2_read_37, eX2_read_40, eX2_read_41, eX2_read_43, eX2_read_46, eX2_read_49, eX2_read_50, eX2_read_51, eX2_read_54, eX2_read_57, eX2_read_61, eX2_read_62, eX2_read_63, eX2_read_65, eX2_read_68, eX2_read_69, eX2_read_71, eX2_read_74, eX2_read_77, eX2_read_78, eX2_read_79, eX2_read_82, eX2_read_85, eX2_read_88, eX2_read_89, eX2_read_92, eX2_read_95, eX2_read_98, eX2_read_99, eX2_read_100, eX2_read_103, hx, f1, not_true_eq_false, not_false_eq_true, zok1, zok0, Bool.false_eq_true, zpush_s, zpush_n, Option.bind_some, Option.bind_none, ite_true, ite_false, if_true, if_false, ↓reduceIte, nI_add, pk_mul, ob0, ob2, ob3, ob22, ob25, ob63, Nat.reduceEqDiff, Nat.reduceAdd, Nat.reduceMul, Nat.reduceSub, pLeT, pLeF, pLtT, pLtF, pEqT, pEqF, qLtT, qLtF, qLeT, qLeF, qEqF, nI_sub2, nI_dec, ob5, ob13]
  obtain ⟨M, g1, g2, g3⟩ := key N (Nat.le_refl _)
  refine ⟨M, g1.trans ?_, g2, g3⟩
  have hx : zC true (d + 8) mX2_isNext [.ref 2, .ref 2011] M = some (some (.int (zbt (plc n b 1 (pit (pww n b) X N)))), M) := sp_isNext (d := d + 2) (j := 1) g3.1 (by omega) rfl
  rw [hf, zbt_f] at hx
  rw [eX2_read_34]
  by_cases h8 : N = 8
  · subst h8
    simp (disch := omega) only [eX2_read_0, eX2_read_1, eX2_read_2, eX2_read_5, eX2_read_6, eX2_read_7, eX2_read_10, eX2_read_11, eX2_read_12, eX2_read_15, eX2_read_16, eX2_read_17, eX2_read_20, eX2_read_21, eX2_read_24, eX2_read_27, eX2_read_28, eX2_read_29, eX2_read_32, eX2_read_33, eX2_read_35, eX2_read_37, eX2_read_40, eX2_read_41, eX2_read_43, eX2_read_46, eX2_read_49, eX2_read_50, eX2_read_51, eX2_read_54, eX2_read_57, eX2_read_61, eX2_read_62, eX2_read_63, eX2_read_65, eX2_read_68, eX2_read_69, eX2_read_71, eX2_read_74, eX2_read_77, eX2_read_78, eX2_read_79, eX2_read_82, eX2_read_85, eX2_read_88, eX2_read_89, eX2_read_92, eX2_read_95, eX2_read_98, eX2_read_99, eX2_read_100, eX2_read_103, hx, not_true_eq_false, not_false_eq_true, zok1, zok0, Bool.false_eq_true, zpush_s, zpush_n, Option.bind_some, Option.bind_none, ite_true, ite_false, if_true, if_false, ↓reduceIte, nI_add, pk_mul, ob0, ob2, ob3, ob22, ob25, ob63, Nat.reduceEqDiff, Nat.reduceAdd, Nat.reduceMul, Nat.reduceSub, pLeT, pLeF, pLtT, pLtF, pEqT, pEqF, qLtT, qLtF, qLeT, qLeF, qEqF, nI_sub2, nI_dec, ob5, ob13]
  · simp (disch := omega) only [eX2_read_0, eX2_read_1, eX2_read_2, eX2_read_5, eX2_read_6, eX2_read_7, eX2_read_10, eX2_read_11, eX2_read_12, eX2_read_15, eX2_read_16, eX2_read_17, eX2_read_20, eX2_read_21, eX2_read_24, eX2_read_27, eX2_read_28, eX2_read_29, eX2_read_32, eX2_read_33, eX2_read_35, eX2_read_37, eX2_read_40, eX2_read_41, eX2_read_43, eX2_read_46, eX2_read_49, eX2_read_50, eX2_read_51, eX2_read_54, eX2_read_57, eX2_read_61, eX2_read_62, eX2_read_63, eX2_read_65, eX2_read_68, eX2_read_69, eX2_read_71, eX2_read_74, eX2_read_77, eX2_read_78, eX2_read_79, eX2_read_82, eX2_read_85, eX2_read_88, eX2_read_89, eX2_read_92, eX2_read_95, eX2_read_98, eX2_read_99, eX2_read_100, eX2_read_103, hx, not_true_eq_false, not_false_eq_true, zok1, zok0, Bool.false_eq_true, zpush_s, zpush_n, Option.bind_some, Option.bind_none, ite_true, ite_false, if_true, if_false, ↓reduceIte, nI_add, pk_mul, ob0, ob2, ob3, ob22, ob25, ob63, Nat.reduceEqDiff, Nat.reduceAdd, Nat.reduceMul, Nat.reduceSub, pLeT, pLeF, pLtT, pLtF, pEqT, pEqF, qLtT, qLtF, qLeT, qLeF, qEqF, nI_sub2, nI_dec, ob5, ob13]
theorem sp_loopS {d n : Nat} {b : Nat → Nat} {M0 : Zm} {X : zX} (hI : IC M0 n b X) {N : Nat} (hN : N ≤ 13) (hf : plc n b 7 (pit (pss n b) X N) = false) (ht : ∀ i, i < N → plc n b 7 (pit (pss n b) X i) = true) : ∃ M, zA (d + 8) mX2_read 62 [.ref 2, .ref 13, .int (nI 0)] [] M0 = zA (d + 8) mX2_read 88 [.ref 2, .ref 13, .int (nI N)] [] M ∧ FrC M0 M ∧ IC M n b (pit (pss n b) X N) := by
  have key : ∀ k, k ≤ N → ∃ M, zA (d + 8) mX2_read 62 [.ref 2, .ref 13, .int (nI 0)] [] M0 = zA (d + 8) mX2_read 62 [.ref 2, .ref 13, .int (nI k)] [] M ∧ FrC M0 M ∧ IC M n b (pit (pss n b) X k) := by
    intro k
    induction k with
    | zero => exact fun _ => ⟨M0, rfl, fun _ _ _ => rfl, hI⟩
    | succ k ih =>
      intro hk
      obtain ⟨M, g1, g2, g3⟩ := ih (by omega)
      have hp := ht k (by omega)
      have hx : zC true (d + 8) mX2_isNext [.ref 2, .ref 2017] M = some (some (.int (zbt (plc n b 7 (pit (pss n b) X k)))), M) := sp_isNext (d := d + 2) (j := 7) g3.1 (by omega) rfl
      obtain ⟨M', f1, f2, f3⟩ := st_sayC (d := d) g3 hp
      refine ⟨M', g1.trans ?_, FrC_tr g2 f2, f3⟩
      rw [hp, zbt_t] at hx
      rw [eX2_read_62]
      simp (disch := omega) only [eX2_read_0, eX2_read_1, eX2_read_2, eX2_read_5, eX2_read_6, eX2_read_7, eX2_read_10, eX2_read_11, eX2_read_12, eX2_read_15, eX2_read_16, eX2_read_17, eX2_read_20, eX2_read_21, eX2_read_24, eX2_read_27, eX2_read_28, eX2_read_29, eX2_read_32, eX2_read_33, eX2_read_34, eX2_read_35, eX2_read_37, eX2_read_40, eX2_read_41, eX2_read_43, eX2_read_46, eX2_read_49, eX2_read_50, eX2_read_51, eX2_read_54, eX2_read_57, eX2_read_60, eX2_read_61, eX2_read_63, eX2_read_65, eX2_read_68, eX2_read_69, eX2_read_71, eX2_read_74, eX2_read_77, eX2_read_78, eX2_read_79, eX2_read_82, eX2_read_85, eX2_read_89, eX2_read_92, eX2_read_95, eX2_read_98, eX2_read_99, eX2_read_100, eX2_read_103, hx, f1, not_true_eq_false, not_false_eq_true, zok1, zok0, Bool.false_eq_true, zpush_s, zpush_n, Option.bind_some, Option.bind_none, ite_true, ite_false, if_true, if_false, ↓reduceIte, nI_add, pk_mul, ob0, ob2, ob3, ob22, ob25, ob63, Nat.reduceEqDiff, Nat.reduceAdd, Nat.reduceMul, Nat.reduceSub, pLeT, pLeF, pLtT, pLtF, pEqT, pEqF, qLtT, qLtF, qLeT, qLeF, qEqF, nI_sub2, nI_dec, ob5, ob13]
  obtain ⟨M, g1, g2, g3⟩ := key N (Nat.le_refl _)
  refine ⟨M, g1.trans ?_, g2, g3⟩
  have hx : zC true (d + 8) mX2_isNext [.ref 2, .ref 2017] M = some (some (.int (zbt (plc n b 7 (pit (pss n b) X N)))), M) := sp_isNext (d := d + 2) (j := 7) g3.1 (by omega) rfl
  rw [hf, zbt_f] at hx
  rw [eX2_read_62]
  by_cases h8 : N = 13
  · subst h8
    simp (disch := omega) only [eX2_read_0, eX2_read_1, eX2_read_2, eX2_read_5, eX2_read_6, eX2_read_7, eX2_read_10, eX2_read_11, eX2_read_12, eX2_read_15, eX2_read_16, eX2_read_17, eX2_read_20, eX2_read_21, eX2_read_24, eX2_read_27, eX2_read_28, eX2_read_29, eX2_read_32, eX2_read_33, eX2_read_34, eX2_read_35, eX2_read_37, eX2_read_40, eX2_read_41, eX2_read_43, eX2_read_46, eX2_read_49, eX2_read_50, eX2_read_51, eX2_read_54, eX2_read_57, eX2_read_60, eX2_read_61, eX2_read_63, eX2_read_65, eX2_read_68, eX2_read_69, eX2_read_71, eX2_read_74, eX2_read_77, eX2_read_78, eX2_read_79, eX2_read_82, eX2_read_85, eX2_read_89, eX2_read_92, eX2_read_95, eX2_read_98, eX2_read_99, eX2_read_100, eX2_read_103, hx, not_true_eq_false, not_false_eq_true, zok1, zok0, Bool.false_eq_true, zpush_s, zpush_n, Option.bind_some, Option.bind_none, ite_true, ite_false, if_true, if_false, ↓reduceIte, nI_add, pk_mul, ob0, ob2, ob3, ob22, ob25, ob63, Nat.reduceEqDiff, Nat.reduceAdd, Nat.reduceMul, Nat.reduceSub, pLeT, pLeF, pLtT, pLtF, pEqT, pEqF, qLtT, qLtF, qLeT, qLeF, qEqF, nI_sub2, nI_dec, ob5, ob13]
  · simp (disch := omega) only [eX2_read_0, eX2_read_1, eX2_read_2, eX2_read_5, eX2_read_6, eX2_read_7, eX2_read_10, eX2_read_11, eX2_read_12, eX2_read_15, eX2_read_16, eX2_read_17, eX2_read_20, eX2_read_21, eX2_read_24, eX2_read_27, eX2_read_28, eX2_read_29, eX2_read_32, eX2_read_33, eX2_read_34, eX2_read_35, eX2_read_37, eX2_read_40, eX2_read_41, eX2_read_43, eX2_read_46, eX2_read_49, eX2_read_50, eX2_read_51, eX2_read_54, eX2_read_57, eX2_read_60, eX2_read_61, eX2_read_63, eX2_read_65, eX2_read_68, eX2_read_69, eX2_read_71, eX2_read_74, eX2_read_77, eX2_read_78, eX2_read_79, eX2_read_82, eX2_read_85, eX2_read_89, eX2_read_92, eX2_read_95, eX2_read_98, eX2_read_99, eX2_read_100, eX2_read_103, hx, not_true_eq_false, not_false_eq_true, zok1, zok0, Bool.false_eq_true, zpush_s, zpush_n, Option.bind_some, Option.bind_none, ite_true, ite_false, if_true, if_false, ↓reduceIte, nI_add, pk_mul, ob0, ob2, ob3, ob22, ob25, ob63, Nat.reduceEqDiff, Nat.reduceAdd, Nat.reduceMul, Nat.reduceSub, pLeT, pLeF, pLtT, pLtF, pEqT, pEqF, qLtT, qLtF, qLeT, qLeF, qEqF, nI_sub2, nI_dec, ob5, ob13]
theorem sp_read {d n : Nat} {b : Nat → Nat} {μ : Zm} (hT : TX μ n b) {X1 X2 : zX} {N1 N2 : Nat} (h1 : N1 ≤ 8) (e1 : X1 = pit (pww n b) (pX0 n b) N1) (f1 : plc n b 1 X1 = false) (t1 : ∀ i, i < N1 → plc n b 1 (pit (pww n b) (pX0 n b) i) = true) (h2 : N2 ≤ 13) (e2 : X2 = pit (pss n b) X1 N2) (f2 : plc n b 7 X2 = false) (t2 : ∀ i, i < N2 → plc n b 7 (pit (pss n b) X1 i) = true) : ∃ μ', zC true (d + 9) mX2_read [.ref 2, .ref 13] μ = some (none, μ') ∧ FrC μ μ' ∧ CT μ' n b (pmu 1 (decide (tK n b X2.1.2 = 0)) X2.1) ∧ (X2.1.1 = 0 → CV μ' 13 X2.2 ∧ WFr X2.2) := by
  have hT0 : TX (zup (zup (zup (zup μ 2 1 (nI 0)) 2 2 (nI 0)) 13 2 (nI 0)) 13 6 (nI 0)) n b := TX_fr hT (fun c i q => by rw [zup_o (by omega), zup_o (by omega), zup_o (by omega), zup_o (by omega)])
  obtain ⟨A, a1, a2, a3⟩ := sp_rewind (d := d + 5) hT0 (by rw [zup_o (by omega), zup_o (by omega), zup_o (by omega), zup_s rfl rfl])
  have a1 : zC true (d + 8) mX4_rewind [.ref 3] (zup (zup (zup (zup μ 2 1 (nI 0)) 2 2 (nI 0)) 13 2 (nI 0)) 13 6 (nI 0)) = some (none, A) := a1
  have v2 : A 13 2 = nI 0 := by rw [a2 13 2 (by omega), zup_o (by omega), zup_s rfl rfl]
  have v6 : A 13 6 = nI 0 := by rw [a2 13 6 (by omega), zup_s rfl rfl]
  obtain ⟨B, b1, b2, b3⟩ := sp_readK (d := d + 1) a3 v2 v6
  have b1 : zC true (d + 8) mX2_readKnitters [.ref 2, .ref 13] A = some (none, B) := b1
  obtain ⟨C, c1, c2, c3⟩ := sp_loopW (d := d) b3 h1 (by rw [← e1]; exact f1) t1
  rw [← e1] at c3
  obtain ⟨D, d1, d2, d3⟩ := sp_loopS (d := d) c3 h2 (by rw [← e2]; exact f2) t2
  rw [← e2] at d3
  have hK := tK_le (n := n) (b := b) (e := X2.1.2)
  have d8 := d3.1.2.2.2.2.2.2.1
  have frA : FrC μ A := fun c i q => by rw [a2 c i (by omega), zup_o (by omega), zup_o (by omega), zup_o (by omega), zup_o (by omega)]
  have frD : FrC μ D := FrC_tr frA (FrC_tr b2 (FrC_tr c2 d2))
  have start : ∀ r, zA (d + 8) mX2_read 88 [.ref 2, .ref 13, .int (nI N2)] [] D = r → zC true (d + 9) mX2_read [.ref 2, .ref 13] μ = r := by
    intro r hr
    rw [nX2_read]
    simp (disch := omega) only [eX2_read_0, eX2_read_1, eX2_read_2, eX2_read_5, eX2_read_6, eX2_read_7, eX2_read_10, eX2_read_11, eX2_read_12, eX2_read_15, eX2_read_16, eX2_read_17, eX2_read_20, eX2_read_21, eX2_read_24, eX2_read_27, eX2_read_28, eX2_read_29, eX2_read_32, eX2_read_33, eX2_read_35, eX2_read_37, eX2_read_40, eX2_read_41, eX2_read_43, eX2_read_46, eX2_read_49, eX2_read_50, eX2_read_51, eX2_read_54, eX2_read_57, eX2_read_60, eX2_read_61, eX2_read_63, eX2_read_65, eX2_read_68, eX2_read_69, eX2_read_71, eX2_read_74, eX2_read_77, eX2_read_78, eX2_read_79, eX2_read_82, eX2_read_85, eX2_read_89, eX2_read_92, eX2_read_95, eX2_read_98, eX2_read_99, eX2_read_100, eX2_read_103, zup_o, zup_s, a1, b1, c1, not_true_eq_false, not_false_eq_true, zok1, zok0, Bool.false_eq_true, zpush_s, zpush_n, Option.bind_some, Option.bind_none, ite_true, ite_false, if_true, if_false, ↓reduceIte, nI_add, pk_mul, ob0, ob2, ob3, ob22, ob25, ob63, Nat.reduceEqDiff, Nat.reduceAdd, Nat.reduceMul, Nat.reduceSub, pLeT, pLeF, pLtT, pLtF, pEqT, pEqF, qLtT, qLtF, qLeT, qLeF, qEqF, nI_sub2, nI_dec, ob5, ob13]
    exact d1.trans hr
  by_cases q : tK n b X2.1.2 = 0
  · rw [decide_eq_true q, pmu_t]
    refine ⟨D, start _ ?_, frD, d3.1, d3.2⟩
    rw [eX2_read_88]
    simp (disch := omega) only [eX2_read_0, eX2_read_1, eX2_read_2, eX2_read_5, eX2_read_6, eX2_read_7, eX2_read_10, eX2_read_11, eX2_read_12, eX2_read_15, eX2_read_16, eX2_read_17, eX2_read_20, eX2_read_21, eX2_read_24, eX2_read_27, eX2_read_28, eX2_read_29, eX2_read_32, eX2_read_33, eX2_read_35, eX2_read_37, eX2_read_40, eX2_read_41, eX2_read_43, eX2_read_46, eX2_read_49, eX2_read_50, eX2_read_51, eX2_read_54, eX2_read_57, eX2_read_60, eX2_read_61, eX2_read_63, eX2_read_65, eX2_read_68, eX2_read_69, eX2_read_71, eX2_read_74, eX2_read_77, eX2_read_78, eX2_read_79, eX2_read_82, eX2_read_85, eX2_read_89, eX2_read_92, eX2_read_95, eX2_read_98, eX2_read_99, eX2_read_100, eX2_read_103, d8, not_true_eq_false, not_false_eq_true, zok1, zok0, Bool.false_eq_true, zpush_s, zpush_n, Option.bind_some, Option.bind_none, ite_true, ite_false, if_true, if_false, ↓reduceIte, nI_add, pk_mul, ob0, ob2, ob3, ob22, ob25, ob63, Nat.reduceEqDiff, Nat.reduceAdd, Nat.reduceMul, Nat.reduceSub, pLeT, pLeF, pLtT, pLtF, pEqT, pEqF, qLtT, qLtF, qLeT, qLeF, qEqF, nI_sub2, nI_dec, ob5, ob13]
  · rw [decide_eq_false q]
    have ef : pmu 1 false X2.1 = pfl 1 X2.1 := by
      unfold pmu pfl
      by_cases z : X2.1.1 = 0
      · rw [if_pos ⟨z, rfl⟩, if_pos z]
      · rw [if_neg (fun h => z h.1), if_neg z]
    rw [ef]
    obtain ⟨E, g1, g2, g3⟩ := sp_fail (d := d + 7) (k := 1) d3.1 (by omega)
    have g1 : zC true (d + 8) mX2_fail [.ref 2, .int (nI 1)] D = some (none, E) := g1
    refine ⟨E, start _ ?_, FrC_tr frD (fun c i q => g2 c i (by omega)), g3, fun h => ⟨CV_eq (fun c i q1 q2 => g2 c i (by omega)) (d3.2 h).1, (d3.2 h).2⟩⟩
    rw [eX2_read_88]
    simp (disch := omega) only [eX2_read_0, eX2_read_1, eX2_read_2, eX2_read_5, eX2_read_6, eX2_read_7, eX2_read_10, eX2_read_11, eX2_read_12, eX2_read_15, eX2_read_16, eX2_read_17, eX2_read_20, eX2_read_21, eX2_read_24, eX2_read_27, eX2_read_28, eX2_read_29, eX2_read_32, eX2_read_33, eX2_read_35, eX2_read_37, eX2_read_40, eX2_read_41, eX2_read_43, eX2_read_46, eX2_read_49, eX2_read_50, eX2_read_51, eX2_read_54, eX2_read_57, eX2_read_60, eX2_read_61, eX2_read_63, eX2_read_65, eX2_read_68, eX2_read_69, eX2_read_71, eX2_read_74, eX2_read_77, eX2_read_78, eX2_read_79, eX2_read_82, eX2_read_85, eX2_read_89, eX2_read_92, eX2_read_95, eX2_read_98, eX2_read_99, eX2_read_100, eX2_read_103, d8, g1, not_true_eq_false, not_false_eq_true, zok1, zok0, Bool.false_eq_true, zpush_s, zpush_n, Option.bind_some, Option.bind_none, ite_true, ite_false, if_true, if_false, ↓reduceIte, nI_add, pk_mul, ob0, ob2, ob3, ob22, ob25, ob63, Nat.reduceEqDiff, Nat.reduceAdd, Nat.reduceMul, Nat.reduceSub, pLeT, pLeF, pLtT, pLtF, pEqT, pEqF, qLtT, qLtF, qLeT, qLeF, qEqF, nI_sub2, nI_dec, ob5, ob13]
