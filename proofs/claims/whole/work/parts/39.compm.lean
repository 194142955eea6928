/-! ===== a valley's rows read: reference ===== -/
theorem sm_sortNow {d n : Nat} {b : Nat → Nat} {μ : Zm} {S : Nat × Nat} (hM : MT μ n b S) : zC true (d + 2) mX7_sortNow [.ref 63] μ = some (some (.int (if psort n b S.2 = 0 then -1000000 else nI (psort n b S.2))), μ) := by
  obtain ⟨h1, h2, h3, h4, h5, h6, h7, h8, h9⟩ := id hM
  have w2 := sm_isName (d := d) (μ := μ) (j := 2) (C := 116983944406393) h5 h9 (by omega) (by decide +kernel)
  have w3 := sm_isName (d := d) (μ := μ) (j := 3) (C := 495588569702) h5 h9 (by omega) (by decide +kernel)
  have w4 := sm_isName (d := d) (μ := μ) (j := 4) (C := 6513008) h5 h9 (by omega) (by decide +kernel)
  have w5 := sm_isName (d := d) (μ := μ) (j := 5) (C := 8319396884454665831) h5 h9 (by omega) (by decide +kernel)
  have w6 := sm_isName (d := d) (μ := μ) (j := 6) (C := 7234932) h5 h9 (by omega) (by decide +kernel)
  unfold psort
  cases p2 : pwd n b S.2 2
  · cases p3 : pwd n b S.2 3
    · cases p4 : pwd n b S.2 4
      · cases p5 : pwd n b S.2 5
        · cases p6 : pwd n b S.2 6
          · simp (disch := omega) only [nX7_sortNow, eX7_sortNow_0, eX7_sortNow_1, eX7_sortNow_4, eX7_sortNow_7, eX7_sortNow_10, eX7_sortNow_11, eX7_sortNow_14, eX7_sortNow_15, eX7_sortNow_18, eX7_sortNow_21, eX7_sortNow_24, eX7_sortNow_25, eX7_sortNow_28, eX7_sortNow_29, eX7_sortNow_32, eX7_sortNow_35, eX7_sortNow_38, eX7_sortNow_39, eX7_sortNow_42, eX7_sortNow_43, eX7_sortNow_46, eX7_sortNow_49, eX7_sortNow_52, eX7_sortNow_53, eX7_sortNow_56, eX7_sortNow_57, eX7_sortNow_60, eX7_sortNow_63, eX7_sortNow_66, eX7_sortNow_67, eX7_sortNow_70, eX7_sortNow_72, w2, w3, w4, w5, w6, p2, p3, p4, p5, p6, zbt_t, zbt_f, not_true_eq_false, not_false_eq_true, zok1, zok0, Bool.false_eq_true, zpush_s, zpush_n, Option.bind_some, Option.bind_none, ite_true, ite_false, if_true, if_false, ↓reduceIte, nI_add, pk_mul, ob0, ob2, ob3, ob22, ob25, ob63, Nat.reduceEqDiff, Nat.reduceAdd, Nat.reduceMul, Nat.reduceSub, pLeT, pLeF, pLtT, pLtF, pEqT, pEqF, qLtT, qLtF, qLeT, qLeF, qEqF, nI_sub2, nI_dec, ob5, ob13]
          · simp (disch := omega) only [nX7_sortNow, eX7_sortNow_0, eX7_sortNow_1, eX7_sortNow_4, eX7_sortNow_7, eX7_sortNow_10, eX7_sortNow_11, eX7_sortNow_14, eX7_sortNow_15, eX7_sortNow_18, eX7_sortNow_21, eX7_sortNow_24, eX7_sortNow_25, eX7_sortNow_28, eX7_sortNow_29, eX7_sortNow_32, eX7_sortNow_35, eX7_sortNow_38, eX7_sortNow_39, eX7_sortNow_42, eX7_sortNow_43, eX7_sortNow_46, eX7_sortNow_49, eX7_sortNow_52, eX7_sortNow_53, eX7_sortNow_56, eX7_sortNow_57, eX7_sortNow_60, eX7_sortNow_63, eX7_sortNow_66, eX7_sortNow_67, eX7_sortNow_70, eX7_sortNow_72, w2, w3, w4, w5, w6, p2, p3, p4, p5, p6, zbt_t, zbt_f, not_true_eq_false, not_false_eq_true, zok1, zok0, Bool.false_eq_true, zpush_s, zpush_n, Option.bind_some, Option.bind_none, ite_true, ite_false, if_true, if_false, ↓reduceIte, nI_add, pk_mul, ob0, ob2, ob3, ob22, ob25, ob63, Nat.reduceEqDiff, Nat.reduceAdd, Nat.reduceMul, Nat.reduceSub, pLeT, pLeF, pLtT, pLtF, pEqT, pEqF, qLtT, qLtF, qLeT, qLeF, qEqF, nI_sub2, nI_dec, ob5, ob13]
        · simp (disch := omega) only [nX7_sortNow, eX7_sortNow_0, eX7_sortNow_1, eX7_sortNow_4, eX7_sortNow_7, eX7_sortNow_10, eX7_sortNow_11, eX7_sortNow_14, eX7_sortNow_15, eX7_sortNow_18, eX7_sortNow_21, eX7_sortNow_24, eX7_sortNow_25, eX7_sortNow_28, eX7_sortNow_29, eX7_sortNow_32, eX7_sortNow_35, eX7_sortNow_38, eX7_sortNow_39, eX7_sortNow_42, eX7_sortNow_43, eX7_sortNow_46, eX7_sortNow_49, eX7_sortNow_52, eX7_sortNow_53, eX7_sortNow_56, eX7_sortNow_57, eX7_sortNow_60, eX7_sortNow_63, eX7_sortNow_66, eX7_sortNow_67, eX7_sortNow_70, eX7_sortNow_72, w2, w3, w4, w5, w6, p2, p3, p4, p5, zbt_t, zbt_f, not_true_eq_false, not_false_eq_true, zok1, zok0, Bool.false_eq_true, zpush_s, zpush_n, Option.bind_some, Option.bind_none, ite_true, ite_false, if_true, if_false, ↓reduceIte, nI_add, pk_mul, ob0, ob2, ob3, ob22, ob25, ob63, Nat.reduceEqDiff, Nat.reduceAdd, Nat.reduceMul, Nat.reduceSub, pLeT, pLeF, pLtT, pLtF, pEqT, pEqF, qLtT, qLtF, qLeT, qLeF, qEqF, nI_sub2, nI_dec, ob5, ob13]
      · simp (disch := omega) only [nX7_sortNow, eX7_sortNow_0, eX7_sortNow_1, eX7_sortNow_4, eX7_sortNow_7, eX7_sortNow_10, eX7_sortNow_11, eX7_sortNow_14, eX7_sortNow_15, eX7_sortNow_18, eX7_sortNow_21, eX7_sortNow_24, eX7_sortNow_25, eX7_sortNow_28, eX7_sortNow_29, eX7_sortNow_32, eX7_sortNow_35, eX7_sortNow_38, eX7_sortNow_39, eX7_sortNow_42, eX7_sortNow_43, eX7_sortNow_46, eX7_sortNow_49, eX7_sortNow_52, eX7_sortNow_53, eX7_sortNow_56, eX7_sortNow_57, eX7_sortNow_60, eX7_sortNow_63, eX7_sortNow_66, eX7_sortNow_67, eX7_sortNow_70, eX7_sortNow_72, w2, w3, w4, w5, w6, p2, p3, p4, zbt_t, zbt_f, not_true_eq_false, not_false_eq_true, zok1, zok0, Bool.false_eq_true, zpush_s, zpush_n, Option.bind_some, Option.bind_none, ite_true, ite_false, if_true, if_false, ↓reduceIte, nI_add, pk_mul, ob0, ob2, ob3, ob22, ob25, ob63, Nat.reduceEqDiff, Nat.reduceAdd, Nat.reduceMul, Nat.reduceSub, pLeT, pLeF, pLtT, pLtF, pEqT, pEqF, qLtT, qLtF, qLeT, qLeF, qEqF, nI_sub2, nI_dec, ob5, ob13]
    · simp (disch := omega) only [nX7_sortNow, eX7_sortNow_0, eX7_sortNow_1, eX7_sortNow_4, eX7_sortNow_7, eX7_sortNow_10, eX7_sortNow_11, eX7_sortNow_14, eX7_sortNow_15, eX7_sortNow_18, eX7_sortNow_21, eX7_sortNow_24, eX7_sortNow_25, eX7_sortNow_28, eX7_sortNow_29, eX7_sortNow_32, eX7_sortNow_35, eX7_sortNow_38, eX7_sortNow_39, eX7_sortNow_42, eX7_sortNow_43, eX7_sortNow_46, eX7_sortNow_49, eX7_sortNow_52, eX7_sortNow_53, eX7_sortNow_56, eX7_sortNow_57, eX7_sortNow_60, eX7_sortNow_63, eX7_sortNow_66, eX7_sortNow_67, eX7_sortNow_70, eX7_sortNow_72, w2, w3, w4, w5, w6, p2, p3, zbt_t, zbt_f, not_true_eq_false, not_false_eq_true, zok1, zok0, Bool.false_eq_true, zpush_s, zpush_n, Option.bind_some, Option.bind_none, ite_true, ite_false, if_true, if_false, ↓reduceIte, nI_add, pk_mul, ob0, ob2, ob3, ob22, ob25, ob63, Nat.reduceEqDiff, Nat.reduceAdd, Nat.reduceMul, Nat.reduceSub, pLeT, pLeF, pLtT, pLtF, pEqT, pEqF, qLtT, qLtF, qLeT, qLeF, qEqF, nI_sub2, nI_dec, ob5, ob13]
  · simp (disch := omega) only [nX7_sortNow, eX7_sortNow_0, eX7_sortNow_1, eX7_sortNow_4, eX7_sortNow_7, eX7_sortNow_10, eX7_sortNow_11, eX7_sortNow_14, eX7_sortNow_15, eX7_sortNow_18, eX7_sortNow_21, eX7_sortNow_24, eX7_sortNow_25, eX7_sortNow_28, eX7_sortNow_29, eX7_sortNow_32, eX7_sortNow_35, eX7_sortNow_38, eX7_sortNow_39, eX7_sortNow_42, eX7_sortNow_43, eX7_sortNow_46, eX7_sortNow_49, eX7_sortNow_52, eX7_sortNow_53, eX7_sortNow_56, eX7_sortNow_57, eX7_sortNow_60, eX7_sortNow_63, eX7_sortNow_66, eX7_sortNow_67, eX7_sortNow_70, eX7_sortNow_72, w2, w3, w4, w5, w6, p2, zbt_t, zbt_f, not_true_eq_false, not_false_eq_true, zok1, zok0, Bool.false_eq_true, zpush_s, zpush_n, Option.bind_some, Option.bind_none, ite_true, ite_false, if_true, if_false, ↓reduceIte, nI_add, pk_mul, ob0, ob2, ob3, ob22, ob25, ob63, Nat.reduceEqDiff, Nat.reduceAdd, Nat.reduceMul, Nat.reduceSub, pLeT, pLeF, pLtT, pLtF, pEqT, pEqF, qLtT, qLtF, qLeT, qLeF, qEqF, nI_sub2, nI_dec, ob5, ob13]
theorem pwn_v {n W : Nat} {b : Nat → Nat} {S : Nat × Nat} (h : (pwn n b W S).1 = 0) : S.1 = 0 ∧ tK n b S.2 = 2 ∧ (tV n b S.2 = 9 ∨ tV n b S.2 < W) ∧ (pwn n b W S).2 = tE n b S.2 := by
  unfold pwn at h ⊢
  split at h
  · next q => exact absurd h q
  · next q =>
    rw [if_neg q]
    split at h
    · cases h
    · next k =>
      rw [if_neg k]
      split at h
      · next r =>
        rw [if_pos r]
        exact ⟨Classical.not_not.mp q, Classical.not_not.mp k, r, rfl⟩
      · cases h
theorem pif_v {n : Nat} {b : Nat → Nat} {c : Bool} {S : Nat × Nat} (h : (pif n b c S).1 = 0) : S.1 = 0 ∧ c = true ∧ pif n b c S = (0, tE n b S.2) := by
  unfold pif at h ⊢
  split at h
  · next q => exact absurd h q
  · next q =>
    rw [if_neg q]
    split at h
    · next r =>
      rw [if_pos r]
      exact ⟨Classical.not_not.mp q, r, rfl⟩
    · cases h
theorem pwn_m {n W : Nat} {b : Nat → Nat} {x : Int32} {S : Nat × Nat} {c : Bool} (hW : W ≤ 7) (hx : S.1 = 0 → tK n b S.2 = 2 → x = nI (tV n b S.2)) (hc : c = ((!decide (x < nI 0) && !decide (nI W - nI 1 < x)) || decide (x = nI 9))) : pwn n b W S = pgo n b (pmu 2 c (pmu 1 (decide (tK n b S.2 = 2)) S)) := by
  unfold pwn
  by_cases q : S.1 = 0
  · rw [if_neg (fun h => h q)]
    by_cases k : tK n b S.2 = 2
    · have hv := tV_le k
      have e : c = decide (tV n b S.2 = 9 ∨ tV n b S.2 < W) := by
        have h2 : (nI (tV n b S.2) = nI 9) = (tV n b S.2 = 9) := propext (nI_eq (by omega) (by omega))
        have h3 := rok_lt (v := tV n b S.2) (K := W) (by omega) (by omega)
        unfold rok at h3
        rw [hc, hx q k, h3, Bool.eq_iff_iff]
        simp only [h2, Bool.or_eq_true, decide_eq_true_eq]
        exact Or.comm
      rw [if_neg (fun h => h k), decide_eq_true k, pmu_t, e]
      by_cases r : tV n b S.2 = 9 ∨ tV n b S.2 < W
      · rw [if_pos r, decide_eq_true r, pmu_t, pgo_z q]
      · rw [if_neg r, decide_eq_false r, pmu_f q, pgo_n (S := (2, S.2)) n20]
    · rw [if_pos k, decide_eq_false k, pmu_f q, pmu_n (S := (1, S.2)) n10, pgo_n (S := (1, S.2)) n10]
  · rw [if_pos q, pmu_n q, pmu_n q, pgo_n q]
set_option maxHeartbeats 1000000 in
theorem sm_readWorn {d n W : Nat} {b : Nat → Nat} {μ : Zm} {S : Nat × Nat} (hM : MT μ n b S) (hW : μ 72 3 = nI W) (hW7 : W ≤ 7) : ∃ μ' r, zC true (d + 4) mX7_readWorn [.ref 63] μ = some (some (.int r), μ') ∧ FrM μ μ' ∧ MT μ' n b (pwn n b W S) ∧ ((pwn n b W S).1 = 0 → r = nI (tV n b S.2)) := by
  obtain ⟨h1, h2, h3, h4, h5, h6, h7, h8, h9⟩ := id hM
  have hK := tK_le (n := n) (b := b) (e := S.2)
  rw [pwn_m (x := μ 63 14) (c := (!decide (μ 63 14 < nI 0) && !decide (nI W - nI 1 < μ 63 14)) || decide (μ 63 14 = nI 9)) hW7 (fun _ k => h8 k) rfl]
  obtain ⟨M, g1, g2, g3⟩ := sm_must (d := d + 2) (c := decide (tK n b S.2 = 2)) (k := 1) hM (by omega)
  obtain ⟨M2, e1, e2, e3⟩ := sm_must (d := d + 2) (c := (!decide (μ 63 14 < nI 0) && !decide (nI W - nI 1 < μ 63 14)) || decide (μ 63 14 = nI 9)) (k := 2) g3 (by omega)
  obtain ⟨M', f1, f2, f3⟩ := sm_goesOn (d := d) e3
  refine ⟨M', μ 63 14, ?_, FrM_tr (FrM_of g2) (FrM_tr (FrM_of e2) f2), f3, fun h => ?_⟩
  rotate_left
  · rw [← pwn_m (x := μ 63 14) hW7 (fun _ k => h8 k) rfl] at h
    exact h8 (pwn_v h).2.1
  have v1 : M 63 14 = μ 63 14 := g2 63 14 (by omega)
  have v3 : M 72 3 = nI W := (g2 72 3 (by omega)).trans hW
  have v2 : M2 63 14 = μ 63 14 := (e2 63 14 (by omega)).trans v1
  generalize μ 63 14 = x at v1 v2 e1 ⊢
  generalize hhi : nI W - nI 1 = hi at e1
  have c3 : ((x = nI 9) = True) ∨ ((x = nI 9) = False) := by
    by_cases h : x = nI 9
    · exact Or.inl (eq_true h)
    · exact Or.inr (eq_false h)
  by_cases k : tK n b S.2 = 2 <;> by_cases c1 : x < nI 0 <;> by_cases c2 : hi < x <;> rcases c3 with c3 | c3 <;>
  simp only [c1, c2, c3, decide_true, decide_false, Bool.not_true, Bool.not_false, Bool.and_self, Bool.and_true, Bool.and_false, Bool.false_and, Bool.true_and, Bool.or_true, Bool.or_false, Bool.or_self, Bool.true_or, Bool.false_or, zbt_t, zbt_f] at e1 <;>
  simp only [k, decide_true, decide_false, zbt_t, zbt_f] at g1 <;>
  simp (disch := omega) only [nX7_readWorn, eX7_readWorn_0, eX7_readWorn_1, eX7_readWorn_2, eX7_readWorn_5, eX7_readWorn_6, eX7_readWorn_9, eX7_readWorn_10, eX7_readWorn_13, eX7_readWorn_14, eX7_readWorn_15, eX7_readWorn_18, eX7_readWorn_19, eX7_readWorn_20, eX7_readWorn_23, eX7_readWorn_24, eX7_readWorn_25, eX7_readWorn_28, eX7_readWorn_29, eX7_readWorn_30, eX7_readWorn_31, eX7_readWorn_32, eX7_readWorn_35, eX7_readWorn_38, eX7_readWorn_39, eX7_readWorn_42, eX7_readWorn_44, eX7_readWorn_47, eX7_readWorn_48, eX7_readWorn_51, eX7_readWorn_52, eX7_readWorn_53, eX7_readWorn_56, eX7_readWorn_57, eX7_readWorn_60, eX7_readWorn_61, eX7_readWorn_62, eX7_readWorn_65, eX7_readWorn_66, h5, g1, e1, f1, v1, v2, v3, hhi, sm_in, k, c1, c2, c3, decide_true, decide_false, Bool.not_true, Bool.not_false, Bool.and_self, Bool.and_true, Bool.and_false, Bool.false_and, zbt_t, zbt_f, rd6, wr6, rd7, wr7, rd8, wr8, rd9, wr9, rd10, wr10, rd11, wr11, rd12, wr12, rd14, wr14, rd15, wr15, rd16, wr16, rd17, wr17, rd18, wr18, rd19, wr19, rd20, wr20, rd23, wr23, rd24, wr24, rd26, wr26, rd27, wr27, rd28, wr28, rd29, wr29, rd30, wr30, rd64, wr64, rd65, wr65, rd67, wr67, rd68, wr68, rd69, wr69, rd70, wr70, rd71, wr71, rd72, wr72, rd73, wr73, rb4, rb66, wb4, wb66, rdR, wrR, lenR, len1, len21, ofNat_nI, not_true_eq_false, not_false_eq_true, zok1, zok0, Bool.false_eq_true, zpush_s, zpush_n, Option.bind_some, Option.bind_none, ite_true, ite_false, if_true, if_false, ↓reduceIte, nI_add, pk_mul, ob0, ob2, ob3, ob22, ob25, ob63, pEqT, pEqF, Nat.reduceAdd]
theorem sm_readKnitters {d n : Nat} {b : Nat → Nat} {μ : Zm} {S : Nat × Nat} (hM : MT μ n b S) : ∃ μ', zC true (d + 5) mX7_readKnitters [.ref 63] μ = some (none, μ') ∧ (∀ c i, ¬ ((c = 63 ∧ ((11 ≤ i ∧ i ≤ 16) ∨ i = 1015)) ∨ (c = 72 ∧ (i = 1 ∨ i = 2))) → μ' c i = μ c i) ∧ MT μ' n b (pkD n b S) ∧ ((pkD n b S).1 = 0 → μ' 72 1 = nI (tV n b (pkA n b S).2) ∧ μ' 72 2 = nI (tV n b (pkB n b S).2)) := by
  obtain ⟨h1, h2, h3, h4, h5, h6, h7, h8, h9⟩ := id hM
  have w0 : zC true (d + 4) mX7_isName [.ref 63, .long 7741240758386389619] μ = some (some (.int (zbt (pwd n b S.2 0))), μ) := sm_isName (d := d + 3) (μ := μ) (j := 0) (C := 7741240758386389619) h5 h9 (by omega) (by decide +kernel)
  obtain ⟨A, a1, a2, a3⟩ := sm_must (d := d + 3) (c := pwd n b S.2 0) (k := 1) hM (by omega)
  have a1 : zC true (d + 4) mX7_must [.ref 63, .int (zbt (pwd n b S.2 0)), .int (nI 1)] μ = some (none, A) := a1
  obtain ⟨B, b1, b2, b3⟩ := sm_goesOn (d := d + 1) a3
  have b1 : zC true (d + 4) mX7_goesOn [.ref 63] A = some (none, B) := b1
  rw [← pif_m] at b3
  obtain ⟨C, x, c1, c2, c3, c4⟩ := sm_readNumber (d := d) (lo := nI 1) (hi := nI 5) (S := pkA n b S) b3
  have c5 : MT (zup C 72 1 x) n b (pkB n b S) := MT_fr c3 (fun c i q => zup_o (by omega))
  obtain ⟨D, y, d1, d2, d3, d4⟩ := sm_readNumber (d := d) (lo := nI 1) (hi := nI 6) c5
  have d5 : MT (zup D 72 2 y) n b (pkC n b S) := MT_fr d3 (fun c i q => zup_o (by omega))
  obtain ⟨E, e1, e2, e3⟩ := sm_readStop (d := d) d5
  refine ⟨E, ?_, fun c i q => ?_, e3, fun h => ?_⟩
  · simp (disch := omega) only [nX7_readKnitters, eX7_readKnitters_0, eX7_readKnitters_1, eX7_readKnitters_2, eX7_readKnitters_5, eX7_readKnitters_8, eX7_readKnitters_9, eX7_readKnitters_12, eX7_readKnitters_13, eX7_readKnitters_16, eX7_readKnitters_17, eX7_readKnitters_20, eX7_readKnitters_21, eX7_readKnitters_22, eX7_readKnitters_23, eX7_readKnitters_24, eX7_readKnitters_26, eX7_readKnitters_29, eX7_readKnitters_30, eX7_readKnitters_31, eX7_readKnitters_34, eX7_readKnitters_35, eX7_readKnitters_36, eX7_readKnitters_37, eX7_readKnitters_39, eX7_readKnitters_41, eX7_readKnitters_44, eX7_readKnitters_45, eX7_readKnitters_46, eX7_readKnitters_49, w0, a1, b1, c1, d1, e1, rd6, wr6, rd7, wr7, rd8, wr8, rd9, wr9, rd10, wr10, rd11, wr11, rd12, wr12, rd14, wr14, rd15, wr15, rd16, wr16, rd17, wr17, rd18, wr18, rd19, wr19, rd20, wr20, rd23, wr23, rd24, wr24, rd26, wr26, rd27, wr27, rd28, wr28, rd29, wr29, rd30, wr30, rd64, wr64, rd65, wr65, rd67, wr67, rd68, wr68, rd69, wr69, rd70, wr70, rd71, wr71, rd72, wr72, rd73, wr73, rb4, rb66, wb4, wb66, rdR, wrR, lenR, len1, len21, ofNat_nI, not_true_eq_false, not_false_eq_true, zok1, zok0, Bool.false_eq_true, zpush_s, zpush_n, Option.bind_some, Option.bind_none, ite_true, ite_false, if_true, if_false, ↓reduceIte, nI_add, pk_mul, ob0, ob2, ob3, ob22, ob25, ob63, Nat.reduceEqDiff, Nat.reduceAdd, Nat.reduceMul, Nat.reduceSub, pLeT, pLeF, pLtT, pLtF, pEqT, pEqF, qLtT, qLtF, qLeT, qLeF, qEqF, nI_sub2, nI_dec, ob5, ob13]
  · rw [e2 c i (by omega), zup_o (by omega), d2 c i (by omega), zup_o (by omega), c2 c i (by omega), b2 c i (by omega), a2 c i (by omega)]
  · have q3 := (pif_v h).1
    have q2 := (prn_v q3).1
    refine ⟨?_, ?_⟩
    · rw [e2 72 1 (by omega), zup_o (by omega), d2 72 1 (by omega), zup_s rfl rfl]
      exact c4 q2
    · rw [e2 72 2 (by omega), zup_s rfl rfl]
      exact d4 q3
set_option maxHeartbeats 1000000 in
theorem sm_readWool {d n w : Nat} {b : Nat → Nat} {μ : Zm} {S : Nat × Nat} {hi : Int32} (hM : MT μ n b S) (hw : μ 72 3 = nI w) (h7 : w ≤ 7) (hK : μ 72 1 - nI 1 = hi) : ∃ μ', zC true (d + 5) mX7_readWool [.ref 63] μ = some (none, μ') ∧ MT μ' n b (pwD n b hi (pgo n b (pmu 3 (decide (w < 7)) S))) ∧ ((pwD n b hi (pgo n b (pmu 3 (decide (w < 7)) S))).1 ≠ 0 → FrM μ μ') ∧ ((pwD n b hi (pgo n b (pmu 3 (decide (w < 7)) S))).1 = 0 → (∀ c i, ¬ ((c = 63 ∧ ((11 ≤ i ∧ i ≤ 16) ∨ i = 1015)) ∨ (c = 72 ∧ (i = 3 ∨ i = 5 + w ∨ i = 60 + w ∨ i = 67 + w))) → μ' c i = μ c i) ∧ μ' 72 3 = nI (w + 1) ∧ μ' 72 (5 + w) = nI (psort n b (pgo n b (pmu 3 (decide (w < 7)) S)).2) ∧ μ' 72 (60 + w) = nI (tV n b (pwB n b hi (pgo n b (pmu 3 (decide (w < 7)) S))).2) ∧ μ' 72 (67 + w) = nI 1 <<< (nI (tV n b (pwA n b (pgo n b (pmu 3 (decide (w < 7)) S))).2) &&& 31)) := by
  obtain ⟨A, a1, a2, a3⟩ := sm_must (d := d + 3) (c := decide (w < 7)) (k := 3) hM (by omega)
  have a1 : zC true (d + 4) mX7_must [.ref 63, .int (zbt (decide (w < 7))), .int (nI 3)] μ = some (none, A) := a1
  have hlt : (pwD n b hi (pgo n b (pmu 3 (decide (w < 7)) S))).1 = 0 → w < 7 := by
    intro h
    by_cases q : w < 7
    · exact q
    · exfalso
      have k1 := (pif_v (prn_v (prn_v (pif_v h).1).1).1).1
      rw [decide_eq_false q] at k1
      by_cases q2 : S.1 = 0
      · rw [pmu_f q2, pgo_n (S := (3, S.2)) (show (3 : Nat) ≠ 0 by omega)] at k1
        cases k1
      · rw [pmu_n q2, pgo_n q2] at k1
        exact q2 k1
  obtain ⟨B, b1, b2, b3⟩ := sm_goesOn (d := d + 1) a3
  have b1 : zC true (d + 4) mX7_goesOn [.ref 63] A = some (none, B) := b1
  generalize pgo n b (pmu 3 (decide (w < 7)) S) = T at b3 hlt ⊢
  have s1 : zC true (d + 4) mX7_sortNow [.ref 63] B = some (some (.int (if psort n b T.2 = 0 then -1000000 else nI (psort n b T.2))), B) := sm_sortNow (d := d + 2) b3
  obtain ⟨C, c1, c2, c3⟩ := sm_must (d := d + 3) (c := decide (psort n b T.2 ≠ 0)) (k := 1) b3 (by omega)
  have c1 : zC true (d + 4) mX7_must [.ref 63, .int (zbt (decide (psort n b T.2 ≠ 0))), .int (nI 1)] B = some (none, C) := c1
  obtain ⟨D, d1, d2, d3⟩ := sm_goesOn (d := d + 1) c3
  have d1 : zC true (d + 4) mX7_goesOn [.ref 63] C = some (none, D) := d1
  rw [← pif_m] at d3
  obtain ⟨E, y, e1, e2, e3, e4⟩ := sm_readNumber (d := d) (lo := nI 0) (hi := hi) (S := pwA n b T) d3
  obtain ⟨F, z, f1, f2, f3, f4⟩ := sm_readNumber (d := d) (lo := nI 1) (hi := nI 30) (S := pwB n b hi T) e3
  obtain ⟨G, g1, g2, g3⟩ := sm_readStop (d := d) (S := pwC n b hi T) f3
  have frG : FrM μ G := FrM_tr (FrM_of a2) (FrM_tr b2 (FrM_tr (FrM_of c2) (FrM_tr d2 (FrM_tr e2 (FrM_tr f2 g2)))))
  have vD : D 72 1 = μ 72 1 := by rw [d2 72 1 (by omega), c2 72 1 (by omega), b2 72 1 (by omega), a2 72 1 (by omega)]
  have vG : G 72 3 = nI w := (frG 72 3 (by omega)).trans hw
  have g16 : G 63 16 = nI (pwD n b hi T).1 := g3.2.2.1
  have g4 : (pwD n b hi T).1 ≤ 3 := g3.2.2.2.1
  have hps := psort_le (n := n) (b := b) (e := T.2)
  have hso : ((if psort n b T.2 = 0 then -1000000 else nI (psort n b T.2)) = (-1000000 : Int32)) = (psort n b T.2 = 0) := by
    by_cases q : psort n b T.2 = 0
    · rw [if_pos q, eq_true q]; exact eq_true rfl
    · rw [if_neg q, nINone (by omega), eq_false q]
  have hsv : psort n b T.2 ≠ 0 → (if psort n b T.2 = 0 then (-1000000 : Int32) else nI (psort n b T.2)) = nI (psort n b T.2) := fun q => if_neg q
  generalize (if psort n b T.2 = 0 then (-1000000 : Int32) else nI (psort n b T.2)) = x at s1 hso hsv
  by_cases hf : (pwD n b hi T).1 = 0
  · have hw7 := hlt hf
    have q4 := (pif_v hf).1
    have q3 := (prn_v q4).1
    have q2 := (pif_v (prn_v q3).1).2.1
    have q2 : psort n b T.2 ≠ 0 := of_decide_eq_true q2
    rw [hf] at g16
    rw [decide_eq_true hw7, zbt_t] at a1
    rw [decide_eq_true q2, zbt_t] at c1
    rw [eq_false q2] at hso
    refine ⟨zup (zup (zup (zup G 72 (5 + w) x) 72 (60 + w) z) 72 (67 + w) (nI 1 <<< (y &&& 31))) 72 3 (nI (w + 1)), ?_, MT_fr g3 (fun c i q => ?_), fun h => absurd hf h, fun _ => ⟨fun c i q => ?_, zup_s rfl rfl, ?_, ?_, ?_⟩⟩
    · simp (disch := omega) only [nX7_readWool, eX7_readWool_0, eX7_readWool_1, eX7_readWool_2, eX7_readWool_5, eX7_readWool_6, eX7_readWool_7, eX7_readWool_9, eX7_readWool_12, eX7_readWool_13, eX7_readWool_16, eX7_readWool_17, eX7_readWool_18, eX7_readWool_21, eX7_readWool_22, eX7_readWool_25, eX7_readWool_26, eX7_readWool_29, eX7_readWool_30, eX7_readWool_31, eX7_readWool_32, eX7_readWool_34, eX7_readWool_37, eX7_readWool_38, eX7_readWool_41, eX7_readWool_42, eX7_readWool_43, eX7_readWool_46, eX7_readWool_47, eX7_readWool_50, eX7_readWool_51, eX7_readWool_52, eX7_readWool_53, eX7_readWool_56, eX7_readWool_57, eX7_readWool_58, eX7_readWool_59, eX7_readWool_60, eX7_readWool_62, eX7_readWool_65, eX7_readWool_66, eX7_readWool_67, eX7_readWool_68, eX7_readWool_70, eX7_readWool_72, eX7_readWool_75, eX7_readWool_76, eX7_readWool_77, eX7_readWool_80, eX7_readWool_81, eX7_readWool_84, eX7_readWool_87, eX7_readWool_88, eX7_readWool_91, eX7_readWool_92, eX7_readWool_93, eX7_readWool_96, eX7_readWool_97, eX7_readWool_98, eX7_readWool_99, eX7_readWool_100, eX7_readWool_101, eX7_readWool_102, eX7_readWool_105, eX7_readWool_107, eX7_readWool_108, eX7_readWool_111, eX7_readWool_112, eX7_readWool_113, eX7_readWool_114, eX7_readWool_115, eX7_readWool_116, eX7_readWool_117, eX7_readWool_120, eX7_readWool_122, eX7_readWool_123, eX7_readWool_126, eX7_readWool_127, eX7_readWool_128, eX7_readWool_129, eX7_readWool_130, eX7_readWool_131, eX7_readWool_132, eX7_readWool_133, eX7_readWool_134, eX7_readWool_137, eX7_readWool_138, eX7_readWool_139, eX7_readWool_140, eX7_readWool_141, eX7_readWool_142, eX7_readWool_143, hw, a1, b1, s1, hso, c1, d1, vD, hK, e1, f1, g1, g16, vG, zup_o, rd6, wr6, rd7, wr7, rd8, wr8, rd9, wr9, rd10, wr10, rd11, wr11, rd12, wr12, rd14, wr14, rd15, wr15, rd16, wr16, rd17, wr17, rd18, wr18, rd19, wr19, rd20, wr20, rd23, wr23, rd24, wr24, rd26, wr26, rd27, wr27, rd28, wr28, rd29, wr29, rd30, wr30, rd64, wr64, rd65, wr65, rd67, wr67, rd68, wr68, rd69, wr69, rd70, wr70, rd71, wr71, rd72, wr72, rd73, wr73, rb4, rb66, wb4, wb66, rdR, wrR, lenR, len1, len21, ofNat_nI, not_true_eq_false, not_false_eq_true, zok1, zok0, Bool.false_eq_true, zpush_s, zpush_n, Option.bind_some, Option.bind_none, ite_true, ite_false, if_true, if_false, ↓reduceIte, nI_add, pk_mul, ob0, ob2, ob3, ob22, ob25, ob63, Nat.reduceEqDiff, Nat.reduceAdd, Nat.reduceMul, Nat.reduceSub, pLeT, pLeF, pLtT, pLtF, pEqT, pEqF, qLtT, qLtF, qLeT, qLeF, qEqF, nI_sub2, nI_dec, ob5, ob13]
    · rw [zup_o (by omega), zup_o (by omega), zup_o (by omega), zup_o (by omega)]
    · rw [zup_o (by omega), zup_o (by omega), zup_o (by omega), zup_o (by omega), frG c i (by omega)]
    · rw [zup_o (by omega), zup_o (by omega), zup_o (by omega), zup_s rfl rfl, hsv q2]
    · rw [zup_o (by omega), zup_o (by omega), zup_s rfl rfl, f4 q4]
    · rw [zup_o (by omega), zup_s rfl rfl, e4 q3]
  · have g16n : (nI (pwD n b hi T).1 = nI 0) = False := pEqF (by omega)
    refine ⟨G, ?_, g3, fun _ => frG, fun h => absurd h hf⟩
    by_cases hw7 : w < 7
    · rw [decide_eq_true hw7, zbt_t] at a1
      by_cases q2 : psort n b T.2 = 0
      · rw [decide_eq_false (fun h => h q2), zbt_f] at c1
        rw [eq_true q2] at hso
        simp (disch := omega) only [nX7_readWool, eX7_readWool_0, eX7_readWool_1, eX7_readWool_2, eX7_readWool_5, eX7_readWool_6, eX7_readWool_7, eX7_readWool_9, eX7_readWool_12, eX7_readWool_13, eX7_readWool_16, eX7_readWool_17, eX7_readWool_18, eX7_readWool_21, eX7_readWool_22, eX7_readWool_25, eX7_readWool_26, eX7_readWool_29, eX7_readWool_30, eX7_readWool_31, eX7_readWool_32, eX7_readWool_34, eX7_readWool_37, eX7_readWool_38, eX7_readWool_41, eX7_readWool_42, eX7_readWool_43, eX7_readWool_46, eX7_readWool_47, eX7_readWool_50, eX7_readWool_51, eX7_readWool_52, eX7_readWool_53, eX7_readWool_56, eX7_readWool_57, eX7_readWool_58, eX7_readWool_59, eX7_readWool_60, eX7_readWool_62, eX7_readWool_65, eX7_readWool_66, eX7_readWool_67, eX7_readWool_68, eX7_readWool_70, eX7_readWool_72, eX7_readWool_75, eX7_readWool_76, eX7_readWool_77, eX7_readWool_80, eX7_readWool_81, eX7_readWool_84, eX7_readWool_87, eX7_readWool_88, eX7_readWool_91, eX7_readWool_92, eX7_readWool_93, eX7_readWool_96, eX7_readWool_97, eX7_readWool_98, eX7_readWool_99, eX7_readWool_100, eX7_readWool_101, eX7_readWool_102, eX7_readWool_105, eX7_readWool_107, eX7_readWool_108, eX7_readWool_111, eX7_readWool_112, eX7_readWool_113, eX7_readWool_114, eX7_readWool_115, eX7_readWool_116, eX7_readWool_117, eX7_readWool_120, eX7_readWool_122, eX7_readWool_123, eX7_readWool_126, eX7_readWool_127, eX7_readWool_128, eX7_readWool_129, eX7_readWool_130, eX7_readWool_131, eX7_readWool_132, eX7_readWool_133, eX7_readWool_134, eX7_readWool_137, eX7_readWool_138, eX7_readWool_139, eX7_readWool_140, eX7_readWool_141, eX7_readWool_142, eX7_readWool_143, hw, a1, b1, s1, hso, c1, d1, vD, hK, e1, f1, g1, g16, g16n, rd6, wr6, rd7, wr7, rd8, wr8, rd9, wr9, rd10, wr10, rd11, wr11, rd12, wr12, rd14, wr14, rd15, wr15, rd16, wr16, rd17, wr17, rd18, wr18, rd19, wr19, rd20, wr20, rd23, wr23, rd24, wr24, rd26, wr26, rd27, wr27, rd28, wr28, rd29, wr29, rd30, wr30, rd64, wr64, rd65, wr65, rd67, wr67, rd68, wr68, rd69, wr69, rd70, wr70, rd71, wr71, rd72, wr72, rd73, wr73, rb4, rb66, wb4, wb66, rdR, wrR, lenR, len1, len21, ofNat_nI, not_true_eq_false, not_false_eq_true, zok1, zok0, Bool.false_eq_true, zpush_s, zpush_n, Option.bind_some, Option.bind_none, ite_true, ite_false, if_true, if_false, ↓reduceIte, nI_add, pk_mul, ob0, ob2, ob3, ob22, ob25, ob63, Nat.reduceEqDiff, Nat.reduceAdd, Nat.reduceMul, Nat.reduceSub, pLeT, pLeF, pLtT, pLtF, pEqT, pEqF, qLtT, qLtF, qLeT, qLeF, qEqF, nI_sub2, nI_dec, ob5, ob13]
      · rw [decide_eq_true q2, zbt_t] at c1
        rw [eq_false q2] at hso
        simp (disch := omega) only [nX7_readWool, eX7_readWool_0, eX7_readWool_1, eX7_readWool_2, eX7_readWool_5, eX7_readWool_6, eX7_readWool_7, eX7_readWool_9, eX7_readWool_12, eX7_readWool_13, eX7_readWool_16, eX7_readWool_17, eX7_readWool_18, eX7_readWool_21, eX7_readWool_22, eX7_readWool_25, eX7_readWool_26, eX7_readWool_29, eX7_readWool_30, eX7_readWool_31, eX7_readWool_32, eX7_readWool_34, eX7_readWool_37, eX7_readWool_38, eX7_readWool_41, eX7_readWool_42, eX7_readWool_43, eX7_readWool_46, eX7_readWool_47, eX7_readWool_50, eX7_readWool_51, eX7_readWool_52, eX7_readWool_53, eX7_readWool_56, eX7_readWool_57, eX7_readWool_58, eX7_readWool_59, eX7_readWool_60, eX7_readWool_62, eX7_readWool_65, eX7_readWool_66, eX7_readWool_67, eX7_readWool_68, eX7_readWool_70, eX7_readWool_72, eX7_readWool_75, eX7_readWool_76, eX7_readWool_77, eX7_readWool_80, eX7_readWool_81, eX7_readWool_84, eX7_readWool_87, eX7_readWool_88, eX7_readWool_91, eX7_readWool_92, eX7_readWool_93, eX7_readWool_96, eX7_readWool_97, eX7_readWool_98, eX7_readWool_99, eX7_readWool_100, eX7_readWool_101, eX7_readWool_102, eX7_readWool_105, eX7_readWool_107, eX7_readWool_108, eX7_readWool_111, eX7_readWool_112, eX7_readWool_113, eX7_readWool_114, eX7_readWool_115, eX7_readWool_116, eX7_readWool_117, eX7_readWool_120, eX7_readWool_122, eX7_readWool_123, eX7_readWool_126, eX7_readWool_127, eX7_readWool_128, eX7_readWool_129, eX7_readWool_130, eX7_readWool_131, eX7_readWool_132, eX7_readWool_133, eX7_readWool_134, eX7_readWool_137, eX7_readWool_138, eX7_readWool_139, eX7_readWool_140, eX7_readWool_141, eX7_readWool_142, eX7_readWool_143, hw, a1, b1, s1, hso, c1, d1, vD, hK, e1, f1, g1, g16, g16n, rd6, wr6, rd7, wr7, rd8, wr8, rd9, wr9, rd10, wr10, rd11, wr11, rd12, wr12, rd14, wr14, rd15, wr15, rd16, wr16, rd17, wr17, rd18, wr18, rd19, wr19, rd20, wr20, rd23, wr23, rd24, wr24, rd26, wr26, rd27, wr27, rd28, wr28, rd29, wr29, rd30, wr30, rd64, wr64, rd65, wr65, rd67, wr67, rd68, wr68, rd69, wr69, rd70, wr70, rd71, wr71, rd72, wr72, rd73, wr73, rb4, rb66, wb4, wb66, rdR, wrR, lenR, len1, len21, ofNat_nI, not_true_eq_false, not_false_eq_true, zok1, zok0, Bool.false_eq_true, zpush_s, zpush_n, Option.bind_some, Option.bind_none, ite_true, ite_false, if_true, if_false, ↓reduceIte, nI_add, pk_mul, ob0, ob2, ob3, ob22, ob25, ob63, Nat.reduceEqDiff, Nat.reduceAdd, Nat.reduceMul, Nat.reduceSub, pLeT, pLeF, pLtT, pLtF, pEqT, pEqF, qLtT, qLtF, qLeT, qLeF, qEqF, nI_sub2, nI_dec, ob5, ob13]
    · rw [decide_eq_false hw7, zbt_f] at a1
      by_cases q2 : psort n b T.2 = 0
      · rw [decide_eq_false (fun h => h q2), zbt_f] at c1
        rw [eq_true q2] at hso
        simp (disch := omega) only [nX7_readWool, eX7_readWool_0, eX7_readWool_1, eX7_readWool_2, eX7_readWool_5, eX7_readWool_6, eX7_readWool_7, eX7_readWool_9, eX7_readWool_12, eX7_readWool_13, eX7_readWool_16, eX7_readWool_17, eX7_readWool_18, eX7_readWool_21, eX7_readWool_22, eX7_readWool_25, eX7_readWool_26, eX7_readWool_29, eX7_readWool_30, eX7_readWool_31, eX7_readWool_32, eX7_readWool_34, eX7_readWool_37, eX7_readWool_38, eX7_readWool_41, eX7_readWool_42, eX7_readWool_43, eX7_readWool_46, eX7_readWool_47, eX7_readWool_50, eX7_readWool_51, eX7_readWool_52, eX7_readWool_53, eX7_readWool_56, eX7_readWool_57, eX7_readWool_58, eX7_readWool_59, eX7_readWool_60, eX7_readWool_62, eX7_readWool_65, eX7_readWool_66, eX7_readWool_67, eX7_readWool_68, eX7_readWool_70, eX7_readWool_72, eX7_readWool_75, eX7_readWool_76, eX7_readWool_77, eX7_readWool_80, eX7_readWool_81, eX7_readWool_84, eX7_readWool_87, eX7_readWool_88, eX7_readWool_91, eX7_readWool_92, eX7_readWool_93, eX7_readWool_96, eX7_readWool_97, eX7_readWool_98, eX7_readWool_99, eX7_readWool_100, eX7_readWool_101, eX7_readWool_102, eX7_readWool_105, eX7_readWool_107, eX7_readWool_108, eX7_readWool_111, eX7_readWool_112, eX7_readWool_113, eX7_readWool_114, eX7_readWool_115, eX7_readWool_116, eX7_readWool_117, eX7_readWool_120, eX7_readWool_122, eX7_readWool_123, eX7_readWool_126, eX7_readWool_127, eX7_readWool_128, eX7_readWool_129, eX7_readWool_130, eX7_readWool_131, eX7_readWool_132, eX7_readWool_133, eX7_readWool_134, eX7_readWool_137, eX7_readWool_138, eX7_readWool_139, eX7_readWool_140, eX7_readWool_141, eX7_readWool_142, eX7_readWool_143, hw, a1, b1, s1, hso, c1, d1, vD, hK, e1, f1, g1, g16, g16n, rd6, wr6, rd7, wr7, rd8, wr8, rd9, wr9, rd10, wr10, rd11, wr11, rd12, wr12, rd14, wr14, rd15, wr15, rd16, wr16, rd17, wr17, rd18, wr18, rd19, wr19, rd20, wr20, rd23, wr23, rd24, wr24, rd26, wr26, rd27, wr27, rd28, wr28, rd29, wr29, rd30, wr30, rd64, wr64, rd65, wr65, rd67, wr67, rd68, wr68, rd69, wr69, rd70, wr70, rd71, wr71, rd72, wr72, rd73, wr73, rb4, rb66, wb4, wb66, rdR, wrR, lenR, len1, len21, ofNat_nI, not_true_eq_false, not_false_eq_true, zok1, zok0, Bool.false_eq_true, zpush_s, zpush_n, Option.bind_some, Option.bind_none, ite_true, ite_false, if_true, if_false, ↓reduceIte, nI_add, pk_mul, ob0, ob2, ob3, ob22, ob25, ob63, Nat.reduceEqDiff, Nat.reduceAdd, Nat.reduceMul, Nat.reduceSub, pLeT, pLeF, pLtT, pLtF, pEqT, pEqF, qLtT, qLtF, qLeT, qLeF, qEqF, nI_sub2, nI_dec, ob5, ob13]
      · rw [decide_eq_true q2, zbt_t] at c1
        rw [eq_false q2] at hso
        simp (disch := omega) only [nX7_readWool, eX7_readWool_0, eX7_readWool_1, eX7_readWool_2, eX7_readWool_5, eX7_readWool_6, eX7_readWool_7, eX7_readWool_9, eX7_readWool_12, eX7_readWool_13, eX7_readWool_16, eX7_readWool_17, eX7_readWool_18, eX7_readWool_21, eX7_readWool_22, eX7_readWool_25, eX7_readWool_26, eX7_readWool_29, eX7_readWool_30, eX7_readWool_31, eX7_readWool_32, eX7_readWool_34, eX7_readWool_37, eX7_readWool_38, eX7_readWool_41, eX7_readWool_42, eX7_readWool_43, eX7_readWool_46, eX7_readWool_47, eX7_readWool_50, eX7_readWool_51, eX7_readWool_52, eX7_readWool_53, eX7_readWool_56, eX7_readWool_57, eX7_readWool_58, eX7_readWool_59, eX7_readWool_60, eX7_readWool_62, eX7_readWool_65, eX7_readWool_66, eX7_readWool_67, eX7_readWool_68, eX7_readWool_70, eX7_readWool_72, eX7_readWool_75, eX7_readWool_76, eX7_readWool_77, eX7_readWool_80, eX7_readWool_81, eX7_readWool_84, eX7_readWool_87, eX7_readWool_88, eX7_readWool_91, eX7_readWool_92, eX7_readWool_93, eX7_readWool_96, eX7_readWool_97, eX7_readWool_98, eX7_readWool_99, eX7_readWool_100, eX7_readWool_101, eX7_readWool_102, eX7_readWool_105, eX7_readWool_107, eX7_readWool_108, eX7_readWool_111, eX7_readWool_112, eX7_readWool_113, eX7_readWool_114, eX7_readWool_115, eX7_readWool_116, eX7_readWool_117, eX7_readWool_120, eX7_readWool_122, eX7_readWool_123, eX7_readWool_126, eX7_readWool_127, eX7_readWool_128, eX7_readWool_129, eX7_readWool_130, eX7_readWool_131, eX7_readWool_132, eX7_readWool_133, eX7_readWool_134, eX7_readWool_137, eX7_readWool_138, eX7_readWool_139, eX7_readWool_140, eX7_readWool_141, eX7_readWool_142, eX7_readWool_143, hw, a1, b1, s1, hso, c1, d1, vD, hK, e1, f1, g1, g16, g16n, rd6, wr6, rd7, wr7, rd8, wr8, rd9, wr9, rd10, wr10, rd11, wr11, rd12, wr12, rd14, wr14, rd15, wr15, rd16, wr16, rd17, wr17, rd18, wr18, rd19, wr19, rd20, wr20, rd23, wr23, rd24, wr24, rd26, wr26, rd27, wr27, rd28, wr28, rd29, wr29, rd30, wr30, rd64, wr64, rd65, wr65, rd67, wr67, rd68, wr68, rd69, wr69, rd70, wr70, rd71, wr71, rd72, wr72, rd73, wr73, rb4, rb66, wb4, wb66, rdR, wrR, lenR, len1, len21, ofNat_nI, not_true_eq_false, not_false_eq_true, zok1, zok0, Bool.false_eq_true, zpush_s, zpush_n, Option.bind_some, Option.bind_none, ite_true, ite_false, if_true, if_false, ↓reduceIte, nI_add, pk_mul, ob0, ob2, ob3, ob22, ob25, ob63, Nat.reduceEqDiff, Nat.reduceAdd, Nat.reduceMul, Nat.reduceSub, pLeT, pLeF, pLtT, pLtF, pEqT, pEqF, qLtT, qLtF, qLeT, qLeF, qEqF, nI_sub2, nI_dec, ob5, ob13]
set_option maxHeartbeats 2000000 in
theorem sm_readSaying {d n s W : Nat} {b : Nat → Nat} {μ : Zm} {S : Nat × Nat} {hk hf : Int32} (hM : MT μ n b S) (hs : μ 72 4 = nI s) (h12 : s ≤ 12) (hK : μ 72 1 - nI 1 = hk) (hF : μ 72 2 - nI 1 = hf) (hW : μ 72 3 = nI W) (hW7 : W ≤ 7) : ∃ μ', zC true (d + 5) mX7_readSaying [.ref 63] μ = some (none, μ') ∧ MT μ' n b (psE n b hk W hf (pgo n b (pmu 3 (decide (s < 12)) S))) ∧ ((psE n b hk W hf (pgo n b (pmu 3 (decide (s < 12)) S))).1 ≠ 0 → FrM μ μ') ∧ ((psE n b hk W hf (pgo n b (pmu 3 (decide (s < 12)) S))).1 = 0 → (∀ c i, ¬ ((c = 63 ∧ ((11 ≤ i ∧ i ≤ 16) ∨ i = 1015)) ∨ (c = 72 ∧ (i = 4 ∨ (12 + 4 * s ≤ i ∧ i ≤ 15 + 4 * s)))) → μ' c i = μ c i) ∧ μ' 72 4 = nI (s + 1) ∧ μ' 72 (12 + 4 * s) = nI (tV n b (pgo n b (pmu 3 (decide (s < 12)) S)).2) ∧ μ' 72 (12 + 4 * s + 1) = (if tV n b (psA n b hk (pgo n b (pmu 3 (decide (s < 12)) S))).2 = 9 then -1000000 else nI (tV n b (psA n b hk (pgo n b (pmu 3 (decide (s < 12)) S))).2)) ∧ μ' 72 (12 + 4 * s + 2) = nI (tV n b (psB n b hk W (pgo n b (pmu 3 (decide (s < 12)) S))).2) ∧ μ' 72 (12 + 4 * s + 3) = nI (tV n b (psC n b hk W hf (pgo n b (pmu 3 (decide (s < 12)) S))).2)) := by
  obtain ⟨A, a1, a2, a3⟩ := sm_must (d := d + 3) (c := decide (s < 12)) (k := 3) hM (by omega)
  have a1 : zC true (d + 4) mX7_must [.ref 63, .int (zbt (decide (s < 12))), .int (nI 3)] μ = some (none, A) := a1
  have hlt : (psE n b hk W hf (pgo n b (pmu 3 (decide (s < 12)) S))).1 = 0 → s < 12 := by
    intro h
    by_cases q : s < 12
    · exact q
    · exfalso
      have k1 := (prn_v (pwn_v (prn_v (prn_v (pif_v h).1).1).1).1).1
      rw [decide_eq_false q] at k1
      by_cases q2 : S.1 = 0
      · rw [pmu_f q2, pgo_n (S := (3, S.2)) (show (3 : Nat) ≠ 0 by omega)] at k1
        cases k1
      · rw [pmu_n q2, pgo_n q2] at k1
        exact q2 k1
  obtain ⟨B, b1, b2, b3⟩ := sm_goesOn (d := d + 1) a3
  have b1 : zC true (d + 4) mX7_goesOn [.ref 63] A = some (none, B) := b1
  generalize pgo n b (pmu 3 (decide (s < 12)) S) = T at b3 hlt ⊢
  obtain ⟨C, x, c1, c2, c3, c4⟩ := sm_readNumber (d := d) (lo := nI 0) (hi := hk) b3
  have v3 : C 72 3 = nI W := by rw [c2 72 3 (by omega), b2 72 3 (by omega), a2 72 3 (by omega), hW]
  obtain ⟨D, y, d1, d2, d3, d4⟩ := sm_readWorn (d := d) (S := psA n b hk T) c3 v3 hW7
  obtain ⟨E, z, e1, e2, e3, e4⟩ := sm_readNumber (d := d) (lo := nI 0) (hi := hf) (S := psB n b hk W T) d3
  obtain ⟨F, u, f1, f2, f3, f4⟩ := sm_readNumber (d := d) (lo := nI 0) (hi := nI 1) (S := psC n b hk W hf T) e3
  obtain ⟨G, g1, g2, g3⟩ := sm_readStop (d := d) (S := psD n b hk W hf T) f3
  have frG : FrM μ G := FrM_tr (FrM_of a2) (FrM_tr b2 (FrM_tr c2 (FrM_tr d2 (FrM_tr e2 (FrM_tr f2 g2)))))
  have vB : B 72 1 = μ 72 1 := by rw [b2 72 1 (by omega), a2 72 1 (by omega)]
  have vD : D 72 2 = μ 72 2 := by rw [d2 72 2 (by omega), c2 72 2 (by omega), b2 72 2 (by omega), a2 72 2 (by omega)]
  have vG : G 72 4 = nI s := (frG 72 4 (by omega)).trans hs
  have g16 : G 63 16 = nI (psE n b hk W hf T).1 := g3.2.2.1
  have g4 : (psE n b hk W hf T).1 ≤ 3 := g3.2.2.2.1
  by_cases hz : (psE n b hk W hf T).1 = 0
  · have hs12 := hlt hz
    have q5 := (pif_v hz).1
    have q4 := (prn_v q5).1
    have q3 := (prn_v q4).1
    have q2 := (pwn_v q3).1
    have kk := (pwn_v q3).2.1
    have hv := tV_le kk
    rw [hz] at g16
    rw [decide_eq_true hs12, zbt_t] at a1
    have hy : y = nI (tV n b (psA n b hk T).2) := d4 q3
    refine ⟨zup (zup (zup (zup (zup G 72 (12 + 4 * s) x) 72 (12 + 4 * s + 1) (if tV n b (psA n b hk T).2 = 9 then -1000000 else nI (tV n b (psA n b hk T).2))) 72 (12 + 4 * s + 2) z) 72 (12 + 4 * s + 3) u) 72 4 (nI (s + 1)), ?_, MT_fr g3 (fun c i q => ?_), fun h => absurd hz h, fun _ => ⟨fun c i q => ?_, zup_s rfl rfl, ?_, ?_, ?_, ?_⟩⟩
    · by_cases c9 : tV n b (psA n b hk T).2 = 9
      · rw [c9] at hy
        rw [if_pos c9]
        rw [hy] at d1
        simp (disch := omega) only [nX7_readSaying, eX7_readSaying_0, eX7_readSaying_1, eX7_readSaying_2, eX7_readSaying_5, eX7_readSaying_6, eX7_readSaying_7, eX7_readSaying_9, eX7_readSaying_12, eX7_readSaying_13, eX7_readSaying_16, eX7_readSaying_17, eX7_readSaying_18, eX7_readSaying_21, eX7_readSaying_22, eX7_readSaying_25, eX7_readSaying_26, eX7_readSaying_27, eX7_readSaying_28, eX7_readSaying_31, eX7_readSaying_32, eX7_readSaying_33, eX7_readSaying_34, eX7_readSaying_35, eX7_readSaying_37, eX7_readSaying_40, eX7_readSaying_41, eX7_readSaying_42, eX7_readSaying_45, eX7_readSaying_46, eX7_readSaying_47, eX7_readSaying_48, eX7_readSaying_49, eX7_readSaying_52, eX7_readSaying_53, eX7_readSaying_54, eX7_readSaying_55, eX7_readSaying_56, eX7_readSaying_58, eX7_readSaying_61, eX7_readSaying_62, eX7_readSaying_63, eX7_readSaying_64, eX7_readSaying_65, eX7_readSaying_67, eX7_readSaying_70, eX7_readSaying_72, eX7_readSaying_73, eX7_readSaying_76, eX7_readSaying_77, eX7_readSaying_80, eX7_readSaying_83, eX7_readSaying_85, eX7_readSaying_86, eX7_readSaying_87, eX7_readSaying_90, eX7_readSaying_91, eX7_readSaying_92, eX7_readSaying_93, eX7_readSaying_94, eX7_readSaying_96, eX7_readSaying_97, eX7_readSaying_100, eX7_readSaying_102, eX7_readSaying_103, eX7_readSaying_104, eX7_readSaying_105, eX7_readSaying_108, eX7_readSaying_110, eX7_readSaying_111, eX7_readSaying_112, eX7_readSaying_113, eX7_readSaying_115, eX7_readSaying_118, eX7_readSaying_120, eX7_readSaying_123, eX7_readSaying_124, eX7_readSaying_125, eX7_readSaying_126, eX7_readSaying_129, eX7_readSaying_131, eX7_readSaying_132, eX7_readSaying_133, eX7_readSaying_134, eX7_readSaying_135, eX7_readSaying_136, eX7_readSaying_139, eX7_readSaying_141, eX7_readSaying_142, eX7_readSaying_143, eX7_readSaying_145, eX7_readSaying_146, eX7_readSaying_147, eX7_readSaying_150, eX7_readSaying_151, eX7_readSaying_152, eX7_readSaying_153, eX7_readSaying_154, eX7_readSaying_155, eX7_readSaying_156, hs, a1, b1, vB, hK, c1, d1, vD, hF, e1, f1, g1, g16, vG, zup_o, rd6, wr6, rd7, wr7, rd8, wr8, rd9, wr9, rd10, wr10, rd11, wr11, rd12, wr12, rd14, wr14, rd15, wr15, rd16, wr16, rd17, wr17, rd18, wr18, rd19, wr19, rd20, wr20, rd23, wr23, rd24, wr24, rd26, wr26, rd27, wr27, rd28, wr28, rd29, wr29, rd30, wr30, rd64, wr64, rd65, wr65, rd67, wr67, rd68, wr68, rd69, wr69, rd70, wr70, rd71, wr71, rd72, wr72, rd73, wr73, rb4, rb66, wb4, wb66, rdR, wrR, lenR, len1, len21, ofNat_nI, not_true_eq_false, not_false_eq_true, zok1, zok0, Bool.false_eq_true, zpush_s, zpush_n, Option.bind_some, Option.bind_none, ite_true, ite_false, if_true, if_false, ↓reduceIte, nI_add, pk_mul, ob0, ob2, ob3, ob22, ob25, ob63, Nat.reduceEqDiff, Nat.reduceAdd, Nat.reduceMul, Nat.reduceSub, pLeT, pLeF, pLtT, pLtF, pEqT, pEqF, qLtT, qLtF, qLeT, qLeF, qEqF, nI_sub2, nI_dec, ob5, ob13]
      · rw [if_neg c9]
        rw [hy] at d1
        have hne : (nI (tV n b (psA n b hk T).2) = nI 9) = False := pEqF (by omega)
        simp (disch := omega) only [nX7_readSaying, eX7_readSaying_0, eX7_readSaying_1, eX7_readSaying_2, eX7_readSaying_5, eX7_readSaying_6, eX7_readSaying_7, eX7_readSaying_9, eX7_readSaying_12, eX7_readSaying_13, eX7_readSaying_16, eX7_readSaying_17, eX7_readSaying_18, eX7_readSaying_21, eX7_readSaying_22, eX7_readSaying_25, eX7_readSaying_26, eX7_readSaying_27, eX7_readSaying_28, eX7_readSaying_31, eX7_readSaying_32, eX7_readSaying_33, eX7_readSaying_34, eX7_readSaying_35, eX7_readSaying_37, eX7_readSaying_40, eX7_readSaying_41, eX7_readSaying_42, eX7_readSaying_45, eX7_readSaying_46, eX7_readSaying_47, eX7_readSaying_48, eX7_readSaying_49, eX7_readSaying_52, eX7_readSaying_53, eX7_readSaying_54, eX7_readSaying_55, eX7_readSaying_56, eX7_readSaying_58, eX7_readSaying_61, eX7_readSaying_62, eX7_readSaying_63, eX7_readSaying_64, eX7_readSaying_65, eX7_readSaying_67, eX7_readSaying_70, eX7_readSaying_72, eX7_readSaying_73, eX7_readSaying_76, eX7_readSaying_77, eX7_readSaying_80, eX7_readSaying_83, eX7_readSaying_85, eX7_readSaying_86, eX7_readSaying_87, eX7_readSaying_90, eX7_readSaying_91, eX7_readSaying_92, eX7_readSaying_93, eX7_readSaying_94, eX7_readSaying_96, eX7_readSaying_97, eX7_readSaying_100, eX7_readSaying_102, eX7_readSaying_103, eX7_readSaying_104, eX7_readSaying_105, eX7_readSaying_108, eX7_readSaying_110, eX7_readSaying_111, eX7_readSaying_112, eX7_readSaying_113, eX7_readSaying_115, eX7_readSaying_118, eX7_readSaying_120, eX7_readSaying_123, eX7_readSaying_124, eX7_readSaying_125, eX7_readSaying_126, eX7_readSaying_129, eX7_readSaying_131, eX7_readSaying_132, eX7_readSaying_133, eX7_readSaying_134, eX7_readSaying_135, eX7_readSaying_136, eX7_readSaying_139, eX7_readSaying_141, eX7_readSaying_142, eX7_readSaying_143, eX7_readSaying_145, eX7_readSaying_146, eX7_readSaying_147, eX7_readSaying_150, eX7_readSaying_151, eX7_readSaying_152, eX7_readSaying_153, eX7_readSaying_154, eX7_readSaying_155, eX7_readSaying_156, hs, a1, b1, vB, hK, c1, d1, vD, hF, e1, f1, g1, g16, vG, hne, zup_o, rd6, wr6, rd7, wr7, rd8, wr8, rd9, wr9, rd10, wr10, rd11, wr11, rd12, wr12, rd14, wr14, rd15, wr15, rd16, wr16, rd17, wr17, rd18, wr18, rd19, wr19, rd20, wr20, rd23, wr23, rd24, wr24, rd26, wr26, rd27, wr27, rd28, wr28, rd29, wr29, rd30, wr30, rd64, wr64, rd65, wr65, rd67, wr67, rd68, wr68, rd69, wr69, rd70, wr70, rd71, wr71, rd72, wr72, rd73, wr73, rb4, rb66, wb4, wb66, rdR, wrR, lenR, len1, len21, ofNat_nI, not_true_eq_false, not_false_eq_true, zok1, zok0, Bool.false_eq_true, zpush_s, zpush_n, Option.bind_some, Option.bind_none, ite_true, ite_false, if_true, if_false, ↓reduceIte, nI_add, pk_mul, ob0, ob2, ob3, ob22, ob25, ob63, Nat.reduceEqDiff, Nat.reduceAdd, Nat.reduceMul, Nat.reduceSub, pLeT, pLeF, pLtT, pLtF, pEqT, pEqF, qLtT, qLtF, qLeT, qLeF, qEqF, nI_sub2, nI_dec, ob5, ob13]
    · rw [zup_o (by omega), zup_o (by omega), zup_o (by omega), zup_o (by omega), zup_o (by omega)]
    · rw [zup_o (by omega), zup_o (by omega), zup_o (by omega), zup_o (by omega), zup_o (by omega), frG c i (by omega)]
    · rw [zup_o (by omega), zup_o (by omega), zup_o (by omega), zup_o (by omega), zup_s rfl rfl, c4 q2]
    · rw [zup_o (by omega), zup_o (by omega), zup_o (by omega), zup_s rfl rfl]
    · rw [zup_o (by omega), zup_o (by omega), zup_s rfl rfl, e4 q4]
    · rw [zup_o (by omega), zup_s rfl rfl, f4 q5]
  · have g16n : (nI (psE n b hk W hf T).1 = nI 0) = False := pEqF (by omega)
    refine ⟨G, ?_, g3, fun _ => frG, fun h => absurd h hz⟩
    by_cases hs12 : s < 12
    · rw [decide_eq_true hs12, zbt_t] at a1
      simp (disch := omega) only [nX7_readSaying, eX7_readSaying_0, eX7_readSaying_1, eX7_readSaying_2, eX7_readSaying_5, eX7_readSaying_6, eX7_readSaying_7, eX7_readSaying_9, eX7_readSaying_12, eX7_readSaying_13, eX7_readSaying_16, eX7_readSaying_17, eX7_readSaying_18, eX7_readSaying_21, eX7_readSaying_22, eX7_readSaying_25, eX7_readSaying_26, eX7_readSaying_27, eX7_readSaying_28, eX7_readSaying_31, eX7_readSaying_32, eX7_readSaying_33, eX7_readSaying_34, eX7_readSaying_35, eX7_readSaying_37, eX7_readSaying_40, eX7_readSaying_41, eX7_readSaying_42, eX7_readSaying_45, eX7_readSaying_46, eX7_readSaying_47, eX7_readSaying_48, eX7_readSaying_49, eX7_readSaying_52, eX7_readSaying_53, eX7_readSaying_54, eX7_readSaying_55, eX7_readSaying_56, eX7_readSaying_58, eX7_readSaying_61, eX7_readSaying_62, eX7_readSaying_63, eX7_readSaying_64, eX7_readSaying_65, eX7_readSaying_67, eX7_readSaying_70, eX7_readSaying_72, eX7_readSaying_73, eX7_readSaying_76, eX7_readSaying_77, eX7_readSaying_80, eX7_readSaying_83, eX7_readSaying_85, eX7_readSaying_86, eX7_readSaying_87, eX7_readSaying_90, eX7_readSaying_91, eX7_readSaying_92, eX7_readSaying_93, eX7_readSaying_94, eX7_readSaying_96, eX7_readSaying_97, eX7_readSaying_100, eX7_readSaying_102, eX7_readSaying_103, eX7_readSaying_104, eX7_readSaying_105, eX7_readSaying_108, eX7_readSaying_110, eX7_readSaying_111, eX7_readSaying_112, eX7_readSaying_113, eX7_readSaying_115, eX7_readSaying_118, eX7_readSaying_120, eX7_readSaying_123, eX7_readSaying_124, eX7_readSaying_125, eX7_readSaying_126, eX7_readSaying_129, eX7_readSaying_131, eX7_readSaying_132, eX7_readSaying_133, eX7_readSaying_134, eX7_readSaying_135, eX7_readSaying_136, eX7_readSaying_139, eX7_readSaying_141, eX7_readSaying_142, eX7_readSaying_143, eX7_readSaying_145, eX7_readSaying_146, eX7_readSaying_147, eX7_readSaying_150, eX7_readSaying_151, eX7_readSaying_152, eX7_readSaying_153, eX7_readSaying_154, eX7_readSaying_155, eX7_readSaying_156, hs, a1, b1, vB, hK, c1, d1, vD, hF, e1, f1, g1, g16, g16n, rd6, wr6, rd7, wr7, rd8, wr8, rd9, wr9, rd10, wr10, rd11, wr11, rd12, wr12, rd14, wr14, rd15, wr15, rd16, wr16, rd17, wr17, rd18, wr18, rd19, wr19, rd20, wr20, rd23, wr23, rd24, wr24, rd26, wr26, rd27, wr27, rd28, wr28, rd29, wr29, rd30, wr30, rd64, wr64, rd65, wr65, rd67, wr67, rd68, wr68, rd69, wr69, rd70, wr70, rd71, wr71, rd72, wr72, rd73, wr73, rb4, rb66, wb4, wb66, rdR, wrR, lenR, len1, len21, ofNat_nI, not_true_eq_false, not_false_eq_true, zok1, zok0, Bool.false_eq_true, zpush_s, zpush_n, Option.bind_some, Option.bind_none, ite_true, ite_false, if_true, if_false, ↓reduceIte, nI_add, pk_mul, ob0, ob2, ob3, ob22, ob25, ob63, Nat.reduceEqDiff, Nat.reduceAdd, Nat.reduceMul, Nat.reduceSub, pLeT, pLeF, pLtT, pLtF, pEqT, pEqF, qLtT, qLtF, qLeT, qLeF, qEqF, nI_sub2, nI_dec, ob5, ob13]
    · rw [decide_eq_false hs12, zbt_f] at a1
      simp (disch := omega) only [nX7_readSaying, eX7_readSaying_0, eX7_readSaying_1, eX7_readSaying_2, eX7_readSaying_5, eX7_readSaying_6, eX7_readSaying_7, eX7_readSaying_9, eX7_readSaying_12, eX7_readSaying_13, eX7_readSaying_16, eX7_readSaying_17, eX7_readSaying_18, eX7_readSaying_21, eX7_readSaying_22, eX7_readSaying_25, eX7_readSaying_26, eX7_readSaying_27, eX7_readSaying_28, eX7_readSaying_31, eX7_readSaying_32, eX7_readSaying_33, eX7_readSaying_34, eX7_readSaying_35, eX7_readSaying_37, eX7_readSaying_40, eX7_readSaying_41, eX7_readSaying_42, eX7_readSaying_45, eX7_readSaying_46, eX7_readSaying_47, eX7_readSaying_48, eX7_readSaying_49, eX7_readSaying_52, eX7_readSaying_53, eX7_readSaying_54, eX7_readSaying_55, eX7_readSaying_56, eX7_readSaying_58, eX7_readSaying_61, eX7_readSaying_62, eX7_readSaying_63, eX7_readSaying_64, eX7_readSaying_65, eX7_readSaying_67, eX7_readSaying_70, eX7_readSaying_72, eX7_readSaying_73, eX7_readSaying_76, eX7_readSaying_77, eX7_readSaying_80, eX7_readSaying_83, eX7_readSaying_85, eX7_readSaying_86, eX7_readSaying_87, eX7_readSaying_90, eX7_readSaying_91, eX7_readSaying_92, eX7_readSaying_93, eX7_readSaying_94, eX7_readSaying_96, eX7_readSaying_97, eX7_readSaying_100, eX7_readSaying_102, eX7_readSaying_103, eX7_readSaying_104, eX7_readSaying_105, eX7_readSaying_108, eX7_readSaying_110, eX7_readSaying_111, eX7_readSaying_112, eX7_readSaying_113, eX7_readSaying_115, eX7_readSaying_118, eX7_readSaying_120, eX7_readSaying_123, eX7_readSaying_124, eX7_readSaying_125, eX7_readSaying_126, eX7_readSaying_129, eX7_readSaying_131, eX7_readSaying_132, eX7_readSaying_133, eX7_readSaying_134, eX7_readSaying_135, eX7_readSaying_136, eX7_readSaying_139, eX7_readSaying_141, eX7_readSaying_142, eX7_readSaying_143, eX7_readSaying_145, eX7_readSaying_146, eX7_readSaying_147, eX7_readSaying_150, eX7_readSaying_151, eX7_readSaying_152, eX7_readSaying_153, eX7_readSaying_154, eX7_readSaying_155, eX7_readSaying_156, hs, a1, b1, vB, hK, c1, d1, vD, hF, e1, f1, g1, g16, g16n, rd6, wr6, rd7, wr7, rd8, wr8, rd9, wr9, rd10, wr10, rd11, wr11, rd12, wr12, rd14, wr14, rd15, wr15, rd16, wr16, rd17, wr17, rd18, wr18, rd19, wr19, rd20, wr20, rd23, wr23, rd24, wr24, rd26, wr26, rd27, wr27, rd28, wr28, rd29, wr29, rd30, wr30, rd64, wr64, rd65, wr65, rd67, wr67, rd68, wr68, rd69, wr69, rd70, wr70, rd71, wr71, rd72, wr72, rd73, wr73, rb4, rb66, wb4, wb66, rdR, wrR, lenR, len1, len21, ofNat_nI, not_true_eq_false, not_false_eq_true, zok1, zok0, Bool.false_eq_true, zpush_s, zpush_n, Option.bind_some, Option.bind_none, ite_true, ite_false, if_true, if_false, ↓reduceIte, nI_add, pk_mul, ob0, ob2, ob3, ob22, ob25, ob63, Nat.reduceEqDiff, Nat.reduceAdd, Nat.reduceMul, Nat.reduceSub, pLeT, pLeF, pLtT, pLtF, pEqT, pEqF, qLtT, qLtF, qLeT, qLeF, qEqF, nI_sub2, nI_dec, ob5, ob13]
