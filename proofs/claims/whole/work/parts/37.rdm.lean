/-! ===== the reference's reading: its small steps ===== -/
theorem TY_fr {μ μ' : Zm} {n : Nat} {b : Nat → Nat} (h : TY μ n b) (fr : ∀ c i, (c = 63 ∧ i = 10) ∨ c = 71 → μ' c i = μ c i) : TY μ' n b := by
  refine ⟨h.1, (fr 63 10 (by omega)).trans h.2.1, fun i hi => ?_⟩
  rw [fr 71 i (by omega)]
  exact h.2.2 i hi
def MT (μ : Zm) (n : Nat) (b : Nat → Nat) (S : Nat × Nat) : Prop := TY μ n b ∧ S.2 ≤ n ∧ μ 63 16 = nI S.1 ∧ S.1 ≤ 3 ∧ μ 63 13 = nI (tK n b S.2) ∧ μ 63 12 = nI (tB n b S.2) ∧ μ 63 11 = nI (tE n b S.2) ∧ (tK n b S.2 = 2 → μ 63 14 = nI (tV n b S.2)) ∧ (tK n b S.2 = 1 → zmk (μ 63 15) (μ 63 1015) = lN (tN n b S.2))
def FrM (μ μ' : Zm) : Prop := ∀ c i, ¬ (c = 63 ∧ ((11 ≤ i ∧ i ≤ 16) ∨ i = 1015)) → μ' c i = μ c i
theorem FrM_id {μ : Zm} : FrM μ μ := fun _ _ _ => rfl
theorem FrM_tr {μ μ' μ'' : Zm} (h : FrM μ μ') (h2 : FrM μ' μ'') : FrM μ μ'' := fun c i q => (h2 c i q).trans (h c i q)
theorem MT_fr {μ μ' : Zm} {n : Nat} {b : Nat → Nat} {S : Nat × Nat} (h : MT μ n b S) (fr : ∀ c i, (c = 63 ∧ 10 ≤ i) ∨ c = 71 → μ' c i = μ c i) : MT μ' n b S := by
  obtain ⟨h1, h2, h3, h4, h5, h6, h7, h8, h9⟩ := h
  refine ⟨TY_fr h1 (fun c i q => fr c i (by omega)), h2, (fr 63 16 (by omega)).trans h3, h4, (fr 63 13 (by omega)).trans h5, (fr 63 12 (by omega)).trans h6, (fr 63 11 (by omega)).trans h7, fun q => (fr 63 14 (by omega)).trans (h8 q), fun q => ?_⟩
  rw [fr 63 15 (by omega), fr 63 1015 (by omega)]
  exact h9 q
def pmu (k : Nat) (c : Bool) (S : Nat × Nat) : Nat × Nat := if S.1 = 0 ∧ c = false then (k, S.2) else S
def pgo (n : Nat) (b : Nat → Nat) (S : Nat × Nat) : Nat × Nat := if S.1 = 0 then (0, tE n b S.2) else S
theorem pmu_n {k : Nat} {c : Bool} {S : Nat × Nat} (h : S.1 ≠ 0) : pmu k c S = S := if_neg (fun q => h q.1)
theorem pmu_t {k : Nat} {S : Nat × Nat} : pmu k true S = S := if_neg (fun q => by cases q.2)
theorem pmu_f {k : Nat} {S : Nat × Nat} (h : S.1 = 0) : pmu k false S = (k, S.2) := if_pos ⟨h, rfl⟩
theorem pgo_n {n : Nat} {b : Nat → Nat} {S : Nat × Nat} (h : S.1 ≠ 0) : pgo n b S = S := if_neg h
theorem pgo_z {n : Nat} {b : Nat → Nat} {S : Nat × Nat} (h : S.1 = 0) : pgo n b S = (0, tE n b S.2) := if_pos h
theorem n10 : (1 : Nat) ≠ 0 := by omega
theorem n20 : (2 : Nat) ≠ 0 := by omega
theorem pif_m {n : Nat} {b : Nat → Nat} {c : Bool} {S : Nat × Nat} : pif n b c S = pgo n b (pmu 1 c S) := by
  unfold pif
  by_cases q : S.1 = 0
  · rw [if_neg (fun h => h q)]
    cases c
    · rw [pmu_f q, if_neg (by decide), pgo_n (S := (1, S.2)) n10]
    · rw [pmu_t, if_pos rfl, pgo_z q]
  · rw [if_pos q, pmu_n q, pgo_n q]
theorem sm_must {d n k : Nat} {b : Nat → Nat} {μ : Zm} {S : Nat × Nat} {c : Bool} (hM : MT μ n b S) (hk : 1 ≤ k ∧ k ≤ 3) : ∃ μ', zC true (d + 1) mX7_must [.ref 63, .int (zbt c), .int (nI k)] μ = some (none, μ') ∧ (∀ c i, ¬ (c = 63 ∧ i = 16) → μ' c i = μ c i) ∧ MT μ' n b (pmu k c S) := by
  obtain ⟨h1, h2, h3, h4, h5, h6, h7, h8, h9⟩ := id hM
  by_cases q : S.1 = 0
  · rw [q] at h3
    cases c
    · rw [pmu_f q]
      refine ⟨zup μ 63 16 (nI k), ?_, fun c i q => zup_o (by omega), ?_⟩
      · simp (disch := omega) only [nX7_must, eX7_must_0, eX7_must_1, eX7_must_4, eX7_must_7, eX7_must_8, eX7_must_11, eX7_must_12, eX7_must_13, eX7_must_16, h3, zbt_f, not_true_eq_false, not_false_eq_true, zok1, zok0, Bool.false_eq_true, zpush_s, zpush_n, Option.bind_some, Option.bind_none, ite_true, ite_false, if_true, if_false, ↓reduceIte, nI_add, pk_mul, ob0, ob2, ob3, ob22, ob25, ob63, Nat.reduceEqDiff, Nat.reduceAdd, Nat.reduceMul, Nat.reduceSub, pLeT, pLeF, pLtT, pLtF, pEqT, pEqF, qLtT, qLtF, qLeT, qLeF, qEqF, nI_sub2, nI_dec, ob5, ob13]
      · refine ⟨TY_fr h1 (fun c i q => zup_o (by omega)), h2, zup_s rfl rfl, hk.2, (zup_o (by omega)).trans h5, (zup_o (by omega)).trans h6, (zup_o (by omega)).trans h7, fun q => (zup_o (by omega)).trans (h8 q), fun q => ?_⟩
        rw [zup_o (by omega), zup_o (by omega)]
        exact h9 q
    · rw [pmu_t]
      refine ⟨μ, ?_, fun c i q => rfl, hM⟩
      simp (disch := omega) only [nX7_must, eX7_must_0, eX7_must_1, eX7_must_4, eX7_must_7, eX7_must_8, eX7_must_11, eX7_must_12, eX7_must_13, eX7_must_16, h3, zbt_t, not_true_eq_false, not_false_eq_true, zok1, zok0, Bool.false_eq_true, zpush_s, zpush_n, Option.bind_some, Option.bind_none, ite_true, ite_false, if_true, if_false, ↓reduceIte, nI_add, pk_mul, ob0, ob2, ob3, ob22, ob25, ob63, Nat.reduceEqDiff, Nat.reduceAdd, Nat.reduceMul, Nat.reduceSub, pLeT, pLeF, pLtT, pLtF, pEqT, pEqF, qLtT, qLtF, qLeT, qLeF, qEqF, nI_sub2, nI_dec, ob5, ob13]
  · rw [pmu_n q]
    refine ⟨μ, ?_, fun c i q => rfl, hM⟩
    simp (disch := omega) only [nX7_must, eX7_must_0, eX7_must_1, eX7_must_4, eX7_must_7, eX7_must_8, eX7_must_11, eX7_must_12, eX7_must_13, eX7_must_16, h3, not_true_eq_false, not_false_eq_true, zok1, zok0, Bool.false_eq_true, zpush_s, zpush_n, Option.bind_some, Option.bind_none, ite_true, ite_false, if_true, if_false, ↓reduceIte, nI_add, pk_mul, ob0, ob2, ob3, ob22, ob25, ob63, Nat.reduceEqDiff, Nat.reduceAdd, Nat.reduceMul, Nat.reduceSub, pLeT, pLeF, pLtT, pLtF, pEqT, pEqF, qLtT, qLtF, qLeT, qLeF, qEqF, nI_sub2, nI_dec, ob5, ob13]
theorem sm_goesOn {d n : Nat} {b : Nat → Nat} {μ : Zm} {S : Nat × Nat} (hM : MT μ n b S) : ∃ μ', zC true (d + 3) mX7_goesOn [.ref 63] μ = some (none, μ') ∧ FrM μ μ' ∧ MT μ' n b (pgo n b S) := by
  obtain ⟨h1, h2, h3, h4, h5, h6, h7, h8, h9⟩ := id hM
  have hE := tE_le (b := b) h2
  by_cases q : S.1 = 0
  · rw [pgo_z q]
    obtain ⟨N, x, g1, g2, g3⟩ := sm_next (d := d) h1 hE.2 h7
    refine ⟨zTm μ (nI (tE n b (tE n b S.2))) (nI (tB n b (tE n b S.2))) (nI (tK n b (tE n b S.2))) N x, ?_, fun c i q => zTm_o (by omega), TY_m h1, hE.2, ?_, Nat.zero_le _, zTm_13, zTm_12, zTm_11, fun q => zTm_14.trans (g2 q), fun q => zTm_n.trans (g3 q)⟩
    · rw [q] at h3
      simp (disch := omega) only [nX7_goesOn, eX7_goesOn_0, eX7_goesOn_1, eX7_goesOn_4, eX7_goesOn_7, eX7_goesOn_8, eX7_goesOn_11, h3, g1, not_true_eq_false, not_false_eq_true, zok1, zok0, Bool.false_eq_true, zpush_s, zpush_n, Option.bind_some, Option.bind_none, ite_true, ite_false, if_true, if_false, ↓reduceIte, nI_add, pk_mul, ob0, ob2, ob3, ob22, ob25, ob63, Nat.reduceEqDiff, Nat.reduceAdd, Nat.reduceMul, Nat.reduceSub, pLeT, pLeF, pLtT, pLtF, pEqT, pEqF, qLtT, qLtF, qLeT, qLeF, qEqF, nI_sub2, nI_dec, ob5, ob13]
    · rw [zTm_o (by omega), h3, q]
  · rw [pgo_n q]
    refine ⟨μ, ?_, FrM_id, hM⟩
    simp (disch := omega) only [nX7_goesOn, eX7_goesOn_0, eX7_goesOn_1, eX7_goesOn_4, eX7_goesOn_7, eX7_goesOn_8, eX7_goesOn_11, h3, not_true_eq_false, not_false_eq_true, zok1, zok0, Bool.false_eq_true, zpush_s, zpush_n, Option.bind_some, Option.bind_none, ite_true, ite_false, if_true, if_false, ↓reduceIte, nI_add, pk_mul, ob0, ob2, ob3, ob22, ob25, ob63, Nat.reduceEqDiff, Nat.reduceAdd, Nat.reduceMul, Nat.reduceSub, pLeT, pLeF, pLtT, pLtF, pEqT, pEqF, qLtT, qLtF, qLeT, qLeF, qEqF, nI_sub2, nI_dec, ob5, ob13]
theorem FrM_of {μ μ' : Zm} (h : ∀ c i, ¬ (c = 63 ∧ i = 16) → μ' c i = μ c i) : FrM μ μ' := fun c i q => h c i (by omega)
theorem sm_readStop {d n : Nat} {b : Nat → Nat} {μ : Zm} {S : Nat × Nat} (hM : MT μ n b S) : ∃ μ', zC true (d + 4) mX7_readStop [.ref 63] μ = some (none, μ') ∧ FrM μ μ' ∧ MT μ' n b (pif n b (decide (tK n b S.2 = 3)) S) := by
  obtain ⟨h1, h2, h3, h4, h5, h6, h7, h8, h9⟩ := id hM
  have hK := tK_le (n := n) (b := b) (e := S.2)
  rw [pif_m]
  by_cases q : tK n b S.2 = 3
  · rw [decide_eq_true q]
    obtain ⟨M, g1, g2, g3⟩ := sm_must (d := d + 2) (c := true) (k := 1) hM (by omega)
    obtain ⟨M', f1, f2, f3⟩ := sm_goesOn (d := d) g3
    rw [zbt_t] at g1
    have g1 : zC true (d + 3) mX7_must [.ref 63, .int (nI 1), .int (nI 1)] μ = some (none, M) := g1
    refine ⟨M', ?_, FrM_tr (FrM_of g2) f2, f3⟩
    simp (disch := omega) only [nX7_readStop, eX7_readStop_0, eX7_readStop_1, eX7_readStop_2, eX7_readStop_5, eX7_readStop_6, eX7_readStop_9, eX7_readStop_10, eX7_readStop_13, eX7_readStop_14, eX7_readStop_15, eX7_readStop_18, eX7_readStop_19, eX7_readStop_22, h5, g1, f1, not_true_eq_false, not_false_eq_true, zok1, zok0, Bool.false_eq_true, zpush_s, zpush_n, Option.bind_some, Option.bind_none, ite_true, ite_false, if_true, if_false, ↓reduceIte, nI_add, pk_mul, ob0, ob2, ob3, ob22, ob25, ob63, Nat.reduceEqDiff, Nat.reduceAdd, Nat.reduceMul, Nat.reduceSub, pLeT, pLeF, pLtT, pLtF, pEqT, pEqF, qLtT, qLtF, qLeT, qLeF, qEqF, nI_sub2, nI_dec, ob5, ob13]
  · rw [decide_eq_false q]
    obtain ⟨M, g1, g2, g3⟩ := sm_must (d := d + 2) (c := false) (k := 1) hM (by omega)
    obtain ⟨M', f1, f2, f3⟩ := sm_goesOn (d := d) g3
    rw [zbt_f] at g1
    have g1 : zC true (d + 3) mX7_must [.ref 63, .int (nI 0), .int (nI 1)] μ = some (none, M) := g1
    refine ⟨M', ?_, FrM_tr (FrM_of g2) f2, f3⟩
    simp (disch := omega) only [nX7_readStop, eX7_readStop_0, eX7_readStop_1, eX7_readStop_2, eX7_readStop_5, eX7_readStop_6, eX7_readStop_9, eX7_readStop_10, eX7_readStop_13, eX7_readStop_14, eX7_readStop_15, eX7_readStop_18, eX7_readStop_19, eX7_readStop_22, h5, g1, f1, not_true_eq_false, not_false_eq_true, zok1, zok0, Bool.false_eq_true, zpush_s, zpush_n, Option.bind_some, Option.bind_none, ite_true, ite_false, if_true, if_false, ↓reduceIte, nI_add, pk_mul, ob0, ob2, ob3, ob22, ob25, ob63, Nat.reduceEqDiff, Nat.reduceAdd, Nat.reduceMul, Nat.reduceSub, pLeT, pLeF, pLtT, pLtF, pEqT, pEqF, qLtT, qLtF, qLeT, qLeF, qEqF, nI_sub2, nI_dec, ob5, ob13]
theorem sm_in {d : Nat} {μ : Zm} {x l h : Int32} : zC true (d + 1) mX7_in [.int x, .int l, .int h] μ = some (some (.int (zbt (!decide (x < l) && !decide (h < x)))), μ) := by
  have e1 : (l ≤ x) = ¬ x < l := propext Int32.not_lt.symm
  have e2 : (x ≤ h) = ¬ h < x := propext Int32.not_lt.symm
  by_cases c1 : x < l
  · simp only [nX7_in, eX7_in_0, eX7_in_1, eX7_in_2, eX7_in_5, eX7_in_6, eX7_in_7, eX7_in_10, eX7_in_11, eX7_in_14, eX7_in_15, e1, e2, c1, not_true_eq_false, not_false_eq_true, zok1, zok0, Bool.false_eq_true, zpush_s, zpush_n, Option.bind_some, Option.bind_none, ite_true, ite_false, if_true, if_false, ↓reduceIte, nI_add, pk_mul, ob0, ob2, ob3, ob22, ob25, ob63, decide_true, Bool.not_true, Bool.false_and, zbt_f]
  · by_cases c2 : h < x
    · simp only [nX7_in, eX7_in_0, eX7_in_1, eX7_in_2, eX7_in_5, eX7_in_6, eX7_in_7, eX7_in_10, eX7_in_11, eX7_in_14, eX7_in_15, e1, e2, c1, c2, not_true_eq_false, not_false_eq_true, zok1, zok0, Bool.false_eq_true, zpush_s, zpush_n, Option.bind_some, Option.bind_none, ite_true, ite_false, if_true, if_false, ↓reduceIte, nI_add, pk_mul, ob0, ob2, ob3, ob22, ob25, ob63, decide_true, decide_false, Bool.not_true, Bool.not_false, Bool.and_false, zbt_f]
    · simp only [nX7_in, eX7_in_0, eX7_in_1, eX7_in_2, eX7_in_5, eX7_in_6, eX7_in_7, eX7_in_10, eX7_in_11, eX7_in_14, eX7_in_15, e1, e2, c1, c2, not_true_eq_false, not_false_eq_true, zok1, zok0, Bool.false_eq_true, zpush_s, zpush_n, Option.bind_some, Option.bind_none, ite_true, ite_false, if_true, if_false, ↓reduceIte, nI_add, pk_mul, ob0, ob2, ob3, ob22, ob25, ob63, decide_false, Bool.not_false, Bool.and_self, zbt_t]
theorem prn_m {n : Nat} {b : Nat → Nat} {lo hi x : Int32} {S : Nat × Nat} {c : Bool} (hx : S.1 = 0 → tK n b S.2 = 2 → x = nI (tV n b S.2)) (hc : c = (!decide (x < lo) && !decide (hi < x) && !decide (x = -1000000))) : prn n b lo hi S = pgo n b (pmu 2 c (pmu 1 (decide (tK n b S.2 = 2)) S)) := by
  unfold prn
  by_cases q : S.1 = 0
  · rw [if_neg (fun h => h q)]
    by_cases k : tK n b S.2 = 2
    · have hv := tV_le k
      have e : c = rok (tV n b S.2) lo hi := by
        have h2 : (nI (tV n b S.2) = (-1000000 : Int32)) = False := nINone (by omega)
        rw [hc, hx q k]
        unfold rok
        simp [h2]
      rw [if_neg (fun h => h k), decide_eq_true k, pmu_t, e]
      cases r : rok (tV n b S.2) lo hi
      · rw [if_neg (by decide), pmu_f q, pgo_n (S := (2, S.2)) n20]
      · rw [if_pos rfl, pmu_t, pgo_z q]
    · rw [if_pos k, decide_eq_false k, pmu_f q, pmu_n (S := (1, S.2)) n10, pgo_n (S := (1, S.2)) n10]
  · rw [if_pos q, pmu_n q, pmu_n q, pgo_n q]
theorem prn_v {n : Nat} {b : Nat → Nat} {lo hi : Int32} {S : Nat × Nat} (h : (prn n b lo hi S).1 = 0) : S.1 = 0 ∧ tK n b S.2 = 2 ∧ rok (tV n b S.2) lo hi = true ∧ (prn n b lo hi S).2 = tE n b S.2 := by
  unfold prn at h ⊢
  split at h
  · next q => exact absurd h q
  · next q =>
    rw [if_neg q]
    split at h
    · cases h
    · next k =>
      rw [if_neg k]
      split at h
      · next r =>
        rw [if_pos r]
        exact ⟨Classical.not_not.mp q, Classical.not_not.mp k, r, rfl⟩
      · cases h
set_option maxHeartbeats 1000000 in
theorem sm_readNumber {d n : Nat} {b : Nat → Nat} {μ : Zm} {S : Nat × Nat} {lo hi : Int32} (hM : MT μ n b S) : ∃ μ' r, zC true (d + 4) mX7_readNumber [.ref 63, .int lo, .int hi, .int (-1000000)] μ = some (some (.int r), μ') ∧ FrM μ μ' ∧ MT μ' n b (prn n b lo hi S) ∧ ((prn n b lo hi S).1 = 0 → r = nI (tV n b S.2)) := by
  obtain ⟨h1, h2, h3, h4, h5, h6, h7, h8, h9⟩ := id hM
  have hK := tK_le (n := n) (b := b) (e := S.2)
  rw [prn_m (x := μ 63 14) (c := !decide (μ 63 14 < lo) && !decide (hi < μ 63 14) && !decide (μ 63 14 = -1000000)) (fun _ k => h8 k) rfl]
  obtain ⟨M, g1, g2, g3⟩ := sm_must (d := d + 2) (c := decide (tK n b S.2 = 2)) (k := 1) hM (by omega)
  obtain ⟨M2, e1, e2, e3⟩ := sm_must (d := d + 2) (c := !decide (μ 63 14 < lo) && !decide (hi < μ 63 14) && !decide (μ 63 14 = -1000000)) (k := 2) g3 (by omega)
  obtain ⟨M', f1, f2, f3⟩ := sm_goesOn (d := d) e3
  refine ⟨M', μ 63 14, ?_, FrM_tr (FrM_of g2) (FrM_tr (FrM_of e2) f2), f3, fun h => ?_⟩
  rotate_left
  · rw [← prn_m (lo := lo) (hi := hi) (x := μ 63 14) (fun _ k => h8 k) rfl] at h
    exact h8 (prn_v h).2.1
  have v1 : M 63 14 = μ 63 14 := g2 63 14 (by omega)
  have v2 : M2 63 14 = μ 63 14 := (e2 63 14 (by omega)).trans v1
  generalize μ 63 14 = x at v1 v2 e1 ⊢
  have c3 : ((x = (-1000000 : Int32)) = True) ∨ ((x = (-1000000 : Int32)) = False) := by
    by_cases h : x = -1000000
    · exact Or.inl (eq_true h)
    · exact Or.inr (eq_false h)
  by_cases k : tK n b S.2 = 2 <;> by_cases c1 : x < lo <;> by_cases c2 : hi < x <;> rcases c3 with c3 | c3 <;>
  simp only [c1, c2, c3, decide_true, decide_false, Bool.not_true, Bool.not_false, Bool.and_self, Bool.and_true, Bool.and_false, Bool.false_and, Bool.true_and, zbt_t, zbt_f] at e1 <;>
  simp only [k, decide_true, decide_false, zbt_t, zbt_f] at g1 <;>
  simp (disch := omega) only [nX7_readNumber, eX7_readNumber_0, eX7_readNumber_1, eX7_readNumber_2, eX7_readNumber_5, eX7_readNumber_6, eX7_readNumber_9, eX7_readNumber_10, eX7_readNumber_13, eX7_readNumber_14, eX7_readNumber_15, eX7_readNumber_18, eX7_readNumber_19, eX7_readNumber_20, eX7_readNumber_23, eX7_readNumber_24, eX7_readNumber_25, eX7_readNumber_28, eX7_readNumber_31, eX7_readNumber_32, eX7_readNumber_35, eX7_readNumber_36, eX7_readNumber_39, eX7_readNumber_40, eX7_readNumber_43, eX7_readNumber_44, eX7_readNumber_45, eX7_readNumber_48, eX7_readNumber_49, eX7_readNumber_52, eX7_readNumber_54, eX7_readNumber_55, eX7_readNumber_58, eX7_readNumber_60, h5, g1, e1, f1, v1, v2, sm_in, k, c1, c2, c3, decide_true, decide_false, Bool.not_true, Bool.not_false, Bool.and_self, Bool.and_true, Bool.and_false, Bool.false_and, zbt_t, zbt_f, not_true_eq_false, not_false_eq_true, zok1, zok0, Bool.false_eq_true, zpush_s, zpush_n, Option.bind_some, Option.bind_none, ite_true, ite_false, if_true, if_false, ↓reduceIte, nI_add, pk_mul, ob0, ob2, ob3, ob22, ob25, ob63, Nat.reduceEqDiff, Nat.reduceAdd, Nat.reduceMul, Nat.reduceSub, pLeT, pLeF, pLtT, pLtF, pEqT, pEqF, qLtT, qLtF, qLeT, qLeF, qEqF, nI_sub2, nI_dec, ob5, ob13]
