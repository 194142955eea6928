/-! ===== a whole valley read: a row more ===== -/
theorem plc_t {n j : Nat} {b : Nat → Nat} {X : zX} (h : plc n b j X = true) : X.1.1 = 0 ∧ pwd n b X.1.2 j = true := by
  unfold plc at h
  rw [Bool.and_eq_true] at h
  exact ⟨of_decide_eq_true h.1, h.2⟩
theorem st_woolC {d n : Nat} {b : Nat → Nat} {μ : Zm} {X : zX} (hI : IC μ n b X) (hp : plc n b 1 X = true) : ∃ μ', zC true (d + 8) mX2_readWool [.ref 2, .ref 13] μ = some (none, μ') ∧ FrC μ μ' ∧ IC μ' n b (pww n b X) := by
  obtain ⟨S, a⟩ := X
  obtain ⟨h0, hw⟩ := plc_t hp
  obtain ⟨hC, hI⟩ := hI
  obtain ⟨hc, hf⟩ := hI h0
  dsimp only at h0 hw hC hc hf
  have f3 := hf.1.2.2.1
  have f1 := hf.1.1
  have hn : μ 13 2 = nI (a 3) := hc.2.2.1
  have hk : μ 13 0 = nI (a 1) := hc.1
  by_cases h7 : 7 ≤ a 3
  · obtain ⟨M, g1, g2, g3⟩ := sp_readWoolF (d := d) hC hn h7 (by omega)
    have e : pfl 3 S = (3, S.2) := if_pos h0
    rw [e] at g3
    have ep : pww n b (S, a) = ((3, S.2), a) := if_pos h7
    rw [ep]
    exact ⟨M, g1, fun c i q => g2 c i (by omega), g3, fun h => by cases h⟩
  · obtain ⟨M, g1, g2, g3, g4, g5, g6, g7⟩ := sp_readWool (d := d) (hi := nI (a 1) - nI 1) hC hn (by omega) (by rw [hk])
    have eT : pif n b (pwd n b S.2 1) S = (0, tE n b S.2) := by
      unfold pif
      rw [if_neg (fun h => h h0), if_pos hw]
    rw [eT] at g3 g5 g6 g7
    have ep : pww n b (S, a) = _ := if_neg h7
    rw [ep]
    refine ⟨M, g1, fun c i q => g2 c i (by omega), g3, fun h => ?_⟩
    have h : (pwD n b (nI (a 1) - nI 1) (0, tE n b S.2)).1 = 0 := h
    obtain ⟨p1, p2, p3, p4, p5, p6, p7, p8, p9⟩ := pwD_v h
    dsimp only at p2 ⊢
    rw [if_pos h]
    have v1 := tV_le p6
    have v2 := tV_le p8
    rw [rok_lt (by omega) (by omega)] at p7
    rw [rok_in (by omega) (by omega) (by omega)] at p9
    have p7 := of_decide_eq_true p7
    have p9 := of_decide_eq_true p9
    have v3 := psort_le (n := n) (b := b) (e := tE n b S.2)
    rw [if_pos p4] at g6
    rw [if_pos p5] at g7
    rw [nI_shl (by omega)] at g6
    have v4 : 2 ^ tV n b (pwA n b (0, tE n b S.2)).2 < 32 := by
      have : 2 ^ tV n b (pwA n b (0, tE n b S.2)).2 ≤ 2 ^ 4 := Nat.pow_le_pow_right (by omega) (by omega)
      omega
    exact ⟨CV_vw hc hf (by omega) (fun c i q1 q2 q3 => g2 c i (by omega)) g4 g5 g7 g6, WFr_vw hf (by omega) (by omega) (by omega) v4⟩
theorem st_woolM {d n : Nat} {b : Nat → Nat} {μ : Zm} {X : zX} (hI : IM μ n b X) (hp : plc n b 1 X = true) : ∃ μ', zC true (d + 5) mX7_readWool [.ref 63] μ = some (none, μ') ∧ FrX μ μ' ∧ IM μ' n b (pww n b X) := by
  obtain ⟨S, a⟩ := X
  obtain ⟨h0, hw⟩ := plc_t hp
  obtain ⟨hC, hI⟩ := hI
  obtain ⟨hc, hf⟩ := hI h0
  dsimp only at h0 hw hC hc hf
  have f3 := hf.1.2.2.1
  have f1 := hf.1.1
  have hn : μ 72 3 = nI (a 3) := hc.2.2.1
  have hk : μ 72 1 = nI (a 1) := hc.1
  obtain ⟨M, g1, g2, g3, g4⟩ := sm_readWool (d := d) (hi := nI (a 1) - nI 1) hC hn f3 (by rw [hk])
  by_cases h7 : 7 ≤ a 3
  · have eT : pgo n b (pmu 3 (decide (a 3 < 7)) S) = (3, S.2) := by
      rw [decide_eq_false (by omega), pmu_f h0, pgo_n (S := (3, S.2)) (show (3 : Nat) ≠ 0 by omega)]
    rw [eT, pwD_n (T := (3, S.2)) (show (3 : Nat) ≠ 0 by omega)] at g2 g3
    have ep : pww n b (S, a) = ((3, S.2), a) := if_pos h7
    rw [ep]
    have fr := g3 (show (3 : Nat) ≠ 0 by omega)
    exact ⟨M, g1, fun c i q => fr c i (by omega), g2, fun h => by cases h⟩
  · have eT : pgo n b (pmu 3 (decide (a 3 < 7)) S) = (0, tE n b S.2) := by
      rw [decide_eq_true (by omega), pmu_t, pgo_z h0]
    rw [eT] at g2 g3 g4
    have ep : pww n b (S, a) = _ := if_neg h7
    rw [ep]
    by_cases h : (pwD n b (nI (a 1) - nI 1) (0, tE n b S.2)).1 = 0
    · obtain ⟨fr, g5, g6, g7, g8⟩ := g4 h
      refine ⟨M, g1, fun c i q => fr c i (by omega), g2, fun _ => ?_⟩
      obtain ⟨p1, p2, p3, p4, p5, p6, p7, p8, p9⟩ := pwD_v h
      dsimp only at p2 ⊢
      rw [if_pos h]
      have v1 := tV_le p6
      have v2 := tV_le p8
      rw [rok_lt (by omega) (by omega)] at p7
      rw [rok_in (by omega) (by omega) (by omega)] at p9
      have p7 := of_decide_eq_true p7
      have p9 := of_decide_eq_true p9
      have v3 := psort_le (n := n) (b := b) (e := tE n b S.2)
      rw [nI_shl (by omega)] at g8
      have v4 : 2 ^ tV n b (pwA n b (0, tE n b S.2)).2 < 32 := by
        have : 2 ^ tV n b (pwA n b (0, tE n b S.2)).2 ≤ 2 ^ 4 := Nat.pow_le_pow_right (by omega) (by omega)
        omega
      exact ⟨MD_vw hc hf (by omega) (fun i q => fr 72 i (by omega)) g5 g6 g7 g8, WFr_vw hf (by omega) (by omega) (by omega) v4⟩
    · have fr := g3 h
      exact ⟨M, g1, fun c i q => fr c i (by omega), g2, fun h2 => absurd h2 h⟩
theorem pw9_c {x : Nat} {p : Int32} (h : x < 99) : (if x = 9 then p else nI x) = if pw9 x = 99 then p else nI (pw9 x) := by
  unfold pw9
  by_cases q : x = 9
  · rw [if_pos q, if_pos q, if_pos rfl]
  · rw [if_neg q, if_neg q, if_neg (by omega)]
theorem st_sayC {d n : Nat} {b : Nat → Nat} {μ : Zm} {X : zX} (hI : IC μ n b X) (hp : plc n b 7 X = true) : ∃ μ', zC true (d + 8) mX2_readSaying [.ref 2, .ref 13] μ = some (none, μ') ∧ FrC μ μ' ∧ IC μ' n b (pss n b X) := by
  obtain ⟨S, a⟩ := X
  obtain ⟨h0, hw⟩ := plc_t hp
  obtain ⟨hC, hI⟩ := hI
  obtain ⟨hc, hf⟩ := hI h0
  dsimp only at h0 hw hC hc hf
  have f4 := hf.1.2.2.2.1
  have f3 := hf.1.2.2.1
  have f2 := hf.1.2.1
  have f1 := hf.1.1
  have hn : μ 13 6 = nI (a 4) := hc.2.2.2.1
  have hk : μ 13 0 = nI (a 1) := hc.1
  have hk1 : μ 13 1 = nI (a 2) := hc.2.1
  have hk2 : μ 13 2 = nI (a 3) := hc.2.2.1
  by_cases h7 : 12 ≤ a 4
  · obtain ⟨M, g1, g2, g3⟩ := sp_readSayingF (d := d) hC hn h7 (by omega)
    have e : pfl 3 S = (3, S.2) := if_pos h0
    rw [e] at g3
    have ep : pss n b (S, a) = ((3, S.2), a) := if_pos h7
    rw [ep]
    exact ⟨M, g1, fun c i q => g2 c i (by omega), g3, fun h => by cases h⟩
  · obtain ⟨M, g1, g2, g3, g4, g5, g6, g7, g8⟩ := sp_readSaying (d := d) (hk := nI (a 1) - nI 1) (hf := nI (a 2) - nI 1) hC hn (by omega) (by rw [hk]) (by rw [hk1]) hk2 f3
    have eT : pif n b (pwd n b S.2 7) S = (0, tE n b S.2) := by
      unfold pif
      rw [if_neg (fun h => h h0), if_pos hw]
    rw [eT] at g3 g5 g6 g7 g8
    have ep : pss n b (S, a) = _ := if_neg h7
    rw [ep]
    refine ⟨M, g1, fun c i q => g2 c i (by omega), g3, fun h => ?_⟩
    have h : (psE n b (nI (a 1) - nI 1) (a 3) (nI (a 2) - nI 1) (0, tE n b S.2)).1 = 0 := h
    obtain ⟨p1, p2, p3, p4, p5, p6, p7, p8, p9, p10, p11, p12, p13⟩ := psE_v h
    dsimp only at p6 p7 ⊢
    rw [if_pos h]
    have v1 := tV_le p6
    have v2 := tV_le p8
    have v3 := tV_le p10
    have v4 := tV_le p12
    rw [rok_lt (by omega) (by omega)] at p7
    rw [rok_lt (by omega) (by omega)] at p11
    rw [rok_in (by omega) (by omega) (by omega)] at p13
    have p7 := of_decide_eq_true p7
    have p11 := of_decide_eq_true p11
    have p13 := of_decide_eq_true p13
    rw [if_pos p2] at g5
    rw [if_pos p3, pw9_c (by omega)] at g6
    rw [if_pos p4] at g7
    rw [if_pos p5] at g8
    refine ⟨CV_vs hc hf (by omega) (fun c i q1 q2 q3 => g2 c i (by omega)) g4 g5 g6 g7 g8, WFr_vs hf (by omega) p7 ?_ p11 p13.2⟩
    unfold pw9
    split <;> omega
theorem st_sayM {d n : Nat} {b : Nat → Nat} {μ : Zm} {X : zX} (hI : IM μ n b X) (hp : plc n b 7 X = true) : ∃ μ', zC true (d + 5) mX7_readSaying [.ref 63] μ = some (none, μ') ∧ FrX μ μ' ∧ IM μ' n b (pss n b X) := by
  obtain ⟨S, a⟩ := X
  obtain ⟨h0, hw⟩ := plc_t hp
  obtain ⟨hC, hI⟩ := hI
  obtain ⟨hc, hf⟩ := hI h0
  dsimp only at h0 hw hC hc hf
  have f4 := hf.1.2.2.2.1
  have f3 := hf.1.2.2.1
  have f2 := hf.1.2.1
  have f1 := hf.1.1
  have hn : μ 72 4 = nI (a 4) := hc.2.2.2.1
  have hk : μ 72 1 = nI (a 1) := hc.1
  have hk1 : μ 72 2 = nI (a 2) := hc.2.1
  have hk2 : μ 72 3 = nI (a 3) := hc.2.2.1
  obtain ⟨M, g1, g2, g3, g4⟩ := sm_readSaying (d := d) (hk := nI (a 1) - nI 1) (hf := nI (a 2) - nI 1) hC hn f4 (by rw [hk]) (by rw [hk1]) hk2 f3
  by_cases h7 : 12 ≤ a 4
  · have eT : pgo n b (pmu 3 (decide (a 4 < 12)) S) = (3, S.2) := by
      rw [decide_eq_false (by omega), pmu_f h0, pgo_n (S := (3, S.2)) (show (3 : Nat) ≠ 0 by omega)]
    rw [eT, psE_n (T := (3, S.2)) (show (3 : Nat) ≠ 0 by omega)] at g2 g3
    have ep : pss n b (S, a) = ((3, S.2), a) := if_pos h7
    rw [ep]
    have fr := g3 (show (3 : Nat) ≠ 0 by omega)
    exact ⟨M, g1, fun c i q => fr c i (by omega), g2, fun h => by cases h⟩
  · have eT : pgo n b (pmu 3 (decide (a 4 < 12)) S) = (0, tE n b S.2) := by
      rw [decide_eq_true (by omega), pmu_t, pgo_z h0]
    rw [eT] at g2 g3 g4
    have ep : pss n b (S, a) = _ := if_neg h7
    rw [ep]
    by_cases h : (psE n b (nI (a 1) - nI 1) (a 3) (nI (a 2) - nI 1) (0, tE n b S.2)).1 = 0
    · obtain ⟨fr, g5, g6, g7, g8, g9⟩ := g4 h
      refine ⟨M, g1, fun c i q => fr c i (by omega), g2, fun _ => ?_⟩
      obtain ⟨p1, p2, p3, p4, p5, p6, p7, p8, p9, p10, p11, p12, p13⟩ := psE_v h
      dsimp only at p6 p7 ⊢
      rw [if_pos h]
      have v1 := tV_le p6
      have v2 := tV_le p8
      have v3 := tV_le p10
      have v4 := tV_le p12
      rw [rok_lt (by omega) (by omega)] at p7
      rw [rok_lt (by omega) (by omega)] at p11
      rw [rok_in (by omega) (by omega) (by omega)] at p13
      have p7 := of_decide_eq_true p7
      have p11 := of_decide_eq_true p11
      have p13 := of_decide_eq_true p13
      rw [pw9_c (by omega)] at g7
      refine ⟨MD_vs hc hf (by omega) (fun i q => fr 72 i (by omega)) g5 g6 g7 g8 g9, WFr_vs hf (by omega) p7 ?_ p11 p13.2⟩
      unfold pw9
      split <;> omega
    · have fr := g3 h
      exact ⟨M, g1, fun c i q => fr c i (by omega), g2, fun h2 => absurd h2 h⟩
/-- how often, at most -/
theorem pit_n {f : zX → zX} {P : zX → Bool} {q m : Nat} (hq : ∀ X, P X = true → (f X).1.1 = 0 → X.2 q < m ∧ (f X).2 q = X.2 q + 1) (hP : ∀ X, P X = true → X.1.1 = 0) (X : zX) (h0 : X.2 q = 0) : ∃ N, N ≤ m + 1 ∧ P (pit f X N) = false ∧ ∀ i, i < N → P (pit f X i) = true := by
  have key : ∀ i, (∀ j, j < i → P (pit f X j) = true) → (pit f X i).1.1 = 0 → (pit f X i).2 q = i ∧ i ≤ m := by
    intro i
    induction i with
    | zero => exact fun _ _ => ⟨h0, Nat.zero_le _⟩
    | succ i ih =>
      intro hj hz
      have hp := hj i (by omega)
      have ⟨a1, a2⟩ := ih (fun j hj2 => hj j (by omega)) (hP _ hp)
      have ⟨b1, b2⟩ := hq _ hp hz
      refine ⟨?_, by omega⟩
      show (f (pit f X i)).2 q = i + 1
      omega
  by_cases hall : ∀ i, i ≤ m + 1 → P (pit f X i) = true
  · exfalso
    have := key (m + 1) (fun j hj => hall j (by omega)) (hP _ (hall (m + 1) (Nat.le_refl _)))
    omega
  · have : ∃ i, i ≤ m + 1 ∧ P (pit f X i) = false := by
      apply Classical.byContradiction
      intro h
      apply hall
      intro i hi
      cases e : P (pit f X i)
      · exact absurd ⟨i, hi, e⟩ h
      · rfl
    obtain ⟨i, hi, hp⟩ := this
    obtain ⟨N, g1, g2, g3⟩ := zleast (P := fun i => P (pit f X i)) i hp
    exact ⟨N, by omega, g2, g3⟩
theorem pit_w {n : Nat} {b : Nat → Nat} (X : zX) (h0 : X.2 3 = 0) : ∃ N, N ≤ 8 ∧ plc n b 1 (pit (pww n b) X N) = false ∧ ∀ i, i < N → plc n b 1 (pit (pww n b) X i) = true := by
  refine pit_n (q := 3) (m := 7) (fun X hp hz => ?_) (fun X hp => (plc_t hp).1) X h0
  by_cases h7 : 7 ≤ X.2 3
  · have ep : pww n b X = ((3, X.1.2), X.2) := if_pos h7
    rw [ep] at hz
    cases hz
  · have ep : pww n b X = _ := if_neg h7
    rw [ep] at hz ⊢
    refine ⟨by omega, ?_⟩
    dsimp only at hz ⊢
    rw [if_pos hz]
    exact (vw_5 (by omega)).1
theorem pit_s {n : Nat} {b : Nat → Nat} (X : zX) (h0 : X.2 4 = 0) : ∃ N, N ≤ 13 ∧ plc n b 7 (pit (pss n b) X N) = false ∧ ∀ i, i < N → plc n b 7 (pit (pss n b) X i) = true := by
  refine pit_n (q := 4) (m := 12) (fun X hp hz => ?_) (fun X hp => (plc_t hp).1) X h0
  by_cases h7 : 12 ≤ X.2 4
  · have ep : pss n b X = ((3, X.1.2), X.2) := if_pos h7
    rw [ep] at hz
    cases hz
  · have ep : pss n b X = _ := if_neg h7
    rw [ep] at hz ⊢
    refine ⟨by omega, ?_⟩
    dsimp only at hz ⊢
    rw [if_pos hz]
    exact vs_5.1
theorem pit_4 {n : Nat} {b : Nat → Nat} (X : zX) (h0 : X.2 4 = 0) (h3 : X.2 3 = 0) : ∀ N, (∀ i, i < N → plc n b 1 (pit (pww n b) X i) = true) → (pit (pww n b) X N).2 4 = 0 ∧ (pit (pww n b) X N).2 3 ≤ 7
  | 0, _ => ⟨h0, by show X.2 3 ≤ 7; omega⟩
  | N + 1, h => by
    have ⟨ih, ih3⟩ := pit_4 X h0 h3 N (fun i hi => h i (by omega))
    show (pww n b (pit (pww n b) X N)).2 4 = 0 ∧ (pww n b (pit (pww n b) X N)).2 3 ≤ 7
    generalize pit (pww n b) X N = Y at ih ih3 ⊢
    by_cases h7 : 7 ≤ Y.2 3
    · have ep : pww n b Y = ((3, Y.1.2), Y.2) := if_pos h7
      rw [ep]
      exact ⟨ih, ih3⟩
    · have ep : pww n b Y = _ := if_neg h7
      rw [ep]
      dsimp only
      split
      · rw [vw_lo (by omega), (vw_5 (by omega)).1]
        exact ⟨ih, by omega⟩
      · exact ⟨ih, ih3⟩
