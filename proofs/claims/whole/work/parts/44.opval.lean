/-! ===== valley, both ===== -/
theorem Rel_F {μ μ' : Zm} (hfr : ∀ c i, ¬ (zscr c i ∨ (c = 3 ∧ i = 1) ∨ (c = 63 ∧ i = 10) ∨ (c = 0 ∧ i = 3) ∨ (c = 63 ∧ i = 17)) → μ' c i = μ c i) (R : Rel μ) (ht : RT μ') (h4 : μ' 0 3 = μ' 63 17) : Rel μ' := by
  unfold zscr at hfr
  obtain ⟨a, h1, h2, h3, h4', h5, h6, h7, h8⟩ := R
  exact ⟨a, RV_fr (fun c i q => hfr c i (by omega)) h1, GA_fr (fun c i q => hfr c i (by omega)) h2, RI_fr (by omega) (fun c i q => hfr c i (by omega)) h3, RI_fr (by omega) (fun c i q => hfr c i (by omega)) h4', RR_fr (fun c i q => hfr c i (by omega)) h5, ht, RC_fr (fun c i q => hfr c i (by omega)) h7, by rw [hfr 0 1 (by omega), hfr 63 8 (by omega)]; exact h8.1, h4⟩
theorem RT_0 {μ : Zm} (h1 : μ 3 1 = nI 0) (h2 : μ 63 10 = nI 0) : RT μ := ⟨0, by omega, h1, h2, fun i hi => by omega⟩
theorem op_valley {d : Nat} {μ : Zm} (R : Rel μ) : zop (zC true (d + 50) mX6_valley [.ref 0]) (zC true (d + 50) mX7_valley [.ref 63]) μ := by
  obtain ⟨a, _, _, _, _, _, ⟨n, hn, t2, t3, t4⟩, _, _⟩ := id R
  have hex : ∀ i, ∃ y, i < n → y < 256 ∧ μ 4 i = sxb y ∧ μ 71 i = nI y := fun i => by
    by_cases h : i < n
    · obtain ⟨y, q⟩ := t4 i h
      exact ⟨y, fun _ => q⟩
    · exact ⟨0, fun q => absurd q h⟩
  obtain ⟨b, hb⟩ : ∃ b : Nat → Nat, ∀ i, i < n → b i < 256 ∧ μ 4 i = sxb (b i) ∧ μ 71 i = nI (b i) := ⟨fun i => Classical.choose (hex i), fun i => Classical.choose_spec (hex i)⟩
  have hX : TX μ n b := ⟨hn, t2, fun i hi => ⟨(hb i hi).1, (hb i hi).2.1⟩⟩
  have hY : TY μ n b := ⟨hn, t3, fun i hi => ⟨(hb i hi).1, (hb i hi).2.2⟩⟩
  obtain ⟨N1, n1, w1, w2⟩ := pit_w (n := n) (b := b) (pX0 n b) rfl
  have x4 := (pit_4 (n := n) (b := b) (pX0 n b) rfl rfl N1 w2).1
  generalize e1 : pit (pww n b) (pX0 n b) N1 = X1 at w1 x4
  obtain ⟨N2, n2, s1, s2⟩ := pit_s (n := n) (b := b) X1 x4
  generalize e2 : pit (pss n b) X1 N2 = X2 at s1
  obtain ⟨A, a1, a2, a3, a4⟩ := sp_read (d := d + 40) hX n1 e1.symm w1 w2 n2 e2.symm s1 s2
  have a1 : zC true (d + 49) mX2_read [.ref 2, .ref 13] μ = some (none, A) := a1
  have k2 : (pmu 1 (decide (tK n b X2.1.2 = 0)) X2.1).2 = X2.1.2 := by
    unfold pmu
    split <;> rfl
  have c41 := a3.2.2.2.1
  have cle := a3.2.2.2.2.1
  have c42 := a3.2.2.2.2.2.1
  rw [k2] at c42
  by_cases hz : (pmu 1 (decide (tK n b X2.1.2 = 0)) X2.1).1 = 0
  · have hz2 : X2.1.1 = 0 := by
      unfold pmu at hz
      split at hz
      · cases hz
      · exact hz
    obtain ⟨hc, hf⟩ := a4 hz2
    rw [hz] at c41
    obtain ⟨B, b1, b2, b3, b4, b5⟩ := sp_become (d := d + 48) (μ := zup A 3 1 (nI 0)) zV5 (Or.inr (Or.inl rfl) : zV 13) (by omega)
    have b1 : zC true (d + 49) mX5_become [.ref 5, .ref 13] (zup A 3 1 (nI 0)) = some (none, B) := b1
    have hcA : CV (zup A 3 1 (nI 0)) 13 X2.2 := CV_eq (fun c i q1 q2 => zup_o (by omega)) hc
    have hcB : CV B 5 X2.2 := CV_cp b3 b4 b5 hf.1 hcA
    have v52 : B 5 2 = nI (X2.2 3) := hcB.2.2.1
    have frB : ∀ c i, ¬ ((5 ≤ c ∧ c ≤ 12) ∨ (c = 3 ∧ 1 ≤ i ∧ i ≤ 4) ∨ (c = 2 ∧ i ≤ 2) ∨ (13 ≤ c ∧ c ≤ 20) ∨ (c = 22 ∧ i = 3)) → zup B 22 3 (nI 0) c i = μ c i := fun c i q => by
      rw [zup_o (by omega), b2 c i (by omega), zup_o (by omega), a2 c i (by omega)]
    have hY2 : TY (zup B 22 3 (nI 0)) n b := TY_fr hY (fun c i q => frB c i (by omega))
    have v22 : zup B 22 3 (nI 0) 22 3 = nI 0 := zup_s rfl rfl
    have v21 : zup B 22 3 (nI 0) 3 1 = nI 0 := by rw [zup_o (by omega), b2 3 1 (by omega), zup_s rfl rfl]
    have hcC : CV (zup B 22 3 (nI 0)) 5 X2.2 := CV_eq (fun c i q1 q2 => zup_o (by omega)) hcB
    obtain ⟨D, d1, d2, d3, d4, d5, d6⟩ := (sm_valley (d := d + 41) hY2 e1.symm w1 w2 e2.symm s1 s2).2 hz
    refine zop_m (nI (X2.2 3)) (zup B 22 3 (nI 0)) D ?_ d1 ?_
    · simp (disch := omega) only [nX6_valley, eX6_valley_0, eX6_valley_1, eX6_valley_4, eX6_valley_5, eX6_valley_8, eX6_valley_11, eX6_valley_12, eX6_valley_15, eX6_valley_18, eX6_valley_19, eX6_valley_22, eX6_valley_23, eX6_valley_26, eX6_valley_29, eX6_valley_32, eX6_valley_33, eX6_valley_34, eX6_valley_37, eX6_valley_40, eX6_valley_43, eX6_valley_45, eX6_valley_46, eX6_valley_49, eX6_valley_52, eX6_valley_53, eX6_valley_54, eX6_valley_55, eX6_valley_58, eX6_valley_59, eX6_valley_62, eX6_valley_65, eX6_valley_66, eX6_valley_69, eX6_valley_72, eX6_valley_73, eX6_valley_76, eX6_valley_79, a1, c41, b1, sp_forget, v52, zup_o, not_true_eq_false, not_false_eq_true, zok1, zok0, Bool.false_eq_true, zpush_s, zpush_n, Option.bind_some, Option.bind_none, ite_true, ite_false, if_true, if_false, ↓reduceIte, nI_add, pk_mul, ob0, ob2, ob3, ob22, ob25, ob63, Nat.reduceEqDiff, Nat.reduceAdd, Nat.reduceMul, Nat.reduceSub, pLeT, pLeF, pLtT, pLtF, pEqT, pEqF, qLtT, qLtF, qLeT, qLeF, qEqF, nI_sub2, nI_dec, ob5, ob13]
    · refine Rel_V (a' := X2.2) (fun c i q => ?_) R ⟨CV_eq (fun c i q1 q2 => d2 c i (by omega)) hcC, d5, hf.1⟩ ((d2 22 3 (by omega)).trans v22) d4 (RT_0 ((d2 3 1 (by omega)).trans v21) d3)
      unfold zscr at q
      rw [d2 c i (by omega), frB c i (by omega)]
  · have hq : (nI (pmu 1 (decide (tK n b X2.1.2 = 0)) X2.1).1 = nI 0) = False := pEqF (by omega)
    have c42 := c42 hz
    have frB : ∀ c i, ¬ ((c = 3 ∧ 1 ≤ i ∧ i ≤ 4) ∨ (c = 2 ∧ i ≤ 2) ∨ (13 ≤ c ∧ c ≤ 20) ∨ (c = 0 ∧ i = 3)) → zup (zup A 3 1 (nI 0)) 0 3 (nI (pmu 1 (decide (tK n b X2.1.2 = 0)) X2.1).1) c i = μ c i := fun c i q => by
      rw [zup_o (by omega), zup_o (by omega), a2 c i (by omega)]
    have hY2 : TY (zup (zup A 3 1 (nI 0)) 0 3 (nI (pmu 1 (decide (tK n b X2.1.2 = 0)) X2.1).1)) n b := TY_fr hY (fun c i q => frB c i (by omega))
    obtain ⟨D, d1, d2, d3, d4⟩ := (sm_valley (d := d + 41) hY2 e1.symm w1 w2 e2.symm s1 s2).1 hz
    refine zop_m ((-1000100 : Int32) - nI (tB n b X2.1.2)) (zup (zup A 3 1 (nI 0)) 0 3 (nI (pmu 1 (decide (tK n b X2.1.2 = 0)) X2.1).1)) D ?_ d1 ?_
    · simp (disch := omega) only [nX6_valley, eX6_valley_0, eX6_valley_1, eX6_valley_4, eX6_valley_5, eX6_valley_8, eX6_valley_11, eX6_valley_12, eX6_valley_15, eX6_valley_18, eX6_valley_19, eX6_valley_22, eX6_valley_23, eX6_valley_26, eX6_valley_29, eX6_valley_32, eX6_valley_33, eX6_valley_34, eX6_valley_37, eX6_valley_40, eX6_valley_43, eX6_valley_45, eX6_valley_46, eX6_valley_49, eX6_valley_52, eX6_valley_53, eX6_valley_54, eX6_valley_55, eX6_valley_58, eX6_valley_59, eX6_valley_62, eX6_valley_65, eX6_valley_66, eX6_valley_69, eX6_valley_72, eX6_valley_73, eX6_valley_76, eX6_valley_79, a1, c41, c42, hq, zup_o, not_true_eq_false, not_false_eq_true, zok1, zok0, Bool.false_eq_true, zpush_s, zpush_n, Option.bind_some, Option.bind_none, ite_true, ite_false, if_true, if_false, ↓reduceIte, nI_add, pk_mul, ob0, ob2, ob3, ob22, ob25, ob63, Nat.reduceEqDiff, Nat.reduceAdd, Nat.reduceMul, Nat.reduceSub, pLeT, pLeF, pLtT, pLtF, pEqT, pEqF, qLtT, qLtF, qLeT, qLeF, qEqF, nI_sub2, nI_dec, ob5, ob13]
    · refine Rel_F (fun c i q => ?_) R (RT_0 ?_ d3) ?_
      · unfold zscr at q
        rw [d2 c i (by omega), frB c i (by omega)]
      · rw [d2 3 1 (by omega), zup_o (by omega), zup_s rfl rfl]
      · rw [d2 0 3 (by omega), zup_s rfl rfl, d4]
