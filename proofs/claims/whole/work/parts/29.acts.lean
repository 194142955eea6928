/-! ===== acts: what was, kept by both ===== -/
theorem i24 : (nI 24 = (0 : Int32)) = False := by decide
theorem nI_mn {a b : Nat} (h : a < 1000000 ∧ b < 1000000) : (if nI b < nI a then nI b else nI a) = nI (min a b) := by
  by_cases q : b < a
  · rw [iLtT ⟨q, h.1⟩, Nat.min_eq_right (by omega)]
  · rw [iLtF ⟨by omega, h.2⟩, Nat.min_eq_left (by omega)]
def KP (μ μ' : Zm) (n nx : Nat) : Prop := (∀ c i, ¬ (22 ≤ c ∧ c ≤ 24) → μ' c i = μ c i) ∧ μ' 22 2 = nI ((nx + 1) % 24) ∧ μ' 22 3 = nI (min (n + 1) 24) ∧ (∀ w, w < 7 → μ' 23 (7 * nx + w) = μ 7 w ∧ μ' 24 (7 * nx + w) = μ 8 w) ∧ ∀ q, q < 24 → q ≠ nx → ∀ w, w < 7 → μ' 23 (7 * q + w) = μ 23 (7 * q + w) ∧ μ' 24 (7 * q + w) = μ 24 (7 * q + w)
theorem sp_keep {d n nx : Nat} {μ : Zm} (h2 : μ 22 2 = nI nx) (h3 : μ 22 3 = nI n) (hn : n ≤ 24) (hx : nx < 24) : ∃ μ', zC true (d + 1) mX0_keep [.ref 22, .ref 5] μ = some (none, μ') ∧ KP μ μ' n nx := by
  have a1 : zac true μ 7 23 (nI 0) (nI (nx * 7)) (nI 7) = some (zfl μ 23 (nx * 7) (nx * 7 + 7) (fun k => μ 7 (0 + (k - nx * 7)))) := zac_n (A := 7) (B := 168) rfl rfl (by omega)
  have a2 : ∀ m : Zm, zac true m 8 24 (nI 0) (nI (nx * 7)) (nI 7) = some (zfl m 24 (nx * 7) (nx * 7 + 7) (fun k => m 8 (0 + (k - nx * 7)))) := fun m => zac_n (A := 7) (B := 168) rfl rfl (by omega)
  refine ⟨zup (zup (zfl (zfl μ 23 (nx * 7) (nx * 7 + 7) (fun k => μ 7 (0 + (k - nx * 7)))) 24 (nx * 7) (nx * 7 + 7) (fun k => (zfl μ 23 (nx * 7) (nx * 7 + 7) (fun k => μ 7 (0 + (k - nx * 7)))) 8 (0 + (k - nx * 7)))) 22 2 (nI ((nx + 1) % 24))) 22 3 (nI (min (n + 1) 24)), ?_, ?_⟩
  · simp (disch := omega) only [nX0_keep, eX0_keep_0, eX0_keep_1, eX0_keep_4, eX0_keep_5, eX0_keep_6, eX0_keep_9, eX0_keep_10, eX0_keep_13, eX0_keep_15, eX0_keep_16, eX0_keep_18, eX0_keep_21, eX0_keep_22, eX0_keep_25, eX0_keep_26, eX0_keep_27, eX0_keep_30, eX0_keep_31, eX0_keep_34, eX0_keep_36, eX0_keep_37, eX0_keep_39, eX0_keep_42, eX0_keep_43, eX0_keep_44, eX0_keep_47, eX0_keep_48, eX0_keep_49, eX0_keep_51, eX0_keep_52, eX0_keep_55, eX0_keep_56, eX0_keep_57, eX0_keep_60, eX0_keep_61, eX0_keep_62, eX0_keep_64, eX0_keep_67, eX0_keep_70, h2, h3, a1, a2, zfl_o, zup_o, i24, nI_rem, nI_mn, not_true_eq_false, not_false_eq_true, zok1, zok0, Bool.false_eq_true, zpush_s, zpush_n, Option.bind_some, Option.bind_none, ite_true, ite_false, if_true, if_false, ↓reduceIte, nI_add, pk_mul, ob0, ob2, ob3, ob22, ob25, ob63, Nat.reduceEqDiff, Nat.reduceAdd, Nat.reduceMul, Nat.reduceSub, pLeT, pLeF, pLtT, pLtF, pEqT, pEqF, qLtT, qLtF, qLeT, qLeF, qEqF, nI_sub2, nI_dec, ob5, ob13]
  · refine ⟨fun c i h => ?_, ?_, zup_s rfl rfl, fun w hw => ?_, fun q hq hne w hw => ?_⟩
    · rw [zup_o (by omega), zup_o (by omega), zfl_o (by omega), zfl_o (by omega)]
    · rw [zup_o (by omega), zup_s rfl rfl]
    · constructor
      · rw [zup_o (by omega), zup_o (by omega), zfl_o (by omega), zfl_i (by omega)]
        exact congrArg _ (by omega)
      · rw [zup_o (by omega), zup_o (by omega), zfl_i (by omega), zfl_o (by omega)]
        exact congrArg _ (by omega)
    · constructor <;> rw [zup_o (by omega), zup_o (by omega), zfl_o (by omega), zfl_o (by omega)]
def MP (μ μ' : Zm) (n : Nat) : Prop := (∀ c i, ¬ (c = 67 ∨ (c = 63 ∧ i = 4)) → μ' c i = μ c i) ∧ μ' 63 4 = nI (min (n + 1) 24) ∧ (∀ k, k < 14 → μ' 67 (14 * (min (n + 1) 24 - 1) + k) = μ 64 (60 + k)) ∧ ∀ j, 1 ≤ j → j < min (n + 1) 24 → ∀ k, k < 14 → μ' 67 (14 * (min (n + 1) 24 - 1 - j) + k) = μ 67 (14 * (n - 1 - (j - 1)) + k)
theorem sm_remFill {d n : Nat} {l : Value} {μ : Zm} (h4 : μ 63 4 = nI n) (hn : n < 24) : zA d mX7_remembers 49 [.ref 63, l] [] μ = some (none, zup (zfl μ 67 (14 * n) (14 * n + 14) (fun k => μ 64 (60 + (k - 14 * n)))) 63 4 (nI (n + 1))) := by
  have hl := zloop (fun i => zA d mX7_remembers 51 [.ref 63, .int (nI i)] [] (zfl μ 67 (14 * n) (14 * n + i) (fun k => μ 64 (60 + (k - 14 * n))))) 14 (fun i hi => by
    (try dsimp only)
    rw [eX7_remembers_51]
    simp (disch := omega) only [eX7_remembers_52, eX7_remembers_54, eX7_remembers_57, eX7_remembers_58, eX7_remembers_61, eX7_remembers_63, eX7_remembers_64, eX7_remembers_67, eX7_remembers_68, eX7_remembers_69, eX7_remembers_70, eX7_remembers_71, eX7_remembers_74, eX7_remembers_76, eX7_remembers_77, eX7_remembers_78, eX7_remembers_79, eX7_remembers_80, eX7_remembers_83, h4, zfl_o, rd6, wr6, rd7, wr7, rd8, wr8, rd9, wr9, rd10, wr10, rd11, wr11, rd12, wr12, rd14, wr14, rd15, wr15, rd16, wr16, rd17, wr17, rd18, wr18, rd19, wr19, rd20, wr20, rd23, wr23, rd24, wr24, rd26, wr26, rd27, wr27, rd28, wr28, rd29, wr29, rd30, wr30, rd64, wr64, rd65, wr65, rd67, wr67, rd68, wr68, rd69, wr69, rd70, wr70, rd71, wr71, rd72, wr72, rd73, wr73, rb4, rb66, wb4, wb66, rdR, wrR, lenR, len1, len21, ofNat_nI, not_true_eq_false, not_false_eq_true, zok1, zok0, Bool.false_eq_true, zpush_s, zpush_n, Option.bind_some, Option.bind_none, ite_true, ite_false, if_true, if_false, ↓reduceIte, nI_add, pk_mul, ob0, ob2, ob3, ob22, ob25, ob63, Nat.reduceEqDiff, Nat.reduceAdd, Nat.reduceMul, Nat.reduceSub, pLeT, pLeF, pLtT, pLtF, pEqT, pEqF, qLtT, qLtF, qLeT, qLeF, qEqF, nI_sub2, nI_dec, ob5, ob13]
    rw [zfl_s (by omega) (by (try dsimp only); exact congrArg _ (by omega))]
    rfl)
  rw [show 14 * n + 0 = 14 * n from rfl, zfl_0] at hl
  rw [eX7_remembers_49, eX7_remembers_50]
  refine hl.trans ?_
  (try dsimp only)
  rw [eX7_remembers_51]
  simp (disch := omega) only [eX7_remembers_52, eX7_remembers_54, eX7_remembers_86, eX7_remembers_87, eX7_remembers_88, eX7_remembers_91, eX7_remembers_92, eX7_remembers_93, eX7_remembers_96, h4, zfl_o, rd6, wr6, rd7, wr7, rd8, wr8, rd9, wr9, rd10, wr10, rd11, wr11, rd12, wr12, rd14, wr14, rd15, wr15, rd16, wr16, rd17, wr17, rd18, wr18, rd19, wr19, rd20, wr20, rd23, wr23, rd24, wr24, rd26, wr26, rd27, wr27, rd28, wr28, rd29, wr29, rd30, wr30, rd64, wr64, rd65, wr65, rd67, wr67, rd68, wr68, rd69, wr69, rd70, wr70, rd71, wr71, rd72, wr72, rd73, wr73, rb4, rb66, wb4, wb66, rdR, wrR, lenR, len1, len21, ofNat_nI, not_true_eq_false, not_false_eq_true, zok1, zok0, Bool.false_eq_true, zpush_s, zpush_n, Option.bind_some, Option.bind_none, ite_true, ite_false, if_true, if_false, ↓reduceIte, nI_add, pk_mul, ob0, ob2, ob3, ob22, ob25, ob63, Nat.reduceEqDiff, Nat.reduceAdd, Nat.reduceMul, Nat.reduceSub, pLeT, pLeF, pLtT, pLtF, pEqT, pEqF, qLtT, qLtF, qLeT, qLeF, qEqF, nI_sub2, nI_dec, ob5, ob13]
theorem sm_remembers {d n : Nat} {μ : Zm} (h4 : μ 63 4 = nI n) (hn : n ≤ 24) : ∃ μ', zC true (d + 1) mX7_remembers [.ref 63] μ = some (none, μ') ∧ MP μ μ' n := by
  by_cases q : n = 24
  · subst q
    have hl := zloop (fun i => zA d mX7_remembers 11 [.ref 63, .int (nI i)] [] (zfl μ 67 0 i (fun k => μ 67 (k + 14)))) 322 (fun i hi => by
      (try dsimp only)
      rw [eX7_remembers_11]
      simp (disch := omega) only [eX7_remembers_12, eX7_remembers_15, eX7_remembers_18, eX7_remembers_19, eX7_remembers_22, eX7_remembers_23, eX7_remembers_24, eX7_remembers_27, eX7_remembers_28, eX7_remembers_30, eX7_remembers_31, eX7_remembers_32, eX7_remembers_33, eX7_remembers_36, zfl_o, rd6, wr6, rd7, wr7, rd8, wr8, rd9, wr9, rd10, wr10, rd11, wr11, rd12, wr12, rd14, wr14, rd15, wr15, rd16, wr16, rd17, wr17, rd18, wr18, rd19, wr19, rd20, wr20, rd23, wr23, rd24, wr24, rd26, wr26, rd27, wr27, rd28, wr28, rd29, wr29, rd30, wr30, rd64, wr64, rd65, wr65, rd67, wr67, rd68, wr68, rd69, wr69, rd70, wr70, rd71, wr71, rd72, wr72, rd73, wr73, rb4, rb66, wb4, wb66, rdR, wrR, lenR, len1, len21, ofNat_nI, not_true_eq_false, not_false_eq_true, zok1, zok0, Bool.false_eq_true, zpush_s, zpush_n, Option.bind_some, Option.bind_none, ite_true, ite_false, if_true, if_false, ↓reduceIte, nI_add, pk_mul, ob0, ob2, ob3, ob22, ob25, ob63, Nat.reduceEqDiff, Nat.reduceAdd, Nat.reduceMul, Nat.reduceSub, pLeT, pLeF, pLtT, pLtF, pEqT, pEqF, qLtT, qLtF, qLeT, qLeF, qEqF, nI_sub2, nI_dec, ob5, ob13]
      rw [zfl_s (by omega) rfl])
    rw [zfl_0] at hl
    have hm := sm_remFill (d := d) (l := .int (nI 322)) (n := 23) (μ := zup (zfl μ 67 0 322 (fun k => μ 67 (k + 14))) 63 4 (nI 23)) (zup_s rfl rfl) (by omega)
    apply Exists.intro
    constructor
    · rw [nX7_remembers]
      simp (disch := omega) only [eX7_remembers_0, eX7_remembers_1, eX7_remembers_4, eX7_remembers_6, eX7_remembers_9, eX7_remembers_10, h4, rd6, wr6, rd7, wr7, rd8, wr8, rd9, wr9, rd10, wr10, rd11, wr11, rd12, wr12, rd14, wr14, rd15, wr15, rd16, wr16, rd17, wr17, rd18, wr18, rd19, wr19, rd20, wr20, rd23, wr23, rd24, wr24, rd26, wr26, rd27, wr27, rd28, wr28, rd29, wr29, rd30, wr30, rd64, wr64, rd65, wr65, rd67, wr67, rd68, wr68, rd69, wr69, rd70, wr70, rd71, wr71, rd72, wr72, rd73, wr73, rb4, rb66, wb4, wb66, rdR, wrR, lenR, len1, len21, ofNat_nI, not_true_eq_false, not_false_eq_true, zok1, zok0, Bool.false_eq_true, zpush_s, zpush_n, Option.bind_some, Option.bind_none, ite_true, ite_false, if_true, if_false, ↓reduceIte, nI_add, pk_mul, ob0, ob2, ob3, ob22, ob25, ob63, Nat.reduceEqDiff, Nat.reduceAdd, Nat.reduceMul, Nat.reduceSub, pLeT, pLeF, pLtT, pLtF, pEqT, pEqF, qLtT, qLtF, qLeT, qLeF, qEqF, nI_sub2, nI_dec, ob5, ob13]
      refine hl.trans ?_
      (try dsimp only)
      rw [eX7_remembers_11]
      simp (disch := omega) only [eX7_remembers_12, eX7_remembers_15, eX7_remembers_39, eX7_remembers_40, eX7_remembers_41, eX7_remembers_44, eX7_remembers_45, eX7_remembers_46, h4, zfl_o, rd6, wr6, rd7, wr7, rd8, wr8, rd9, wr9, rd10, wr10, rd11, wr11, rd12, wr12, rd14, wr14, rd15, wr15, rd16, wr16, rd17, wr17, rd18, wr18, rd19, wr19, rd20, wr20, rd23, wr23, rd24, wr24, rd26, wr26, rd27, wr27, rd28, wr28, rd29, wr29, rd30, wr30, rd64, wr64, rd65, wr65, rd67, wr67, rd68, wr68, rd69, wr69, rd70, wr70, rd71, wr71, rd72, wr72, rd73, wr73, rb4, rb66, wb4, wb66, rdR, wrR, lenR, len1, len21, ofNat_nI, not_true_eq_false, not_false_eq_true, zok1, zok0, Bool.false_eq_true, zpush_s, zpush_n, Option.bind_some, Option.bind_none, ite_true, ite_false, if_true, if_false, ↓reduceIte, nI_add, pk_mul, ob0, ob2, ob3, ob22, ob25, ob63, Nat.reduceEqDiff, Nat.reduceAdd, Nat.reduceMul, Nat.reduceSub, pLeT, pLeF, pLtT, pLtF, pEqT, pEqF, qLtT, qLtF, qLeT, qLeF, qEqF, nI_sub2, nI_dec, ob5, ob13]
      exact hm
    · refine ⟨fun c i h => ?_, zup_s rfl rfl, fun k hk => ?_, fun j h1 h2 k hk => ?_⟩
      · rw [zup_o (by omega), zfl_o (by omega), zup_o (by omega), zfl_o (by omega)]
      · rw [zup_o (by omega), zfl_i (by omega), zup_o (by omega), zfl_o (by omega)]
        exact congrArg _ (by omega)
      · rw [zup_o (by omega), zfl_o (by omega), zup_o (by omega), zfl_i (by omega)]
        exact congrArg _ (by omega)
  · apply Exists.intro
    constructor
    · rw [nX7_remembers]
      simp (disch := omega) only [eX7_remembers_0, eX7_remembers_1, eX7_remembers_4, eX7_remembers_6, h4, rd6, wr6, rd7, wr7, rd8, wr8, rd9, wr9, rd10, wr10, rd11, wr11, rd12, wr12, rd14, wr14, rd15, wr15, rd16, wr16, rd17, wr17, rd18, wr18, rd19, wr19, rd20, wr20, rd23, wr23, rd24, wr24, rd26, wr26, rd27, wr27, rd28, wr28, rd29, wr29, rd30, wr30, rd64, wr64, rd65, wr65, rd67, wr67, rd68, wr68, rd69, wr69, rd70, wr70, rd71, wr71, rd72, wr72, rd73, wr73, rb4, rb66, wb4, wb66, rdR, wrR, lenR, len1, len21, ofNat_nI, not_true_eq_false, not_false_eq_true, zok1, zok0, Bool.false_eq_true, zpush_s, zpush_n, Option.bind_some, Option.bind_none, ite_true, ite_false, if_true, if_false, ↓reduceIte, nI_add, pk_mul, ob0, ob2, ob3, ob22, ob25, ob63, Nat.reduceEqDiff, Nat.reduceAdd, Nat.reduceMul, Nat.reduceSub, pLeT, pLeF, pLtT, pLtF, pEqT, pEqF, qLtT, qLtF, qLeT, qLeF, qEqF, nI_sub2, nI_dec, ob5, ob13]
      exact sm_remFill h4 (by omega)
    · refine ⟨fun c i h => ?_, ?_, fun k hk => ?_, fun j h1 h2 k hk => ?_⟩
      · rw [zup_o (by omega), zfl_o (by omega)]
      · rw [zup_s rfl rfl, Nat.min_eq_left (by omega)]
      · rw [zup_o (by omega), zfl_i (by omega)]
        exact congrArg _ (by omega)
      · rw [zup_o (by omega), zfl_o (by omega)]
        exact congrArg _ (by omega)
theorem RV_gen {μ μ' : Zm} {a a' : Nat → Nat} (R : RV μ a) (hlo : ∀ i, i < 60 → a' i = a i) (hw : ∀ w, w < a 3 → a' (60 + w) ≤ 99 ∧ a' (67 + w) < 32 ∧ μ' 7 w = nI (a' (60 + w)) ∧ μ' 64 (60 + w) = nI (a' (60 + w)) ∧ μ' 8 w = nI (a' (67 + w)) ∧ μ' 64 (67 + w) = nI (a' (67 + w))) (hfr : ∀ c i, c = 5 ∨ c = 6 ∨ (9 ≤ c ∧ c ≤ 12) ∨ (c = 64 ∧ i < 60) → μ' c i = μ c i) : RV μ' a' := by
  obtain ⟨⟨c0, c1, c2, c3, c4, c5⟩, ⟨m0, m1, m2, m3, m4, m5, m6⟩, w1, w2, w3, w4, w5, w6⟩ := R
  have e1 := hlo 1 (by omega)
  have e2 := hlo 2 (by omega)
  have e3 := hlo 3 (by omega)
  have e4 := hlo 4 (by omega)
  have es : ∀ s, s < a 4 → a' (12 + 4 * s) = a (12 + 4 * s) ∧ a' (13 + 4 * s) = a (13 + 4 * s) ∧ a' (14 + 4 * s) = a (14 + 4 * s) ∧ a' (15 + 4 * s) = a (15 + 4 * s) := fun s hs => ⟨hlo _ (by omega), hlo _ (by omega), hlo _ (by omega), hlo _ (by omega)⟩
  have ek : ∀ w, w < a 3 → a' (5 + w) = a (5 + w) := fun w hw => hlo _ (by omega)
  refine ⟨⟨?_, ?_, ?_, ?_, fun w h => ?_, fun s h => ?_⟩, ⟨?_, ?_, ?_, ?_, ?_, fun w h => ?_, fun s h => ?_⟩, by omega, by omega, by omega, by omega, fun w h => ?_, fun s h => ?_⟩
  · rw [e1, hfr 5 0 (by omega)]; exact c0
  · rw [e2, hfr 5 1 (by omega)]; exact c1
  · rw [e3, hfr 5 2 (by omega)]; exact c2
  · rw [e4, hfr 5 6 (by omega)]; exact c3
  · rw [e3] at h
    have q := hw w h
    refine ⟨?_, q.2.2.1, q.2.2.2.2.1⟩
    rw [ek w h, hfr (5 + 1) w (by omega)]
    exact (c4 w h).1
  · rw [e4] at h
    have q := c5 s h
    have r := es s h
    rw [r.1, r.2.1, r.2.2.1, r.2.2.2, hfr (5 + 4) s (by omega), hfr (5 + 5) s (by omega), hfr (5 + 6) s (by omega), hfr (5 + 7) s (by omega)]
    exact q
  · rw [e1, hfr 64 0 (by omega)]; exact m0
  · rw [e1, hfr 64 1 (by omega)]; exact m1
  · rw [e2, hfr 64 2 (by omega)]; exact m2
  · rw [e3, hfr 64 3 (by omega)]; exact m3
  · rw [e4, hfr 64 4 (by omega)]; exact m4
  · rw [e3] at h
    have q := hw w h
    refine ⟨?_, q.2.2.2.1, q.2.2.2.2.2⟩
    rw [ek w h, hfr 64 (5 + w) (by omega)]
    exact (m5 w h).1
  · rw [e4] at h
    have q := m6 s h
    have r := es s h
    rw [r.1, r.2.1, r.2.2.1, r.2.2.2, hfr 64 (12 + 4 * s) (by omega), hfr 64 (12 + 4 * s + 1) (by omega), hfr 64 (12 + 4 * s + 2) (by omega), hfr 64 (12 + 4 * s + 3) (by omega)]
    exact q
  · rw [e3] at h
    have q := hw w h
    have r := w5 w h
    rw [ek w h]
    exact ⟨r.1, r.2.1, q.1, q.2.1⟩
  · rw [e4] at h
    have q := w6 s h
    have r := es s h
    rw [e1, e2, e3, r.1, r.2.1, r.2.2.1, r.2.2.2]
    exact q
theorem Rel_act {μ μ' : Zm} {a' : Nat → Nat} (hfr : ∀ c i, ¬ (c = 7 ∨ c = 8 ∨ (22 ≤ c ∧ c ≤ 24) ∨ c = 64 ∨ c = 67 ∨ (c = 63 ∧ i = 4)) → μ' c i = μ c i) (R : Rel μ) (hv : RV μ' a') (hg : GA μ' a') : Rel μ' := by
  obtain ⟨a, h1, h2, h3, h4, h5, h6, h7, h8⟩ := R
  exact ⟨a', hv, hg, RI_fr (by omega) (fun c i q => hfr c i (by omega)) h3, RI_fr (by omega) (fun c i q => hfr c i (by omega)) h4, RR_fr (fun c i q => hfr c i (by omega)) h5, RT_fr (fun c i q => hfr c i (by omega)) h6, RC_fr (fun c i q => hfr c i (by omega)) h7, RS_fr (fun c i q => hfr c i (by omega)) h8⟩
theorem GA_kept {μ μ1 M M' μ' : Zm} {a a' : Nat → Nat} {n nx : Nat} {h : Nat → Nat → Nat} (hv : RV μ a) (hr : RA μ a n nx h) (hK : KP μ μ1 n nx) (h1 : ∀ c i, (22 ≤ c ∧ c ≤ 24) ∨ c = 64 ∨ c = 67 → M c i = μ1 c i) (hM : MP M M' n) (h2 : ∀ c i, (22 ≤ c ∧ c ≤ 24) ∨ c = 67 ∨ (c = 63 ∧ i = 4) → μ' c i = M' c i) (e3 : a' 3 = a 3) : GA μ' a' := by
  obtain ⟨r1, r2, r3, r4, r5, r6⟩ := hr
  obtain ⟨k1, k2, k3, k4, k5⟩ := hK
  obtain ⟨m1, m2, m3, m4⟩ := hM
  have w3 := hv.2.2.2.2.1
  have f22 : ∀ c i, 22 ≤ c ∧ c ≤ 24 → μ' c i = μ1 c i := fun c i q => by rw [h2 c i (by omega), m1 c i (by omega), h1 c i (by omega)]
  have f67 : ∀ i, M 67 i = μ 67 i := fun i => by rw [h1 67 i (by omega), k1 67 i (by omega)]
  have f64 : ∀ i, M 64 i = μ 64 i := fun i => by rw [h1 64 i (by omega), k1 64 i (by omega)]
  refine ⟨min (n + 1) 24, (nx + 1) % 24, fun j i => if j = 0 then a (60 + i) else h (j - 1) i, by omega, by omega, ?_, ?_, ?_, fun j hj w hw => ?_⟩
  · rw [f22 22 2 (by omega), k2]
  · rw [f22 22 3 (by omega), k3]
  · rw [h2 63 4 (by omega), m2]
  · rw [e3] at hw
    have c4 := hv.1.2.2.2.2.1 w hw
    have g4 := hv.2.1.2.2.2.2.2.1 w hw
    have b4 := hv.2.2.2.2.2.2.1 w hw
    by_cases q : j = 0
    · subst q
      have e : ((nx + 1) % 24 + 23 - 0) % 24 = nx := by omega
      have k4' := k4 w (by omega)
      have e67 : 60 + (7 + w) = 67 + w := by omega
      refine ⟨?_, ?_, ?_, ?_, ?_, ?_⟩
      · simp only [if_true]; exact b4.2.2.1
      · simp only [if_true]; rw [e67]; exact b4.2.2.2
      · simp only [if_true]; rw [e, f22 23 _ (by omega), k4'.1]; exact c4.2.1
      · simp only [if_true]; rw [Nat.sub_zero, h2 67 _ (by omega), m3 w (by omega), f64]; exact g4.2.1
      · simp only [if_true]; rw [e, f22 24 _ (by omega), k4'.2, e67]; exact c4.2.2
      · simp only [if_true]; rw [Nat.sub_zero, h2 67 _ (by omega), m3 (7 + w) (by omega), f64, e67]; exact g4.2.2
    · have e : ((nx + 1) % 24 + 23 - j) % 24 = (nx + 23 - (j - 1)) % 24 := by omega
      have ne : (nx + 23 - (j - 1)) % 24 ≠ nx := by omega
      have k5' := k5 ((nx + 23 - (j - 1)) % 24) (by omega) ne w (by omega)
      obtain ⟨q1, q2, q3, q4, q5, q6⟩ := r6 (j - 1) (by omega) w hw
      refine ⟨?_, ?_, ?_, ?_, ?_, ?_⟩
      · simp only [q, if_false]; exact q1
      · simp only [q, if_false]; exact q2
      · simp only [q, if_false]; rw [e, f22 23 _ (by omega), k5'.1]; exact q3
      · simp only [q, if_false]; rw [h2 67 _ (by omega), m4 j (by omega) hj w (by omega), f67]; exact q4
      · simp only [q, if_false]; rw [e, f22 24 _ (by omega), k5'.2]; exact q5
      · simp only [q, if_false]; rw [h2 67 _ (by omega), m4 j (by omega) hj (7 + w) (by omega), f67]; exact q6
