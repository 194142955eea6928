/-! ===== out, the first that is false, lines, bound ===== -/
theorem zfindJ {α β : Type} (h : Nat → β → α) (r : Nat → α) (e : β → α) (P : Nat → Bool) (n : Nat) (hn : n < 900) (hs : ∀ i j, i < n → P i = false → ∃ j', h i j = h (i + 1) j') (ht : ∀ i j, i < n → P i = true → h i j = r i) (hx : ∀ j, h n j = e j) : ∀ j, ∃ j', h 0 j = if nfst P n = 999 then e j' else r (nfst P n) := by
  have key : ∀ k, k ≤ n → (∀ i, i < k → P i = false) → ∀ j, ∃ j', h 0 j = h k j' := by
    intro k
    induction k with
    | zero => exact fun _ _ j => ⟨j, rfl⟩
    | succ k ih =>
      intro hk hp j
      obtain ⟨j1, q1⟩ := ih (by omega) (fun i hi => hp i (by omega)) j
      obtain ⟨j2, q2⟩ := hs k j1 (by omega) (hp k (by omega))
      exact ⟨j2, q1.trans q2⟩
  intro j
  by_cases q : nfst P n = 999
  · obtain ⟨j', q'⟩ := key n (Nat.le_refl _) (nfst_n n hn q) j
    exact ⟨j', by rw [if_pos q, q', hx]⟩
  · have ⟨h1, h2, h3⟩ := nfst_s n hn q
    obtain ⟨j', q'⟩ := key _ (Nat.le_of_lt h1) h3 j
    exact ⟨j', by rw [if_neg q, q', ht _ _ h1 h2]⟩
theorem zloopJ {α β : Type} (h : Nat → β → α) (n : Nat) (hs : ∀ i j, i < n → ∃ j', h i j = h (i + 1) j') : ∀ j, ∃ j', h 0 j = h n j' := by
  have key : ∀ k, k ≤ n → ∀ j, ∃ j', h 0 j = h k j' := by
    intro k
    induction k with
    | zero => exact fun _ j => ⟨j, rfl⟩
    | succ k ih =>
      intro hk j
      obtain ⟨j1, q1⟩ := ih (by omega) j
      obtain ⟨j2, q2⟩ := hs k j1 (by omega)
      exact ⟨j2, q1.trans q2⟩
  exact key n (Nat.le_refl _)
def pout (a : Nat → Nat) (f wh : Nat) : Int32 := if (pob a f (2 ^ a 3)).1 = 999 then -1000000 else if wh = 0 then nI (pob a f (2 ^ a 3)).2 else nI (pob a f (2 ^ a 3)).1
set_option maxHeartbeats 4000000 in
theorem sm_out {d f wh : Nat} {μ : Zm} {a : Nat → Nat} (hm : MS μ a) (hf : WF a) (hk : f < a 2) (hw : wh < 2) : ∃ x y, zC true (d + 7) mX7_out [.ref 63, .int (nI f), .int (nI wh)] μ = some (some (.int (pout a f wh)), zff μ x y) := by
  have hF := hm.2.2.1
  have hW := hm.2.2.2.1
  have h2 := hf.2.1
  have h3 := hf.2.2.1
  have h128 := pw128 hf
  have m0 : ((-1 : Int32) < nI 0) = True := by decide
  have m1 : ((-2 : Int32) < nI 0) = True := by decide
  have hin : ∀ i x3 x4 x y, i < 128 → zA (d + 6) mX7_out 57 [.ref 63, .int (nI f), .int (nI wh), x3, x4, .int (nI i), .int (nI 0), .int (nI 0)] [] (zff μ x y) = zA (d + 6) mX7_out 103 [.ref 63, .int (nI f), .int (nI wh), x3, x4, .int (nI i), .int (nI (plin a i)), .int (nI (a 3))] [] (zff μ x y) := by
    intro i x3 x4 x y hi
    have hl := zloop (fun w => zA (d + 6) mX7_out 57 [.ref 63, .int (nI f), .int (nI wh), x3, x4, .int (nI i), .int (nI (nsum (fun w => if i.testBit w then a (60 + w) else 0) w)), .int (nI w)] [] (zff μ x y)) (a 3) (fun w hw => by
      have l2 := (hm.2.2.2.2.2.1 w hw).2.1
      rw [eX7_out_57, nsum]
      cases hp : i.testBit w <;>
      simp (disch := omega) only [eX7_out_0, eX7_out_1, eX7_out_2, eX7_out_3, eX7_out_6, eX7_out_7, eX7_out_8, eX7_out_9, eX7_out_10, eX7_out_13, eX7_out_16, eX7_out_17, eX7_out_18, eX7_out_19, eX7_out_22, eX7_out_25, eX7_out_27, eX7_out_28, eX7_out_30, eX7_out_31, eX7_out_33, eX7_out_35, eX7_out_36, eX7_out_38, eX7_out_40, eX7_out_41, eX7_out_42, eX7_out_45, eX7_out_46, eX7_out_47, eX7_out_48, eX7_out_51, eX7_out_52, eX7_out_54, eX7_out_55, eX7_out_59, eX7_out_60, eX7_out_63, eX7_out_64, eX7_out_65, eX7_out_68, eX7_out_70, eX7_out_72, eX7_out_74, eX7_out_77, eX7_out_80, eX7_out_81, eX7_out_84, eX7_out_86, eX7_out_88, eX7_out_89, eX7_out_90, eX7_out_93, eX7_out_94, eX7_out_95, eX7_out_97, eX7_out_100, eX7_out_103, eX7_out_104, eX7_out_106, eX7_out_109, eX7_out_110, eX7_out_111, eX7_out_114, eX7_out_117, eX7_out_118, eX7_out_121, eX7_out_124, eX7_out_125, eX7_out_127, eX7_out_130, eX7_out_132, eX7_out_133, eX7_out_136, eX7_out_137, eX7_out_140, eX7_out_141, eX7_out_143, eX7_out_145, eX7_out_148, eX7_out_150, eX7_out_153, eX7_out_155, eX7_out_157, eX7_out_159, eX7_out_162, eX7_out_164, eX7_out_167, eX7_out_168, eX7_out_169, eX7_out_172, eX7_out_175, eX7_out_176, eX7_out_179, eX7_out_180, eX7_out_183, eX7_out_185, sm_has, hp, l2, hW, zff_64, rd6, wr6, rd7, wr7, rd8, wr8, rd9, wr9, rd10, wr10, rd11, wr11, rd12, wr12, rd14, wr14, rd15, wr15, rd16, wr16, rd17, wr17, rd18, wr18, rd19, wr19, rd20, wr20, rd23, wr23, rd24, wr24, rd26, wr26, rd27, wr27, rd28, wr28, rd29, wr29, rd30, wr30, rd64, wr64, rd65, wr65, rd67, wr67, rd68, wr68, rd69, wr69, rd70, wr70, rd71, wr71, rd72, wr72, rd73, wr73, rb4, rb66, wb4, wb66, rdR, wrR, lenR, len1, len21, ofNat_nI, not_true_eq_false, not_false_eq_true, zok1, zok0, Bool.false_eq_true, zpush_s, zpush_n, Option.bind_some, Option.bind_none, ite_true, ite_false, if_true, if_false, reduceIte, nI_add, pk_mul, ob0, ob2, ob3, ob22, ob25, ob63, Nat.reduceEqDiff, Nat.reduceAdd, Nat.reduceMul, Nat.reduceSub, jLeT, jLeF, jLtT, jLtF, jEqT, jEqF, jNeT, jNeF, iZF, iZT, nI_sub2, nI_dec, nLtT, nLtF, nLeT, nLeF, nEqF, nNeT, ob5, ob13, zbt_t, zbt_f, Nat.add_zero])
    refine hl.trans ?_
    show zA (d + 6) mX7_out 57 _ _ _ = _
    rw [eX7_out_57]
    simp (disch := omega) only [eX7_out_0, eX7_out_1, eX7_out_2, eX7_out_3, eX7_out_6, eX7_out_7, eX7_out_8, eX7_out_9, eX7_out_10, eX7_out_13, eX7_out_16, eX7_out_17, eX7_out_18, eX7_out_19, eX7_out_22, eX7_out_25, eX7_out_27, eX7_out_28, eX7_out_30, eX7_out_31, eX7_out_33, eX7_out_35, eX7_out_36, eX7_out_38, eX7_out_40, eX7_out_41, eX7_out_42, eX7_out_45, eX7_out_46, eX7_out_47, eX7_out_48, eX7_out_51, eX7_out_52, eX7_out_54, eX7_out_55, eX7_out_59, eX7_out_60, eX7_out_63, eX7_out_64, eX7_out_65, eX7_out_68, eX7_out_70, eX7_out_72, eX7_out_74, eX7_out_77, eX7_out_80, eX7_out_81, eX7_out_84, eX7_out_86, eX7_out_88, eX7_out_89, eX7_out_90, eX7_out_93, eX7_out_94, eX7_out_95, eX7_out_97, eX7_out_100, eX7_out_104, eX7_out_106, eX7_out_109, eX7_out_110, eX7_out_111, eX7_out_114, eX7_out_117, eX7_out_118, eX7_out_121, eX7_out_124, eX7_out_125, eX7_out_127, eX7_out_130, eX7_out_132, eX7_out_133, eX7_out_136, eX7_out_137, eX7_out_140, eX7_out_141, eX7_out_143, eX7_out_145, eX7_out_148, eX7_out_150, eX7_out_153, eX7_out_155, eX7_out_157, eX7_out_159, eX7_out_162, eX7_out_164, eX7_out_167, eX7_out_168, eX7_out_169, eX7_out_172, eX7_out_175, eX7_out_176, eX7_out_179, eX7_out_180, eX7_out_183, eX7_out_185, hW, zff_64, rd6, wr6, rd7, wr7, rd8, wr8, rd9, wr9, rd10, wr10, rd11, wr11, rd12, wr12, rd14, wr14, rd15, wr15, rd16, wr16, rd17, wr17, rd18, wr18, rd19, wr19, rd20, wr20, rd23, wr23, rd24, wr24, rd26, wr26, rd27, wr27, rd28, wr28, rd29, wr29, rd30, wr30, rd64, wr64, rd65, wr65, rd67, wr67, rd68, wr68, rd69, wr69, rd70, wr70, rd71, wr71, rd72, wr72, rd73, wr73, rb4, rb66, wb4, wb66, rdR, wrR, lenR, len1, len21, ofNat_nI, not_true_eq_false, not_false_eq_true, zok1, zok0, Bool.false_eq_true, zpush_s, zpush_n, Option.bind_some, Option.bind_none, ite_true, ite_false, if_true, if_false, reduceIte, nI_add, pk_mul, ob0, ob2, ob3, ob22, ob25, ob63, Nat.reduceEqDiff, Nat.reduceAdd, Nat.reduceMul, Nat.reduceSub, jLeT, jLeF, jLtT, jLtF, jEqT, jEqF, jNeT, jNeF, iZF, iZT, nI_sub2, nI_dec, nLtT, nLtF, nLeT, nLeF, nEqF, nNeT, ob5, ob13]
    rfl
  have hl := zloopJ (β := Value × Value × Int32 × Int32) (fun i j => (zA (d + 6) mX7_out 38 [.ref 63, .int (nI f), .int (nI wh), .int (if (pob a f i).1 = 999 then -1000000 else nI (pob a f i).2), .int (zno (pob a f i).1), .int (nI i), j.1, j.2.1] [] (zff μ j.2.2.1 j.2.2.2))) (2 ^ a 3) (fun i j hi => by
    have p1 := pfs_lt (u := i) (so := 1) hf _ (Nat.le_refl _)
    have p0 := pfs_lt (u := i) (so := 0) hf _ (Nat.le_refl _)
    have h64 := pw64 hf
    have hb2 := plin_le (u := i) hf
    have hb1 := pob_le (f := f) hf i (by omega)
    have hp := pwo_lt (u := i) hf
    have hm' : ∀ x y, MS (zff μ x y) a := fun x y => MS_ff hm
    have hi9 : ¬ i = 999 := by omega
    refine ⟨⟨.int (nI (plin a i)), .int (if ((pob a f i).1 = 999 ∨ plin a i < (pob a f i).2) ∧ pco a f i = true then nI 1 else nI 0), nI (pfs a i 1 (a 4)), nI (pfs a i 0 (a 4))⟩, ?_⟩
    (try dsimp only)
    rw [eX7_out_38, pob]
    unfold zno pco
    by_cases q1 : (pob a f i).1 = 999 <;> by_cases q2 : plin a i < (pob a f i).2 <;> cases t1 : (pfs a i 1 (a 4)).testBit f <;> cases t0 : (pfs a i 0 (a 4)).testBit f <;> by_cases qw : pwo a i = 0 <;>
    simp (disch := omega) only [eX7_out_0, eX7_out_1, eX7_out_2, eX7_out_3, eX7_out_6, eX7_out_7, eX7_out_8, eX7_out_9, eX7_out_10, eX7_out_13, eX7_out_16, eX7_out_17, eX7_out_18, eX7_out_19, eX7_out_22, eX7_out_25, eX7_out_27, eX7_out_28, eX7_out_30, eX7_out_31, eX7_out_33, eX7_out_35, eX7_out_36, eX7_out_40, eX7_out_41, eX7_out_42, eX7_out_45, eX7_out_46, eX7_out_47, eX7_out_48, eX7_out_51, eX7_out_52, eX7_out_54, eX7_out_55, eX7_out_59, eX7_out_60, eX7_out_63, eX7_out_64, eX7_out_65, eX7_out_68, eX7_out_70, eX7_out_72, eX7_out_74, eX7_out_77, eX7_out_80, eX7_out_81, eX7_out_84, eX7_out_86, eX7_out_88, eX7_out_89, eX7_out_90, eX7_out_93, eX7_out_94, eX7_out_95, eX7_out_97, eX7_out_100, eX7_out_103, eX7_out_104, eX7_out_106, eX7_out_109, eX7_out_110, eX7_out_111, eX7_out_114, eX7_out_117, eX7_out_118, eX7_out_121, eX7_out_124, eX7_out_125, eX7_out_127, eX7_out_130, eX7_out_132, eX7_out_133, eX7_out_136, eX7_out_137, eX7_out_140, eX7_out_141, eX7_out_143, eX7_out_145, eX7_out_148, eX7_out_150, eX7_out_153, eX7_out_155, eX7_out_157, eX7_out_159, eX7_out_162, eX7_out_164, eX7_out_167, eX7_out_168, eX7_out_169, eX7_out_172, eX7_out_175, eX7_out_176, eX7_out_179, eX7_out_180, eX7_out_183, eX7_out_185, hin, hW, sm_findFacts (hm' _ _) hf, zff_zff, sm_knownOf zff_19 zff_20 (by omega : pfs a i 1 (a 4) < 64) (by omega : pfs a i 0 (a 4) < 64), sm_worldsOf (hm' _ _) hf zff_19 zff_20 (by omega : pfs a i 1 (a 4) < 64) (by omega : pfs a i 0 (a 4) < 64), pprod_w hf, pk2, t1, t0, qw, q1, q2, hi9, m0, m1, zff_64, iNM, nI_shl, rd6, wr6, rd7, wr7, rd8, wr8, rd9, wr9, rd10, wr10, rd11, wr11, rd12, wr12, rd14, wr14, rd15, wr15, rd16, wr16, rd17, wr17, rd18, wr18, rd19, wr19, rd20, wr20, rd23, wr23, rd24, wr24, rd26, wr26, rd27, wr27, rd28, wr28, rd29, wr29, rd30, wr30, rd64, wr64, rd65, wr65, rd67, wr67, rd68, wr68, rd69, wr69, rd70, wr70, rd71, wr71, rd72, wr72, rd73, wr73, rb4, rb66, wb4, wb66, rdR, wrR, lenR, len1, len21, ofNat_nI, not_true_eq_false, not_false_eq_true, zok1, zok0, Bool.false_eq_true, zpush_s, zpush_n, Option.bind_some, Option.bind_none, ite_true, ite_false, if_true, if_false, reduceIte, nI_add, pk_mul, ob0, ob2, ob3, ob22, ob25, ob63, Nat.reduceEqDiff, Nat.reduceAdd, Nat.reduceMul, Nat.reduceSub, jLeT, jLeF, jLtT, jLtF, jEqT, jEqF, jNeT, jNeF, iZF, iZT, nI_sub2, nI_dec, nLtT, nLtF, nLeT, nLeF, nEqF, nNeT, ob5, ob13, ne_eq, not_true_eq_false, decide_false, decide_true, Bool.and_false, Bool.and_true, bne_self_eq_false, Bool.bne_true, Bool.bne_false, Bool.not_true, Bool.not_false, or_true, true_or, or_false, false_or, and_true, and_false, true_and, false_and, Bool.true_bne, Bool.false_bne])
  obtain ⟨j, hj⟩ := hl ⟨zjk, zjk, μ 63 19, μ 63 20⟩
  refine ⟨j.2.2.1, j.2.2.2, ?_⟩
  rw [nX7_out]
  simp (disch := omega) only [eX7_out_0, eX7_out_1, eX7_out_2, eX7_out_3, eX7_out_6, eX7_out_7, eX7_out_8, eX7_out_9, eX7_out_10, eX7_out_13, eX7_out_16, eX7_out_17, eX7_out_18, eX7_out_19, eX7_out_22, eX7_out_28, eX7_out_30, eX7_out_31, eX7_out_33, eX7_out_35, eX7_out_36, hF, sm_inT, sm_inFh, sm_inFl, sm_inN, sm_inW, rd6, wr6, rd7, wr7, rd8, wr8, rd9, wr9, rd10, wr10, rd11, wr11, rd12, wr12, rd14, wr14, rd15, wr15, rd16, wr16, rd17, wr17, rd18, wr18, rd19, wr19, rd20, wr20, rd23, wr23, rd24, wr24, rd26, wr26, rd27, wr27, rd28, wr28, rd29, wr29, rd30, wr30, rd64, wr64, rd65, wr65, rd67, wr67, rd68, wr68, rd69, wr69, rd70, wr70, rd71, wr71, rd72, wr72, rd73, wr73, rb4, rb66, wb4, wb66, rdR, wrR, lenR, len1, len21, ofNat_nI, not_true_eq_false, not_false_eq_true, zok1, zok0, Bool.false_eq_true, zpush_s, zpush_n, Option.bind_some, Option.bind_none, ite_true, ite_false, if_true, if_false, reduceIte, nI_add, pk_mul, ob0, ob2, ob3, ob22, ob25, ob63, Nat.reduceEqDiff, Nat.reduceAdd, Nat.reduceMul, Nat.reduceSub, jLeT, jLeF, jLtT, jLtF, jEqT, jEqF, jNeT, jNeF, iZF, iZT, nI_sub2, nI_dec, nLtT, nLtF, nLeT, nLeF, nEqF, nNeT, ob5, ob13]
  rw [zff_me] at hj
  refine hj.trans ?_
  (try dsimp only)
  have hb1 := pob_le (f := f) hf (2 ^ a 3) (by omega)
  rw [eX7_out_38]
  unfold pout zno
  rcases (show wh = 0 ∨ wh = 1 by omega) with rfl | rfl <;> by_cases q1 : (pob a f (2 ^ a 3)).1 = 999 <;>
  simp (disch := omega) only [eX7_out_0, eX7_out_1, eX7_out_2, eX7_out_3, eX7_out_6, eX7_out_7, eX7_out_8, eX7_out_9, eX7_out_10, eX7_out_13, eX7_out_16, eX7_out_17, eX7_out_18, eX7_out_19, eX7_out_22, eX7_out_25, eX7_out_27, eX7_out_28, eX7_out_30, eX7_out_31, eX7_out_33, eX7_out_35, eX7_out_36, eX7_out_40, eX7_out_41, eX7_out_42, eX7_out_45, eX7_out_46, eX7_out_47, eX7_out_48, eX7_out_51, eX7_out_52, eX7_out_54, eX7_out_55, eX7_out_57, eX7_out_59, eX7_out_60, eX7_out_63, eX7_out_64, eX7_out_65, eX7_out_68, eX7_out_70, eX7_out_72, eX7_out_74, eX7_out_77, eX7_out_80, eX7_out_81, eX7_out_84, eX7_out_86, eX7_out_88, eX7_out_89, eX7_out_90, eX7_out_93, eX7_out_94, eX7_out_95, eX7_out_97, eX7_out_100, eX7_out_103, eX7_out_104, eX7_out_106, eX7_out_109, eX7_out_110, eX7_out_111, eX7_out_114, eX7_out_117, eX7_out_118, eX7_out_121, eX7_out_124, eX7_out_125, eX7_out_127, eX7_out_130, eX7_out_132, eX7_out_133, eX7_out_136, eX7_out_137, eX7_out_140, eX7_out_141, eX7_out_143, eX7_out_145, eX7_out_148, eX7_out_150, eX7_out_153, eX7_out_155, eX7_out_157, eX7_out_159, eX7_out_162, eX7_out_164, eX7_out_167, eX7_out_168, eX7_out_169, eX7_out_172, eX7_out_175, eX7_out_176, eX7_out_179, eX7_out_180, eX7_out_183, eX7_out_185, hW, q1, zff_64, nI_shl, rd6, wr6, rd7, wr7, rd8, wr8, rd9, wr9, rd10, wr10, rd11, wr11, rd12, wr12, rd14, wr14, rd15, wr15, rd16, wr16, rd17, wr17, rd18, wr18, rd19, wr19, rd20, wr20, rd23, wr23, rd24, wr24, rd26, wr26, rd27, wr27, rd28, wr28, rd29, wr29, rd30, wr30, rd64, wr64, rd65, wr65, rd67, wr67, rd68, wr68, rd69, wr69, rd70, wr70, rd71, wr71, rd72, wr72, rd73, wr73, rb4, rb66, wb4, wb66, rdR, wrR, lenR, len1, len21, ofNat_nI, not_true_eq_false, not_false_eq_true, zok1, zok0, Bool.false_eq_true, zpush_s, zpush_n, Option.bind_some, Option.bind_none, ite_true, ite_false, if_true, if_false, reduceIte, nI_add, pk_mul, ob0, ob2, ob3, ob22, ob25, ob63, Nat.reduceEqDiff, Nat.reduceAdd, Nat.reduceMul, Nat.reduceSub, jLeT, jLeF, jLtT, jLtF, jEqT, jEqF, jNeT, jNeF, iZF, iZT, nI_sub2, nI_dec, nLtT, nLtF, nLeT, nLeF, nEqF, nNeT, ob5, ob13, Nat.one_ne_zero]
theorem pfs_tb {a : Nat → Nat} {u so f : Nat} : ∀ n, (pfs a u so n).testBit f = true ↔ ∃ h, h < n ∧ a (15 + 4 * h) = so ∧ pbd a u h = true ∧ a (14 + 4 * h) = f
  | 0 => by
    rw [pfs, Nat.zero_testBit]
    refine ⟨fun h => ?_, fun ⟨h, q, _⟩ => by omega⟩
    cases h
  | n + 1 => by
    have ih := pfs_tb (a := a) (u := u) (so := so) (f := f) n
    rw [pfs]
    split
    · next q =>
      rw [Nat.testBit_or, Bool.or_eq_true, ih, Nat.testBit_two_pow]
      constructor
      · rintro (⟨h, h1, h2⟩ | h1)
        · exact ⟨h, by omega, h2⟩
        · exact ⟨n, by omega, q.1, q.2, of_decide_eq_true h1⟩
      · rintro ⟨h, h1, h2, h3, h4⟩
        by_cases e : h = n
        · right
          subst e
          exact decide_eq_true h4
        · exact Or.inl ⟨h, by omega, h2, h3, h4⟩
    · next q =>
      rw [ih]
      constructor
      · rintro ⟨h, h1, h2⟩
        exact ⟨h, by omega, h2⟩
      · rintro ⟨h, h1, h2, h3, h4⟩
        by_cases e : h = n
        · subst e
          exact absurd ⟨h2, h3⟩ q
        · exact ⟨h, by omega, h2, h3, h4⟩
def pff (a : Nat → Nat) (s : Nat) : Bool := pbd a 0 s && (if a (15 + 4 * s) = 1 then pfs a 0 0 s else pfs a 0 1 s).testBit (a (14 + 4 * s))
def pfq (a : Nat → Nat) (s h : Nat) : Bool := decide (a (14 + 4 * h) = a (14 + 4 * s)) && decide (a (15 + 4 * h) ≠ a (15 + 4 * s)) && (pbd a 0 h && pbd a 0 s)
theorem pff_q {a : Nat → Nat} {s : Nat} (hf : WF a) (hs : s < a 4) : decide (nfst (pfq a s) s ≠ 999) = pff a s := by
  have h4 := hf.2.2.2.1
  have key : nfst (pfq a s) s ≠ 999 ↔ ∃ h, h < s ∧ pfq a s h = true := by
    constructor
    · intro q
      have ⟨h1, h2, _⟩ := nfst_s s (by omega) q
      exact ⟨_, h1, h2⟩
    · rintro ⟨h, h1, h2⟩ q
      have := nfst_n s (by omega) q h h1
      rw [this] at h2
      cases h2
  have b := (hf.2.2.2.2.2 s hs).2.2.2
  rw [Bool.eq_iff_iff, decide_eq_true_iff, key]
  unfold pff
  rw [Bool.and_eq_true]
  have e : (if a (15 + 4 * s) = 1 then pfs a 0 0 s else pfs a 0 1 s) = pfs a 0 (1 - a (15 + 4 * s)) s := by
    rcases (show a (15 + 4 * s) = 1 ∨ a (15 + 4 * s) = 0 by omega) with q | q <;> rw [q] <;> rfl
  rw [e, pfs_tb]
  unfold pfq
  constructor
  · rintro ⟨h, h1, h2⟩
    simp only [Bool.and_eq_true, decide_eq_true_eq] at h2
    have b2 := (hf.2.2.2.2.2 h (by omega)).2.2.2
    exact ⟨h2.2.2, h, h1, by have := h2.1.2; omega, h2.2.1, h2.1.1⟩
  · rintro ⟨h0, h, h1, h2, h3, h4⟩
    refine ⟨h, h1, ?_⟩
    simp only [Bool.and_eq_true, decide_eq_true_eq]
    exact ⟨⟨h4, by omega⟩, h3, h0⟩
theorem nI_nz {m : Nat} {α : Type} {x y : α} (hm : m < 1000000) {k : Nat} : (if nI (m &&& 2 ^ k) = nI 0 then x else y) = if m.testBit k = true then y else x := by
  have h1 : m &&& 2 ^ k ≤ m := Nat.and_le_left
  have h2 : (m &&& 2 ^ k = 0) ↔ ¬ m.testBit k = true := by
    constructor
    · intro q c
      have := Nat.testBit_and m (2 ^ k) k
      rw [q, c, Nat.testBit_two_pow, Nat.zero_testBit, decide_eq_true rfl] at this
      cases this
    · intro q
      apply Nat.eq_of_testBit_eq
      intro i
      rw [Nat.testBit_and, Nat.testBit_two_pow, Nat.zero_testBit]
      by_cases e : k = i
      · subst e
        cases h : m.testBit k
        · rfl
        · exact absurd h q
      · rw [decide_eq_false e, Bool.and_false]
  by_cases q : m.testBit k = true
  · rw [if_pos q, if_neg (fun c => ?_)]
    have := (nI_eq (by omega) (by omega)).mp c
    exact h2.mp this q
  · rw [if_neg q, if_pos (by rw [h2.mpr q])]
theorem sm_isValley {d : Nat} {μ : Zm} {a : Nat → Nat} (hm : MS μ a) : zC true (d + 1) mX7_isValley [.ref 63] μ = some (some (.int (zbt (decide (a 1 ≠ 0)))), μ) := by
  have h0 := hm.1
  by_cases q : a 1 = 0
  · rw [if_pos q] at h0
    simp (disch := omega) only [nX7_isValley, eX7_isValley_0, eX7_isValley_1, eX7_isValley_4, eX7_isValley_5, eX7_isValley_6, eX7_isValley_7, eX7_isValley_10, eX7_isValley_11, eX7_isValley_14, eX7_isValley_15, h0, q, rd6, wr6, rd7, wr7, rd8, wr8, rd9, wr9, rd10, wr10, rd11, wr11, rd12, wr12, rd14, wr14, rd15, wr15, rd16, wr16, rd17, wr17, rd18, wr18, rd19, wr19, rd20, wr20, rd23, wr23, rd24, wr24, rd26, wr26, rd27, wr27, rd28, wr28, rd29, wr29, rd30, wr30, rd64, wr64, rd65, wr65, rd67, wr67, rd68, wr68, rd69, wr69, rd70, wr70, rd71, wr71, rd72, wr72, rd73, wr73, rb4, rb66, wb4, wb66, rdR, wrR, lenR, len1, len21, ofNat_nI, not_true_eq_false, not_false_eq_true, zok1, zok0, Bool.false_eq_true, zpush_s, zpush_n, Option.bind_some, Option.bind_none, ite_true, ite_false, if_true, if_false, reduceIte, nI_add, pk_mul, ob0, ob2, ob3, ob22, ob25, ob63, Nat.reduceEqDiff, Nat.reduceAdd, Nat.reduceMul, Nat.reduceSub, jLeT, jLeF, jLtT, jLtF, jEqT, jEqF, jNeT, jNeF, iZF, iZT, nI_sub2, nI_dec, nLtT, nLtF, nLeT, nLeF, nEqF, nNeT, ob5, ob13, ne_eq, decide_false, zbt_f]
  · rw [if_neg q] at h0
    simp (disch := omega) only [nX7_isValley, eX7_isValley_0, eX7_isValley_1, eX7_isValley_4, eX7_isValley_5, eX7_isValley_6, eX7_isValley_7, eX7_isValley_10, eX7_isValley_11, eX7_isValley_14, eX7_isValley_15, h0, q, rd6, wr6, rd7, wr7, rd8, wr8, rd9, wr9, rd10, wr10, rd11, wr11, rd12, wr12, rd14, wr14, rd15, wr15, rd16, wr16, rd17, wr17, rd18, wr18, rd19, wr19, rd20, wr20, rd23, wr23, rd24, wr24, rd26, wr26, rd27, wr27, rd28, wr28, rd29, wr29, rd30, wr30, rd64, wr64, rd65, wr65, rd67, wr67, rd68, wr68, rd69, wr69, rd70, wr70, rd71, wr71, rd72, wr72, rd73, wr73, rb4, rb66, wb4, wb66, rdR, wrR, lenR, len1, len21, ofNat_nI, not_true_eq_false, not_false_eq_true, zok1, zok0, Bool.false_eq_true, zpush_s, zpush_n, Option.bind_some, Option.bind_none, ite_true, ite_false, if_true, if_false, reduceIte, nI_add, pk_mul, ob0, ob2, ob3, ob22, ob25, ob63, Nat.reduceEqDiff, Nat.reduceAdd, Nat.reduceMul, Nat.reduceSub, jLeT, jLeF, jLtT, jLtF, jEqT, jEqF, jNeT, jNeF, iZF, iZT, nI_sub2, nI_dec, nLtT, nLtF, nLeT, nLeF, nEqF, nNeT, ob5, ob13, ne_eq, decide_true, zbt_t]
theorem sm_firstFalse {d : Nat} {μ : Zm} {a : Nat → Nat} (hm : MS μ a) (hf : WF a) (h1 : a 1 ≠ 0) : zC true (d + 5) mX7_firstFalse [.ref 63] μ = some (some (.int (zno (nfst (pff a) (a 4)))), μ) := by
  have hS := hm.2.2.2.2.1
  have h4 := hf.2.2.2.1
  have h2 := hf.2.1
  have h64 := pw64 hf
  have hv : zC true (d + 4) mX7_isValley [.ref 63] μ = some (some (.int (nI 1)), μ) := by
    rw [sm_isValley hm, decide_eq_true h1]
    rfl
  obtain ⟨j', hl⟩ := zfindJ (β := Value) (fun i j => zA (d + 4) mX7_firstFalse 16 [.ref 63, .int (nI (pfs a 0 1 i)), .int (nI (pfs a 0 0 i)), .int (nI i), j] [] μ) (fun i => some (some (.int (nI i)), μ)) (fun _ => some (some (.int (-1000000)), μ)) (pff a) (a 4) (by omega) (fun i j hi hp => by
    have ⟨_, _, b3, b4⟩ := hf.2.2.2.2.2 i hi
    have p1 := pfs_lt (u := 0) (so := 1) hf i (by omega)
    have p0 := pfs_lt (u := 0) (so := 0) hf i (by omega)
    refine ⟨.int (if pbd a 0 i = true then nI (2 ^ a (14 + 4 * i)) else nI 0), ?_⟩
    unfold pff at hp
    rw [eX7_firstFalse_16, pfs, pfs]
    rcases (show a (15 + 4 * i) = 1 ∨ a (15 + 4 * i) = 0 by omega) with hq | hq <;> cases hb : pbd a 0 i <;> simp only [hq, hb, Bool.true_and, if_true, Nat.zero_ne_one, if_false] at hp <;>
    simp (disch := omega) only [eX7_firstFalse_0, eX7_firstFalse_1, eX7_firstFalse_4, eX7_firstFalse_7, eX7_firstFalse_9, eX7_firstFalse_10, eX7_firstFalse_11, eX7_firstFalse_12, eX7_firstFalse_13, eX7_firstFalse_14, eX7_firstFalse_15, eX7_firstFalse_17, eX7_firstFalse_18, eX7_firstFalse_21, eX7_firstFalse_22, eX7_firstFalse_23, eX7_firstFalse_26, eX7_firstFalse_27, eX7_firstFalse_28, eX7_firstFalse_29, eX7_firstFalse_32, eX7_firstFalse_35, eX7_firstFalse_36, eX7_firstFalse_37, eX7_firstFalse_38, eX7_firstFalse_39, eX7_firstFalse_42, eX7_firstFalse_43, eX7_firstFalse_46, eX7_firstFalse_47, eX7_firstFalse_49, eX7_firstFalse_50, eX7_firstFalse_51, eX7_firstFalse_52, eX7_firstFalse_55, eX7_firstFalse_56, eX7_firstFalse_59, eX7_firstFalse_60, eX7_firstFalse_63, eX7_firstFalse_64, eX7_firstFalse_66, eX7_firstFalse_67, eX7_firstFalse_70, eX7_firstFalse_71, eX7_firstFalse_72, eX7_firstFalse_73, eX7_firstFalse_74, eX7_firstFalse_75, eX7_firstFalse_76, eX7_firstFalse_79, eX7_firstFalse_80, eX7_firstFalse_83, eX7_firstFalse_85, eX7_firstFalse_88, eX7_firstFalse_89, eX7_firstFalse_90, eX7_firstFalse_91, eX7_firstFalse_92, eX7_firstFalse_93, eX7_firstFalse_94, eX7_firstFalse_95, eX7_firstFalse_98, eX7_firstFalse_101, eX7_firstFalse_103, eX7_firstFalse_106, eX7_firstFalse_107, eX7_firstFalse_108, eX7_firstFalse_109, eX7_firstFalse_112, eX7_firstFalse_115, eX7_firstFalse_117, sm_isBound hm hf hi, sm_said2 hm hf hi, sm_said3 hm hf hi, nI_nz, nI_and, Nat.and_zero, hp, hb, hq, hS, rd6, wr6, rd7, wr7, rd8, wr8, rd9, wr9, rd10, wr10, rd11, wr11, rd12, wr12, rd14, wr14, rd15, wr15, rd16, wr16, rd17, wr17, rd18, wr18, rd19, wr19, rd20, wr20, rd23, wr23, rd24, wr24, rd26, wr26, rd27, wr27, rd28, wr28, rd29, wr29, rd30, wr30, rd64, wr64, rd65, wr65, rd67, wr67, rd68, wr68, rd69, wr69, rd70, wr70, rd71, wr71, rd72, wr72, rd73, wr73, rb4, rb66, wb4, wb66, rdR, wrR, lenR, len1, len21, ofNat_nI, not_true_eq_false, not_false_eq_true, zok1, zok0, Bool.false_eq_true, zpush_s, zpush_n, Option.bind_some, Option.bind_none, ite_true, ite_false, if_true, if_false, reduceIte, nI_add, pk_mul, ob0, ob2, ob3, ob22, ob25, ob63, Nat.reduceEqDiff, Nat.reduceAdd, Nat.reduceMul, Nat.reduceSub, jLeT, jLeF, jLtT, jLtF, jEqT, jEqF, jNeT, jNeF, iZF, iZT, nI_sub2, nI_dec, nLtT, nLtF, nLeT, nLeF, nEqF, nNeT, ob5, ob13, zbt_t, zbt_f, nI_shl, nI_or, Nat.or_zero, and_true, and_false, true_and, false_and, Nat.zero_ne_one, Nat.one_ne_zero]) (fun i j hi hp => by
    have ⟨_, _, b3, b4⟩ := hf.2.2.2.2.2 i hi
    have p1 := pfs_lt (u := 0) (so := 1) hf i (by omega)
    have p0 := pfs_lt (u := 0) (so := 0) hf i (by omega)
    unfold pff at hp
    rw [Bool.and_eq_true] at hp
    obtain ⟨hb, hp⟩ := hp
    (try dsimp only)
    rw [eX7_firstFalse_16]
    rcases (show a (15 + 4 * i) = 1 ∨ a (15 + 4 * i) = 0 by omega) with hq | hq <;> simp only [hq, if_true, Nat.zero_ne_one, if_false] at hp <;>
    simp (disch := omega) only [eX7_firstFalse_0, eX7_firstFalse_1, eX7_firstFalse_4, eX7_firstFalse_7, eX7_firstFalse_9, eX7_firstFalse_10, eX7_firstFalse_11, eX7_firstFalse_12, eX7_firstFalse_13, eX7_firstFalse_14, eX7_firstFalse_15, eX7_firstFalse_17, eX7_firstFalse_18, eX7_firstFalse_21, eX7_firstFalse_22, eX7_firstFalse_23, eX7_firstFalse_26, eX7_firstFalse_27, eX7_firstFalse_28, eX7_firstFalse_29, eX7_firstFalse_32, eX7_firstFalse_35, eX7_firstFalse_36, eX7_firstFalse_37, eX7_firstFalse_38, eX7_firstFalse_39, eX7_firstFalse_42, eX7_firstFalse_43, eX7_firstFalse_46, eX7_firstFalse_47, eX7_firstFalse_49, eX7_firstFalse_50, eX7_firstFalse_51, eX7_firstFalse_52, eX7_firstFalse_55, eX7_firstFalse_56, eX7_firstFalse_59, eX7_firstFalse_60, eX7_firstFalse_63, eX7_firstFalse_64, eX7_firstFalse_66, eX7_firstFalse_67, eX7_firstFalse_70, eX7_firstFalse_71, eX7_firstFalse_72, eX7_firstFalse_73, eX7_firstFalse_74, eX7_firstFalse_75, eX7_firstFalse_76, eX7_firstFalse_79, eX7_firstFalse_80, eX7_firstFalse_83, eX7_firstFalse_85, eX7_firstFalse_88, eX7_firstFalse_89, eX7_firstFalse_90, eX7_firstFalse_91, eX7_firstFalse_92, eX7_firstFalse_93, eX7_firstFalse_94, eX7_firstFalse_95, eX7_firstFalse_98, eX7_firstFalse_101, eX7_firstFalse_103, eX7_firstFalse_106, eX7_firstFalse_107, eX7_firstFalse_108, eX7_firstFalse_109, eX7_firstFalse_112, eX7_firstFalse_115, eX7_firstFalse_117, sm_isBound hm hf hi, sm_said2 hm hf hi, sm_said3 hm hf hi, nI_nz, nI_and, hp, hb, hq, hS, rd6, wr6, rd7, wr7, rd8, wr8, rd9, wr9, rd10, wr10, rd11, wr11, rd12, wr12, rd14, wr14, rd15, wr15, rd16, wr16, rd17, wr17, rd18, wr18, rd19, wr19, rd20, wr20, rd23, wr23, rd24, wr24, rd26, wr26, rd27, wr27, rd28, wr28, rd29, wr29, rd30, wr30, rd64, wr64, rd65, wr65, rd67, wr67, rd68, wr68, rd69, wr69, rd70, wr70, rd71, wr71, rd72, wr72, rd73, wr73, rb4, rb66, wb4, wb66, rdR, wrR, lenR, len1, len21, ofNat_nI, not_true_eq_false, not_false_eq_true, zok1, zok0, Bool.false_eq_true, zpush_s, zpush_n, Option.bind_some, Option.bind_none, ite_true, ite_false, if_true, if_false, reduceIte, nI_add, pk_mul, ob0, ob2, ob3, ob22, ob25, ob63, Nat.reduceEqDiff, Nat.reduceAdd, Nat.reduceMul, Nat.reduceSub, jLeT, jLeF, jLtT, jLtF, jEqT, jEqF, jNeT, jNeF, iZF, iZT, nI_sub2, nI_dec, nLtT, nLtF, nLeT, nLeF, nEqF, nNeT, ob5, ob13, zbt_t, zbt_f, nI_shl]) (fun j => by
    (try dsimp only)
    rw [eX7_firstFalse_16]
    simp (disch := omega) only [eX7_firstFalse_0, eX7_firstFalse_1, eX7_firstFalse_4, eX7_firstFalse_7, eX7_firstFalse_9, eX7_firstFalse_10, eX7_firstFalse_11, eX7_firstFalse_12, eX7_firstFalse_13, eX7_firstFalse_14, eX7_firstFalse_15, eX7_firstFalse_17, eX7_firstFalse_18, eX7_firstFalse_21, eX7_firstFalse_22, eX7_firstFalse_23, eX7_firstFalse_26, eX7_firstFalse_27, eX7_firstFalse_28, eX7_firstFalse_29, eX7_firstFalse_32, eX7_firstFalse_35, eX7_firstFalse_36, eX7_firstFalse_37, eX7_firstFalse_38, eX7_firstFalse_39, eX7_firstFalse_42, eX7_firstFalse_43, eX7_firstFalse_46, eX7_firstFalse_47, eX7_firstFalse_49, eX7_firstFalse_50, eX7_firstFalse_51, eX7_firstFalse_52, eX7_firstFalse_55, eX7_firstFalse_56, eX7_firstFalse_59, eX7_firstFalse_60, eX7_firstFalse_63, eX7_firstFalse_64, eX7_firstFalse_66, eX7_firstFalse_67, eX7_firstFalse_70, eX7_firstFalse_71, eX7_firstFalse_72, eX7_firstFalse_73, eX7_firstFalse_74, eX7_firstFalse_75, eX7_firstFalse_76, eX7_firstFalse_79, eX7_firstFalse_80, eX7_firstFalse_83, eX7_firstFalse_85, eX7_firstFalse_88, eX7_firstFalse_89, eX7_firstFalse_90, eX7_firstFalse_91, eX7_firstFalse_92, eX7_firstFalse_93, eX7_firstFalse_94, eX7_firstFalse_95, eX7_firstFalse_98, eX7_firstFalse_101, eX7_firstFalse_103, eX7_firstFalse_106, eX7_firstFalse_107, eX7_firstFalse_108, eX7_firstFalse_109, eX7_firstFalse_112, eX7_firstFalse_115, eX7_firstFalse_117, hS, rd6, wr6, rd7, wr7, rd8, wr8, rd9, wr9, rd10, wr10, rd11, wr11, rd12, wr12, rd14, wr14, rd15, wr15, rd16, wr16, rd17, wr17, rd18, wr18, rd19, wr19, rd20, wr20, rd23, wr23, rd24, wr24, rd26, wr26, rd27, wr27, rd28, wr28, rd29, wr29, rd30, wr30, rd64, wr64, rd65, wr65, rd67, wr67, rd68, wr68, rd69, wr69, rd70, wr70, rd71, wr71, rd72, wr72, rd73, wr73, rb4, rb66, wb4, wb66, rdR, wrR, lenR, len1, len21, ofNat_nI, not_true_eq_false, not_false_eq_true, zok1, zok0, Bool.false_eq_true, zpush_s, zpush_n, Option.bind_some, Option.bind_none, ite_true, ite_false, if_true, if_false, reduceIte, nI_add, pk_mul, ob0, ob2, ob3, ob22, ob25, ob63, Nat.reduceEqDiff, Nat.reduceAdd, Nat.reduceMul, Nat.reduceSub, jLeT, jLeF, jLtT, jLtF, jEqT, jEqF, jNeT, jNeF, iZF, iZT, nI_sub2, nI_dec, nLtT, nLtF, nLeT, nLeF, nEqF, nNeT, ob5, ob13]) zjk
  rw [nX7_firstFalse]
  simp (disch := omega) only [eX7_firstFalse_0, eX7_firstFalse_1, eX7_firstFalse_4, eX7_firstFalse_10, eX7_firstFalse_11, eX7_firstFalse_12, eX7_firstFalse_13, eX7_firstFalse_14, eX7_firstFalse_15, hv, not_true_eq_false, not_false_eq_true, zok1, zok0, Bool.false_eq_true, zpush_s, zpush_n, Option.bind_some, Option.bind_none, ite_true, ite_false, if_true, if_false, reduceIte, nI_add, pk_mul, ob0, ob2, ob3, ob22, ob25, ob63, Nat.reduceEqDiff, Nat.reduceAdd, Nat.reduceMul, Nat.reduceSub, jLeT, jLeF, jLtT, jLtF, jEqT, jEqF, jNeT, jNeF, iZF, iZT, nI_sub2, nI_dec, nLtT, nLtF, nLeT, nLeF, nEqF, nNeT, ob5, ob13]
  refine hl.trans ?_
  unfold zno
  split <;> rfl
theorem sp_firstC {d v : Nat} {μ : Zm} {a : Nat → Nat} (hv : zV v) (hc : CV μ v a) (hf : WF a) : zC true (d + 4) mX5_firstContradiction [.ref v] μ = some (some (.int (zno (nfst (pff a) (a 4)))), μ) := by
  have hS := hc.2.2.2.1
  have h4 := hf.2.2.2.1
  have h2 := hf.2.1
  have hin : ∀ i, i < a 4 → ∀ j, ∃ j', zA (d + 3) mX5_firstContradiction 12 [.ref v, .int (nI i), .int (nI 0), j] [] μ = if nfst (pfq a i) i = 999 then zA (d + 3) mX5_firstContradiction 2 [.ref v, .int (nI (i + 1)), .int (nI i), j'] [] μ else some (some (.int (nI i)), μ) := by
    intro i hi
    have ⟨_, _, l3, l4⟩ := hc.2.2.2.2.2 i hi
    have ⟨_, _, b3, b4⟩ := hf.2.2.2.2.2 i hi
    refine zfindJ (β := Value) (fun k j => zA (d + 3) mX5_firstContradiction 12 [.ref v, .int (nI i), .int (nI k), j] [] μ) (fun _ => some (some (.int (nI i)), μ)) (fun j => zA (d + 3) mX5_firstContradiction 2 [.ref v, .int (nI (i + 1)), .int (nI i), j] [] μ) (pfq a i) i (by omega) (fun k j hk hp => ?_) (fun k j hk hp => ?_) (fun j => ?_)
    · have ⟨_, _, m3, m4⟩ := hc.2.2.2.2.2 k (by omega)
      have ⟨_, _, c3, c4⟩ := hf.2.2.2.2.2 k (by omega)
      refine ⟨.int (zbt (decide (a (14 + 4 * k) = a (14 + 4 * i)) && decide (a (15 + 4 * k) ≠ a (15 + 4 * i)))), ?_⟩
      (try dsimp only)
      rw [eX5_firstContradiction_12]
      unfold pfq at hp
      by_cases q1 : a (14 + 4 * k) = a (14 + 4 * i) <;> by_cases q2 : a (15 + 4 * k) = a (15 + 4 * i) <;> cases q3 : pbd a 0 k <;> cases q4 : pbd a 0 i <;> simp only [q1, q2, q3, q4, ne_eq, not_true_eq_false, not_false_eq_true, decide_true, decide_false, Bool.and_self, Bool.and_true, Bool.true_and, Bool.false_and, Bool.and_false, Bool.true_eq_false] at hp <;>
      simp (disch := omega) only [eX5_firstContradiction_0, eX5_firstContradiction_1, eX5_firstContradiction_2, eX5_firstContradiction_3, eX5_firstContradiction_4, eX5_firstContradiction_7, eX5_firstContradiction_10, eX5_firstContradiction_11, eX5_firstContradiction_13, eX5_firstContradiction_14, eX5_firstContradiction_17, eX5_firstContradiction_18, eX5_firstContradiction_21, eX5_firstContradiction_22, eX5_firstContradiction_23, eX5_firstContradiction_24, eX5_firstContradiction_27, eX5_firstContradiction_28, eX5_firstContradiction_29, eX5_firstContradiction_32, eX5_firstContradiction_33, eX5_firstContradiction_36, eX5_firstContradiction_37, eX5_firstContradiction_38, eX5_firstContradiction_39, eX5_firstContradiction_42, eX5_firstContradiction_43, eX5_firstContradiction_44, eX5_firstContradiction_47, eX5_firstContradiction_48, eX5_firstContradiction_51, eX5_firstContradiction_52, eX5_firstContradiction_53, eX5_firstContradiction_54, eX5_firstContradiction_57, eX5_firstContradiction_58, eX5_firstContradiction_59, eX5_firstContradiction_60, eX5_firstContradiction_63, eX5_firstContradiction_66, eX5_firstContradiction_67, eX5_firstContradiction_68, eX5_firstContradiction_69, eX5_firstContradiction_72, eX5_firstContradiction_75, eX5_firstContradiction_76, eX5_firstContradiction_77, eX5_firstContradiction_80, eX5_firstContradiction_83, eX5_firstContradiction_86, eX5_firstContradiction_89, eX5_firstContradiction_91, sp_isBound hv hc hf (by omega : i < a 4), sp_isBound hv hc hf (by omega : k < a 4), obV hv, l3, l4, m3, m4, q1, q2, q3, q4, zrd_n (zshV hv).2.2.2.2.2.1, zrd_n (zshV hv).2.2.2.2.2.2, not_true_eq_false, not_false_eq_true, zok1, zok0, Bool.false_eq_true, zpush_s, zpush_n, Option.bind_some, Option.bind_none, ite_true, ite_false, if_true, if_false, reduceIte, nI_add, pk_mul, ob0, ob2, ob3, ob22, ob25, ob63, Nat.reduceEqDiff, Nat.reduceAdd, Nat.reduceMul, Nat.reduceSub, jLeT, jLeF, jLtT, jLtF, jEqT, jEqF, jNeT, jNeF, iZF, iZT, nI_sub2, nI_dec, nLtT, nLtF, nLeT, nLeF, nEqF, nNeT, ob5, ob13, zbt_t, zbt_f, ne_eq, decide_true, decide_false, Bool.and_self, Bool.and_true, Bool.true_and, Bool.false_and, Bool.and_false]
    · have ⟨_, _, m3, m4⟩ := hc.2.2.2.2.2 k (by omega)
      have ⟨_, _, c3, c4⟩ := hf.2.2.2.2.2 k (by omega)
      unfold pfq at hp
      simp only [Bool.and_eq_true, decide_eq_true_eq] at hp
      obtain ⟨⟨q1, q2⟩, q3, q4⟩ := hp
      (try dsimp only)
      rw [eX5_firstContradiction_12]
      simp (disch := omega) only [eX5_firstContradiction_0, eX5_firstContradiction_1, eX5_firstContradiction_2, eX5_firstContradiction_3, eX5_firstContradiction_4, eX5_firstContradiction_7, eX5_firstContradiction_10, eX5_firstContradiction_11, eX5_firstContradiction_13, eX5_firstContradiction_14, eX5_firstContradiction_17, eX5_firstContradiction_18, eX5_firstContradiction_21, eX5_firstContradiction_22, eX5_firstContradiction_23, eX5_firstContradiction_24, eX5_firstContradiction_27, eX5_firstContradiction_28, eX5_firstContradiction_29, eX5_firstContradiction_32, eX5_firstContradiction_33, eX5_firstContradiction_36, eX5_firstContradiction_37, eX5_firstContradiction_38, eX5_firstContradiction_39, eX5_firstContradiction_42, eX5_firstContradiction_43, eX5_firstContradiction_44, eX5_firstContradiction_47, eX5_firstContradiction_48, eX5_firstContradiction_51, eX5_firstContradiction_52, eX5_firstContradiction_53, eX5_firstContradiction_54, eX5_firstContradiction_57, eX5_firstContradiction_58, eX5_firstContradiction_59, eX5_firstContradiction_60, eX5_firstContradiction_63, eX5_firstContradiction_66, eX5_firstContradiction_67, eX5_firstContradiction_68, eX5_firstContradiction_69, eX5_firstContradiction_72, eX5_firstContradiction_75, eX5_firstContradiction_76, eX5_firstContradiction_77, eX5_firstContradiction_80, eX5_firstContradiction_83, eX5_firstContradiction_86, eX5_firstContradiction_89, eX5_firstContradiction_91, sp_isBound hv hc hf (by omega : i < a 4), sp_isBound hv hc hf (by omega : k < a 4), obV hv, l3, l4, m3, m4, q1, q2, q3, q4, zrd_n (zshV hv).2.2.2.2.2.1, zrd_n (zshV hv).2.2.2.2.2.2, not_true_eq_false, not_false_eq_true, zok1, zok0, Bool.false_eq_true, zpush_s, zpush_n, Option.bind_some, Option.bind_none, ite_true, ite_false, if_true, if_false, reduceIte, nI_add, pk_mul, ob0, ob2, ob3, ob22, ob25, ob63, Nat.reduceEqDiff, Nat.reduceAdd, Nat.reduceMul, Nat.reduceSub, jLeT, jLeF, jLtT, jLtF, jEqT, jEqF, jNeT, jNeF, iZF, iZT, nI_sub2, nI_dec, nLtT, nLtF, nLeT, nLeF, nEqF, nNeT, ob5, ob13, zbt_t, zbt_f]
    · (try dsimp only)
      rw [eX5_firstContradiction_12]
      simp (disch := omega) only [eX5_firstContradiction_0, eX5_firstContradiction_1, eX5_firstContradiction_3, eX5_firstContradiction_4, eX5_firstContradiction_7, eX5_firstContradiction_10, eX5_firstContradiction_11, eX5_firstContradiction_13, eX5_firstContradiction_14, eX5_firstContradiction_17, eX5_firstContradiction_18, eX5_firstContradiction_21, eX5_firstContradiction_22, eX5_firstContradiction_23, eX5_firstContradiction_24, eX5_firstContradiction_27, eX5_firstContradiction_28, eX5_firstContradiction_29, eX5_firstContradiction_32, eX5_firstContradiction_33, eX5_firstContradiction_36, eX5_firstContradiction_37, eX5_firstContradiction_38, eX5_firstContradiction_39, eX5_firstContradiction_42, eX5_firstContradiction_43, eX5_firstContradiction_44, eX5_firstContradiction_47, eX5_firstContradiction_48, eX5_firstContradiction_51, eX5_firstContradiction_52, eX5_firstContradiction_53, eX5_firstContradiction_54, eX5_firstContradiction_57, eX5_firstContradiction_58, eX5_firstContradiction_59, eX5_firstContradiction_60, eX5_firstContradiction_63, eX5_firstContradiction_66, eX5_firstContradiction_67, eX5_firstContradiction_68, eX5_firstContradiction_69, eX5_firstContradiction_72, eX5_firstContradiction_75, eX5_firstContradiction_76, eX5_firstContradiction_77, eX5_firstContradiction_80, eX5_firstContradiction_83, eX5_firstContradiction_86, eX5_firstContradiction_89, eX5_firstContradiction_91, obV hv, not_true_eq_false, not_false_eq_true, zok1, zok0, Bool.false_eq_true, zpush_s, zpush_n, Option.bind_some, Option.bind_none, ite_true, ite_false, if_true, if_false, reduceIte, nI_add, pk_mul, ob0, ob2, ob3, ob22, ob25, ob63, Nat.reduceEqDiff, Nat.reduceAdd, Nat.reduceMul, Nat.reduceSub, jLeT, jLeF, jLtT, jLtF, jEqT, jEqF, jNeT, jNeF, iZF, iZT, nI_sub2, nI_dec, nLtT, nLtF, nLeT, nLeF, nEqF, nNeT, ob5, ob13]
  obtain ⟨j', hl⟩ := zfindJ (β := Value × Value) (fun i j => zA (d + 3) mX5_firstContradiction 2 [.ref v, .int (nI i), j.1, j.2] [] μ) (fun i => some (some (.int (nI i)), μ)) (fun _ => some (some (.int (-1000000)), μ)) (fun i => decide (nfst (pfq a i) i ≠ 999)) (a 4) (by omega) (fun i j hi hp => by
    have q : nfst (pfq a i) i = 999 := by
      by_cases q : nfst (pfq a i) i = 999
      · exact q
      · rw [decide_eq_true q] at hp
        cases hp
    obtain ⟨j', q2⟩ := hin i hi j.2
    rw [if_pos q] at q2
    refine ⟨⟨.int (nI i), j'⟩, ?_⟩
    (try dsimp only)
    rw [eX5_firstContradiction_2]
    simp (disch := omega) only [eX5_firstContradiction_0, eX5_firstContradiction_1, eX5_firstContradiction_3, eX5_firstContradiction_4, eX5_firstContradiction_7, eX5_firstContradiction_10, eX5_firstContradiction_11, eX5_firstContradiction_13, eX5_firstContradiction_14, eX5_firstContradiction_17, eX5_firstContradiction_18, eX5_firstContradiction_21, eX5_firstContradiction_22, eX5_firstContradiction_23, eX5_firstContradiction_24, eX5_firstContradiction_27, eX5_firstContradiction_28, eX5_firstContradiction_29, eX5_firstContradiction_32, eX5_firstContradiction_33, eX5_firstContradiction_36, eX5_firstContradiction_37, eX5_firstContradiction_38, eX5_firstContradiction_39, eX5_firstContradiction_42, eX5_firstContradiction_43, eX5_firstContradiction_44, eX5_firstContradiction_47, eX5_firstContradiction_48, eX5_firstContradiction_51, eX5_firstContradiction_52, eX5_firstContradiction_53, eX5_firstContradiction_54, eX5_firstContradiction_57, eX5_firstContradiction_58, eX5_firstContradiction_59, eX5_firstContradiction_60, eX5_firstContradiction_63, eX5_firstContradiction_66, eX5_firstContradiction_67, eX5_firstContradiction_68, eX5_firstContradiction_69, eX5_firstContradiction_72, eX5_firstContradiction_75, eX5_firstContradiction_76, eX5_firstContradiction_77, eX5_firstContradiction_80, eX5_firstContradiction_83, eX5_firstContradiction_86, eX5_firstContradiction_89, eX5_firstContradiction_91, obV hv, hS, q2, not_true_eq_false, not_false_eq_true, zok1, zok0, Bool.false_eq_true, zpush_s, zpush_n, Option.bind_some, Option.bind_none, ite_true, ite_false, if_true, if_false, reduceIte, nI_add, pk_mul, ob0, ob2, ob3, ob22, ob25, ob63, Nat.reduceEqDiff, Nat.reduceAdd, Nat.reduceMul, Nat.reduceSub, jLeT, jLeF, jLtT, jLtF, jEqT, jEqF, jNeT, jNeF, iZF, iZT, nI_sub2, nI_dec, nLtT, nLtF, nLeT, nLeF, nEqF, nNeT, ob5, ob13]) (fun i j hi hp => by
    have q : nfst (pfq a i) i ≠ 999 := of_decide_eq_true hp
    obtain ⟨j', q2⟩ := hin i hi j.2
    rw [if_neg q] at q2
    (try dsimp only)
    rw [eX5_firstContradiction_2]
    simp (disch := omega) only [eX5_firstContradiction_0, eX5_firstContradiction_1, eX5_firstContradiction_3, eX5_firstContradiction_4, eX5_firstContradiction_7, eX5_firstContradiction_10, eX5_firstContradiction_11, eX5_firstContradiction_13, eX5_firstContradiction_14, eX5_firstContradiction_17, eX5_firstContradiction_18, eX5_firstContradiction_21, eX5_firstContradiction_22, eX5_firstContradiction_23, eX5_firstContradiction_24, eX5_firstContradiction_27, eX5_firstContradiction_28, eX5_firstContradiction_29, eX5_firstContradiction_32, eX5_firstContradiction_33, eX5_firstContradiction_36, eX5_firstContradiction_37, eX5_firstContradiction_38, eX5_firstContradiction_39, eX5_firstContradiction_42, eX5_firstContradiction_43, eX5_firstContradiction_44, eX5_firstContradiction_47, eX5_firstContradiction_48, eX5_firstContradiction_51, eX5_firstContradiction_52, eX5_firstContradiction_53, eX5_firstContradiction_54, eX5_firstContradiction_57, eX5_firstContradiction_58, eX5_firstContradiction_59, eX5_firstContradiction_60, eX5_firstContradiction_63, eX5_firstContradiction_66, eX5_firstContradiction_67, eX5_firstContradiction_68, eX5_firstContradiction_69, eX5_firstContradiction_72, eX5_firstContradiction_75, eX5_firstContradiction_76, eX5_firstContradiction_77, eX5_firstContradiction_80, eX5_firstContradiction_83, eX5_firstContradiction_86, eX5_firstContradiction_89, eX5_firstContradiction_91, obV hv, hS, q2, not_true_eq_false, not_false_eq_true, zok1, zok0, Bool.false_eq_true, zpush_s, zpush_n, Option.bind_some, Option.bind_none, ite_true, ite_false, if_true, if_false, reduceIte, nI_add, pk_mul, ob0, ob2, ob3, ob22, ob25, ob63, Nat.reduceEqDiff, Nat.reduceAdd, Nat.reduceMul, Nat.reduceSub, jLeT, jLeF, jLtT, jLtF, jEqT, jEqF, jNeT, jNeF, iZF, iZT, nI_sub2, nI_dec, nLtT, nLtF, nLeT, nLeF, nEqF, nNeT, ob5, ob13]) (fun j => by
    (try dsimp only)
    rw [eX5_firstContradiction_2]
    simp (disch := omega) only [eX5_firstContradiction_0, eX5_firstContradiction_1, eX5_firstContradiction_3, eX5_firstContradiction_4, eX5_firstContradiction_7, eX5_firstContradiction_10, eX5_firstContradiction_11, eX5_firstContradiction_13, eX5_firstContradiction_14, eX5_firstContradiction_17, eX5_firstContradiction_18, eX5_firstContradiction_21, eX5_firstContradiction_22, eX5_firstContradiction_23, eX5_firstContradiction_24, eX5_firstContradiction_27, eX5_firstContradiction_28, eX5_firstContradiction_29, eX5_firstContradiction_32, eX5_firstContradiction_33, eX5_firstContradiction_36, eX5_firstContradiction_37, eX5_firstContradiction_38, eX5_firstContradiction_39, eX5_firstContradiction_42, eX5_firstContradiction_43, eX5_firstContradiction_44, eX5_firstContradiction_47, eX5_firstContradiction_48, eX5_firstContradiction_51, eX5_firstContradiction_52, eX5_firstContradiction_53, eX5_firstContradiction_54, eX5_firstContradiction_57, eX5_firstContradiction_58, eX5_firstContradiction_59, eX5_firstContradiction_60, eX5_firstContradiction_63, eX5_firstContradiction_66, eX5_firstContradiction_67, eX5_firstContradiction_68, eX5_firstContradiction_69, eX5_firstContradiction_72, eX5_firstContradiction_75, eX5_firstContradiction_76, eX5_firstContradiction_77, eX5_firstContradiction_80, eX5_firstContradiction_83, eX5_firstContradiction_86, eX5_firstContradiction_89, eX5_firstContradiction_91, obV hv, hS, not_true_eq_false, not_false_eq_true, zok1, zok0, Bool.false_eq_true, zpush_s, zpush_n, Option.bind_some, Option.bind_none, ite_true, ite_false, if_true, if_false, reduceIte, nI_add, pk_mul, ob0, ob2, ob3, ob22, ob25, ob63, Nat.reduceEqDiff, Nat.reduceAdd, Nat.reduceMul, Nat.reduceSub, jLeT, jLeF, jLtT, jLtF, jEqT, jEqF, jNeT, jNeF, iZF, iZT, nI_sub2, nI_dec, nLtT, nLtF, nLeT, nLeF, nEqF, nNeT, ob5, ob13]) ⟨zjk, zjk⟩
  rw [nX5_firstContradiction]
  simp only [eX5_firstContradiction_0, eX5_firstContradiction_1]
  refine hl.trans ?_
  rw [nfst_congr (a 4) (fun i hi => pff_q hf hi)]
  unfold zno
  split <;> rfl
theorem sm_lines {d : Nat} {μ : Zm} {a : Nat → Nat} (hm : MS μ a) (hf : WF a) : zC true (d + 1) mX7_lines [.ref 63] μ = some (some (.int (nI (nsum (fun w => a (60 + w)) (a 3)))), μ) := by
  have hW := hm.2.2.2.1
  have h3 := hf.2.2.1
  have hl := zloop (fun i => zA d mX7_lines 4 [.ref 63, .int (nI (nsum (fun w => a (60 + w)) i)), .int (nI i)] [] μ) (a 3) (fun i hi => by
    have l2 := (hm.2.2.2.2.2.1 i hi).2.1
    rw [eX7_lines_4]
    simp (disch := omega) only [eX7_lines_0, eX7_lines_1, eX7_lines_2, eX7_lines_3, eX7_lines_5, eX7_lines_6, eX7_lines_9, eX7_lines_10, eX7_lines_11, eX7_lines_14, eX7_lines_15, eX7_lines_16, eX7_lines_19, eX7_lines_21, eX7_lines_22, eX7_lines_23, eX7_lines_24, eX7_lines_25, eX7_lines_26, eX7_lines_29, eX7_lines_32, eX7_lines_33, hW, l2, rd6, wr6, rd7, wr7, rd8, wr8, rd9, wr9, rd10, wr10, rd11, wr11, rd12, wr12, rd14, wr14, rd15, wr15, rd16, wr16, rd17, wr17, rd18, wr18, rd19, wr19, rd20, wr20, rd23, wr23, rd24, wr24, rd26, wr26, rd27, wr27, rd28, wr28, rd29, wr29, rd30, wr30, rd64, wr64, rd65, wr65, rd67, wr67, rd68, wr68, rd69, wr69, rd70, wr70, rd71, wr71, rd72, wr72, rd73, wr73, rb4, rb66, wb4, wb66, rdR, wrR, lenR, len1, len21, ofNat_nI, not_true_eq_false, not_false_eq_true, zok1, zok0, Bool.false_eq_true, zpush_s, zpush_n, Option.bind_some, Option.bind_none, ite_true, ite_false, if_true, if_false, reduceIte, nI_add, pk_mul, ob0, ob2, ob3, ob22, ob25, ob63, Nat.reduceEqDiff, Nat.reduceAdd, Nat.reduceMul, Nat.reduceSub, jLeT, jLeF, jLtT, jLtF, jEqT, jEqF, jNeT, jNeF, iZF, iZT, nI_sub2, nI_dec, nLtT, nLtF, nLeT, nLeF, nEqF, nNeT, ob5, ob13, nsum])
  have hx : zA d mX7_lines 4 [.ref 63, .int (nI (nsum (fun w => a (60 + w)) (a 3))), .int (nI (a 3))] [] μ = some (some (.int (nI (nsum (fun w => a (60 + w)) (a 3)))), μ) := by
    rw [eX7_lines_4]
    simp (disch := omega) only [eX7_lines_0, eX7_lines_1, eX7_lines_2, eX7_lines_3, eX7_lines_5, eX7_lines_6, eX7_lines_9, eX7_lines_10, eX7_lines_11, eX7_lines_14, eX7_lines_15, eX7_lines_16, eX7_lines_19, eX7_lines_21, eX7_lines_22, eX7_lines_23, eX7_lines_24, eX7_lines_25, eX7_lines_26, eX7_lines_29, eX7_lines_32, eX7_lines_33, hW, rd6, wr6, rd7, wr7, rd8, wr8, rd9, wr9, rd10, wr10, rd11, wr11, rd12, wr12, rd14, wr14, rd15, wr15, rd16, wr16, rd17, wr17, rd18, wr18, rd19, wr19, rd20, wr20, rd23, wr23, rd24, wr24, rd26, wr26, rd27, wr27, rd28, wr28, rd29, wr29, rd30, wr30, rd64, wr64, rd65, wr65, rd67, wr67, rd68, wr68, rd69, wr69, rd70, wr70, rd71, wr71, rd72, wr72, rd73, wr73, rb4, rb66, wb4, wb66, rdR, wrR, lenR, len1, len21, ofNat_nI, not_true_eq_false, not_false_eq_true, zok1, zok0, Bool.false_eq_true, zpush_s, zpush_n, Option.bind_some, Option.bind_none, ite_true, ite_false, if_true, if_false, reduceIte, nI_add, pk_mul, ob0, ob2, ob3, ob22, ob25, ob63, Nat.reduceEqDiff, Nat.reduceAdd, Nat.reduceMul, Nat.reduceSub, jLeT, jLeF, jLtT, jLtF, jEqT, jEqF, jNeT, jNeF, iZF, iZT, nI_sub2, nI_dec, nLtT, nLtF, nLeT, nLeF, nEqF, nNeT, ob5, ob13]
  rw [nX7_lines]
  simp only [eX7_lines_0, eX7_lines_1, eX7_lines_2, eX7_lines_3]
  exact hl.trans hx
theorem sm_bound {d : Nat} {μ : Zm} {a : Nat → Nat} (hm : MS μ a) (hf : WF a) : zC true (d + 5) mX7_bound [.ref 63] μ = some (some (.int (nI (nct (pbd a 0) (a 4)))), μ) := by
  have hS := hm.2.2.2.2.1
  have h4 := hf.2.2.2.1
  have hl := zloop (fun i => zA (d + 4) mX7_bound 4 [.ref 63, .int (nI (nct (pbd a 0) i)), .int (nI i)] [] μ) (a 4) (fun i hi => by
    rw [eX7_bound_4]
    cases hp : pbd a 0 i <;>
    simp (disch := omega) only [eX7_bound_0, eX7_bound_1, eX7_bound_2, eX7_bound_3, eX7_bound_5, eX7_bound_6, eX7_bound_9, eX7_bound_10, eX7_bound_11, eX7_bound_14, eX7_bound_15, eX7_bound_16, eX7_bound_17, eX7_bound_18, eX7_bound_21, eX7_bound_24, eX7_bound_25, eX7_bound_28, eX7_bound_29, eX7_bound_30, eX7_bound_31, eX7_bound_34, eX7_bound_37, eX7_bound_38, sm_isBound hm hf hi, hS, hp, rd6, wr6, rd7, wr7, rd8, wr8, rd9, wr9, rd10, wr10, rd11, wr11, rd12, wr12, rd14, wr14, rd15, wr15, rd16, wr16, rd17, wr17, rd18, wr18, rd19, wr19, rd20, wr20, rd23, wr23, rd24, wr24, rd26, wr26, rd27, wr27, rd28, wr28, rd29, wr29, rd30, wr30, rd64, wr64, rd65, wr65, rd67, wr67, rd68, wr68, rd69, wr69, rd70, wr70, rd71, wr71, rd72, wr72, rd73, wr73, rb4, rb66, wb4, wb66, rdR, wrR, lenR, len1, len21, ofNat_nI, not_true_eq_false, not_false_eq_true, zok1, zok0, Bool.false_eq_true, zpush_s, zpush_n, Option.bind_some, Option.bind_none, ite_true, ite_false, if_true, if_false, reduceIte, nI_add, pk_mul, ob0, ob2, ob3, ob22, ob25, ob63, Nat.reduceEqDiff, Nat.reduceAdd, Nat.reduceMul, Nat.reduceSub, jLeT, jLeF, jLtT, jLtF, jEqT, jEqF, jNeT, jNeF, iZF, iZT, nI_sub2, nI_dec, nLtT, nLtF, nLeT, nLeF, nEqF, nNeT, ob5, ob13, zbt_t, zbt_f, nct, Nat.add_zero])
  have hx : zA (d + 4) mX7_bound 4 [.ref 63, .int (nI (nct (pbd a 0) (a 4))), .int (nI (a 4))] [] μ = some (some (.int (nI (nct (pbd a 0) (a 4)))), μ) := by
    rw [eX7_bound_4]
    simp (disch := omega) only [eX7_bound_0, eX7_bound_1, eX7_bound_2, eX7_bound_3, eX7_bound_5, eX7_bound_6, eX7_bound_9, eX7_bound_10, eX7_bound_11, eX7_bound_14, eX7_bound_15, eX7_bound_16, eX7_bound_17, eX7_bound_18, eX7_bound_21, eX7_bound_24, eX7_bound_25, eX7_bound_28, eX7_bound_29, eX7_bound_30, eX7_bound_31, eX7_bound_34, eX7_bound_37, eX7_bound_38, hS, rd6, wr6, rd7, wr7, rd8, wr8, rd9, wr9, rd10, wr10, rd11, wr11, rd12, wr12, rd14, wr14, rd15, wr15, rd16, wr16, rd17, wr17, rd18, wr18, rd19, wr19, rd20, wr20, rd23, wr23, rd24, wr24, rd26, wr26, rd27, wr27, rd28, wr28, rd29, wr29, rd30, wr30, rd64, wr64, rd65, wr65, rd67, wr67, rd68, wr68, rd69, wr69, rd70, wr70, rd71, wr71, rd72, wr72, rd73, wr73, rb4, rb66, wb4, wb66, rdR, wrR, lenR, len1, len21, ofNat_nI, not_true_eq_false, not_false_eq_true, zok1, zok0, Bool.false_eq_true, zpush_s, zpush_n, Option.bind_some, Option.bind_none, ite_true, ite_false, if_true, if_false, reduceIte, nI_add, pk_mul, ob0, ob2, ob3, ob22, ob25, ob63, Nat.reduceEqDiff, Nat.reduceAdd, Nat.reduceMul, Nat.reduceSub, jLeT, jLeF, jLtT, jLtF, jEqT, jEqF, jNeT, jNeF, iZF, iZT, nI_sub2, nI_dec, nLtT, nLtF, nLeT, nLeF, nEqF, nNeT, ob5, ob13]
  rw [nX7_bound]
  simp only [eX7_bound_0, eX7_bound_1, eX7_bound_2, eX7_bound_3]
  exact hl.trans hx
