/-! ===== wear: the class, dressed ===== -/
theorem pfw_lt {a : Nat → Nat} {t j s : Nat} (hf : WF a) : pfw a t j s = 999 ∨ pfw a t j s < a 3 := by
  have h3 := hf.2.2.1
  unfold pfw
  by_cases q : pM a t j s = pM a t (j + 1) s
  · left; rw [if_pos q]
  · rw [if_neg q]
    by_cases q2 : nfst (fun w => (pcw a t (a 1 - (j + 1)) w && !s.testBit w) && decide (pwarm a w + pM a t j (s ||| 2 ^ w) = pM a t (j + 1) s)) (a 3) = 999
    · exact Or.inl q2
    · exact Or.inr (nfst_s (a 3) (by omega) q2).1
theorem ptk_b {a : Nat → Nat} {t : Nat} (hf : WF a) : ∀ k, ptk a t k < 2 ^ a 3 ∧ npop (ptk a t k) ≤ k
  | 0 => ⟨Nat.two_pow_pos _, by rw [ptk]; decide⟩
  | k + 1 => by
    have ⟨h1, h2⟩ := ptk_b (t := t) hf k
    have h3 := hf.2.2.1
    have h128 := pw128 hf
    rw [ptk]
    split
    · exact ⟨h1, by omega⟩
    · next q =>
      have hw := (pfw_lt (t := t) (j := a 1 - (k + 1)) (s := ptk a t k) hf).resolve_left q
      refine ⟨Nat.or_lt_two_pow h1 (Nat.pow_lt_pow_right (by omega) hw), ?_⟩
      have := npop_or ⟨ptk a t k, by omega⟩ ⟨pfw a t (a 1 - (k + 1)) (ptk a t k), by omega⟩
      dsimp only at this
      omega
theorem FC_up {μ μ' : Zm} {a : Nat → Nat} {t c i : Nat} {x : Int32} (h : c = 28 ∨ c = 29 ∨ (c = 25 ∧ i = 6)) (hF : FC μ μ' a t) : FC μ (zup μ' c i x) a t := by
  obtain ⟨h1, h2, h3, h4, h5⟩ := hF
  refine ⟨fun c' i' q => ?_, ?_, ?_, fun w hw => ?_, fun k hk => ?_⟩
  · rw [zup_o (by omega)]; exact h1 _ _ q
  · rw [zup_o (by omega)]; exact h2
  · rw [zup_o (by omega)]; exact h3
  · rw [zup_o (by omega)]; exact h4 w hw
  · rw [zup_o (by omega)]; exact h5 k hk
set_option maxRecDepth 100000 in
set_option maxHeartbeats 4000000 in
theorem sp_dress {d t : Nat} {μ : Zm} {a : Nat → Nat} (hc : CV μ 5 a) (hf : WF a) (h0 : a 1 ≠ 0) (ht : t < 32) : ∃ μ', zC true (d + 5) mX1_dress [.ref 25, .ref 5, .int (nI t)] μ = some (none, μ') ∧ (∀ c i, c < 25 ∨ 29 < c → μ' c i = μ c i) ∧ μ' 25 6 = nI (pM a t (a 1) 0) ∧ ∀ k, k < a 1 → μ' 29 k = zn1 (pfw a t (a 1 - (k + 1)) (ptk a t k)) := by
  have h1 := hf.1
  have h3 := hf.2.2.1
  have h128 := pw128 hf
  have hm1 : (-1 : Int32).toInt < 0 := by decide
  obtain ⟨μ1, ho, hF1⟩ := sp_open (d := d) (t := t) hc hf ht
  -- the last row is 0
  have hz : ∃ μ2, (FC μ μ2 a t ∧ LV μ2 a t (a 1) 0) ∧ zA (d + 4) mX1_dress 8 [.ref 25, .ref 5, .int (nI t), .int (nI 0), zjk] [] μ1 = zA (d + 4) mX1_dress 8 [.ref 25, .ref 5, .int (nI t), .int (nI (2 ^ a 3)), zjk] [] μ2 := by
    obtain ⟨μ2, ⟨hF2, hz2⟩, he⟩ := zloopP (fun i (m : Zm) => zA (d + 4) mX1_dress 8 [.ref 25, .ref 5, .int (nI t), .int (nI i), zjk] [] m) (fun i m => FC μ m a t ∧ ∀ s, s < i → m 28 (a 1 * 128 + s) = nI 0) (2 ^ a 3) (fun i m hi hP => by
      obtain ⟨hF, hz⟩ := hP
      have hK := hF.2.1
      have hW := hF.2.2.1
      refine ⟨zup m 28 (a 1 * 128 + i) (nI 0), ⟨FC_up (by omega) hF, fun s hs => ?_⟩, ?_⟩
      · by_cases e : s = i
        · rw [e, zup_s rfl rfl]
        · rw [zup_o (by omega)]
          exact hz s (by omega)
      · (try dsimp only)
        rw [eX1_dress_8]
        simp (disch := omega) only [eX1_dress_0, eX1_dress_1, eX1_dress_2, eX1_dress_3, eX1_dress_6, eX1_dress_7, eX1_dress_9, eX1_dress_10, eX1_dress_11, eX1_dress_14, eX1_dress_15, eX1_dress_18, eX1_dress_19, eX1_dress_22, eX1_dress_23, eX1_dress_26, eX1_dress_29, eX1_dress_30, eX1_dress_31, eX1_dress_32, eX1_dress_33, eX1_dress_34, eX1_dress_37, eX1_dress_41, eX1_dress_44, eX1_dress_45, eX1_dress_46, eX1_dress_47, eX1_dress_48, eX1_dress_51, eX1_dress_52, eX1_dress_54, eX1_dress_56, eX1_dress_57, eX1_dress_58, eX1_dress_61, eX1_dress_62, eX1_dress_65, eX1_dress_67, eX1_dress_70, eX1_dress_71, eX1_dress_74, eX1_dress_75, eX1_dress_78, eX1_dress_79, eX1_dress_82, eX1_dress_83, eX1_dress_85, eX1_dress_86, eX1_dress_87, eX1_dress_88, eX1_dress_90, eX1_dress_93, eX1_dress_94, eX1_dress_97, eX1_dress_100, eX1_dress_103, eX1_dress_106, eX1_dress_107, eX1_dress_108, eX1_dress_111, eX1_dress_112, eX1_dress_113, eX1_dress_116, eX1_dress_117, eX1_dress_118, eX1_dress_119, eX1_dress_121, eX1_dress_123, eX1_dress_124, eX1_dress_127, eX1_dress_130, eX1_dress_131, eX1_dress_134, eX1_dress_136, eX1_dress_137, eX1_dress_139, eX1_dress_140, eX1_dress_143, eX1_dress_144, eX1_dress_145, eX1_dress_148, eX1_dress_150, eX1_dress_151, eX1_dress_152, eX1_dress_155, eX1_dress_156, eX1_dress_157, eX1_dress_158, eX1_dress_161, eX1_dress_163, eX1_dress_164, eX1_dress_165, eX1_dress_166, eX1_dress_167, eX1_dress_170, eX1_dress_173, hK, hW, nI_shl, rd6, wr6, rd7, wr7, rd8, wr8, rd9, wr9, rd10, wr10, rd11, wr11, rd12, wr12, rd14, wr14, rd15, wr15, rd16, wr16, rd17, wr17, rd18, wr18, rd19, wr19, rd20, wr20, rd23, wr23, rd24, wr24, rd26, wr26, rd27, wr27, rd28, wr28, rd29, wr29, rd30, wr30, rd64, wr64, rd65, wr65, rd67, wr67, rd68, wr68, rd69, wr69, rd70, wr70, rd71, wr71, rd72, wr72, rd73, wr73, rb4, rb66, wb4, wb66, rdR, wrR, lenR, len1, len21, ofNat_nI, not_true_eq_false, not_false_eq_true, zok1, zok0, Bool.false_eq_true, zpush_s, zpush_n, Option.bind_some, Option.bind_none, ite_true, ite_false, if_true, if_false, reduceIte, nI_add, pk_mul, ob0, ob2, ob3, ob22, ob25, ob63, Nat.reduceEqDiff, Nat.reduceAdd, Nat.reduceMul, Nat.reduceSub, jLeT, jLeF, jLtT, jLtF, jEqT, jEqF, jNeT, jNeF, iZF, iZT, nI_sub2, nI_dec, nLtT, nLtF, nLeT, nLeF, nEqF, nNeT, ob5, ob13]) μ1 ⟨hF1, fun s hs => by omega⟩
    exact ⟨μ2, ⟨hF2, fun s hs _ => by rw [hz2 s hs, pM]⟩, he⟩
  obtain ⟨μ2, ⟨hF2, hL2⟩, he2⟩ := hz
  -- the rows above
  have hin : ∀ j, j < a 1 → ∀ m l4, (FC μ m a t ∧ ∀ j', j' ≤ j → LV m a t (a 1 - j') j') → ∃ m', (FC μ m' a t ∧ ∀ j', j' ≤ j + 1 → LV m' a t (a 1 - j') j') ∧ zA (d + 4) mX1_dress 47 [.ref 25, .ref 5, .int (nI t), .int (nI (a 1 - (j + 1))), l4] [] m = zA (d + 4) mX1_dress 47 [.ref 25, .ref 5, .int (nI t), .int (nI (a 1 - (j + 1)) + (-1 : Int32)), .int (nI (2 ^ a 3))] [] m' := by
    intro j hj m l4 ⟨hF, hL⟩
    obtain ⟨m', ⟨hF', hL', hN'⟩, he⟩ := zloopP (fun i (m : Zm) => zA (d + 4) mX1_dress 54 [.ref 25, .ref 5, .int (nI t), .int (nI (a 1 - (j + 1))), .int (nI i)] [] m) (fun i m => FC μ m a t ∧ (∀ j', j' ≤ j → LV m a t (a 1 - j') j') ∧ ∀ s, s < i → npop s ≤ a 1 - (j + 1) → m 28 ((a 1 - (j + 1)) * 128 + s) = nI (pM a t (j + 1) s)) (2 ^ a 3) (fun i m hi hP => by
      obtain ⟨hF, hL, hN⟩ := hP
      have hW := hF.2.2.1
      have hpi : npop i ≤ 7 := nct_le _
      have hLj := hL j (Nat.le_refl _)
      have ek : a 1 - j = (a 1 - (j + 1)) + 1 := by omega
      rw [ek] at hLj
      by_cases q : npop i ≤ a 1 - (j + 1)
      · refine ⟨zup m 28 ((a 1 - (j + 1)) * 128 + i) (nI (pM a t (j + 1) i)), ⟨FC_up (by omega) hF, fun j' hj' s hs hp => ?_, fun s hs hp => ?_⟩, ?_⟩
        · rw [zup_o (by omega)]
          exact hL j' hj' s hs hp
        · by_cases e : s = i
          · rw [e, zup_s rfl rfl]
          · rw [zup_o (by omega)]
            exact hN s (by omega) hp
        · (try dsimp only)
          rw [eX1_dress_54]
          simp (disch := omega) only [eX1_dress_0, eX1_dress_1, eX1_dress_2, eX1_dress_3, eX1_dress_6, eX1_dress_7, eX1_dress_8, eX1_dress_9, eX1_dress_10, eX1_dress_11, eX1_dress_14, eX1_dress_15, eX1_dress_18, eX1_dress_19, eX1_dress_22, eX1_dress_23, eX1_dress_26, eX1_dress_29, eX1_dress_30, eX1_dress_31, eX1_dress_32, eX1_dress_33, eX1_dress_34, eX1_dress_37, eX1_dress_40, eX1_dress_41, eX1_dress_44, eX1_dress_45, eX1_dress_46, eX1_dress_47, eX1_dress_48, eX1_dress_51, eX1_dress_52, eX1_dress_56, eX1_dress_57, eX1_dress_58, eX1_dress_61, eX1_dress_62, eX1_dress_65, eX1_dress_67, eX1_dress_70, eX1_dress_71, eX1_dress_74, eX1_dress_75, eX1_dress_78, eX1_dress_79, eX1_dress_82, eX1_dress_83, eX1_dress_85, eX1_dress_86, eX1_dress_87, eX1_dress_88, eX1_dress_90, eX1_dress_93, eX1_dress_94, eX1_dress_97, eX1_dress_103, eX1_dress_106, eX1_dress_107, eX1_dress_108, eX1_dress_111, eX1_dress_112, eX1_dress_113, eX1_dress_116, eX1_dress_117, eX1_dress_118, eX1_dress_119, eX1_dress_121, eX1_dress_123, eX1_dress_124, eX1_dress_127, eX1_dress_130, eX1_dress_131, eX1_dress_134, eX1_dress_136, eX1_dress_137, eX1_dress_139, eX1_dress_140, eX1_dress_143, eX1_dress_144, eX1_dress_145, eX1_dress_148, eX1_dress_150, eX1_dress_151, eX1_dress_152, eX1_dress_155, eX1_dress_156, eX1_dress_157, eX1_dress_158, eX1_dress_161, eX1_dress_163, eX1_dress_164, eX1_dress_165, eX1_dress_166, eX1_dress_167, eX1_dress_170, eX1_dress_173, hW, nI_shl, sp_bitCount, sp_mostFrom hF hf hLj (by omega : a 1 = (a 1 - (j + 1)) + (j + 1)) hi q, rd6, wr6, rd7, wr7, rd8, wr8, rd9, wr9, rd10, wr10, rd11, wr11, rd12, wr12, rd14, wr14, rd15, wr15, rd16, wr16, rd17, wr17, rd18, wr18, rd19, wr19, rd20, wr20, rd23, wr23, rd24, wr24, rd26, wr26, rd27, wr27, rd28, wr28, rd29, wr29, rd30, wr30, rd64, wr64, rd65, wr65, rd67, wr67, rd68, wr68, rd69, wr69, rd70, wr70, rd71, wr71, rd72, wr72, rd73, wr73, rb4, rb66, wb4, wb66, rdR, wrR, lenR, len1, len21, ofNat_nI, not_true_eq_false, not_false_eq_true, zok1, zok0, Bool.false_eq_true, zpush_s, zpush_n, Option.bind_some, Option.bind_none, ite_true, ite_false, if_true, if_false, reduceIte, nI_add, pk_mul, ob0, ob2, ob3, ob22, ob25, ob63, Nat.reduceEqDiff, Nat.reduceAdd, Nat.reduceMul, Nat.reduceSub, jLeT, jLeF, jLtT, jLtF, jEqT, jEqF, jNeT, jNeF, iZF, iZT, nI_sub2, nI_dec, nLtT, nLtF, nLeT, nLeF, nEqF, nNeT, ob5, ob13]
      · refine ⟨m, ⟨hF, hL, fun s hs hp => ?_⟩, ?_⟩
        · by_cases e : s = i
          · rw [e] at hp; exact absurd hp q
          · exact hN s (by omega) hp
        · (try dsimp only)
          rw [eX1_dress_54]
          simp (disch := omega) only [eX1_dress_0, eX1_dress_1, eX1_dress_2, eX1_dress_3, eX1_dress_6, eX1_dress_7, eX1_dress_8, eX1_dress_9, eX1_dress_10, eX1_dress_11, eX1_dress_14, eX1_dress_15, eX1_dress_18, eX1_dress_19, eX1_dress_22, eX1_dress_23, eX1_dress_26, eX1_dress_29, eX1_dress_30, eX1_dress_31, eX1_dress_32, eX1_dress_33, eX1_dress_34, eX1_dress_37, eX1_dress_40, eX1_dress_41, eX1_dress_44, eX1_dress_45, eX1_dress_46, eX1_dress_47, eX1_dress_48, eX1_dress_51, eX1_dress_52, eX1_dress_56, eX1_dress_57, eX1_dress_58, eX1_dress_61, eX1_dress_62, eX1_dress_65, eX1_dress_67, eX1_dress_70, eX1_dress_71, eX1_dress_74, eX1_dress_75, eX1_dress_78, eX1_dress_79, eX1_dress_82, eX1_dress_83, eX1_dress_85, eX1_dress_86, eX1_dress_87, eX1_dress_88, eX1_dress_90, eX1_dress_93, eX1_dress_94, eX1_dress_97, eX1_dress_103, eX1_dress_106, eX1_dress_107, eX1_dress_108, eX1_dress_111, eX1_dress_112, eX1_dress_113, eX1_dress_116, eX1_dress_117, eX1_dress_118, eX1_dress_119, eX1_dress_121, eX1_dress_123, eX1_dress_124, eX1_dress_127, eX1_dress_130, eX1_dress_131, eX1_dress_134, eX1_dress_136, eX1_dress_137, eX1_dress_139, eX1_dress_140, eX1_dress_143, eX1_dress_144, eX1_dress_145, eX1_dress_148, eX1_dress_150, eX1_dress_151, eX1_dress_152, eX1_dress_155, eX1_dress_156, eX1_dress_157, eX1_dress_158, eX1_dress_161, eX1_dress_163, eX1_dress_164, eX1_dress_165, eX1_dress_166, eX1_dress_167, eX1_dress_170, eX1_dress_173, hW, nI_shl, sp_bitCount, rd6, wr6, rd7, wr7, rd8, wr8, rd9, wr9, rd10, wr10, rd11, wr11, rd12, wr12, rd14, wr14, rd15, wr15, rd16, wr16, rd17, wr17, rd18, wr18, rd19, wr19, rd20, wr20, rd23, wr23, rd24, wr24, rd26, wr26, rd27, wr27, rd28, wr28, rd29, wr29, rd30, wr30, rd64, wr64, rd65, wr65, rd67, wr67, rd68, wr68, rd69, wr69, rd70, wr70, rd71, wr71, rd72, wr72, rd73, wr73, rb4, rb66, wb4, wb66, rdR, wrR, lenR, len1, len21, ofNat_nI, not_true_eq_false, not_false_eq_true, zok1, zok0, Bool.false_eq_true, zpush_s, zpush_n, Option.bind_some, Option.bind_none, ite_true, ite_false, if_true, if_false, reduceIte, nI_add, pk_mul, ob0, ob2, ob3, ob22, ob25, ob63, Nat.reduceEqDiff, Nat.reduceAdd, Nat.reduceMul, Nat.reduceSub, jLeT, jLeF, jLtT, jLtF, jEqT, jEqF, jNeT, jNeF, iZF, iZT, nI_sub2, nI_dec, nLtT, nLtF, nLeT, nLeF, nEqF, nNeT, ob5, ob13]) m ⟨hF, hL, fun s hs => by omega⟩
    refine ⟨m', ⟨hF', fun j' hj' => ?_⟩, ?_⟩
    · by_cases e : j' = j + 1
      · rw [e]
        exact fun s hs hp => hN' s hs hp
      · exact hL' j' (by omega)
    · have hW := hF'.2.2.1
      rw [eX1_dress_47]
      simp (disch := omega) only [eX1_dress_48, eX1_dress_51, eX1_dress_52, not_true_eq_false, not_false_eq_true, zok1, zok0, Bool.false_eq_true, zpush_s, zpush_n, Option.bind_some, Option.bind_none, ite_true, ite_false, if_true, if_false, reduceIte, nI_add, pk_mul, ob0, ob2, ob3, ob22, ob25, ob63, jLtF]
      refine he.trans ?_
      (try dsimp only)
      rw [eX1_dress_54]
      simp (disch := omega) only [eX1_dress_0, eX1_dress_1, eX1_dress_2, eX1_dress_3, eX1_dress_6, eX1_dress_7, eX1_dress_8, eX1_dress_9, eX1_dress_10, eX1_dress_11, eX1_dress_14, eX1_dress_15, eX1_dress_18, eX1_dress_19, eX1_dress_22, eX1_dress_23, eX1_dress_26, eX1_dress_29, eX1_dress_30, eX1_dress_31, eX1_dress_32, eX1_dress_33, eX1_dress_34, eX1_dress_37, eX1_dress_40, eX1_dress_41, eX1_dress_44, eX1_dress_45, eX1_dress_46, eX1_dress_48, eX1_dress_51, eX1_dress_52, eX1_dress_56, eX1_dress_57, eX1_dress_58, eX1_dress_61, eX1_dress_62, eX1_dress_65, eX1_dress_67, eX1_dress_70, eX1_dress_71, eX1_dress_74, eX1_dress_75, eX1_dress_78, eX1_dress_79, eX1_dress_82, eX1_dress_83, eX1_dress_85, eX1_dress_86, eX1_dress_87, eX1_dress_88, eX1_dress_90, eX1_dress_93, eX1_dress_94, eX1_dress_97, eX1_dress_100, eX1_dress_103, eX1_dress_106, eX1_dress_107, eX1_dress_108, eX1_dress_111, eX1_dress_112, eX1_dress_113, eX1_dress_116, eX1_dress_117, eX1_dress_118, eX1_dress_119, eX1_dress_121, eX1_dress_123, eX1_dress_124, eX1_dress_127, eX1_dress_130, eX1_dress_131, eX1_dress_134, eX1_dress_136, eX1_dress_137, eX1_dress_139, eX1_dress_140, eX1_dress_143, eX1_dress_144, eX1_dress_145, eX1_dress_148, eX1_dress_150, eX1_dress_151, eX1_dress_152, eX1_dress_155, eX1_dress_156, eX1_dress_157, eX1_dress_158, eX1_dress_161, eX1_dress_163, eX1_dress_164, eX1_dress_165, eX1_dress_166, eX1_dress_167, eX1_dress_170, eX1_dress_173, hW, nI_shl, rd6, wr6, rd7, wr7, rd8, wr8, rd9, wr9, rd10, wr10, rd11, wr11, rd12, wr12, rd14, wr14, rd15, wr15, rd16, wr16, rd17, wr17, rd18, wr18, rd19, wr19, rd20, wr20, rd23, wr23, rd24, wr24, rd26, wr26, rd27, wr27, rd28, wr28, rd29, wr29, rd30, wr30, rd64, wr64, rd65, wr65, rd67, wr67, rd68, wr68, rd69, wr69, rd70, wr70, rd71, wr71, rd72, wr72, rd73, wr73, rb4, rb66, wb4, wb66, rdR, wrR, lenR, len1, len21, ofNat_nI, not_true_eq_false, not_false_eq_true, zok1, zok0, Bool.false_eq_true, zpush_s, zpush_n, Option.bind_some, Option.bind_none, ite_true, ite_false, if_true, if_false, reduceIte, nI_add, pk_mul, ob0, ob2, ob3, ob22, ob25, ob63, Nat.reduceAdd, jLeT]
  obtain ⟨⟨l4, μ3⟩, ⟨hF3, hL3⟩, he3⟩ := zloopP (β := Value × Zm) (fun j p => zA (d + 4) mX1_dress 47 [.ref 25, .ref 5, .int (nI t), .int (nI (a 1 - j) + (-1 : Int32)), p.1] [] p.2) (fun j p => FC μ p.2 a t ∧ ∀ j', j' ≤ j → LV p.2 a t (a 1 - j') j') (a 1) (fun j p hj hP => by
    obtain ⟨m', hP', he⟩ := hin j hj p.2 p.1 hP
    refine ⟨⟨.int (nI (2 ^ a 3)), m'⟩, hP', ?_⟩
    dsimp only
    rw [nI_dec (by omega), Nat.sub_sub]
    exact he) ⟨zjk, μ2⟩ ⟨hF2, fun j' hj' => by
    have : j' = 0 := by omega
    rw [this]
    exact hL2⟩
  dsimp only at hF3 hL3 he3
  have hM0 : μ3 28 0 = nI (pM a t (a 1) 0) := by
    have n0 : npop 0 = 0 := by decide
    have := hL3 (a 1) (Nat.le_refl _) 0 (Nat.two_pow_pos _) (by omega)
    rw [Nat.sub_self, Nat.zero_mul, Nat.zero_add] at this
    exact this
  -- who wears what
  obtain ⟨μ4, ⟨hF4, hL4, h64, hd4⟩, he4⟩ := zloopP (β := Zm) (fun k m => zA (d + 4) mX1_dress 121 [.ref 25, .ref 5, .int (nI t), .int (nI (ptk a t k)), .int (nI k)] [] m) (fun k m => FC μ m a t ∧ (∀ j', j' ≤ a 1 → LV m a t (a 1 - j') j') ∧ m 25 6 = nI (pM a t (a 1) 0) ∧ ∀ i, i < k → m 29 i = zn1 (pfw a t (a 1 - (i + 1)) (ptk a t i))) (a 1) (fun k m hk hP => by
    obtain ⟨hF, hL, h6, hd⟩ := hP
    have hK := hF.2.1
    have ⟨b1, b2⟩ := ptk_b (t := t) hf k
    have hLa := hL (a 1 - (k + 1)) (by omega)
    have hLb := hL (a 1 - k) (by omega)
    have e1 : a 1 - (a 1 - (k + 1)) = k + 1 := by omega
    have e2 : a 1 - (a 1 - k) = k := by omega
    have e3 : a 1 - k = (a 1 - (k + 1)) + 1 := by omega
    rw [e1] at hLa
    rw [e2, e3] at hLb
    have hb := sp_firstBest (d := d + 2) hF hf hLa hLb (by omega : a 1 = k + ((a 1 - (k + 1)) + 1)) b1 b2
    have hlt := pfw_lt (t := t) (j := a 1 - (k + 1)) (s := ptk a t k) hf
    refine ⟨zup m 29 k (zn1 (pfw a t (a 1 - (k + 1)) (ptk a t k))), ⟨FC_up (by omega) hF, fun j' hj' s hs hp => ?_, ?_, fun i hi => ?_⟩, ?_⟩
    · rw [zup_o (by omega)]
      exact hL j' hj' s hs hp
    · rw [zup_o (by omega)]
      exact h6
    · by_cases e : i = k
      · rw [e, zup_s rfl rfl]
      · rw [zup_o (by omega)]
        exact hd i (by omega)
    · (try dsimp only)
      rw [eX1_dress_121, ptk]
      generalize pfw a t (a 1 - (k + 1)) (ptk a t k) = w at hb hlt ⊢
      unfold zn1 at hb ⊢
      by_cases q : w = 999
      · rw [if_pos q] at hb ⊢
        rw [if_pos q]
        simp (disch := omega) only [eX1_dress_0, eX1_dress_1, eX1_dress_2, eX1_dress_3, eX1_dress_6, eX1_dress_7, eX1_dress_8, eX1_dress_9, eX1_dress_10, eX1_dress_11, eX1_dress_14, eX1_dress_15, eX1_dress_18, eX1_dress_19, eX1_dress_22, eX1_dress_23, eX1_dress_26, eX1_dress_29, eX1_dress_30, eX1_dress_31, eX1_dress_32, eX1_dress_33, eX1_dress_34, eX1_dress_37, eX1_dress_40, eX1_dress_41, eX1_dress_44, eX1_dress_45, eX1_dress_46, eX1_dress_47, eX1_dress_48, eX1_dress_51, eX1_dress_52, eX1_dress_54, eX1_dress_56, eX1_dress_57, eX1_dress_58, eX1_dress_61, eX1_dress_62, eX1_dress_65, eX1_dress_67, eX1_dress_70, eX1_dress_71, eX1_dress_74, eX1_dress_75, eX1_dress_78, eX1_dress_79, eX1_dress_82, eX1_dress_83, eX1_dress_85, eX1_dress_86, eX1_dress_87, eX1_dress_88, eX1_dress_90, eX1_dress_93, eX1_dress_94, eX1_dress_97, eX1_dress_100, eX1_dress_103, eX1_dress_106, eX1_dress_107, eX1_dress_108, eX1_dress_111, eX1_dress_112, eX1_dress_113, eX1_dress_116, eX1_dress_117, eX1_dress_118, eX1_dress_119, eX1_dress_123, eX1_dress_124, eX1_dress_127, eX1_dress_130, eX1_dress_131, eX1_dress_134, eX1_dress_136, eX1_dress_137, eX1_dress_139, eX1_dress_140, eX1_dress_143, eX1_dress_144, eX1_dress_145, eX1_dress_148, eX1_dress_150, eX1_dress_151, eX1_dress_152, eX1_dress_155, eX1_dress_156, eX1_dress_157, eX1_dress_158, eX1_dress_161, eX1_dress_163, eX1_dress_164, eX1_dress_165, eX1_dress_166, eX1_dress_167, eX1_dress_170, eX1_dress_173, hK, hb, zup_o, zup_s, rd6, wr6, rd7, wr7, rd8, wr8, rd9, wr9, rd10, wr10, rd11, wr11, rd12, wr12, rd14, wr14, rd15, wr15, rd16, wr16, rd17, wr17, rd18, wr18, rd19, wr19, rd20, wr20, rd23, wr23, rd24, wr24, rd26, wr26, rd27, wr27, rd28, wr28, rd29, wr29, rd30, wr30, rd64, wr64, rd65, wr65, rd67, wr67, rd68, wr68, rd69, wr69, rd70, wr70, rd71, wr71, rd72, wr72, rd73, wr73, rb4, rb66, wb4, wb66, rdR, wrR, lenR, len1, len21, ofNat_nI, not_true_eq_false, not_false_eq_true, zok1, zok0, Bool.false_eq_true, zpush_s, zpush_n, Option.bind_some, Option.bind_none, ite_true, ite_false, if_true, if_false, reduceIte, nI_add, pk_mul, ob0, ob2, ob3, ob22, ob25, ob63, Nat.reduceEqDiff, Nat.reduceAdd, Nat.reduceMul, Nat.reduceSub, jLeT, jLeF, jLtT, jLtF, jEqT, jEqF, jNeT, jNeF, iZF, iZT, nI_sub2, nI_dec, nLtT, nLtF, nLeT, nLeF, nEqF, nNeT, ob5, ob13]
      · rw [if_neg q] at hb ⊢
        rw [if_neg q]
        simp (disch := omega) only [eX1_dress_0, eX1_dress_1, eX1_dress_2, eX1_dress_3, eX1_dress_6, eX1_dress_7, eX1_dress_8, eX1_dress_9, eX1_dress_10, eX1_dress_11, eX1_dress_14, eX1_dress_15, eX1_dress_18, eX1_dress_19, eX1_dress_22, eX1_dress_23, eX1_dress_26, eX1_dress_29, eX1_dress_30, eX1_dress_31, eX1_dress_32, eX1_dress_33, eX1_dress_34, eX1_dress_37, eX1_dress_40, eX1_dress_41, eX1_dress_44, eX1_dress_45, eX1_dress_46, eX1_dress_47, eX1_dress_48, eX1_dress_51, eX1_dress_52, eX1_dress_54, eX1_dress_56, eX1_dress_57, eX1_dress_58, eX1_dress_61, eX1_dress_62, eX1_dress_65, eX1_dress_67, eX1_dress_70, eX1_dress_71, eX1_dress_74, eX1_dress_75, eX1_dress_78, eX1_dress_79, eX1_dress_82, eX1_dress_83, eX1_dress_85, eX1_dress_86, eX1_dress_87, eX1_dress_88, eX1_dress_90, eX1_dress_93, eX1_dress_94, eX1_dress_97, eX1_dress_100, eX1_dress_103, eX1_dress_106, eX1_dress_107, eX1_dress_108, eX1_dress_111, eX1_dress_112, eX1_dress_113, eX1_dress_116, eX1_dress_117, eX1_dress_118, eX1_dress_119, eX1_dress_123, eX1_dress_124, eX1_dress_127, eX1_dress_130, eX1_dress_131, eX1_dress_134, eX1_dress_136, eX1_dress_137, eX1_dress_139, eX1_dress_140, eX1_dress_143, eX1_dress_144, eX1_dress_145, eX1_dress_148, eX1_dress_150, eX1_dress_151, eX1_dress_152, eX1_dress_155, eX1_dress_156, eX1_dress_157, eX1_dress_158, eX1_dress_161, eX1_dress_163, eX1_dress_164, eX1_dress_165, eX1_dress_166, eX1_dress_167, eX1_dress_170, eX1_dress_173, hK, hb, zup_o, zup_s, iN1, nI_shl, nI_or, rd6, wr6, rd7, wr7, rd8, wr8, rd9, wr9, rd10, wr10, rd11, wr11, rd12, wr12, rd14, wr14, rd15, wr15, rd16, wr16, rd17, wr17, rd18, wr18, rd19, wr19, rd20, wr20, rd23, wr23, rd24, wr24, rd26, wr26, rd27, wr27, rd28, wr28, rd29, wr29, rd30, wr30, rd64, wr64, rd65, wr65, rd67, wr67, rd68, wr68, rd69, wr69, rd70, wr70, rd71, wr71, rd72, wr72, rd73, wr73, rb4, rb66, wb4, wb66, rdR, wrR, lenR, len1, len21, ofNat_nI, not_true_eq_false, not_false_eq_true, zok1, zok0, Bool.false_eq_true, zpush_s, zpush_n, Option.bind_some, Option.bind_none, ite_true, ite_false, if_true, if_false, reduceIte, nI_add, pk_mul, ob0, ob2, ob3, ob22, ob25, ob63, Nat.reduceEqDiff, Nat.reduceAdd, Nat.reduceMul, Nat.reduceSub, jLeT, jLeF, jLtT, jLtF, jEqT, jEqF, jNeT, jNeF, iZF, iZT, nI_sub2, nI_dec, nLtT, nLtF, nLeT, nLeF, nEqF, nNeT, ob5, ob13]) (zup μ3 25 6 (nI (pM a t (a 1) 0))) ⟨FC_up (by omega) hF3, fun j' hj' s hs hp => by
      rw [zup_o (by omega)]
      exact hL3 j' hj' s hs hp, zup_s rfl rfl, fun i hi => by omega⟩
  refine ⟨μ4, ?_, hF4.1, h64, hd4⟩
  have hK2 := hF2.2.1
  have hW2 := hF2.2.2.1
  have hK4 := hF4.2.1
  have lt0 : ((-1 : Int32) < nI 0) = True := by decide
  have e0 : nI 0 + (-1 : Int32) = -1 := by decide
  rw [nX1_dress]
  simp (disch := omega) only [eX1_dress_0, eX1_dress_1, eX1_dress_2, eX1_dress_3, ho, eX1_dress_6, eX1_dress_7, not_true_eq_false, not_false_eq_true, zok1, zok0, Bool.false_eq_true, zpush_s, zpush_n, Option.bind_some, Option.bind_none, ite_true, ite_false, if_true, if_false, reduceIte, nI_add, pk_mul, ob0, ob2, ob3, ob22, ob25, ob63]
  refine he2.trans ?_
  rw [eX1_dress_8]
  simp (disch := omega) only [eX1_dress_0, eX1_dress_1, eX1_dress_2, eX1_dress_3, eX1_dress_6, eX1_dress_7, eX1_dress_9, eX1_dress_10, eX1_dress_11, eX1_dress_14, eX1_dress_15, eX1_dress_18, eX1_dress_19, eX1_dress_22, eX1_dress_23, eX1_dress_26, eX1_dress_29, eX1_dress_30, eX1_dress_31, eX1_dress_32, eX1_dress_33, eX1_dress_34, eX1_dress_37, eX1_dress_40, eX1_dress_41, eX1_dress_44, eX1_dress_45, eX1_dress_46, eX1_dress_48, eX1_dress_51, eX1_dress_52, eX1_dress_54, eX1_dress_56, eX1_dress_57, eX1_dress_58, eX1_dress_61, eX1_dress_62, eX1_dress_65, eX1_dress_67, eX1_dress_70, eX1_dress_71, eX1_dress_74, eX1_dress_75, eX1_dress_78, eX1_dress_79, eX1_dress_82, eX1_dress_83, eX1_dress_85, eX1_dress_86, eX1_dress_87, eX1_dress_88, eX1_dress_90, eX1_dress_93, eX1_dress_94, eX1_dress_97, eX1_dress_100, eX1_dress_103, eX1_dress_106, eX1_dress_107, eX1_dress_108, eX1_dress_111, eX1_dress_112, eX1_dress_113, eX1_dress_116, eX1_dress_117, eX1_dress_118, eX1_dress_119, eX1_dress_121, eX1_dress_123, eX1_dress_124, eX1_dress_127, eX1_dress_130, eX1_dress_131, eX1_dress_134, eX1_dress_136, eX1_dress_137, eX1_dress_139, eX1_dress_140, eX1_dress_143, eX1_dress_144, eX1_dress_145, eX1_dress_148, eX1_dress_150, eX1_dress_151, eX1_dress_152, eX1_dress_155, eX1_dress_156, eX1_dress_157, eX1_dress_158, eX1_dress_161, eX1_dress_163, eX1_dress_164, eX1_dress_165, eX1_dress_166, eX1_dress_167, eX1_dress_170, eX1_dress_173, hK2, hW2, nI_shl, rd6, wr6, rd7, wr7, rd8, wr8, rd9, wr9, rd10, wr10, rd11, wr11, rd12, wr12, rd14, wr14, rd15, wr15, rd16, wr16, rd17, wr17, rd18, wr18, rd19, wr19, rd20, wr20, rd23, wr23, rd24, wr24, rd26, wr26, rd27, wr27, rd28, wr28, rd29, wr29, rd30, wr30, rd64, wr64, rd65, wr65, rd67, wr67, rd68, wr68, rd69, wr69, rd70, wr70, rd71, wr71, rd72, wr72, rd73, wr73, rb4, rb66, wb4, wb66, rdR, wrR, lenR, len1, len21, ofNat_nI, not_true_eq_false, not_false_eq_true, zok1, zok0, Bool.false_eq_true, zpush_s, zpush_n, Option.bind_some, Option.bind_none, ite_true, ite_false, if_true, if_false, reduceIte, nI_add, pk_mul, ob0, ob2, ob3, ob22, ob25, ob63, Nat.reduceEqDiff, Nat.reduceAdd, Nat.reduceMul, Nat.reduceSub, jLeT, jLeF, jLtT, jLtF, jEqT, jEqF, jNeT, jNeF, iZF, iZT, nI_sub2, nI_dec, nLtT, nLtF, nLeT, nLeF, nEqF, nNeT, ob5, ob13]
  rw [Nat.sub_zero, nI_dec (by omega)] at he3
  refine he3.trans ?_
  rw [Nat.sub_self, e0, eX1_dress_47]
  simp (disch := omega) only [eX1_dress_0, eX1_dress_1, eX1_dress_2, eX1_dress_3, eX1_dress_6, eX1_dress_7, eX1_dress_8, eX1_dress_9, eX1_dress_10, eX1_dress_11, eX1_dress_14, eX1_dress_15, eX1_dress_18, eX1_dress_19, eX1_dress_22, eX1_dress_23, eX1_dress_26, eX1_dress_29, eX1_dress_30, eX1_dress_31, eX1_dress_32, eX1_dress_33, eX1_dress_34, eX1_dress_37, eX1_dress_40, eX1_dress_41, eX1_dress_44, eX1_dress_45, eX1_dress_46, eX1_dress_48, eX1_dress_51, eX1_dress_52, eX1_dress_54, eX1_dress_56, eX1_dress_57, eX1_dress_58, eX1_dress_61, eX1_dress_62, eX1_dress_65, eX1_dress_67, eX1_dress_70, eX1_dress_71, eX1_dress_74, eX1_dress_75, eX1_dress_78, eX1_dress_79, eX1_dress_82, eX1_dress_83, eX1_dress_85, eX1_dress_86, eX1_dress_87, eX1_dress_88, eX1_dress_90, eX1_dress_93, eX1_dress_94, eX1_dress_97, eX1_dress_100, eX1_dress_103, eX1_dress_106, eX1_dress_107, eX1_dress_108, eX1_dress_111, eX1_dress_112, eX1_dress_113, eX1_dress_116, eX1_dress_117, eX1_dress_118, eX1_dress_119, eX1_dress_123, eX1_dress_124, eX1_dress_127, eX1_dress_130, eX1_dress_131, eX1_dress_134, eX1_dress_136, eX1_dress_137, eX1_dress_139, eX1_dress_140, eX1_dress_143, eX1_dress_144, eX1_dress_145, eX1_dress_148, eX1_dress_150, eX1_dress_151, eX1_dress_152, eX1_dress_155, eX1_dress_156, eX1_dress_157, eX1_dress_158, eX1_dress_161, eX1_dress_163, eX1_dress_164, eX1_dress_165, eX1_dress_166, eX1_dress_167, eX1_dress_170, eX1_dress_173, lt0, hM0, rd6, wr6, rd7, wr7, rd8, wr8, rd9, wr9, rd10, wr10, rd11, wr11, rd12, wr12, rd14, wr14, rd15, wr15, rd16, wr16, rd17, wr17, rd18, wr18, rd19, wr19, rd20, wr20, rd23, wr23, rd24, wr24, rd26, wr26, rd27, wr27, rd28, wr28, rd29, wr29, rd30, wr30, rd64, wr64, rd65, wr65, rd67, wr67, rd68, wr68, rd69, wr69, rd70, wr70, rd71, wr71, rd72, wr72, rd73, wr73, rb4, rb66, wb4, wb66, rdR, wrR, lenR, len1, len21, ofNat_nI, not_true_eq_false, not_false_eq_true, zok1, zok0, Bool.false_eq_true, zpush_s, zpush_n, Option.bind_some, Option.bind_none, ite_true, ite_false, if_true, if_false, reduceIte, nI_add, pk_mul, ob0, ob2, ob3, ob22, ob25, ob63, Nat.reduceEqDiff, Nat.reduceAdd, Nat.reduceMul, Nat.reduceSub, jLeT, jLeF, jLtT, jLtF, jEqT, jEqF, jNeT, jNeF, iZF, iZT, nI_sub2, nI_dec, nLtT, nLtF, nLeT, nLeF, nEqF, nNeT, ob5, ob13]
  refine he4.trans ?_
  rw [eX1_dress_121]
  simp (disch := omega) only [eX1_dress_0, eX1_dress_1, eX1_dress_2, eX1_dress_3, eX1_dress_6, eX1_dress_7, eX1_dress_8, eX1_dress_9, eX1_dress_10, eX1_dress_11, eX1_dress_14, eX1_dress_15, eX1_dress_18, eX1_dress_19, eX1_dress_22, eX1_dress_23, eX1_dress_26, eX1_dress_29, eX1_dress_30, eX1_dress_31, eX1_dress_32, eX1_dress_33, eX1_dress_34, eX1_dress_37, eX1_dress_40, eX1_dress_41, eX1_dress_44, eX1_dress_45, eX1_dress_46, eX1_dress_47, eX1_dress_48, eX1_dress_51, eX1_dress_52, eX1_dress_54, eX1_dress_56, eX1_dress_57, eX1_dress_58, eX1_dress_61, eX1_dress_62, eX1_dress_65, eX1_dress_67, eX1_dress_70, eX1_dress_71, eX1_dress_74, eX1_dress_75, eX1_dress_78, eX1_dress_79, eX1_dress_82, eX1_dress_83, eX1_dress_85, eX1_dress_86, eX1_dress_87, eX1_dress_88, eX1_dress_90, eX1_dress_93, eX1_dress_94, eX1_dress_97, eX1_dress_100, eX1_dress_103, eX1_dress_106, eX1_dress_107, eX1_dress_108, eX1_dress_111, eX1_dress_112, eX1_dress_113, eX1_dress_116, eX1_dress_117, eX1_dress_118, eX1_dress_119, eX1_dress_123, eX1_dress_124, eX1_dress_127, eX1_dress_130, eX1_dress_131, eX1_dress_134, eX1_dress_136, eX1_dress_137, eX1_dress_139, eX1_dress_140, eX1_dress_143, eX1_dress_144, eX1_dress_145, eX1_dress_148, eX1_dress_150, eX1_dress_151, eX1_dress_152, eX1_dress_155, eX1_dress_156, eX1_dress_157, eX1_dress_158, eX1_dress_161, eX1_dress_163, eX1_dress_164, eX1_dress_165, eX1_dress_166, eX1_dress_167, eX1_dress_170, eX1_dress_173, hK4, rd6, wr6, rd7, wr7, rd8, wr8, rd9, wr9, rd10, wr10, rd11, wr11, rd12, wr12, rd14, wr14, rd15, wr15, rd16, wr16, rd17, wr17, rd18, wr18, rd19, wr19, rd20, wr20, rd23, wr23, rd24, wr24, rd26, wr26, rd27, wr27, rd28, wr28, rd29, wr29, rd30, wr30, rd64, wr64, rd65, wr65, rd67, wr67, rd68, wr68, rd69, wr69, rd70, wr70, rd71, wr71, rd72, wr72, rd73, wr73, rb4, rb66, wb4, wb66, rdR, wrR, lenR, len1, len21, ofNat_nI, not_true_eq_false, not_false_eq_true, zok1, zok0, Bool.false_eq_true, zpush_s, zpush_n, Option.bind_some, Option.bind_none, ite_true, ite_false, if_true, if_false, reduceIte, nI_add, pk_mul, ob0, ob2, ob3, ob22, ob25, ob63, Nat.reduceEqDiff, Nat.reduceAdd, Nat.reduceMul, Nat.reduceSub, jLeT, jLeF, jLtT, jLtF, jEqT, jEqF, jNeT, jNeF, iZF, iZT, nI_sub2, nI_dec, nLtT, nLtF, nLeT, nLeF, nEqF, nNeT, ob5, ob13]
