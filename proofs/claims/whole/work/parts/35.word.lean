/-! ===== words ===== -/
def wl (j : Nat) : Nat := zsn.getD j 0
def wd (j i : Nat) : Nat := ((zsb.getD j []).getD i 0).toNatClampNeg
def pwd (n : Nat) (b : Nat → Nat) (e j : Nat) : Bool := decide (tK n b e = 1 ∧ tE n b e - tB n b e = wl j ∧ ∀ i, i < wl j → b (tB n b e + i) = wd j i)
theorem j8 {P : Nat → Prop} (h0 : P 0) (h1 : P 1) (h2 : P 2) (h3 : P 3) (h4 : P 4) (h5 : P 5) (h6 : P 6) (h7 : P 7) {j : Nat} (h : j < 8) : P j := by
  rcases (show j = 0 ∨ j = 1 ∨ j = 2 ∨ j = 3 ∨ j = 4 ∨ j = 5 ∨ j = 6 ∨ j = 7 by omega) with rfl | rfl | rfl | rfl | rfl | rfl | rfl | rfl <;> assumption
theorem wl_le {j : Nat} (h : j < 8) : 3 ≤ wl j ∧ wl j ≤ 8 := j8 (P := fun j => 3 ≤ wl j ∧ wl j ≤ 8) (by decide) (by decide) (by decide) (by decide) (by decide) (by decide) (by decide) (by decide) h
theorem wd_all : ∀ j : Fin 8, ∀ i : Fin 8, i.1 < wl j.1 → 97 ≤ wd j.1 i.1 ∧ wd j.1 i.1 ≤ 122 ∧ (((zsb.getD j.1 []).getD i.1 0 &&& nI 255).toUInt32 % 65536).toInt32 = nI (wd j.1 i.1) ∧ zok .char (nI (wd j.1 i.1)) = true := by decide +kernel
theorem wd_in {j i : Nat} (hj : j < 8) (hi : i < wl j) : 97 ≤ wd j i ∧ wd j i ≤ 122 ∧ (((zsb.getD j []).getD i 0 &&& nI 255).toUInt32 % 65536).toInt32 = nI (wd j i) ∧ zok .char (nI (wd j i)) = true := wd_all ⟨j, hj⟩ ⟨i, by have := wl_le hj; omega⟩ hi
theorem wlen {μ : Zm} {j : Nat} (h : j < 8) : zlen true μ (2010 + j + 10) = some (wl j) := j8 (P := fun j => zlen true μ (2010 + j + 10) = some (wl j)) rfl rfl rfl rfl rfl rfl rfl rfl h
theorem wrd0 {μ : Zm} {j : Nat} (h : j < 8) : (zob true μ (2010 + j + 10) 11 || zob true μ (2010 + j + 10) 12) = false := j8 (P := fun j => (zob true μ (2010 + j + 10) 11 || zob true μ (2010 + j + 10) 12) = false) rfl rfl rfl rfl rfl rfl rfl rfl h
theorem wrd {μ : Zm} {j i : Nat} (h : j < 8) (hi : i < wl j) : zrdb true μ (2010 + j + 10) (nI i) = some ((zsb.getD j []).getD i 0) := by
  have h8 := wl_le h
  have e : 2010 + j + 10 - 2020 = j := by omega
  unfold zrdb
  rw [wrd0 h, if_neg (by decide), if_pos (by omega), e, if_pos (zin_n (N := zsn.getD j 0) hi (by omega)), nI_clamp (by omega)]
theorem wsh {j : Nat} (h : j < 8) : nI (wl j) >>> ((0 : Int32) &&& 31) = nI (wl j) := j8 (P := fun j => nI (wl j) >>> ((0 : Int32) &&& 31) = nI (wl j)) (by decide) (by decide) (by decide) (by decide) (by decide) (by decide) (by decide) (by decide) h
theorem k1n : ((1 : Int32) = nI 0) = False := by decide
theorem k0n : ((0 : Int32) = nI 0) = True := by decide
theorem zokb0 : zok .byte (0 : Int32) = true := by decide
theorem wc {j : Nat} (h : j < 8) : (2010 ≤ 2010 + j ∧ 2010 + j < 2018) = True := eq_true (by omega)
theorem sp_length {d j : Nat} {μ : Zm} (hj : j < 8) : zC true (d + 2) mJ0_length_8abf5 [.ref (2010 + j)] μ = some (some (.int (nI (wl j))), μ) := by
  have hc : zC true (d + 1) mJ0_coder_7d493 [.ref (2010 + j)] μ = some (some (.int 0), μ) := by
    simp (disch := omega) only [nJ0_coder_7d493, eJ0_coder_7d493_0, eJ0_coder_7d493_3, eJ0_coder_7d493_6, eJ0_coder_7d493_7, eJ0_coder_7d493_10, eJ0_coder_7d493_13, eJ0_coder_7d493_14, wc hj, k1n, zokb0, not_true_eq_false, not_false_eq_true, zok1, zok0, Bool.false_eq_true, zpush_s, zpush_n, Option.bind_some, Option.bind_none, ite_true, ite_false, if_true, if_false, ↓reduceIte, nI_add, pk_mul, ob0, ob2, ob3, ob22, ob25, ob63, Nat.reduceEqDiff, Nat.reduceAdd, Nat.reduceMul, Nat.reduceSub, pLeT, pLeF, pLtT, pLtF, pEqT, pEqF, qLtT, qLtF, qLeT, qLeF, qEqF, nI_sub2, nI_dec, ob5, ob13]
  simp (disch := omega) only [nJ0_length_8abf5, eJ0_length_8abf5_0, eJ0_length_8abf5_1, eJ0_length_8abf5_4, eJ0_length_8abf5_5, eJ0_length_8abf5_6, eJ0_length_8abf5_9, eJ0_length_8abf5_10, wc hj, wlen hj, hc, ofNat_nI, wsh hj, not_true_eq_false, not_false_eq_true, zok1, zok0, Bool.false_eq_true, zpush_s, zpush_n, Option.bind_some, Option.bind_none, ite_true, ite_false, if_true, if_false, ↓reduceIte, nI_add, pk_mul, ob0, ob2, ob3, ob22, ob25, ob63]
theorem nJ3f (d : Nat) (x0 x1 : Int32) (μ : Zm) : zC true (d + 1) mJ3_checkIndex_8e157 [.int x0, .int x1, .float 0] μ = zA d mJ3_checkIndex_8e157 0 [.int x0, .int x1, .float 0] [] μ := zC_eq rfl rfl
theorem sp_charAt {d j i : Nat} {μ : Zm} (hj : j < 8) (hi : i < wl j) : zC true (d + 4) mJ0_charAt_5068e [.ref (2010 + j), .int (nI i)] μ = some (some (.int (nI (wd j i))), μ) := by
  have h8 := wl_le hj
  have hL : zC true (d + 3) mJ0_isLatin1_aae02 [.ref (2010 + j)] μ = some (some (.int (nI 1)), μ) := by
    simp (disch := omega) only [nJ0_isLatin1_aae02, eJ0_isLatin1_aae02_0, eJ0_isLatin1_aae02_3, eJ0_isLatin1_aae02_6, eJ0_isLatin1_aae02_7, eJ0_isLatin1_aae02_10, eJ0_isLatin1_aae02_13, eJ0_isLatin1_aae02_14, eJ0_isLatin1_aae02_17, eJ0_isLatin1_aae02_18, wc hj, k1n, k0n, not_true_eq_false, not_false_eq_true, zok1, zok0, Bool.false_eq_true, zpush_s, zpush_n, Option.bind_some, Option.bind_none, ite_true, ite_false, if_true, if_false, ↓reduceIte, nI_add, pk_mul, ob0, ob2, ob3, ob22, ob25, ob63]
  have h3 : zC true (d + 1) mJ3_checkIndex_8e157 [.int (nI i), .int (nI (wl j)), .float 0] μ = some (some (.int (nI i)), μ) := by
    simp (disch := omega) only [nJ3f, eJ3_checkIndex_8e157_0, eJ3_checkIndex_8e157_1, eJ3_checkIndex_8e157_4, eJ3_checkIndex_8e157_5, eJ3_checkIndex_8e157_6, eJ3_checkIndex_8e157_9, eJ3_checkIndex_8e157_10, eJ3_checkIndex_8e157_11, eJ3_checkIndex_8e157_16, eJ3_checkIndex_8e157_17, not_true_eq_false, not_false_eq_true, zok1, zok0, Bool.false_eq_true, zpush_s, zpush_n, Option.bind_some, Option.bind_none, ite_true, ite_false, if_true, if_false, ↓reduceIte, nI_add, pk_mul, ob0, ob2, ob3, ob22, ob25, ob63, Nat.reduceEqDiff, Nat.reduceAdd, Nat.reduceMul, Nat.reduceSub, pLeT, pLeF, pLtT, pLtF, pEqT, pEqF, qLtT, qLtF, qLeT, qLeF, qEqF, nI_sub2, nI_dec, ob5, ob13]
  have h0 : zC true (d + 2) mJ0_checkIndex_df160 [.int (nI i), .int (nI (wl j))] μ = some (none, μ) := by
    simp (disch := omega) only [nJ0_checkIndex_df160, eJ0_checkIndex_df160_0, eJ0_checkIndex_df160_1, eJ0_checkIndex_df160_2, eJ0_checkIndex_df160_5, eJ0_checkIndex_df160_8, eJ0_checkIndex_df160_9, h3, not_true_eq_false, not_false_eq_true, zok1, zok0, Bool.false_eq_true, zpush_s, zpush_n, Option.bind_some, Option.bind_none, ite_true, ite_false, if_true, if_false, ↓reduceIte, nI_add, pk_mul, ob0, ob2, ob3, ob22, ob25, ob63]
  have h1 : zC true (d + 3) mJ1_charAt_3b067 [.ref (2010 + j + 10), .int (nI i)] μ = some (some (.int (nI (wd j i))), μ) := by
    simp (disch := omega) only [nJ1_charAt_3b067, eJ1_charAt_3b067_0, eJ1_charAt_3b067_1, eJ1_charAt_3b067_2, eJ1_charAt_3b067_3, eJ1_charAt_3b067_6, eJ1_charAt_3b067_7, eJ1_charAt_3b067_8, eJ1_charAt_3b067_9, eJ1_charAt_3b067_12, eJ1_charAt_3b067_13, eJ1_charAt_3b067_14, wlen hj, ofNat_nI, h0, wrd hj hi, (wd_in hj hi).2.2.1, (wd_in hj hi).2.2.2, not_true_eq_false, not_false_eq_true, zok1, zok0, Bool.false_eq_true, zpush_s, zpush_n, Option.bind_some, Option.bind_none, ite_true, ite_false, if_true, if_false, ↓reduceIte, nI_add, pk_mul, ob0, ob2, ob3, ob22, ob25, ob63]
  simp (disch := omega) only [nJ0_charAt_5068e, eJ0_charAt_5068e_0, eJ0_charAt_5068e_1, eJ0_charAt_5068e_4, eJ0_charAt_5068e_7, eJ0_charAt_5068e_8, eJ0_charAt_5068e_11, eJ0_charAt_5068e_12, eJ0_charAt_5068e_15, eJ0_charAt_5068e_16, eJ0_charAt_5068e_17, eJ0_charAt_5068e_20, wc hj, hL, h1, (wd_in hj hi).2.2.2, not_true_eq_false, not_false_eq_true, zok1, zok0, Bool.false_eq_true, zpush_s, zpush_n, Option.bind_some, Option.bind_none, ite_true, ite_false, if_true, if_false, ↓reduceIte, nI_add, pk_mul, ob0, ob2, ob3, ob22, ob25, ob63, Nat.reduceEqDiff, Nat.reduceAdd, Nat.reduceMul, Nat.reduceSub, pLeT, pLeF, pLtT, pLtF, pEqT, pEqF, qLtT, qLtF, qLeT, qLeF, qEqF, nI_sub2, nI_dec, ob5, ob13]
theorem sxb_eq {x y : Nat} (hx : x < 256) (hy : y < 128) : (sxb x = nI y) = (x = y) := by
  rcases sxb_c hx with ⟨q1, q2⟩ | ⟨q1, q2⟩
  · rw [q2]; exact propext (nI_eq (by omega) (by omega))
  · rw [qEqF (by omega)]
    exact (eq_false (by omega)).symm
theorem sp_isWord {d n e j r : Nat} {b : Nat → Nat} {μ : Zm} (hT : TX μ n b) (he : e ≤ n) (k2 : μ 3 2 = nI (tK n b e)) (k3 : μ 3 3 = nI (tB n b e)) (k4 : μ 3 4 = nI (tE n b e)) (hj : j < 8) (hr : r = 2010 + j) : zC true (d + 5) mX4_isWord [.ref 3, .ref r] μ = some (some (.int (zbt (pwd n b e j))), μ) := by
  subst hr
  obtain ⟨h4, hlen, hby⟩ := hT
  have hB := tB_le (b := b) he
  have hEl := tE_le (b := b) he
  have hK := tK_le (n := n) (b := b) (e := e)
  have h8 := wl_le hj
  have hle : zC true (d + 4) mJ0_length_8abf5 [.ref (2010 + j)] μ = some (some (.int (nI (wl j))), μ) := sp_length (d := d + 2) hj
  by_cases c1 : tK n b e = 1
  · by_cases c2 : tE n b e - tB n b e = wl j
    · have hf := zfind (fun i => zA (d + 4) mX4_isWord 28 [.ref 3, .ref (2010 + j), .int (nI i)] [] μ) (fun _ => some (some (.int (nI 0)), μ)) (some (some (.int (nI 1)), μ)) (fun i => decide (b (tB n b e + i) ≠ wd j i)) (wl j) (by omega) (fun i hi hp => by
        have c3 : b (tB n b e + i) = wd j i := Classical.not_not.mp (of_decide_eq_false hp)
        have ⟨h2, h3⟩ := hby (tB n b e + i) (by omega)
        have ⟨w1, w2, _⟩ := wd_in hj hi
        have hch : zC true (d + 4) mJ0_charAt_5068e [.ref (2010 + j), .int (nI i)] μ = some (some (.int (nI (wd j i))), μ) := sp_charAt hj hi
        (try dsimp only)
        have sxe := sxb_eq h2 (by omega : wd j i < 128)
        rw [eq_true c3] at sxe
        rw [eX4_isWord_28]
        simp (disch := omega) only [eX4_isWord_0, eX4_isWord_1, eX4_isWord_4, eX4_isWord_5, eX4_isWord_8, eX4_isWord_9, eX4_isWord_12, eX4_isWord_13, eX4_isWord_16, eX4_isWord_17, eX4_isWord_18, eX4_isWord_21, eX4_isWord_24, eX4_isWord_25, eX4_isWord_26, eX4_isWord_27, eX4_isWord_29, eX4_isWord_30, eX4_isWord_33, eX4_isWord_36, eX4_isWord_37, eX4_isWord_40, eX4_isWord_41, eX4_isWord_44, eX4_isWord_45, eX4_isWord_46, eX4_isWord_47, eX4_isWord_48, eX4_isWord_49, eX4_isWord_52, eX4_isWord_55, eX4_isWord_56, eX4_isWord_57, eX4_isWord_60, eX4_isWord_64, hle, k3, h3, hch, sxe, rd6, wr6, rd7, wr7, rd8, wr8, rd9, wr9, rd10, wr10, rd11, wr11, rd12, wr12, rd14, wr14, rd15, wr15, rd16, wr16, rd17, wr17, rd18, wr18, rd19, wr19, rd20, wr20, rd23, wr23, rd24, wr24, rd26, wr26, rd27, wr27, rd28, wr28, rd29, wr29, rd30, wr30, rd64, wr64, rd65, wr65, rd67, wr67, rd68, wr68, rd69, wr69, rd70, wr70, rd71, wr71, rd72, wr72, rd73, wr73, rb4, rb66, wb4, wb66, rdR, wrR, lenR, len1, len21, ofNat_nI, not_true_eq_false, not_false_eq_true, zok1, zok0, Bool.false_eq_true, zpush_s, zpush_n, Option.bind_some, Option.bind_none, ite_true, ite_false, if_true, if_false, ↓reduceIte, nI_add, pk_mul, ob0, ob2, ob3, ob22, ob25, ob63, Nat.reduceEqDiff, Nat.reduceAdd, Nat.reduceMul, Nat.reduceSub, pLeT, pLeF, pLtT, pLtF, pEqT, pEqF, qLtT, qLtF, qLeT, qLeF, qEqF, nI_sub2, nI_dec, ob5, ob13]) (fun i hi hp => by
        have c3 : ¬ b (tB n b e + i) = wd j i := of_decide_eq_true hp
        have ⟨h2, h3⟩ := hby (tB n b e + i) (by omega)
        have ⟨w1, w2, _⟩ := wd_in hj hi
        have hch : zC true (d + 4) mJ0_charAt_5068e [.ref (2010 + j), .int (nI i)] μ = some (some (.int (nI (wd j i))), μ) := sp_charAt hj hi
        (try dsimp only)
        have sxe := sxb_eq h2 (by omega : wd j i < 128)
        rw [eq_false c3] at sxe
        rw [eX4_isWord_28]
        simp (disch := omega) only [eX4_isWord_0, eX4_isWord_1, eX4_isWord_4, eX4_isWord_5, eX4_isWord_8, eX4_isWord_9, eX4_isWord_12, eX4_isWord_13, eX4_isWord_16, eX4_isWord_17, eX4_isWord_18, eX4_isWord_21, eX4_isWord_24, eX4_isWord_25, eX4_isWord_26, eX4_isWord_27, eX4_isWord_29, eX4_isWord_30, eX4_isWord_33, eX4_isWord_36, eX4_isWord_37, eX4_isWord_40, eX4_isWord_41, eX4_isWord_44, eX4_isWord_45, eX4_isWord_46, eX4_isWord_47, eX4_isWord_48, eX4_isWord_49, eX4_isWord_52, eX4_isWord_55, eX4_isWord_56, eX4_isWord_57, eX4_isWord_60, eX4_isWord_64, hle, k3, h3, hch, sxe, rd6, wr6, rd7, wr7, rd8, wr8, rd9, wr9, rd10, wr10, rd11, wr11, rd12, wr12, rd14, wr14, rd15, wr15, rd16, wr16, rd17, wr17, rd18, wr18, rd19, wr19, rd20, wr20, rd23, wr23, rd24, wr24, rd26, wr26, rd27, wr27, rd28, wr28, rd29, wr29, rd30, wr30, rd64, wr64, rd65, wr65, rd67, wr67, rd68, wr68, rd69, wr69, rd70, wr70, rd71, wr71, rd72, wr72, rd73, wr73, rb4, rb66, wb4, wb66, rdR, wrR, lenR, len1, len21, ofNat_nI, not_true_eq_false, not_false_eq_true, zok1, zok0, Bool.false_eq_true, zpush_s, zpush_n, Option.bind_some, Option.bind_none, ite_true, ite_false, if_true, if_false, ↓reduceIte, nI_add, pk_mul, ob0, ob2, ob3, ob22, ob25, ob63, Nat.reduceEqDiff, Nat.reduceAdd, Nat.reduceMul, Nat.reduceSub, pLeT, pLeF, pLtT, pLtF, pEqT, pEqF, qLtT, qLtF, qLeT, qLeF, qEqF, nI_sub2, nI_dec, ob5, ob13]) (by
        (try dsimp only)
        rw [eX4_isWord_28]
        simp (disch := omega) only [eX4_isWord_0, eX4_isWord_1, eX4_isWord_4, eX4_isWord_5, eX4_isWord_8, eX4_isWord_9, eX4_isWord_12, eX4_isWord_13, eX4_isWord_16, eX4_isWord_17, eX4_isWord_18, eX4_isWord_21, eX4_isWord_24, eX4_isWord_25, eX4_isWord_26, eX4_isWord_27, eX4_isWord_29, eX4_isWord_30, eX4_isWord_33, eX4_isWord_36, eX4_isWord_37, eX4_isWord_40, eX4_isWord_41, eX4_isWord_44, eX4_isWord_45, eX4_isWord_46, eX4_isWord_47, eX4_isWord_48, eX4_isWord_49, eX4_isWord_52, eX4_isWord_55, eX4_isWord_56, eX4_isWord_57, eX4_isWord_60, eX4_isWord_63, eX4_isWord_64, hle, rd6, wr6, rd7, wr7, rd8, wr8, rd9, wr9, rd10, wr10, rd11, wr11, rd12, wr12, rd14, wr14, rd15, wr15, rd16, wr16, rd17, wr17, rd18, wr18, rd19, wr19, rd20, wr20, rd23, wr23, rd24, wr24, rd26, wr26, rd27, wr27, rd28, wr28, rd29, wr29, rd30, wr30, rd64, wr64, rd65, wr65, rd67, wr67, rd68, wr68, rd69, wr69, rd70, wr70, rd71, wr71, rd72, wr72, rd73, wr73, rb4, rb66, wb4, wb66, rdR, wrR, lenR, len1, len21, ofNat_nI, not_true_eq_false, not_false_eq_true, zok1, zok0, Bool.false_eq_true, zpush_s, zpush_n, Option.bind_some, Option.bind_none, ite_true, ite_false, if_true, if_false, ↓reduceIte, nI_add, pk_mul, ob0, ob2, ob3, ob22, ob25, ob63, Nat.reduceEqDiff, Nat.reduceAdd, Nat.reduceMul, Nat.reduceSub, pLeT, pLeF, pLtT, pLtF, pEqT, pEqF, qLtT, qLtF, qLeT, qLeF, qEqF, nI_sub2, nI_dec, ob5, ob13])
      have hp : pwd n b e j = decide (nfst (fun i => decide (b (tB n b e + i) ≠ wd j i)) (wl j) = 999) := by
        unfold pwd
        rw [Bool.eq_iff_iff, decide_eq_true_iff, decide_eq_true_iff]
        constructor
        · rintro ⟨_, _, h⟩
          by_cases q : nfst (fun i => decide (b (tB n b e + i) ≠ wd j i)) (wl j) = 999
          · exact q
          · have ⟨q1, q2, _⟩ := nfst_s (wl j) (by omega) q
            exact absurd (h _ q1) (of_decide_eq_true q2)
        · intro h
          exact ⟨c1, c2, fun i hi => Classical.not_not.mp (of_decide_eq_false (nfst_n (wl j) (by omega) h i hi))⟩
      rw [nX4_isWord]
      simp (disch := omega) only [eX4_isWord_0, eX4_isWord_1, eX4_isWord_4, eX4_isWord_5, eX4_isWord_8, eX4_isWord_9, eX4_isWord_12, eX4_isWord_13, eX4_isWord_16, eX4_isWord_17, eX4_isWord_18, eX4_isWord_21, eX4_isWord_24, eX4_isWord_25, eX4_isWord_26, eX4_isWord_27, eX4_isWord_29, eX4_isWord_30, eX4_isWord_33, eX4_isWord_36, eX4_isWord_37, eX4_isWord_40, eX4_isWord_41, eX4_isWord_44, eX4_isWord_45, eX4_isWord_46, eX4_isWord_47, eX4_isWord_48, eX4_isWord_49, eX4_isWord_52, eX4_isWord_55, eX4_isWord_56, eX4_isWord_57, eX4_isWord_60, eX4_isWord_63, eX4_isWord_64, k2, k3, k4, c1, c2, hle, rd6, wr6, rd7, wr7, rd8, wr8, rd9, wr9, rd10, wr10, rd11, wr11, rd12, wr12, rd14, wr14, rd15, wr15, rd16, wr16, rd17, wr17, rd18, wr18, rd19, wr19, rd20, wr20, rd23, wr23, rd24, wr24, rd26, wr26, rd27, wr27, rd28, wr28, rd29, wr29, rd30, wr30, rd64, wr64, rd65, wr65, rd67, wr67, rd68, wr68, rd69, wr69, rd70, wr70, rd71, wr71, rd72, wr72, rd73, wr73, rb4, rb66, wb4, wb66, rdR, wrR, lenR, len1, len21, ofNat_nI, not_true_eq_false, not_false_eq_true, zok1, zok0, Bool.false_eq_true, zpush_s, zpush_n, Option.bind_some, Option.bind_none, ite_true, ite_false, if_true, if_false, ↓reduceIte, nI_add, pk_mul, ob0, ob2, ob3, ob22, ob25, ob63, Nat.reduceEqDiff, Nat.reduceAdd, Nat.reduceMul, Nat.reduceSub, pLeT, pLeF, pLtT, pLtF, pEqT, pEqF, qLtT, qLtF, qLeT, qLeF, qEqF, nI_sub2, nI_dec, ob5, ob13]
      refine hf.trans ?_
      rw [hp]
      by_cases q : nfst (fun i => decide (b (tB n b e + i) ≠ wd j i)) (wl j) = 999
      · rw [if_pos q, decide_eq_true q]; rfl
      · rw [if_neg q, decide_eq_false q]; rfl
    · have hp : pwd n b e j = false := decide_eq_false (fun h => c2 h.2.1)
      rw [hp]
      simp (disch := omega) only [nX4_isWord, eX4_isWord_0, eX4_isWord_1, eX4_isWord_4, eX4_isWord_5, eX4_isWord_8, eX4_isWord_9, eX4_isWord_12, eX4_isWord_13, eX4_isWord_16, eX4_isWord_17, eX4_isWord_18, eX4_isWord_21, eX4_isWord_24, eX4_isWord_25, eX4_isWord_26, eX4_isWord_27, eX4_isWord_29, eX4_isWord_30, eX4_isWord_33, eX4_isWord_36, eX4_isWord_37, eX4_isWord_40, eX4_isWord_41, eX4_isWord_44, eX4_isWord_45, eX4_isWord_46, eX4_isWord_47, eX4_isWord_48, eX4_isWord_49, eX4_isWord_52, eX4_isWord_55, eX4_isWord_56, eX4_isWord_57, eX4_isWord_60, eX4_isWord_63, eX4_isWord_64, k2, k3, k4, c1, hle, zbt_f, rd6, wr6, rd7, wr7, rd8, wr8, rd9, wr9, rd10, wr10, rd11, wr11, rd12, wr12, rd14, wr14, rd15, wr15, rd16, wr16, rd17, wr17, rd18, wr18, rd19, wr19, rd20, wr20, rd23, wr23, rd24, wr24, rd26, wr26, rd27, wr27, rd28, wr28, rd29, wr29, rd30, wr30, rd64, wr64, rd65, wr65, rd67, wr67, rd68, wr68, rd69, wr69, rd70, wr70, rd71, wr71, rd72, wr72, rd73, wr73, rb4, rb66, wb4, wb66, rdR, wrR, lenR, len1, len21, ofNat_nI, not_true_eq_false, not_false_eq_true, zok1, zok0, Bool.false_eq_true, zpush_s, zpush_n, Option.bind_some, Option.bind_none, ite_true, ite_false, if_true, if_false, ↓reduceIte, nI_add, pk_mul, ob0, ob2, ob3, ob22, ob25, ob63, Nat.reduceEqDiff, Nat.reduceAdd, Nat.reduceMul, Nat.reduceSub, pLeT, pLeF, pLtT, pLtF, pEqT, pEqF, qLtT, qLtF, qLeT, qLeF, qEqF, nI_sub2, nI_dec, ob5, ob13]
  · have hp : pwd n b e j = false := decide_eq_false (fun h => c1 h.1)
    rw [hp]
    simp (disch := omega) only [nX4_isWord, eX4_isWord_0, eX4_isWord_1, eX4_isWord_4, eX4_isWord_5, eX4_isWord_8, eX4_isWord_9, eX4_isWord_12, eX4_isWord_13, eX4_isWord_16, eX4_isWord_17, eX4_isWord_18, eX4_isWord_21, eX4_isWord_24, eX4_isWord_25, eX4_isWord_26, eX4_isWord_27, eX4_isWord_29, eX4_isWord_30, eX4_isWord_33, eX4_isWord_36, eX4_isWord_37, eX4_isWord_40, eX4_isWord_41, eX4_isWord_44, eX4_isWord_45, eX4_isWord_46, eX4_isWord_47, eX4_isWord_48, eX4_isWord_49, eX4_isWord_52, eX4_isWord_55, eX4_isWord_56, eX4_isWord_57, eX4_isWord_60, eX4_isWord_63, eX4_isWord_64, k2, zbt_f, rd6, wr6, rd7, wr7, rd8, wr8, rd9, wr9, rd10, wr10, rd11, wr11, rd12, wr12, rd14, wr14, rd15, wr15, rd16, wr16, rd17, wr17, rd18, wr18, rd19, wr19, rd20, wr20, rd23, wr23, rd24, wr24, rd26, wr26, rd27, wr27, rd28, wr28, rd29, wr29, rd30, wr30, rd64, wr64, rd65, wr65, rd67, wr67, rd68, wr68, rd69, wr69, rd70, wr70, rd71, wr71, rd72, wr72, rd73, wr73, rb4, rb66, wb4, wb66, rdR, wrR, lenR, len1, len21, ofNat_nI, not_true_eq_false, not_false_eq_true, zok1, zok0, Bool.false_eq_true, zpush_s, zpush_n, Option.bind_some, Option.bind_none, ite_true, ite_false, if_true, if_false, ↓reduceIte, nI_add, pk_mul, ob0, ob2, ob3, ob22, ob25, ob63, Nat.reduceEqDiff, Nat.reduceAdd, Nat.reduceMul, Nat.reduceSub, pLeT, pLeF, pLtT, pLtF, pEqT, pEqF, qLtT, qLtF, qLeT, qLeF, qEqF, nI_sub2, nI_dec, ob5, ob13]
/-- the word as a number -/
def nmW (j : Nat) : Nat := nm (wd j) 0 (wl j)
theorem nm_inj {u v : Nat → Nat} {p q : Nat} : ∀ k m, (∀ i, i < k → 1 ≤ u (p + i) ∧ u (p + i) < 256) → (∀ i, i < m → 1 ≤ v (q + i) ∧ v (q + i) < 256) → nm u p k = nm v q m → k = m ∧ ∀ i, i < k → u (p + i) = v (q + i)
  | 0, 0, _, _, _ => ⟨rfl, fun i hi => by omega⟩
  | 0, m + 1, _, h2, h => by
    have := (h2 m (by omega)).1
    rw [nm, nm] at h
    omega
  | k + 1, 0, h1, _, h => by
    have := (h1 k (by omega)).1
    rw [nm, nm] at h
    omega
  | k + 1, m + 1, h1, h2, h => by
    have a1 := h1 k (by omega)
    have a2 := h2 m (by omega)
    rw [nm, nm] at h
    have ⟨e1, e2⟩ := nm_inj k m (fun i hi => h1 i (by omega)) (fun i hi => h2 i (by omega)) (by omega)
    subst e1
    refine ⟨rfl, fun i hi => ?_⟩
    by_cases q : i = k
    · subst q; omega
    · exact e2 i (by omega)
theorem tK_1 {n e : Nat} {b : Nat → Nat} (h : tK n b e = 1) : tB n b e < n ∧ bLt b (tB n b e) = true := by
  unfold tK at h
  split at h
  · omega
  · next q =>
    split at h
    · next q2 => exact ⟨by omega, q2⟩
    · exfalso
      split at h
      · split at h <;> omega
      · split at h <;> omega
theorem tK_lt {n e : Nat} {b : Nat → Nat} (h : tK n b e = 1) {i : Nat} (hi : i < tE n b e - tB n b e) : 97 ≤ b (tB n b e + i) ∧ b (tB n b e + i) ≤ 122 := by
  have ⟨q1, q2⟩ := tK_1 h
  have e1 : tE n b e = zsk (bLt b) (n - tB n b e) (tB n b e) := by unfold tE; rw [if_neg (by omega), if_pos q2]
  have qb : bLt b (tB n b e + i) = true := zsk_in (n - tB n b e) (tB n b e) (tB n b e + i) (by omega) (by omega)
  unfold bLt at qb
  rw [Bool.and_eq_true] at qb
  exact ⟨of_decide_eq_true qb.1, of_decide_eq_true qb.2⟩
theorem pwd_n {n e j : Nat} {b : Nat → Nat} (hj : j < 8) : pwd n b e j = decide (tK n b e = 1 ∧ tN n b e = nmW j) := by
  have h8 := wl_le hj
  have hw : ∀ i, i < wl j → 1 ≤ wd j (0 + i) ∧ wd j (0 + i) < 256 := fun i hi => by
    rw [Nat.zero_add]
    have := wd_in hj hi
    omega
  unfold pwd
  rw [Bool.eq_iff_iff, decide_eq_true_iff, decide_eq_true_iff]
  constructor
  · rintro ⟨h1, h2, h3⟩
    refine ⟨h1, ?_⟩
    unfold tN nmx nmW
    rw [h2, if_pos h8.2]
    have : ∀ k, k ≤ wl j → nm b (tB n b e) k = nm (wd j) 0 k := by
      intro k
      induction k with
      | zero => exact fun _ => rfl
      | succ k ih =>
        intro hk
        rw [nm, nm, ih (by omega), h3 k (by omega), Nat.zero_add]
    exact this _ (Nat.le_refl _)
  · rintro ⟨h1, h2⟩
    have hlt := fun i hi => tK_lt h1 (i := i) hi
    unfold tN nmx nmW at h2
    split at h2
    · have ⟨e1, e2⟩ := nm_inj (tE n b e - tB n b e) (wl j) (fun i hi => by have := hlt i hi; omega) hw h2
      refine ⟨h1, e1, fun i hi => ?_⟩
      have := e2 i (by omega)
      rwa [Nat.zero_add] at this
    · exfalso
      have h0 : nm (wd j) 0 0 = nm (wd j) 0 (wl j) := h2
      have := (nm_inj 0 (wl j) (fun i hi => by omega) hw h0).1
      omega
theorem nmW_lt {j : Nat} (hj : j < 8) : nmW j < 2 ^ 64 := by
  have h8 := wl_le hj
  have h := nm_lt (b := wd j) (p := 0) (wl j) (fun i hi => by
    rw [Nat.zero_add]
    have := wd_in hj hi
    omega)
  have k2 : 256 ^ wl j ≤ 256 ^ 8 := Nat.pow_le_pow_right (by omega) h8.2
  have k3 : 256 ^ 8 = 2 ^ 64 := by decide
  unfold nmW
  omega
theorem tN_lt {n e : Nat} {b : Nat → Nat} (h : tK n b e = 1) : tN n b e < 2 ^ 64 := by
  have hlt := fun i hi => tK_lt h (i := i) hi
  unfold tN nmx
  split
  · have h1 := nm_lt (b := b) (p := tB n b e) (tE n b e - tB n b e) (fun i hi => by have := hlt i hi; omega)
    have k2 : 256 ^ (tE n b e - tB n b e) ≤ 256 ^ 8 := Nat.pow_le_pow_right (by omega) (by omega)
    have k3 : 256 ^ 8 = 2 ^ 64 := by decide
    omega
  · omega
theorem lN_inj {x y : Nat} (hx : x < 2 ^ 64) (hy : y < 2 ^ 64) : (lN x = lN y) = (x = y) := by
  apply propext
  refine ⟨fun h => ?_, fun h => by rw [h]⟩
  have h1 : (lN x).toBitVec.toNat = (lN y).toBitVec.toNat := by rw [h]
  have h2 : ∀ z : Nat, (lN z).toBitVec = BitVec.ofNat 64 z := fun _ => rfl
  rw [h2, h2, BitVec.toNat_ofNat, BitVec.toNat_ofNat, Nat.mod_eq_of_lt hx, Nat.mod_eq_of_lt hy] at h1
  exact h1
theorem sm_isName {d n e j : Nat} {b : Nat → Nat} {μ : Zm} {C : Int64} (k1 : μ 63 13 = nI (tK n b e)) (k2 : tK n b e = 1 → zmk (μ 63 15) (μ 63 1015) = lN (tN n b e)) (hj : j < 8) (hC : C = lN (nmW j)) : zC true (d + 1) mX7_isName [.ref 63, .long C] μ = some (some (.int (zbt (pwd n b e j))), μ) := by
  subst hC
  rw [pwd_n hj]
  have hK := tK_le (n := n) (b := b) (e := e)
  have z0 : (nI 0 : Int32) = 0 := rfl
  by_cases c1 : tK n b e = 1
  · have h2 := k2 c1
    have hq : (lg_cmp (lN (tN n b e)) (lN (nmW j)) = nI 0) = (tN n b e = nmW j) := by
      rw [← lN_inj (tN_lt c1) (nmW_lt hj)]
      exact propext (lg_cmp_eq _ _)
    by_cases c2 : tN n b e = nmW j
    · rw [decide_eq_true ⟨c1, c2⟩]
      rw [eq_true c2] at hq
      simp (disch := omega) only [nX7_isName, eX7_isName_0, eX7_isName_1, eX7_isName_4, eX7_isName_5, eX7_isName_8, eX7_isName_9, eX7_isName_12, eX7_isName_13, eX7_isName_14, eX7_isName_17, eX7_isName_18, eX7_isName_21, eX7_isName_22, k1, h2, hq, zbt_t, not_true_eq_false, not_false_eq_true, zok1, zok0, Bool.false_eq_true, zpush_s, zpush_n, Option.bind_some, Option.bind_none, ite_true, ite_false, if_true, if_false, ↓reduceIte, nI_add, pk_mul, ob0, ob2, ob3, ob22, ob25, ob63, Nat.reduceEqDiff, Nat.reduceAdd, Nat.reduceMul, Nat.reduceSub, pLeT, pLeF, pLtT, pLtF, pEqT, pEqF, qLtT, qLtF, qLeT, qLeF, qEqF, nI_sub2, nI_dec, ob5, ob13]
    · rw [decide_eq_false (fun h => c2 h.2)]
      rw [eq_false c2] at hq
      simp (disch := omega) only [nX7_isName, eX7_isName_0, eX7_isName_1, eX7_isName_4, eX7_isName_5, eX7_isName_8, eX7_isName_9, eX7_isName_12, eX7_isName_13, eX7_isName_14, eX7_isName_17, eX7_isName_18, eX7_isName_21, eX7_isName_22, k1, h2, hq, zbt_f, not_true_eq_false, not_false_eq_true, zok1, zok0, Bool.false_eq_true, zpush_s, zpush_n, Option.bind_some, Option.bind_none, ite_true, ite_false, if_true, if_false, ↓reduceIte, nI_add, pk_mul, ob0, ob2, ob3, ob22, ob25, ob63, Nat.reduceEqDiff, Nat.reduceAdd, Nat.reduceMul, Nat.reduceSub, pLeT, pLeF, pLtT, pLtF, pEqT, pEqF, qLtT, qLtF, qLeT, qLeF, qEqF, nI_sub2, nI_dec, ob5, ob13]
  · rw [decide_eq_false (fun h => c1 h.1)]
    simp (disch := omega) only [nX7_isName, eX7_isName_0, eX7_isName_1, eX7_isName_4, eX7_isName_5, eX7_isName_8, eX7_isName_9, eX7_isName_12, eX7_isName_13, eX7_isName_14, eX7_isName_17, eX7_isName_18, eX7_isName_21, eX7_isName_22, k1, zbt_f, not_true_eq_false, not_false_eq_true, zok1, zok0, Bool.false_eq_true, zpush_s, zpush_n, Option.bind_some, Option.bind_none, ite_true, ite_false, if_true, if_false, ↓reduceIte, nI_add, pk_mul, ob0, ob2, ob3, ob22, ob25, ob63, Nat.reduceEqDiff, Nat.reduceAdd, Nat.reduceMul, Nat.reduceSub, pLeT, pLeF, pLtT, pLtF, pEqT, pEqF, qLtT, qLtF, qLeT, qLeF, qEqF, nI_sub2, nI_dec, ob5, ob13]
