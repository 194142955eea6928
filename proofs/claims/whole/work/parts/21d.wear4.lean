/-! ===== wear: both ===== -/
theorem pbs_le {f : Nat → Option Nat} {m : Nat} (h1 : ∀ i v, f i = some v → v ≤ m) : ∀ n v, (pbs f n).1 = some v → v ≤ m
  | 0, _, h => by cases h
  | n + 1, v, h => by
    rw [pbs] at h
    split at h
    · exact h1 n v h
    · exact pbs_le h1 n v h
theorem pbs_n {f : Nat → Option Nat} : ∀ n, (pbs f n).2 ≤ n
  | 0 => Nat.le_refl _
  | n + 1 => by
    rw [pbs]
    split
    · exact Nat.le_succ n
    · exact Nat.le_succ_of_le (pbs_n n)
theorem zov_le {α : Type} {x y : Option Nat} {p q : α} (hx : ∀ v, x = some v → v < 1000000) (hy : ∀ v, y = some v → v < 1000000) : (if zov x ≤ zov y then p else q) = if pbt x y = true then q else p := by
  have m0 : ∀ n, n < 1000000 → ¬ nI n ≤ (-1 : Int32) := fun n h => by
    rw [Int32.le_iff_toInt_le, nI_toInt (by omega)]
    have : (-1 : Int32).toInt = -1 := by decide
    omega
  have m1 : ∀ n, n < 1000000 → (-1 : Int32) ≤ nI n := fun n h => by
    rw [Int32.le_iff_toInt_le, nI_toInt (by omega)]
    have : (-1 : Int32).toInt = -1 := by decide
    omega
  cases x with
  | none =>
    cases y with
    | none =>
      show (if (-1 : Int32) ≤ -1 then p else q) = if false = true then q else p
      rw [if_pos (by decide), if_neg (fun h => by cases h)]
    | some v =>
      show (if (-1 : Int32) ≤ nI v then p else q) = if false = true then q else p
      rw [if_pos (m1 v (hy v rfl)), if_neg (fun h => by cases h)]
  | some u =>
    cases y with
    | none =>
      show (if nI u ≤ (-1 : Int32) then p else q) = if true = true then q else p
      rw [if_neg (m0 u (hx u rfl)), if_pos rfl]
    | some v =>
      have hu := hx u rfl
      have hv := hy v rfl
      show (if nI u ≤ nI v then p else q) = if decide (v < u) = true then q else p
      by_cases c : v < u
      · rw [if_neg (fun h => by have := (nI_leI (by omega) (by omega)).mp h; omega), if_pos (decide_eq_true c)]
      · rw [if_pos ((nI_leI (by omega : u < 2 ^ 31) (by omega : v < 2 ^ 31)).mpr (by omega)), if_neg (fun h => c (of_decide_eq_true h))]
theorem mLtF {α : Type} {j : Nat} {x y : α} (h : j < 2147483648) : (if nI j < (-1 : Int32) then x else y) = y := if_neg (fun q => by
  rw [Int32.lt_iff_toInt_lt, nI_toInt (by omega)] at q
  have : (-1 : Int32).toInt = -1 := by decide
  omega)
theorem sm_inM {d h : Nat} {μ : Zm} (c : h < 2147483648) : zC true (d + 1) mX7_in [.int (-1), .int (-1), .int (nI h)] μ = some (some (.int (nI 1)), μ) := by
  have e1 : ((-1 : Int32) < -1) = False := by decide
  have e2 : (nI h < (-1 : Int32)) = False := eq_false (fun q => by
    rw [Int32.lt_iff_toInt_lt, nI_toInt (by omega)] at q
    have : (-1 : Int32).toInt = -1 := by decide
    omega)
  simp (disch := omega) only [nX7_in, eX7_in_0, eX7_in_1, eX7_in_2, eX7_in_5, eX7_in_6, eX7_in_7, eX7_in_10, eX7_in_11, eX7_in_14, eX7_in_15, e1, e2, not_true_eq_false, not_false_eq_true, zok1, zok0, Bool.false_eq_true, zpush_s, zpush_n, Option.bind_some, Option.bind_none, ite_true, ite_false, if_true, if_false, reduceIte, nI_add, pk_mul, ob0, ob2, ob3, ob22, ob25, ob63, Nat.reduceEqDiff, Nat.reduceAdd, Nat.reduceMul, Nat.reduceSub, jLeT, jLeF, jLtT, jLtF, jEqT, jEqF, jNeT, jNeF, iZF, iZT, nI_sub2, nI_dec, nLtT, nLtF, nLeT, nLeF, nEqF, nNeT, ob5, ob13]
theorem sm_inMT {d j h : Nat} {μ : Zm} (c : j ≤ h ∧ h < 2147483648) : zC true (d + 1) mX7_in [.int (nI j), .int (-1), .int (nI h)] μ = some (some (.int (nI 1)), μ) := by
  simp (disch := omega) only [nX7_in, eX7_in_0, eX7_in_1, eX7_in_2, eX7_in_5, eX7_in_6, eX7_in_7, eX7_in_10, eX7_in_11, eX7_in_14, eX7_in_15, mLtF, not_true_eq_false, not_false_eq_true, zok1, zok0, Bool.false_eq_true, zpush_s, zpush_n, Option.bind_some, Option.bind_none, ite_true, ite_false, if_true, if_false, reduceIte, nI_add, pk_mul, ob0, ob2, ob3, ob22, ob25, ob63, Nat.reduceEqDiff, Nat.reduceAdd, Nat.reduceMul, Nat.reduceSub, jLeT, jLeF, jLtT, jLtF, jEqT, jEqF, jNeT, jNeF, iZF, iZT, nI_sub2, nI_dec, nLtT, nLtF, nLeT, nLeF, nEqF, nNeT, ob5, ob13]
theorem sm_inMF {d : Nat} {x h : Int32} {μ : Zm} (c : x.toInt < -1) : zC true (d + 1) mX7_in [.int x, .int (-1), .int h] μ = some (some (.int (nI 0)), μ) := by
  have e1 : (x < (-1 : Int32)) = True := eq_true (by
    rw [Int32.lt_iff_toInt_lt]
    have : (-1 : Int32).toInt = -1 := by decide
    omega)
  simp (disch := omega) only [nX7_in, eX7_in_0, eX7_in_1, eX7_in_2, eX7_in_5, eX7_in_6, eX7_in_7, eX7_in_10, eX7_in_11, eX7_in_14, eX7_in_15, e1, not_true_eq_false, not_false_eq_true, zok1, zok0, Bool.false_eq_true, zpush_s, zpush_n, Option.bind_some, Option.bind_none, ite_true, ite_false, if_true, if_false, reduceIte, nI_add, pk_mul, ob0, ob2, ob3, ob22, ob25, ob63, Nat.reduceEqDiff, Nat.reduceAdd, Nat.reduceMul, Nat.reduceSub, jLeT, jLeF, jLtT, jLtF, jEqT, jEqF, jNeT, jNeF, iZF, iZT, nI_sub2, nI_dec, nLtT, nLtF, nLeT, nLeF, nEqF, nNeT, ob5, ob13]
theorem p2K {a : Nat → Nat} (hf : WF a) : 2 ^ a 1 ≤ 32 := Nat.pow_le_pow_right (n := 2) (by omega) hf.1
set_option maxRecDepth 100000 in
set_option maxHeartbeats 4000000 in
theorem sm_wear0 {d t : Nat} {k : Int32} {μ : Zm} {a : Nat → Nat} (hm : MS μ a) (hf : WF a) (ht : t < 32) : ∃ l8, zA (d + 5) mX7_wear 47 [.ref 63, .int (nI t), .int k, zjk, zjk, zjk, zjk, zjk, zjk] [] μ = zA (d + 5) mX7_wear 150 [.ref 63, .int (nI t), .int k, .int (nI (a 3 + 1)), .int (nI ((a 3 + 1) ^ a 1)), .int (nI (pM a t (a 1) 0)), .int (nI (prw a t (a 1) 0)), .int (nI ((a 3 + 1) ^ a 1)), l8] [] μ := by
  have hK := hm.2.1
  have hW := hm.2.2.2.1
  have h1 := hf.1
  have h3 := hf.2.2.1
  have hB := b_le (j := a 1) hf h1
  have hl1 := zloop (fun i => zA (d + 5) mX7_wear 62 [.ref 63, .int (nI t), .int k, .int (nI (a 3 + 1)), .int (nI ((a 3 + 1) ^ i)), .int (nI i), zjk, zjk, zjk] [] μ) (a 1) (fun i hi => by
    have := b_le (j := i) hf (by omega)
    rw [eX7_wear_62, Nat.pow_succ]
    simp (disch := omega) only [eX7_wear_0, eX7_wear_1, eX7_wear_4, eX7_wear_7, eX7_wear_9, eX7_wear_10, eX7_wear_11, eX7_wear_12, eX7_wear_13, eX7_wear_14, eX7_wear_17, eX7_wear_18, eX7_wear_19, eX7_wear_20, eX7_wear_21, eX7_wear_22, eX7_wear_25, eX7_wear_28, eX7_wear_29, eX7_wear_30, eX7_wear_31, eX7_wear_34, eX7_wear_35, eX7_wear_36, eX7_wear_37, eX7_wear_38, eX7_wear_41, eX7_wear_44, eX7_wear_46, eX7_wear_47, eX7_wear_48, eX7_wear_51, eX7_wear_52, eX7_wear_53, eX7_wear_54, eX7_wear_55, eX7_wear_56, eX7_wear_57, eX7_wear_59, eX7_wear_60, eX7_wear_64, eX7_wear_65, eX7_wear_68, eX7_wear_69, eX7_wear_70, eX7_wear_73, eX7_wear_75, eX7_wear_76, eX7_wear_77, eX7_wear_79, eX7_wear_82, eX7_wear_86, eX7_wear_88, eX7_wear_89, eX7_wear_91, eX7_wear_92, eX7_wear_94, eX7_wear_96, eX7_wear_98, eX7_wear_101, eX7_wear_102, eX7_wear_104, eX7_wear_106, eX7_wear_107, eX7_wear_110, eX7_wear_112, eX7_wear_114, eX7_wear_116, eX7_wear_119, eX7_wear_121, eX7_wear_124, eX7_wear_126, eX7_wear_128, eX7_wear_130, eX7_wear_132, eX7_wear_135, eX7_wear_137, eX7_wear_140, eX7_wear_142, eX7_wear_144, eX7_wear_147, eX7_wear_152, eX7_wear_154, eX7_wear_155, eX7_wear_157, eX7_wear_159, eX7_wear_160, eX7_wear_163, eX7_wear_165, eX7_wear_166, eX7_wear_167, eX7_wear_169, eX7_wear_172, eX7_wear_175, eX7_wear_176, eX7_wear_179, eX7_wear_181, eX7_wear_184, eX7_wear_186, eX7_wear_188, eX7_wear_189, eX7_wear_190, eX7_wear_191, eX7_wear_192, eX7_wear_193, hK, rd6, wr6, rd7, wr7, rd8, wr8, rd9, wr9, rd10, wr10, rd11, wr11, rd12, wr12, rd14, wr14, rd15, wr15, rd16, wr16, rd17, wr17, rd18, wr18, rd19, wr19, rd20, wr20, rd23, wr23, rd24, wr24, rd26, wr26, rd27, wr27, rd28, wr28, rd29, wr29, rd30, wr30, rd64, wr64, rd65, wr65, rd67, wr67, rd68, wr68, rd69, wr69, rd70, wr70, rd71, wr71, rd72, wr72, rd73, wr73, rb4, rb66, wb4, wb66, rdR, wrR, lenR, len1, len21, ofNat_nI, not_true_eq_false, not_false_eq_true, zok1, zok0, Bool.false_eq_true, zpush_s, zpush_n, Option.bind_some, Option.bind_none, ite_true, ite_false, if_true, if_false, reduceIte, nI_add, pk_mul, ob0, ob2, ob3, ob22, ob25, ob63, Nat.reduceEqDiff, Nat.reduceAdd, Nat.reduceMul, Nat.reduceSub, jLeT, jLeF, jLtT, jLtF, jEqT, jEqF, jNeT, jNeF, iZF, iZT, nI_sub2, nI_dec, nLtT, nLtF, nLeT, nLeF, nEqF, nNeT, ob5, ob13])
  have hv : ∀ i v, pwv a t (a 1) 0 i = some v → v < 1000000 := fun i v h => by
    have h5 := pwv_le hf _ _ _ _ h
    have := pM_le (t := t) hf (a 1) 0
    omega
  obtain ⟨l8, hl2⟩ := zloopJ (β := Value) (fun i j => zA (d + 5) mX7_wear 94 [.ref 63, .int (nI t), .int k, .int (nI (a 3 + 1)), .int (nI ((a 3 + 1) ^ a 1)), .int (zov (pbs (pwv a t (a 1) 0) i).1), .int (nI (pbs (pwv a t (a 1) 0) i).2), .int (nI i), j] [] μ) ((a 3 + 1) ^ a 1) (fun i j hi => by
    refine ⟨.int (zov (pwv a t (a 1) 0 i)), ?_⟩
    have hb := pbs_le (m := 1000000 - 1) (fun i v h => by have := hv i v h; omega) i (f := pwv a t (a 1) 0)
    have hb' : ∀ v, (pbs (pwv a t (a 1) 0) i).1 = some v → v < 1000000 := fun v h => by have := hb v h; omega
    have hcmp : ∀ p q : Option (Option Value × Zm), (if zov (pwv a t (a 1) 0 i) ≤ zov (pbs (pwv a t (a 1) 0) i).1 then p else q) = if pbt (pwv a t (a 1) 0 i) (pbs (pwv a t (a 1) 0) i).1 = true then q else p := fun p q => zov_le (hv i) hb'
    (try dsimp only)
    rw [eX7_wear_94, pbs]
    cases hq : pbt (pwv a t (a 1) 0 i) (pbs (pwv a t (a 1) 0) i).1 <;> simp only [hq, if_true, Bool.false_eq_true, if_false] at hcmp ⊢ <;>
    simp (disch := omega) only [eX7_wear_0, eX7_wear_1, eX7_wear_4, eX7_wear_7, eX7_wear_9, eX7_wear_10, eX7_wear_11, eX7_wear_12, eX7_wear_13, eX7_wear_14, eX7_wear_17, eX7_wear_18, eX7_wear_19, eX7_wear_20, eX7_wear_21, eX7_wear_22, eX7_wear_25, eX7_wear_28, eX7_wear_29, eX7_wear_30, eX7_wear_31, eX7_wear_34, eX7_wear_35, eX7_wear_36, eX7_wear_37, eX7_wear_38, eX7_wear_41, eX7_wear_44, eX7_wear_46, eX7_wear_47, eX7_wear_48, eX7_wear_51, eX7_wear_52, eX7_wear_53, eX7_wear_54, eX7_wear_55, eX7_wear_56, eX7_wear_57, eX7_wear_59, eX7_wear_60, eX7_wear_62, eX7_wear_64, eX7_wear_65, eX7_wear_68, eX7_wear_69, eX7_wear_70, eX7_wear_73, eX7_wear_75, eX7_wear_76, eX7_wear_77, eX7_wear_79, eX7_wear_82, eX7_wear_85, eX7_wear_86, eX7_wear_88, eX7_wear_89, eX7_wear_91, eX7_wear_92, eX7_wear_96, eX7_wear_98, eX7_wear_101, eX7_wear_102, eX7_wear_104, eX7_wear_106, eX7_wear_107, eX7_wear_110, eX7_wear_112, eX7_wear_114, eX7_wear_116, eX7_wear_119, eX7_wear_121, eX7_wear_124, eX7_wear_126, eX7_wear_128, eX7_wear_130, eX7_wear_132, eX7_wear_135, eX7_wear_137, eX7_wear_140, eX7_wear_142, eX7_wear_144, eX7_wear_147, eX7_wear_152, eX7_wear_154, eX7_wear_155, eX7_wear_157, eX7_wear_159, eX7_wear_160, eX7_wear_163, eX7_wear_165, eX7_wear_166, eX7_wear_167, eX7_wear_169, eX7_wear_172, eX7_wear_175, eX7_wear_176, eX7_wear_179, eX7_wear_181, eX7_wear_184, eX7_wear_186, eX7_wear_188, eX7_wear_189, eX7_wear_190, eX7_wear_191, eX7_wear_192, eX7_wear_193, sm_warmBy hm hf ht (by omega : i < 100000), hcmp, rd6, wr6, rd7, wr7, rd8, wr8, rd9, wr9, rd10, wr10, rd11, wr11, rd12, wr12, rd14, wr14, rd15, wr15, rd16, wr16, rd17, wr17, rd18, wr18, rd19, wr19, rd20, wr20, rd23, wr23, rd24, wr24, rd26, wr26, rd27, wr27, rd28, wr28, rd29, wr29, rd30, wr30, rd64, wr64, rd65, wr65, rd67, wr67, rd68, wr68, rd69, wr69, rd70, wr70, rd71, wr71, rd72, wr72, rd73, wr73, rb4, rb66, wb4, wb66, rdR, wrR, lenR, len1, len21, ofNat_nI, not_true_eq_false, not_false_eq_true, zok1, zok0, Bool.false_eq_true, zpush_s, zpush_n, Option.bind_some, Option.bind_none, ite_true, ite_false, if_true, if_false, reduceIte, nI_add, pk_mul, ob0, ob2, ob3, ob22, ob25, ob63, Nat.reduceEqDiff, Nat.reduceAdd, Nat.reduceMul, Nat.reduceSub, jLeT, jLeF, jLtT, jLtF, jEqT, jEqF, jNeT, jNeF, iZF, iZT, nI_sub2, nI_dec, nLtT, nLtF, nLeT, nLeF, nEqF, nNeT, ob5, ob13]) zjk
  refine ⟨l8, ?_⟩
  simp (disch := omega) only [eX7_wear_47, eX7_wear_48, eX7_wear_51, eX7_wear_52, eX7_wear_53, eX7_wear_54, eX7_wear_55, eX7_wear_56, eX7_wear_57, eX7_wear_59, eX7_wear_60, hW, rd6, wr6, rd7, wr7, rd8, wr8, rd9, wr9, rd10, wr10, rd11, wr11, rd12, wr12, rd14, wr14, rd15, wr15, rd16, wr16, rd17, wr17, rd18, wr18, rd19, wr19, rd20, wr20, rd23, wr23, rd24, wr24, rd26, wr26, rd27, wr27, rd28, wr28, rd29, wr29, rd30, wr30, rd64, wr64, rd65, wr65, rd67, wr67, rd68, wr68, rd69, wr69, rd70, wr70, rd71, wr71, rd72, wr72, rd73, wr73, rb4, rb66, wb4, wb66, rdR, wrR, lenR, len1, len21, ofNat_nI, not_true_eq_false, not_false_eq_true, zok1, zok0, Bool.false_eq_true, zpush_s, zpush_n, Option.bind_some, Option.bind_none, ite_true, ite_false, if_true, if_false, reduceIte, nI_add, pk_mul, ob0, ob2, ob3, ob22, ob25, ob63, Nat.reduceEqDiff, Nat.reduceAdd, Nat.reduceMul, Nat.reduceSub, jLeT, jLeF, jLtT, jLtF, jEqT, jEqF, jNeT, jNeF, iZF, iZT, nI_sub2, nI_dec, nLtT, nLtF, nLeT, nLeF, nEqF, nNeT, ob5, ob13]
  rw [Nat.pow_zero] at hl1
  refine hl1.trans ?_
  (try dsimp only)
  rw [eX7_wear_62]
  simp (disch := omega) only [eX7_wear_0, eX7_wear_1, eX7_wear_4, eX7_wear_7, eX7_wear_9, eX7_wear_10, eX7_wear_11, eX7_wear_12, eX7_wear_13, eX7_wear_14, eX7_wear_17, eX7_wear_18, eX7_wear_19, eX7_wear_20, eX7_wear_21, eX7_wear_22, eX7_wear_25, eX7_wear_28, eX7_wear_29, eX7_wear_30, eX7_wear_31, eX7_wear_34, eX7_wear_35, eX7_wear_36, eX7_wear_37, eX7_wear_38, eX7_wear_41, eX7_wear_44, eX7_wear_46, eX7_wear_47, eX7_wear_48, eX7_wear_51, eX7_wear_52, eX7_wear_53, eX7_wear_54, eX7_wear_55, eX7_wear_56, eX7_wear_57, eX7_wear_59, eX7_wear_60, eX7_wear_64, eX7_wear_65, eX7_wear_68, eX7_wear_69, eX7_wear_70, eX7_wear_73, eX7_wear_75, eX7_wear_76, eX7_wear_77, eX7_wear_79, eX7_wear_82, eX7_wear_85, eX7_wear_86, eX7_wear_88, eX7_wear_89, eX7_wear_91, eX7_wear_92, eX7_wear_96, eX7_wear_98, eX7_wear_101, eX7_wear_102, eX7_wear_104, eX7_wear_106, eX7_wear_107, eX7_wear_110, eX7_wear_112, eX7_wear_114, eX7_wear_116, eX7_wear_119, eX7_wear_121, eX7_wear_124, eX7_wear_126, eX7_wear_128, eX7_wear_130, eX7_wear_132, eX7_wear_135, eX7_wear_137, eX7_wear_140, eX7_wear_142, eX7_wear_144, eX7_wear_147, eX7_wear_152, eX7_wear_154, eX7_wear_155, eX7_wear_157, eX7_wear_159, eX7_wear_160, eX7_wear_163, eX7_wear_165, eX7_wear_166, eX7_wear_167, eX7_wear_169, eX7_wear_172, eX7_wear_175, eX7_wear_176, eX7_wear_179, eX7_wear_181, eX7_wear_184, eX7_wear_186, eX7_wear_188, eX7_wear_189, eX7_wear_190, eX7_wear_191, eX7_wear_192, eX7_wear_193, hK, rd6, wr6, rd7, wr7, rd8, wr8, rd9, wr9, rd10, wr10, rd11, wr11, rd12, wr12, rd14, wr14, rd15, wr15, rd16, wr16, rd17, wr17, rd18, wr18, rd19, wr19, rd20, wr20, rd23, wr23, rd24, wr24, rd26, wr26, rd27, wr27, rd28, wr28, rd29, wr29, rd30, wr30, rd64, wr64, rd65, wr65, rd67, wr67, rd68, wr68, rd69, wr69, rd70, wr70, rd71, wr71, rd72, wr72, rd73, wr73, rb4, rb66, wb4, wb66, rdR, wrR, lenR, len1, len21, ofNat_nI, not_true_eq_false, not_false_eq_true, zok1, zok0, Bool.false_eq_true, zpush_s, zpush_n, Option.bind_some, Option.bind_none, ite_true, ite_false, if_true, if_false, reduceIte, nI_add, pk_mul, ob0, ob2, ob3, ob22, ob25, ob63, Nat.reduceEqDiff, Nat.reduceAdd, Nat.reduceMul, Nat.reduceSub, jLeT, jLeF, jLtT, jLtF, jEqT, jEqF, jNeT, jNeF, iZF, iZT, nI_sub2, nI_dec, nLtT, nLtF, nLeT, nLeF, nEqF, nNeT, ob5, ob13]
  refine hl2.trans ?_
  (try dsimp only)
  rw [pbs_w hf, eX7_wear_94]
  simp (disch := omega) only [eX7_wear_0, eX7_wear_1, eX7_wear_4, eX7_wear_7, eX7_wear_9, eX7_wear_10, eX7_wear_11, eX7_wear_12, eX7_wear_13, eX7_wear_14, eX7_wear_17, eX7_wear_18, eX7_wear_19, eX7_wear_20, eX7_wear_21, eX7_wear_22, eX7_wear_25, eX7_wear_28, eX7_wear_29, eX7_wear_30, eX7_wear_31, eX7_wear_34, eX7_wear_35, eX7_wear_36, eX7_wear_37, eX7_wear_38, eX7_wear_41, eX7_wear_44, eX7_wear_46, eX7_wear_47, eX7_wear_48, eX7_wear_51, eX7_wear_52, eX7_wear_53, eX7_wear_54, eX7_wear_55, eX7_wear_56, eX7_wear_57, eX7_wear_59, eX7_wear_60, eX7_wear_62, eX7_wear_64, eX7_wear_65, eX7_wear_68, eX7_wear_69, eX7_wear_70, eX7_wear_73, eX7_wear_75, eX7_wear_76, eX7_wear_77, eX7_wear_79, eX7_wear_82, eX7_wear_85, eX7_wear_86, eX7_wear_88, eX7_wear_89, eX7_wear_91, eX7_wear_92, eX7_wear_96, eX7_wear_98, eX7_wear_101, eX7_wear_102, eX7_wear_104, eX7_wear_106, eX7_wear_107, eX7_wear_110, eX7_wear_112, eX7_wear_114, eX7_wear_116, eX7_wear_119, eX7_wear_121, eX7_wear_124, eX7_wear_126, eX7_wear_128, eX7_wear_130, eX7_wear_132, eX7_wear_135, eX7_wear_137, eX7_wear_140, eX7_wear_142, eX7_wear_144, eX7_wear_147, eX7_wear_152, eX7_wear_154, eX7_wear_155, eX7_wear_157, eX7_wear_159, eX7_wear_160, eX7_wear_163, eX7_wear_165, eX7_wear_166, eX7_wear_167, eX7_wear_169, eX7_wear_172, eX7_wear_175, eX7_wear_176, eX7_wear_179, eX7_wear_181, eX7_wear_184, eX7_wear_186, eX7_wear_188, eX7_wear_189, eX7_wear_190, eX7_wear_191, eX7_wear_192, eX7_wear_193, not_true_eq_false, not_false_eq_true, zok1, zok0, Bool.false_eq_true, zpush_s, zpush_n, Option.bind_some, Option.bind_none, ite_true, ite_false, if_true, if_false, reduceIte, nI_add, pk_mul, ob0, ob2, ob3, ob22, ob25, ob63, Nat.reduceEqDiff, Nat.reduceAdd, Nat.reduceMul, Nat.reduceSub, jLeT, jLeF, jLtT, jLtF, jEqT, jEqF, jNeT, jNeF, iZF, iZT, nI_sub2, nI_dec, nLtT, nLtF, nLeT, nLeF, nEqF, nNeT, ob5, ob13, zov]
set_option maxHeartbeats 4000000 in
theorem sm_wearN {d t : Nat} {μ : Zm} {a : Nat → Nat} (hm : MS μ a) (hf : WF a) (h0 : a 1 ≠ 0) (ht : t < 2 ^ a 1) : zC true (d + 6) mX7_wear [.ref 63, .int (nI t), .int (-1)] μ = some (some (.int (nI (pM a t (a 1) 0))), μ) := by
  have hK := hm.2.1
  have h1 := hf.1
  have h32 := p2K hf
  obtain ⟨l8, hl⟩ := sm_wear0 (d := d) (k := -1) hm hf (by omega : t < 32)
  have hv : zC true (d + 5) mX7_isValley [.ref 63] μ = some (some (.int (nI 1)), μ) := by
    rw [sm_isValley hm, decide_eq_true h0]
    rfl
  have m0 : ((-1 : Int32) < nI 0) = True := by decide
  have m1 : (nI 0 ≤ (-1 : Int32)) = False := by decide
  rw [nX7_wear]
  simp (disch := omega) only [eX7_wear_0, eX7_wear_1, eX7_wear_4, eX7_wear_10, eX7_wear_11, eX7_wear_12, eX7_wear_13, eX7_wear_14, eX7_wear_17, eX7_wear_18, eX7_wear_19, eX7_wear_20, eX7_wear_21, eX7_wear_22, eX7_wear_25, eX7_wear_28, eX7_wear_29, eX7_wear_30, eX7_wear_31, eX7_wear_34, eX7_wear_35, eX7_wear_36, eX7_wear_37, eX7_wear_38, eX7_wear_41, hv, hK, nI_shl, sm_inM, sm_inT, sm_inFh, sm_inFl, sm_inN, sm_inW, rd6, wr6, rd7, wr7, rd8, wr8, rd9, wr9, rd10, wr10, rd11, wr11, rd12, wr12, rd14, wr14, rd15, wr15, rd16, wr16, rd17, wr17, rd18, wr18, rd19, wr19, rd20, wr20, rd23, wr23, rd24, wr24, rd26, wr26, rd27, wr27, rd28, wr28, rd29, wr29, rd30, wr30, rd64, wr64, rd65, wr65, rd67, wr67, rd68, wr68, rd69, wr69, rd70, wr70, rd71, wr71, rd72, wr72, rd73, wr73, rb4, rb66, wb4, wb66, rdR, wrR, lenR, len1, len21, ofNat_nI, not_true_eq_false, not_false_eq_true, zok1, zok0, Bool.false_eq_true, zpush_s, zpush_n, Option.bind_some, Option.bind_none, ite_true, ite_false, if_true, if_false, reduceIte, nI_add, pk_mul, ob0, ob2, ob3, ob22, ob25, ob63, Nat.reduceEqDiff, Nat.reduceAdd, Nat.reduceMul, Nat.reduceSub, jLeT, jLeF, jLtT, jLtF, jEqT, jEqF, jNeT, jNeF, iZF, iZT, nI_sub2, nI_dec, nLtT, nLtF, nLeT, nLeF, nEqF, nNeT, ob5, ob13]
  refine hl.trans ?_
  simp (disch := omega) only [eX7_wear_150, eX7_wear_152, eX7_wear_154, eX7_wear_155, eX7_wear_157, eX7_wear_159, eX7_wear_160, eX7_wear_175, eX7_wear_176, eX7_wear_179, eX7_wear_181, eX7_wear_193, m0, m1, not_true_eq_false, not_false_eq_true, zok1, zok0, Bool.false_eq_true, zpush_s, zpush_n, Option.bind_some, Option.bind_none, ite_true, ite_false, if_true, if_false, reduceIte, nI_add, pk_mul, ob0, ob2, ob3, ob22, ob25, ob63]
set_option maxHeartbeats 4000000 in
theorem sm_wearK {d t k : Nat} {μ : Zm} {a : Nat → Nat} (hm : MS μ a) (hf : WF a) (ht : t < 2 ^ a 1) (hk : k < a 1) : zC true (d + 6) mX7_wear [.ref 63, .int (nI t), .int (nI k)] μ = some (some (.int (zn1 (pfw a t (a 1 - (k + 1)) (ptk a t k)))), μ) := by
  have hK := hm.2.1
  have h1 := hf.1
  have h3 := hf.2.2.1
  have h32 := p2K hf
  have hB := b_le (j := a 1) hf h1
  obtain ⟨l8, hl⟩ := sm_wear0 (d := d) (k := nI k) hm hf (by omega : t < 32)
  have hv : zC true (d + 5) mX7_isValley [.ref 63] μ = some (some (.int (nI 1)), μ) := by
    rw [sm_isValley hm, decide_eq_true (by omega)]
    rfl
  have hl2 := zloop (fun i => zA (d + 5) mX7_wear 157 [.ref 63, .int (nI t), .int (nI k), .int (nI (a 3 + 1)), .int (nI ((a 3 + 1) ^ a 1)), .int (nI (pM a t (a 1) 0)), .int (nI (prw a t (a 1) 0)), .int (nI ((a 3 + 1) ^ (a 1 - i))), .int (nI i)] [] μ) (k + 1) (fun i hi => by
    have e : (a 3 + 1) ^ (a 1 - i) / (a 3 + 1) = (a 3 + 1) ^ (a 1 - (i + 1)) := by
      rw [show a 1 - i = (a 1 - (i + 1)) + 1 by omega, Nat.pow_succ, Nat.mul_div_cancel _ (by omega)]
    have e2 := nI_div (a := (a 3 + 1) ^ (a 1 - i)) (b := a 3 + 1) (by have := b_le (j := a 1 - i) hf (by omega); omega) (by omega)
    rw [e] at e2
    rw [eX7_wear_157]
    simp (disch := omega) only [eX7_wear_0, eX7_wear_1, eX7_wear_4, eX7_wear_7, eX7_wear_9, eX7_wear_10, eX7_wear_11, eX7_wear_12, eX7_wear_13, eX7_wear_14, eX7_wear_17, eX7_wear_18, eX7_wear_19, eX7_wear_20, eX7_wear_21, eX7_wear_22, eX7_wear_25, eX7_wear_28, eX7_wear_29, eX7_wear_30, eX7_wear_31, eX7_wear_34, eX7_wear_35, eX7_wear_36, eX7_wear_37, eX7_wear_38, eX7_wear_41, eX7_wear_44, eX7_wear_46, eX7_wear_47, eX7_wear_48, eX7_wear_51, eX7_wear_52, eX7_wear_53, eX7_wear_54, eX7_wear_55, eX7_wear_56, eX7_wear_57, eX7_wear_59, eX7_wear_60, eX7_wear_62, eX7_wear_64, eX7_wear_65, eX7_wear_68, eX7_wear_69, eX7_wear_70, eX7_wear_73, eX7_wear_75, eX7_wear_76, eX7_wear_77, eX7_wear_79, eX7_wear_82, eX7_wear_85, eX7_wear_86, eX7_wear_88, eX7_wear_89, eX7_wear_91, eX7_wear_92, eX7_wear_94, eX7_wear_96, eX7_wear_98, eX7_wear_101, eX7_wear_102, eX7_wear_104, eX7_wear_106, eX7_wear_107, eX7_wear_110, eX7_wear_112, eX7_wear_114, eX7_wear_116, eX7_wear_119, eX7_wear_121, eX7_wear_124, eX7_wear_126, eX7_wear_128, eX7_wear_130, eX7_wear_132, eX7_wear_135, eX7_wear_137, eX7_wear_140, eX7_wear_142, eX7_wear_144, eX7_wear_147, eX7_wear_150, eX7_wear_152, eX7_wear_154, eX7_wear_155, eX7_wear_159, eX7_wear_160, eX7_wear_163, eX7_wear_165, eX7_wear_166, eX7_wear_167, eX7_wear_169, eX7_wear_172, eX7_wear_176, eX7_wear_179, eX7_wear_181, eX7_wear_184, eX7_wear_186, eX7_wear_188, eX7_wear_189, eX7_wear_190, eX7_wear_191, eX7_wear_192, eX7_wear_193, e2, rd6, wr6, rd7, wr7, rd8, wr8, rd9, wr9, rd10, wr10, rd11, wr11, rd12, wr12, rd14, wr14, rd15, wr15, rd16, wr16, rd17, wr17, rd18, wr18, rd19, wr19, rd20, wr20, rd23, wr23, rd24, wr24, rd26, wr26, rd27, wr27, rd28, wr28, rd29, wr29, rd30, wr30, rd64, wr64, rd65, wr65, rd67, wr67, rd68, wr68, rd69, wr69, rd70, wr70, rd71, wr71, rd72, wr72, rd73, wr73, rb4, rb66, wb4, wb66, rdR, wrR, lenR, len1, len21, ofNat_nI, not_true_eq_false, not_false_eq_true, zok1, zok0, Bool.false_eq_true, zpush_s, zpush_n, Option.bind_some, Option.bind_none, ite_true, ite_false, if_true, if_false, reduceIte, nI_add, pk_mul, ob0, ob2, ob3, ob22, ob25, ob63, Nat.reduceEqDiff, Nat.reduceAdd, Nat.reduceMul, Nat.reduceSub, jLeT, jLeF, jLtT, jLtF, jEqT, jEqF, jNeT, jNeF, iZF, iZT, nI_sub2, nI_dec, nLtT, nLtF, nLeT, nLeF, nEqF, nNeT, ob5, ob13])
  have hr := prw_lt (t := t) hf (a 1) 0
  have hb := b_pos (a := a) (j := a 1 - (k + 1))
  have hb2 := b_le (j := a 1 - (k + 1)) hf (by omega)
  have hd0 : prw a t (a 1) 0 / (a 3 + 1) ^ (a 1 - (k + 1)) ≤ prw a t (a 1) 0 := Nat.div_le_self _ _
  have e4 : nI (prw a t (a 1) 0) / nI ((a 3 + 1) ^ (a 1 - (k + 1))) = nI (prw a t (a 1) 0 / (a 3 + 1) ^ (a 1 - (k + 1))) := nI_div (by omega) (by omega)
  have e3 : nI (prw a t (a 1) 0 / (a 3 + 1) ^ (a 1 - (k + 1))) - nI (prw a t (a 1) 0 / (a 3 + 1) ^ (a 1 - (k + 1))) / nI (a 3 + 1) * nI (a 3 + 1) = nI (prw a t (a 1) 0 / (a 3 + 1) ^ (a 1 - (k + 1)) % (a 3 + 1)) := nI_rem (by omega)
  rw [prw_d hf hk] at e3
  rw [nX7_wear]
  simp (disch := omega) only [eX7_wear_0, eX7_wear_1, eX7_wear_4, eX7_wear_10, eX7_wear_11, eX7_wear_12, eX7_wear_13, eX7_wear_14, eX7_wear_17, eX7_wear_18, eX7_wear_19, eX7_wear_20, eX7_wear_21, eX7_wear_22, eX7_wear_25, eX7_wear_28, eX7_wear_29, eX7_wear_30, eX7_wear_31, eX7_wear_34, eX7_wear_35, eX7_wear_36, eX7_wear_37, eX7_wear_38, eX7_wear_41, hv, hK, nI_shl, sm_inMT, sm_inT, sm_inFh, sm_inFl, sm_inN, sm_inW, rd6, wr6, rd7, wr7, rd8, wr8, rd9, wr9, rd10, wr10, rd11, wr11, rd12, wr12, rd14, wr14, rd15, wr15, rd16, wr16, rd17, wr17, rd18, wr18, rd19, wr19, rd20, wr20, rd23, wr23, rd24, wr24, rd26, wr26, rd27, wr27, rd28, wr28, rd29, wr29, rd30, wr30, rd64, wr64, rd65, wr65, rd67, wr67, rd68, wr68, rd69, wr69, rd70, wr70, rd71, wr71, rd72, wr72, rd73, wr73, rb4, rb66, wb4, wb66, rdR, wrR, lenR, len1, len21, ofNat_nI, not_true_eq_false, not_false_eq_true, zok1, zok0, Bool.false_eq_true, zpush_s, zpush_n, Option.bind_some, Option.bind_none, ite_true, ite_false, if_true, if_false, reduceIte, nI_add, pk_mul, ob0, ob2, ob3, ob22, ob25, ob63, Nat.reduceEqDiff, Nat.reduceAdd, Nat.reduceMul, Nat.reduceSub, jLeT, jLeF, jLtT, jLtF, jEqT, jEqF, jNeT, jNeF, iZF, iZT, nI_sub2, nI_dec, nLtT, nLtF, nLeT, nLeF, nEqF, nNeT, ob5, ob13]
  refine hl.trans ?_
  simp (disch := omega) only [eX7_wear_150, eX7_wear_152, eX7_wear_154, eX7_wear_155, not_true_eq_false, not_false_eq_true, zok1, zok0, Bool.false_eq_true, zpush_s, zpush_n, Option.bind_some, Option.bind_none, ite_true, ite_false, if_true, if_false, reduceIte, nI_add, pk_mul, ob0, ob2, ob3, ob22, ob25, ob63]
  rw [Nat.sub_zero] at hl2
  refine hl2.trans ?_
  (try dsimp only)
  rw [eX7_wear_157]
  simp (disch := omega) only [eX7_wear_0, eX7_wear_1, eX7_wear_4, eX7_wear_7, eX7_wear_9, eX7_wear_10, eX7_wear_11, eX7_wear_12, eX7_wear_13, eX7_wear_14, eX7_wear_17, eX7_wear_18, eX7_wear_19, eX7_wear_20, eX7_wear_21, eX7_wear_22, eX7_wear_25, eX7_wear_28, eX7_wear_29, eX7_wear_30, eX7_wear_31, eX7_wear_34, eX7_wear_35, eX7_wear_36, eX7_wear_37, eX7_wear_38, eX7_wear_41, eX7_wear_44, eX7_wear_46, eX7_wear_47, eX7_wear_48, eX7_wear_51, eX7_wear_52, eX7_wear_53, eX7_wear_54, eX7_wear_55, eX7_wear_56, eX7_wear_57, eX7_wear_59, eX7_wear_60, eX7_wear_62, eX7_wear_64, eX7_wear_65, eX7_wear_68, eX7_wear_69, eX7_wear_70, eX7_wear_73, eX7_wear_75, eX7_wear_76, eX7_wear_77, eX7_wear_79, eX7_wear_82, eX7_wear_85, eX7_wear_86, eX7_wear_88, eX7_wear_89, eX7_wear_91, eX7_wear_92, eX7_wear_94, eX7_wear_96, eX7_wear_98, eX7_wear_101, eX7_wear_102, eX7_wear_104, eX7_wear_106, eX7_wear_107, eX7_wear_110, eX7_wear_112, eX7_wear_114, eX7_wear_116, eX7_wear_119, eX7_wear_121, eX7_wear_124, eX7_wear_126, eX7_wear_128, eX7_wear_130, eX7_wear_132, eX7_wear_135, eX7_wear_137, eX7_wear_140, eX7_wear_142, eX7_wear_144, eX7_wear_147, eX7_wear_150, eX7_wear_152, eX7_wear_154, eX7_wear_155, eX7_wear_159, eX7_wear_160, eX7_wear_163, eX7_wear_165, eX7_wear_166, eX7_wear_167, eX7_wear_169, eX7_wear_172, eX7_wear_175, eX7_wear_176, eX7_wear_179, eX7_wear_181, eX7_wear_184, eX7_wear_186, eX7_wear_188, eX7_wear_189, eX7_wear_190, eX7_wear_191, eX7_wear_192, eX7_wear_193, e4, e3, rd6, wr6, rd7, wr7, rd8, wr8, rd9, wr9, rd10, wr10, rd11, wr11, rd12, wr12, rd14, wr14, rd15, wr15, rd16, wr16, rd17, wr17, rd18, wr18, rd19, wr19, rd20, wr20, rd23, wr23, rd24, wr24, rd26, wr26, rd27, wr27, rd28, wr28, rd29, wr29, rd30, wr30, rd64, wr64, rd65, wr65, rd67, wr67, rd68, wr68, rd69, wr69, rd70, wr70, rd71, wr71, rd72, wr72, rd73, wr73, rb4, rb66, wb4, wb66, rdR, wrR, lenR, len1, len21, ofNat_nI, not_true_eq_false, not_false_eq_true, zok1, zok0, Bool.false_eq_true, zpush_s, zpush_n, Option.bind_some, Option.bind_none, ite_true, ite_false, if_true, if_false, reduceIte, nI_add, pk_mul, ob0, ob2, ob3, ob22, ob25, ob63, Nat.reduceEqDiff, Nat.reduceAdd, Nat.reduceMul, Nat.reduceSub, jLeT, jLeF, jLtT, jLtF, jEqT, jEqF, jNeT, jNeF, iZF, iZT, nI_sub2, nI_dec, nLtT, nLtF, nLeT, nLeF, nEqF, nNeT, ob5, ob13]
  unfold zn1
  by_cases q : pfw a t (a 1 - (k + 1)) (ptk a t k) = 999
  · rw [if_pos q, if_pos q]
    rfl
  · rw [if_neg q, if_neg q, nI_sub2 (by omega), Nat.add_sub_cancel]
