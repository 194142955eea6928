/-! ===== the reference: facts, worlds, lies ===== -/
theorem zloopX {α β : Type} (h : Nat → β → α) (n : Nat) (e : α) (hs : ∀ i j, i < n → ∃ j', h i j = h (i + 1) j') (hx : ∀ j, h n j = e) : ∀ j, h 0 j = e := by
  have key : ∀ k, k ≤ n → ∀ j, h (n - k) j = e := by
    intro k
    induction k with
    | zero => exact fun _ j => hx j
    | succ k ih =>
      intro hk j
      obtain ⟨j', q⟩ := hs (n - (k + 1)) j (by omega)
      rw [q, show n - (k + 1) + 1 = n - k by omega]
      exact ih (by omega) j'
  intro j
  have := key n (Nat.le_refl _) j
  rwa [Nat.sub_self] at this
theorem zup_id {μ : Zm} {c i : Nat} {x y : Int32} : zup (zup μ c i x) c i y = zup μ c i y := by
  funext c' i'
  unfold zup
  by_cases e : c' = c ∧ i' = i
  · rw [if_pos e, if_pos e]
  · rw [if_neg e, if_neg e, if_neg e]
theorem zup_sw {μ : Zm} {c i c2 i2 : Nat} {x y : Int32} (h : c ≠ c2 ∨ i ≠ i2) : zup (zup μ c i x) c2 i2 y = zup (zup μ c2 i2 y) c i x := by
  funext c' i'
  unfold zup
  by_cases e : c' = c ∧ i' = i
  · rw [if_neg (by omega), if_pos e, if_pos e]
  · rw [if_neg e, if_neg e]
theorem zup_me {μ : Zm} {c i : Nat} : zup μ c i (μ c i) = μ := by
  funext c' i'
  unfold zup
  by_cases e : c' = c ∧ i' = i
  · rw [if_pos e, e.1, e.2]
  · rw [if_neg e]
/-- the facts that are so, and are not, found -/
def zff (μ : Zm) (x y : Int32) : Zm := zup (zup μ 63 19 x) 63 20 y
theorem zff_zff {μ : Zm} {x y x' y' : Int32} : zff (zff μ x y) x' y' = zff μ x' y' := by
  unfold zff
  rw [zup_sw (c := 63) (i := 20) (c2 := 63) (i2 := 19) (by omega), zup_id, zup_id]
theorem zff_me {μ : Zm} : zff μ (μ 63 19) (μ 63 20) = μ := by
  unfold zff
  rw [zup_sw (by omega), zup_me, zup_me]
theorem zff_64 {μ : Zm} {x y : Int32} {c i : Nat} (h : c ≠ 63) : zff μ x y c i = μ c i := by
  unfold zff
  rw [zup_o (Or.inl h), zup_o (Or.inl h)]
theorem zff_19 {μ : Zm} {x y : Int32} : zff μ x y 63 19 = x := by
  unfold zff
  rw [zup_o (by omega), zup_s rfl rfl]
theorem zff_20 {μ : Zm} {x y : Int32} : zff μ x y 63 20 = y := by
  unfold zff
  rw [zup_s rfl rfl]
theorem MS_ff {μ : Zm} {a : Nat → Nat} {x y : Int32} (hm : MS μ a) : MS (zff μ x y) a := MS_eq (fun i => zff_64 (by omega)) hm
theorem zff_put1 {μ : Zm} {x y x' : Int32} : zup (zff μ x y) 63 19 x' = zff μ x' y := by
  unfold zff
  rw [zup_sw (c := 63) (i := 20) (c2 := 63) (i2 := 19) (by omega), zup_id]
theorem zff_put2 {μ : Zm} {x y y' : Int32} : zup (zff μ x y) 63 20 y' = zff μ x y' := by
  unfold zff
  rw [zup_id]
theorem sm_findFacts {d u : Nat} {μ : Zm} {a : Nat → Nat} (hm : MS μ a) (hf : WF a) (hu : u < 128) : zC true (d + 5) mX7_findFacts [.ref 63, .int (nI u)] μ = some (none, zff μ (nI (pfs a u 1 (a 4))) (nI (pfs a u 0 (a 4)))) := by
  have hS := hm.2.2.2.2.1
  have h4 := hf.2.2.2.1
  have h2 := hf.2.1
  have hl := zloopX (β := Value) (fun i (j : Value) => zA (d + 4) mX7_findFacts 12 [.ref 63, .int (nI u), .int (nI i), j] [] (zff μ (nI (pfs a u 1 i)) (nI (pfs a u 0 i)))) (a 4) (some (none, zff μ (nI (pfs a u 1 (a 4))) (nI (pfs a u 0 (a 4))))) (fun i j hi => by
    have hm' : ∀ x y, MS (zff μ x y) a := fun x y => MS_ff hm
    have ⟨_, _, b3, b4⟩ := hf.2.2.2.2.2 i hi
    refine ⟨.int (if pbd a u i = true then nI (2 ^ a (14 + 4 * i)) else nI 0), ?_⟩
    rw [eX7_findFacts_12, pfs, pfs]
    rcases (show a (15 + 4 * i) = 1 ∨ a (15 + 4 * i) = 0 by omega) with hq | hq <;> cases hp : pbd a u i <;>
    simp (disch := omega) only [eX7_findFacts_0, eX7_findFacts_1, eX7_findFacts_2, eX7_findFacts_5, eX7_findFacts_6, eX7_findFacts_7, eX7_findFacts_10, eX7_findFacts_11, eX7_findFacts_13, eX7_findFacts_14, eX7_findFacts_17, eX7_findFacts_18, eX7_findFacts_19, eX7_findFacts_22, eX7_findFacts_23, eX7_findFacts_24, eX7_findFacts_25, eX7_findFacts_28, eX7_findFacts_31, eX7_findFacts_32, eX7_findFacts_33, eX7_findFacts_34, eX7_findFacts_35, eX7_findFacts_38, eX7_findFacts_39, eX7_findFacts_42, eX7_findFacts_43, eX7_findFacts_44, eX7_findFacts_45, eX7_findFacts_46, eX7_findFacts_49, eX7_findFacts_50, eX7_findFacts_51, eX7_findFacts_52, eX7_findFacts_55, eX7_findFacts_56, eX7_findFacts_59, eX7_findFacts_60, eX7_findFacts_63, eX7_findFacts_64, eX7_findFacts_65, eX7_findFacts_68, eX7_findFacts_69, eX7_findFacts_70, eX7_findFacts_73, eX7_findFacts_74, eX7_findFacts_75, eX7_findFacts_76, eX7_findFacts_79, eX7_findFacts_82, eX7_findFacts_83, eX7_findFacts_86, eX7_findFacts_87, eX7_findFacts_88, eX7_findFacts_91, eX7_findFacts_94, eX7_findFacts_97, sm_isBound (hm' _ _) hf hi, sm_said2 (hm' _ _) hf hi, sm_said3 (hm' _ _) hf hi, hp, hq, hS, zff_64, zff_19, zff_20, zff_put1, zff_put2, rd6, wr6, rd7, wr7, rd8, wr8, rd9, wr9, rd10, wr10, rd11, wr11, rd12, wr12, rd14, wr14, rd15, wr15, rd16, wr16, rd17, wr17, rd18, wr18, rd19, wr19, rd20, wr20, rd23, wr23, rd24, wr24, rd26, wr26, rd27, wr27, rd28, wr28, rd29, wr29, rd30, wr30, rd64, wr64, rd65, wr65, rd67, wr67, rd68, wr68, rd69, wr69, rd70, wr70, rd71, wr71, rd72, wr72, rd73, wr73, rb4, rb66, wb4, wb66, rdR, wrR, lenR, len1, len21, ofNat_nI, not_true_eq_false, not_false_eq_true, zok1, zok0, Bool.false_eq_true, zpush_s, zpush_n, Option.bind_some, Option.bind_none, ite_true, ite_false, if_true, if_false, reduceIte, nI_add, pk_mul, ob0, ob2, ob3, ob22, ob25, ob63, Nat.reduceEqDiff, Nat.reduceAdd, Nat.reduceMul, Nat.reduceSub, jLeT, jLeF, jLtT, jLtF, jEqT, jEqF, jNeT, jNeF, iZF, iZT, nI_sub2, nI_dec, nLtT, nLtF, nLeT, nLeF, nEqF, nNeT, ob5, ob13, zbt_t, zbt_f, nI_shl, nI_or, Nat.or_zero, and_true, and_false, true_and, false_and, Nat.zero_ne_one, Nat.one_ne_zero]) (fun j => by
    rw [eX7_findFacts_12]
    simp (disch := omega) only [eX7_findFacts_0, eX7_findFacts_1, eX7_findFacts_2, eX7_findFacts_5, eX7_findFacts_6, eX7_findFacts_7, eX7_findFacts_10, eX7_findFacts_11, eX7_findFacts_13, eX7_findFacts_14, eX7_findFacts_17, eX7_findFacts_18, eX7_findFacts_19, eX7_findFacts_22, eX7_findFacts_23, eX7_findFacts_24, eX7_findFacts_25, eX7_findFacts_28, eX7_findFacts_31, eX7_findFacts_32, eX7_findFacts_33, eX7_findFacts_34, eX7_findFacts_35, eX7_findFacts_38, eX7_findFacts_39, eX7_findFacts_42, eX7_findFacts_43, eX7_findFacts_44, eX7_findFacts_45, eX7_findFacts_46, eX7_findFacts_49, eX7_findFacts_50, eX7_findFacts_51, eX7_findFacts_52, eX7_findFacts_55, eX7_findFacts_56, eX7_findFacts_59, eX7_findFacts_60, eX7_findFacts_63, eX7_findFacts_64, eX7_findFacts_65, eX7_findFacts_68, eX7_findFacts_69, eX7_findFacts_70, eX7_findFacts_73, eX7_findFacts_74, eX7_findFacts_75, eX7_findFacts_76, eX7_findFacts_79, eX7_findFacts_82, eX7_findFacts_83, eX7_findFacts_86, eX7_findFacts_87, eX7_findFacts_88, eX7_findFacts_91, eX7_findFacts_94, eX7_findFacts_97, hS, zff_64, rd6, wr6, rd7, wr7, rd8, wr8, rd9, wr9, rd10, wr10, rd11, wr11, rd12, wr12, rd14, wr14, rd15, wr15, rd16, wr16, rd17, wr17, rd18, wr18, rd19, wr19, rd20, wr20, rd23, wr23, rd24, wr24, rd26, wr26, rd27, wr27, rd28, wr28, rd29, wr29, rd30, wr30, rd64, wr64, rd65, wr65, rd67, wr67, rd68, wr68, rd69, wr69, rd70, wr70, rd71, wr71, rd72, wr72, rd73, wr73, rb4, rb66, wb4, wb66, rdR, wrR, lenR, len1, len21, ofNat_nI, not_true_eq_false, not_false_eq_true, zok1, zok0, Bool.false_eq_true, zpush_s, zpush_n, Option.bind_some, Option.bind_none, ite_true, ite_false, if_true, if_false, reduceIte, nI_add, pk_mul, ob0, ob2, ob3, ob22, ob25, ob63, Nat.reduceEqDiff, Nat.reduceAdd, Nat.reduceMul, Nat.reduceSub, jLeT, jLeF, jLtT, jLtF, jEqT, jEqF, jNeT, jNeF, iZF, iZT, nI_sub2, nI_dec, nLtT, nLtF, nLeT, nLeF, nEqF, nNeT, ob5, ob13])
  rw [nX7_findFacts]
  simp (disch := omega) only [eX7_findFacts_0, eX7_findFacts_1, eX7_findFacts_2, eX7_findFacts_5, eX7_findFacts_6, eX7_findFacts_7, eX7_findFacts_10, eX7_findFacts_11, not_true_eq_false, not_false_eq_true, zok1, zok0, Bool.false_eq_true, zpush_s, zpush_n, Option.bind_some, Option.bind_none, ite_true, ite_false, if_true, if_false, reduceIte, nI_add, pk_mul, ob0, ob2, ob3, ob22, ob25, ob63]
  exact hl zjk
def pk2 (so no f : Nat) : Int32 := if so.testBit f then (if no.testBit f then -2 else nI 1) else if no.testBit f then nI 0 else -1
theorem pkn_k {a : Nat → Nat} {u f : Nat} : pkn a u f = pk2 (pfs a u 1 (a 4)) (pfs a u 0 (a 4)) f := rfl
theorem sm_knownOf {d f so no : Nat} {μ : Zm} (h1 : μ 63 19 = nI so) (h0 : μ 63 20 = nI no) (hs : so < 64) (hn : no < 64) (hk : f < 31) : zC true (d + 2) mX7_knownOf [.ref 63, .int (nI f)] μ = some (some (.int (pk2 so no f)), μ) := by
  have hb : (so &&& no).testBit f = (so.testBit f && no.testBit f) := Nat.testBit_and ..
  have hc : so &&& no ≤ so := Nat.and_le_left
  unfold pk2
  cases q1 : so.testBit f <;> cases q0 : no.testBit f <;> rw [q1, q0] at hb <;>
  simp (disch := omega) only [nX7_knownOf, eX7_knownOf_0, eX7_knownOf_1, eX7_knownOf_4, eX7_knownOf_5, eX7_knownOf_8, eX7_knownOf_9, eX7_knownOf_10, eX7_knownOf_13, eX7_knownOf_16, eX7_knownOf_18, eX7_knownOf_21, eX7_knownOf_22, eX7_knownOf_25, eX7_knownOf_26, eX7_knownOf_29, eX7_knownOf_32, eX7_knownOf_33, eX7_knownOf_36, eX7_knownOf_37, eX7_knownOf_40, eX7_knownOf_41, eX7_knownOf_44, eX7_knownOf_47, eX7_knownOf_48, eX7_knownOf_51, eX7_knownOf_52, sm_has, nI_and, h1, h0, hb, q1, q0, Bool.and_true, Bool.and_false, Bool.and_self, not_true_eq_false, not_false_eq_true, zok1, zok0, Bool.false_eq_true, zpush_s, zpush_n, Option.bind_some, Option.bind_none, ite_true, ite_false, if_true, if_false, reduceIte, nI_add, pk_mul, ob0, ob2, ob3, ob22, ob25, ob63, Nat.reduceEqDiff, Nat.reduceAdd, Nat.reduceMul, Nat.reduceSub, jLeT, jLeF, jLtT, jLtF, jEqT, jEqF, jNeT, jNeF, iZF, iZT, nI_sub2, nI_dec, nLtT, nLtF, nLeT, nLeF, nEqF, nNeT, ob5, ob13, zbt_t, zbt_f]
def pprod (so no : Nat) : Nat → Nat
  | 0 => 1
  | n + 1 => pprod so no n * (if so.testBit n then (if no.testBit n then 0 else 1) else if no.testBit n then 1 else 2)
theorem pprod_le {so no : Nat} : ∀ n, pprod so no n ≤ 2 ^ n
  | 0 => Nat.le_refl _
  | n + 1 => by
    have ih := pprod_le (so := so) (no := no) n
    rw [pprod, Nat.pow_succ]
    exact Nat.mul_le_mul ih (by split <;> split <;> omega)
set_option maxRecDepth 100000 in
theorem pprod_all : ∀ F : Fin 7, ∀ so no : Fin 64, so.1 < 2 ^ F.1 → no.1 < 2 ^ F.1 → pprod so.1 no.1 F.1 = (if so.1 &&& no.1 ≠ 0 then 0 else 2 ^ (F.1 - npop (so.1 ||| no.1))) := by decide +kernel
theorem pprod_w {a : Nat → Nat} {u : Nat} (hf : WF a) : pprod (pfs a u 1 (a 4)) (pfs a u 0 (a 4)) (a 2) = pwo a u := by
  have h1 := pfs_lt (u := u) (so := 1) hf _ (Nat.le_refl _)
  have h0 := pfs_lt (u := u) (so := 0) hf _ (Nat.le_refl _)
  have h64 := pw64 hf
  have h2 := hf.2.1
  exact pprod_all ⟨a 2, by omega⟩ ⟨_, by omega⟩ ⟨_, by omega⟩ h1 h0
theorem k12 : (nI 1 = (-2 : Int32)) = False := by decide
theorem k02 : (nI 0 = (-2 : Int32)) = False := by decide
theorem k112 : ((-1 : Int32) = (-2 : Int32)) = False := by decide
theorem k11 : (nI 1 = (-1 : Int32)) = False := by decide
theorem k01 : (nI 0 = (-1 : Int32)) = False := by decide
theorem sm_worldsOf {d so no : Nat} {μ : Zm} {a : Nat → Nat} (hm : MS μ a) (hf : WF a) (h1 : μ 63 19 = nI so) (h0 : μ 63 20 = nI no) (hs : so < 64) (hn : no < 64) : zC true (d + 3) mX7_worldsOf [.ref 63] μ = some (some (.int (nI (pprod so no (a 2)))), μ) := by
  have hF := hm.2.2.1
  have h2 := hf.2.1
  have hl := zloop (fun i => zA (d + 2) mX7_worldsOf 4 [.ref 63, .int (nI (pprod so no i)), .int (nI i)] [] μ) (a 2) (fun i hi => by
    rw [eX7_worldsOf_4, pprod]
    cases q1 : so.testBit i <;> cases q0 : no.testBit i <;>
    simp (disch := omega) only [eX7_worldsOf_0, eX7_worldsOf_1, eX7_worldsOf_2, eX7_worldsOf_3, eX7_worldsOf_5, eX7_worldsOf_6, eX7_worldsOf_9, eX7_worldsOf_10, eX7_worldsOf_11, eX7_worldsOf_14, eX7_worldsOf_15, eX7_worldsOf_16, eX7_worldsOf_17, eX7_worldsOf_20, eX7_worldsOf_22, eX7_worldsOf_25, eX7_worldsOf_26, eX7_worldsOf_29, eX7_worldsOf_30, eX7_worldsOf_31, eX7_worldsOf_34, eX7_worldsOf_35, eX7_worldsOf_38, eX7_worldsOf_39, eX7_worldsOf_42, eX7_worldsOf_43, eX7_worldsOf_44, eX7_worldsOf_45, eX7_worldsOf_48, eX7_worldsOf_51, eX7_worldsOf_52, sm_knownOf h1 h0 hs hn, pk2, q1, q0, k12, k02, k112, k11, k01, hF, rd6, wr6, rd7, wr7, rd8, wr8, rd9, wr9, rd10, wr10, rd11, wr11, rd12, wr12, rd14, wr14, rd15, wr15, rd16, wr16, rd17, wr17, rd18, wr18, rd19, wr19, rd20, wr20, rd23, wr23, rd24, wr24, rd26, wr26, rd27, wr27, rd28, wr28, rd29, wr29, rd30, wr30, rd64, wr64, rd65, wr65, rd67, wr67, rd68, wr68, rd69, wr69, rd70, wr70, rd71, wr71, rd72, wr72, rd73, wr73, rb4, rb66, wb4, wb66, rdR, wrR, lenR, len1, len21, ofNat_nI, not_true_eq_false, not_false_eq_true, zok1, zok0, Bool.false_eq_true, zpush_s, zpush_n, Option.bind_some, Option.bind_none, ite_true, ite_false, if_true, if_false, reduceIte, nI_add, pk_mul, ob0, ob2, ob3, ob22, ob25, ob63, Nat.reduceEqDiff, Nat.reduceAdd, Nat.reduceMul, Nat.reduceSub, jLeT, jLeF, jLtT, jLtF, jEqT, jEqF, jNeT, jNeF, iZF, iZT, nI_sub2, nI_dec, nLtT, nLtF, nLeT, nLeF, nEqF, nNeT, ob5, ob13])
  have hx : zA (d + 2) mX7_worldsOf 4 [.ref 63, .int (nI (pprod so no (a 2))), .int (nI (a 2))] [] μ = some (some (.int (nI (pprod so no (a 2)))), μ) := by
    rw [eX7_worldsOf_4]
    simp (disch := omega) only [eX7_worldsOf_0, eX7_worldsOf_1, eX7_worldsOf_2, eX7_worldsOf_3, eX7_worldsOf_5, eX7_worldsOf_6, eX7_worldsOf_9, eX7_worldsOf_10, eX7_worldsOf_11, eX7_worldsOf_14, eX7_worldsOf_15, eX7_worldsOf_16, eX7_worldsOf_17, eX7_worldsOf_20, eX7_worldsOf_22, eX7_worldsOf_25, eX7_worldsOf_26, eX7_worldsOf_29, eX7_worldsOf_30, eX7_worldsOf_31, eX7_worldsOf_34, eX7_worldsOf_35, eX7_worldsOf_38, eX7_worldsOf_39, eX7_worldsOf_42, eX7_worldsOf_43, eX7_worldsOf_44, eX7_worldsOf_45, eX7_worldsOf_48, eX7_worldsOf_51, eX7_worldsOf_52, hF, rd6, wr6, rd7, wr7, rd8, wr8, rd9, wr9, rd10, wr10, rd11, wr11, rd12, wr12, rd14, wr14, rd15, wr15, rd16, wr16, rd17, wr17, rd18, wr18, rd19, wr19, rd20, wr20, rd23, wr23, rd24, wr24, rd26, wr26, rd27, wr27, rd28, wr28, rd29, wr29, rd30, wr30, rd64, wr64, rd65, wr65, rd67, wr67, rd68, wr68, rd69, wr69, rd70, wr70, rd71, wr71, rd72, wr72, rd73, wr73, rb4, rb66, wb4, wb66, rdR, wrR, lenR, len1, len21, ofNat_nI, not_true_eq_false, not_false_eq_true, zok1, zok0, Bool.false_eq_true, zpush_s, zpush_n, Option.bind_some, Option.bind_none, ite_true, ite_false, if_true, if_false, reduceIte, nI_add, pk_mul, ob0, ob2, ob3, ob22, ob25, ob63, Nat.reduceEqDiff, Nat.reduceAdd, Nat.reduceMul, Nat.reduceSub, jLeT, jLeF, jLtT, jLtF, jEqT, jEqF, jNeT, jNeF, iZF, iZT, nI_sub2, nI_dec, nLtT, nLtF, nLeT, nLeF, nEqF, nNeT, ob5, ob13]
  rw [nX7_worldsOf]
  simp only [eX7_worldsOf_0, eX7_worldsOf_1, eX7_worldsOf_2, eX7_worldsOf_3]
  exact hl.trans hx
theorem pwo_nb {a : Nat → Nat} {u f : Nat} (h : pwo a u ≠ 0) (h1 : (pfs a u 1 (a 4)).testBit f = true) (h0 : (pfs a u 0 (a 4)).testBit f = true) : False := by
  unfold pwo at h
  by_cases q : pfs a u 1 (a 4) &&& pfs a u 0 (a 4) = 0
  · have := Nat.testBit_and (pfs a u 1 (a 4)) (pfs a u 0 (a 4)) f
    rw [q, h1, h0, Nat.zero_testBit] at this
    cases this
  · rw [if_pos q] at h
    exact h rfl
theorem sm_lies {d : Nat} {μ : Zm} {a : Nat → Nat} (hm : MS μ a) (hf : WF a) (h1 : μ 63 19 = nI (pfs a 0 1 (a 4))) (h0 : μ 63 20 = nI (pfs a 0 0 (a 4))) : zC true (d + 5) mX7_lies [.ref 63] μ = some (some (.int (nI (plies a))), μ) := by
  have p1 := pfs_lt (u := 0) (so := 1) hf _ (Nat.le_refl _)
  have p0 := pfs_lt (u := 0) (so := 0) hf _ (Nat.le_refl _)
  have h64 := pw64 hf
  have h2 := hf.2.1
  have hS := hm.2.2.2.2.1
  have h4 := hf.2.2.2.1
  have hp := pwo_lt (u := 0) hf
  have e1 : nI 1 - nI 1 = nI 0 := by decide
  have e0 : nI 1 - nI 0 = nI 1 := by decide
  have m0 : ((-1 : Int32) = nI 0) = False := by decide
  have m1 : ((-1 : Int32) = nI 1) = False := by decide
  unfold plies
  by_cases q : pwo a 0 = 0
  · rw [nX7_lies]
    by_cases qs : a 4 = 0
    · simp (disch := omega) only [eX7_lies_0, eX7_lies_1, eX7_lies_2, eX7_lies_3, eX7_lies_4, eX7_lies_5, eX7_lies_6, eX7_lies_9, eX7_lies_10, eX7_lies_11, eX7_lies_14, eX7_lies_15, eX7_lies_18, eX7_lies_21, eX7_lies_22, eX7_lies_23, eX7_lies_24, eX7_lies_27, eX7_lies_30, eX7_lies_31, eX7_lies_32, eX7_lies_33, eX7_lies_34, eX7_lies_37, eX7_lies_40, eX7_lies_41, eX7_lies_42, eX7_lies_43, eX7_lies_44, eX7_lies_47, eX7_lies_48, eX7_lies_51, eX7_lies_52, eX7_lies_55, eX7_lies_56, eX7_lies_57, eX7_lies_58, eX7_lies_59, eX7_lies_62, eX7_lies_63, eX7_lies_64, eX7_lies_65, eX7_lies_68, eX7_lies_69, eX7_lies_70, eX7_lies_71, eX7_lies_74, eX7_lies_77, eX7_lies_78, sm_worldsOf hm hf h1 h0 (by omega : pfs a 0 1 (a 4) < 64) (by omega : pfs a 0 0 (a 4) < 64), pprod_w hf, q, hS, qs, rd6, wr6, rd7, wr7, rd8, wr8, rd9, wr9, rd10, wr10, rd11, wr11, rd12, wr12, rd14, wr14, rd15, wr15, rd16, wr16, rd17, wr17, rd18, wr18, rd19, wr19, rd20, wr20, rd23, wr23, rd24, wr24, rd26, wr26, rd27, wr27, rd28, wr28, rd29, wr29, rd30, wr30, rd64, wr64, rd65, wr65, rd67, wr67, rd68, wr68, rd69, wr69, rd70, wr70, rd71, wr71, rd72, wr72, rd73, wr73, rb4, rb66, wb4, wb66, rdR, wrR, lenR, len1, len21, ofNat_nI, not_true_eq_false, not_false_eq_true, zok1, zok0, Bool.false_eq_true, zpush_s, zpush_n, Option.bind_some, Option.bind_none, ite_true, ite_false, if_true, if_false, reduceIte, nI_add, pk_mul, ob0, ob2, ob3, ob22, ob25, ob63, Nat.reduceEqDiff, Nat.reduceAdd, Nat.reduceMul, Nat.reduceSub, jLeT, jLeF, jLtT, jLtF, jEqT, jEqF, jNeT, jNeF, iZF, iZT, nI_sub2, nI_dec, nLtT, nLtF, nLeT, nLeF, nEqF, nNeT, ob5, ob13]
    · simp (disch := omega) only [eX7_lies_0, eX7_lies_1, eX7_lies_2, eX7_lies_3, eX7_lies_4, eX7_lies_5, eX7_lies_6, eX7_lies_9, eX7_lies_10, eX7_lies_11, eX7_lies_14, eX7_lies_15, eX7_lies_18, eX7_lies_21, eX7_lies_22, eX7_lies_23, eX7_lies_24, eX7_lies_27, eX7_lies_30, eX7_lies_31, eX7_lies_32, eX7_lies_33, eX7_lies_34, eX7_lies_37, eX7_lies_40, eX7_lies_41, eX7_lies_42, eX7_lies_43, eX7_lies_44, eX7_lies_47, eX7_lies_48, eX7_lies_51, eX7_lies_52, eX7_lies_55, eX7_lies_56, eX7_lies_57, eX7_lies_58, eX7_lies_59, eX7_lies_62, eX7_lies_63, eX7_lies_64, eX7_lies_65, eX7_lies_68, eX7_lies_69, eX7_lies_70, eX7_lies_71, eX7_lies_74, eX7_lies_77, eX7_lies_78, sm_worldsOf hm hf h1 h0 (by omega : pfs a 0 1 (a 4) < 64) (by omega : pfs a 0 0 (a 4) < 64), pprod_w hf, q, hS, rd6, wr6, rd7, wr7, rd8, wr8, rd9, wr9, rd10, wr10, rd11, wr11, rd12, wr12, rd14, wr14, rd15, wr15, rd16, wr16, rd17, wr17, rd18, wr18, rd19, wr19, rd20, wr20, rd23, wr23, rd24, wr24, rd26, wr26, rd27, wr27, rd28, wr28, rd29, wr29, rd30, wr30, rd64, wr64, rd65, wr65, rd67, wr67, rd68, wr68, rd69, wr69, rd70, wr70, rd71, wr71, rd72, wr72, rd73, wr73, rb4, rb66, wb4, wb66, rdR, wrR, lenR, len1, len21, ofNat_nI, not_true_eq_false, not_false_eq_true, zok1, zok0, Bool.false_eq_true, zpush_s, zpush_n, Option.bind_some, Option.bind_none, ite_true, ite_false, if_true, if_false, reduceIte, nI_add, pk_mul, ob0, ob2, ob3, ob22, ob25, ob63, Nat.reduceEqDiff, Nat.reduceAdd, Nat.reduceMul, Nat.reduceSub, jLeT, jLeF, jLtT, jLtF, jEqT, jEqF, jNeT, jNeF, iZF, iZT, nI_sub2, nI_dec, nLtT, nLtF, nLeT, nLeF, nEqF, nNeT, ob5, ob13]
  · rw [if_neg q]
    have hl := zloopX (β := Value) (fun i j => zA (d + 4) mX7_lies 4 [.ref 63, .int (nI (nor (plie a) i)), .int (nI i), j] [] μ) (a 4) (some (some (.int (nI (nor (plie a) (a 4)))), μ)) (fun i j hi => by
      have ⟨_, _, b3, b4⟩ := hf.2.2.2.2.2 i hi
      refine ⟨.int (if plie a i = true then nI 1 else nI 0), ?_⟩
      have nb := pwo_nb (f := a (14 + 4 * i)) q
      rw [eX7_lies_4, nor]
      rcases (show a (15 + 4 * i) = 1 ∨ a (15 + 4 * i) = 0 by omega) with hq | hq <;> cases hb : pbd a 0 i <;> cases t1 : (pfs a 0 1 (a 4)).testBit (a (14 + 4 * i)) <;> cases t0 : (pfs a 0 0 (a 4)).testBit (a (14 + 4 * i)) <;> first | (exact (nb t1 t0).elim) |
      simp (disch := omega) only [eX7_lies_0, eX7_lies_1, eX7_lies_2, eX7_lies_3, eX7_lies_5, eX7_lies_6, eX7_lies_9, eX7_lies_10, eX7_lies_11, eX7_lies_14, eX7_lies_15, eX7_lies_18, eX7_lies_21, eX7_lies_22, eX7_lies_23, eX7_lies_24, eX7_lies_27, eX7_lies_30, eX7_lies_31, eX7_lies_32, eX7_lies_33, eX7_lies_34, eX7_lies_37, eX7_lies_40, eX7_lies_41, eX7_lies_42, eX7_lies_43, eX7_lies_44, eX7_lies_47, eX7_lies_48, eX7_lies_51, eX7_lies_52, eX7_lies_55, eX7_lies_56, eX7_lies_57, eX7_lies_58, eX7_lies_59, eX7_lies_62, eX7_lies_63, eX7_lies_64, eX7_lies_65, eX7_lies_68, eX7_lies_69, eX7_lies_70, eX7_lies_71, eX7_lies_74, eX7_lies_77, eX7_lies_78, sm_worldsOf hm hf h1 h0 (by omega : pfs a 0 1 (a 4) < 64) (by omega : pfs a 0 0 (a 4) < 64), pprod_w hf, sm_isBound hm hf hi, sm_said2 hm hf hi, sm_said3 hm hf hi, sm_knownOf h1 h0 (by omega : pfs a 0 1 (a 4) < 64) (by omega : pfs a 0 0 (a 4) < 64), pk2, plie, t1, t0, hb, hq, hS, e1, e0, m0, m1, nI10, nI01, rd6, wr6, rd7, wr7, rd8, wr8, rd9, wr9, rd10, wr10, rd11, wr11, rd12, wr12, rd14, wr14, rd15, wr15, rd16, wr16, rd17, wr17, rd18, wr18, rd19, wr19, rd20, wr20, rd23, wr23, rd24, wr24, rd26, wr26, rd27, wr27, rd28, wr28, rd29, wr29, rd30, wr30, rd64, wr64, rd65, wr65, rd67, wr67, rd68, wr68, rd69, wr69, rd70, wr70, rd71, wr71, rd72, wr72, rd73, wr73, rb4, rb66, wb4, wb66, rdR, wrR, lenR, len1, len21, ofNat_nI, not_true_eq_false, not_false_eq_true, zok1, zok0, Bool.false_eq_true, zpush_s, zpush_n, Option.bind_some, Option.bind_none, ite_true, ite_false, if_true, if_false, reduceIte, nI_add, pk_mul, ob0, ob2, ob3, ob22, ob25, ob63, Nat.reduceEqDiff, Nat.reduceAdd, Nat.reduceMul, Nat.reduceSub, jLeT, jLeF, jLtT, jLtF, jEqT, jEqF, jNeT, jNeF, iZF, iZT, nI_sub2, nI_dec, nLtT, nLtF, nLeT, nLeF, nEqF, nNeT, ob5, ob13, zbt_t, zbt_f, nI_shl, nI_or, Nat.or_zero, Bool.not_false, Bool.not_true, Bool.true_and, Bool.false_and, Nat.zero_ne_one]) (fun j => by
      rw [eX7_lies_4]
      simp (disch := omega) only [eX7_lies_0, eX7_lies_1, eX7_lies_2, eX7_lies_3, eX7_lies_5, eX7_lies_6, eX7_lies_9, eX7_lies_10, eX7_lies_11, eX7_lies_14, eX7_lies_15, eX7_lies_18, eX7_lies_21, eX7_lies_22, eX7_lies_23, eX7_lies_24, eX7_lies_27, eX7_lies_30, eX7_lies_31, eX7_lies_32, eX7_lies_33, eX7_lies_34, eX7_lies_37, eX7_lies_40, eX7_lies_41, eX7_lies_42, eX7_lies_43, eX7_lies_44, eX7_lies_47, eX7_lies_48, eX7_lies_51, eX7_lies_52, eX7_lies_55, eX7_lies_56, eX7_lies_57, eX7_lies_58, eX7_lies_59, eX7_lies_62, eX7_lies_63, eX7_lies_64, eX7_lies_65, eX7_lies_68, eX7_lies_69, eX7_lies_70, eX7_lies_71, eX7_lies_74, eX7_lies_77, eX7_lies_78, hS, rd6, wr6, rd7, wr7, rd8, wr8, rd9, wr9, rd10, wr10, rd11, wr11, rd12, wr12, rd14, wr14, rd15, wr15, rd16, wr16, rd17, wr17, rd18, wr18, rd19, wr19, rd20, wr20, rd23, wr23, rd24, wr24, rd26, wr26, rd27, wr27, rd28, wr28, rd29, wr29, rd30, wr30, rd64, wr64, rd65, wr65, rd67, wr67, rd68, wr68, rd69, wr69, rd70, wr70, rd71, wr71, rd72, wr72, rd73, wr73, rb4, rb66, wb4, wb66, rdR, wrR, lenR, len1, len21, ofNat_nI, not_true_eq_false, not_false_eq_true, zok1, zok0, Bool.false_eq_true, zpush_s, zpush_n, Option.bind_some, Option.bind_none, ite_true, ite_false, if_true, if_false, reduceIte, nI_add, pk_mul, ob0, ob2, ob3, ob22, ob25, ob63, Nat.reduceEqDiff, Nat.reduceAdd, Nat.reduceMul, Nat.reduceSub, jLeT, jLeF, jLtT, jLtF, jEqT, jEqF, jNeT, jNeF, iZF, iZT, nI_sub2, nI_dec, nLtT, nLtF, nLeT, nLeF, nEqF, nNeT, ob5, ob13])
    rw [nX7_lies]
    simp only [eX7_lies_0, eX7_lies_1, eX7_lies_2, eX7_lies_3]
    exact hl zjk
