/-! ===== what ties the two together ===== -/
theorem pLeT {a b : Nat} (h : a ≤ b ∧ b < 2147483648) : (nI a ≤ nI b) = True := eq_true ((nI_leI (by omega) (by omega)).mpr h.1)
theorem pLeF {a b : Nat} (h : b < a ∧ a < 2147483648) : (nI a ≤ nI b) = False := eq_false (fun q => by have := (nI_leI (by omega) (by omega)).mp q; omega)
theorem pLtT {a b : Nat} (h : a < b ∧ b < 2147483648) : (nI a < nI b) = True := eq_true ((nI_ltI (by omega) (by omega)).mpr h.1)
theorem pLtF {a b : Nat} (h : b ≤ a ∧ a < 2147483648) : (nI a < nI b) = False := eq_false (fun q => by have := (nI_ltI (by omega) (by omega)).mp q; omega)
theorem pEqT {a b : Nat} (h : a = b) : (nI a = nI b) = True := eq_true (by rw [h])
theorem pEqF {a b : Nat} (h : a ≠ b ∧ a < 2147483648 ∧ b < 2147483648) : (nI a = nI b) = False := eq_false (fun q => h.1 ((nI_eq (by omega) (by omega)).mp q))
theorem qLtT {x : Int32} {n : Nat} (h : x.toInt < 0 ∧ n < 2147483648) : (x < nI n) = True := eq_true ((xlt h.2).mpr (by omega))
theorem qLtF {x : Int32} {n : Nat} (h : x.toInt < 0 ∧ n < 2147483648) : (nI n < x) = False := eq_false (fun h2 => by have := (xgt h.2).mp h2; omega)
theorem qLeT {x : Int32} {n : Nat} (h : x.toInt < 0 ∧ n < 2147483648) : (x ≤ nI n) = True := eq_true ((xle h.2).mpr (by omega))
theorem qLeF {x : Int32} {n : Nat} (h : x.toInt < 0 ∧ n < 2147483648) : (nI n ≤ x) = False := eq_false (fun h2 => by have := (xge h.2).mp h2; omega)
theorem qEqF {x : Int32} {n : Nat} (h : x.toInt < 0 ∧ n < 2147483648) : (x = nI n) = False := eq_false (fun h2 => by have := (xeq h.2).mp h2; omega)
def RV (μ : Zm) (a : Nat → Nat) : Prop := CV μ 5 a ∧ MS μ a ∧ WF a
def RI (μ : Zm) (k : Nat) : Prop := ∃ b, CV μ (47 + 8 * k) b ∧ MV μ 65 (74 * k) b ∧ WF b ∧ μ 66 k = nI (if b 1 = 0 then 0 else 1)
/-- the acts that can be undone: n, the next place, what was -/
def RA (μ : Zm) (a : Nat → Nat) (n nx : Nat) (h : Nat → Nat → Nat) : Prop := n ≤ 24 ∧ nx < 24 ∧ μ 22 2 = nI nx ∧ μ 22 3 = nI n ∧ μ 63 4 = nI n ∧ ∀ j, j < n → ∀ w, w < a 3 → h j w ≤ 99 ∧ h j (7 + w) < 32 ∧ μ 23 (7 * ((nx + 23 - j) % 24) + w) = nI (h j w) ∧ μ 67 (14 * (n - 1 - j) + w) = nI (h j w) ∧ μ 24 (7 * ((nx + 23 - j) % 24) + w) = nI (h j (7 + w)) ∧ μ 67 (14 * (n - 1 - j) + (7 + w)) = nI (h j (7 + w))
def GA (μ : Zm) (a : Nat → Nat) : Prop := ∃ n nx h, RA μ a n nx h
def RRr (μ : Zm) (r : Nat) : Prop := ((μ (31 + 2 * r) 1 = nI 0 ∧ μ 68 r = -1000000) ∨ (μ (31 + 2 * r) 1 = nI 1 ∧ ∃ l, l < 3 ∧ μ (31 + 2 * r) 2 = nI l ∧ μ 68 r = nI l)) ∧ (∃ z, z ≤ 40 ∧ μ (31 + 2 * r) 3 = nI z ∧ μ 69 r = nI z) ∧ ∀ i, i < 40 → μ (31 + 2 * r + 1) i = μ 70 (40 * r + i)
def RR (μ : Zm) : Prop := ∀ r, r < 8 → RRr μ r
/-- a byte, with its sign -/
def sxb (b : Nat) : Int32 := (nI b).toInt8.toInt32
def RT (μ : Zm) : Prop := ∃ n, n ≤ 400 ∧ μ 3 1 = nI n ∧ μ 63 10 = nI n ∧ ∀ i, i < n → ∃ b, b < 256 ∧ μ 4 i = sxb b ∧ μ 71 i = nI b
def RC (μ : Zm) : Prop := ∃ n, n ≤ 16 ∧ μ 0 10 = nI n ∧ μ 63 24 = nI n ∧ ∀ i, i < n → μ 30 i = μ 73 i
def RS (μ : Zm) : Prop := μ 0 1 = μ 63 8 ∧ μ 0 3 = μ 63 17
def Rel (μ : Zm) : Prop := ∃ a, RV μ a ∧ GA μ a ∧ RI μ 0 ∧ RI μ 1 ∧ RR μ ∧ RT μ ∧ RC μ ∧ RS μ
theorem RV_fr {μ μ' : Zm} {a : Nat → Nat} (h : ∀ c i, (5 ≤ c ∧ c ≤ 12) ∨ c = 64 → μ' c i = μ c i) (R : RV μ a) : RV μ' a :=
  ⟨CV_eq (fun c i q1 q2 => h c i (by omega)) R.1, MS_eq (fun i => h 64 i (by omega)) R.2.1, R.2.2⟩
theorem MV_eq {μ μ' : Zm} {c o : Nat} {a : Nat → Nat} (h : ∀ i, μ' c i = μ c i) (hm : MV μ c o a) : MV μ' c o a := by
  unfold MV at hm ⊢
  simp only [h]
  exact hm
theorem RI_fr {μ μ' : Zm} {k : Nat} (hk : k < 2) (h : ∀ c i, (47 ≤ c ∧ c ≤ 62) ∨ c = 65 ∨ c = 66 → μ' c i = μ c i) (R : RI μ k) : RI μ' k := by
  obtain ⟨b, h1, h2, h3, h4⟩ := R
  exact ⟨b, CV_eq (fun c i q1 q2 => h c i (by omega)) h1, MV_eq (fun i => h 65 i (by omega)) h2, h3, (h 66 k (by omega)).trans h4⟩
theorem GA_fr {μ μ' : Zm} {a : Nat → Nat} (h : ∀ c i, c = 23 ∨ c = 24 ∨ c = 67 ∨ (c = 22 ∧ (i = 2 ∨ i = 3)) ∨ (c = 63 ∧ i = 4) → μ' c i = μ c i) (R : GA μ a) : GA μ' a := by
  obtain ⟨n, nx, g, h1, h2, h3, h4, h5, h6⟩ := R
  refine ⟨n, nx, g, h1, h2, (h 22 2 (by omega)).trans h3, (h 22 3 (by omega)).trans h4, (h 63 4 (by omega)).trans h5, fun j hj w hw => ?_⟩
  obtain ⟨q1, q2, q3, q4, q5, q6⟩ := h6 j hj w hw
  exact ⟨q1, q2, (h _ _ (by omega)).trans q3, (h _ _ (by omega)).trans q4, (h _ _ (by omega)).trans q5, (h _ _ (by omega)).trans q6⟩
theorem RRr_fr {μ μ' : Zm} {r : Nat} (h : ∀ c i, (c = 31 + 2 * r ∨ c = 31 + 2 * r + 1 ∨ ((c = 68 ∨ c = 69) ∧ i = r) ∨ (c = 70 ∧ 40 * r ≤ i ∧ i < 40 * r + 40)) → μ' c i = μ c i) (R : RRr μ r) : RRr μ' r := by
  obtain ⟨h1, h2, h3⟩ := R
  refine ⟨?_, ?_, fun i hi => ?_⟩
  · rw [h (31 + 2 * r) 1 (by omega), h (31 + 2 * r) 2 (by omega), h 68 r (by omega)]
    exact h1
  · rw [h (31 + 2 * r) 3 (by omega), h 69 r (by omega)]
    exact h2
  · rw [h (31 + 2 * r + 1) i (by omega), h 70 (40 * r + i) (by omega)]
    exact h3 i hi
theorem RR_fr {μ μ' : Zm} (h : ∀ c i, (31 ≤ c ∧ c ≤ 46) ∨ c = 68 ∨ c = 69 ∨ c = 70 → μ' c i = μ c i) (R : RR μ) : RR μ' :=
  fun r hr => RRr_fr (fun c i q => h c i (by omega)) (R r hr)
theorem RT_fr {μ μ' : Zm} (h : ∀ c i, c = 4 ∨ c = 71 ∨ (c = 3 ∧ i = 1) ∨ (c = 63 ∧ i = 10) → μ' c i = μ c i) (R : RT μ) : RT μ' := by
  obtain ⟨n, h1, h2, h3, h4⟩ := R
  refine ⟨n, h1, (h 3 1 (by omega)).trans h2, (h 63 10 (by omega)).trans h3, fun i hi => ?_⟩
  obtain ⟨b, q1, q2, q3⟩ := h4 i hi
  exact ⟨b, q1, (h 4 i (by omega)).trans q2, (h 71 i (by omega)).trans q3⟩
theorem RC_fr {μ μ' : Zm} (h : ∀ c i, c = 30 ∨ c = 73 ∨ (c = 0 ∧ i = 10) ∨ (c = 63 ∧ i = 24) → μ' c i = μ c i) (R : RC μ) : RC μ' := by
  obtain ⟨n, h1, h2, h3, h4⟩ := R
  refine ⟨n, h1, (h 0 10 (by omega)).trans h2, (h 63 24 (by omega)).trans h3, fun i hi => ?_⟩
  rw [h 30 i (by omega), h 73 i (by omega)]
  exact h4 i hi
theorem RS_fr {μ μ' : Zm} (h : ∀ c i, (c = 0 ∧ (i = 1 ∨ i = 3)) ∨ (c = 63 ∧ (i = 8 ∨ i = 17)) → μ' c i = μ c i) (R : RS μ) : RS μ' := by
  unfold RS
  rw [h 0 1 (by omega), h 63 8 (by omega), h 0 3 (by omega), h 63 17 (by omega)]
  exact R
/-- what only helps -/
def zscr (c i : Nat) : Prop := (13 ≤ c ∧ c ≤ 20) ∨ (25 ≤ c ∧ c ≤ 29) ∨ c = 2 ∨ c = 72 ∨ (c = 3 ∧ 2 ≤ i) ∨ (c = 63 ∧ ((11 ≤ i ∧ i ≤ 16) ∨ (18 ≤ i ∧ i ≤ 23) ∨ 1000 ≤ i))
theorem Rel_fr {μ μ' : Zm} (h : ∀ c i, ¬ zscr c i → μ' c i = μ c i) (R : Rel μ) : Rel μ' := by
  unfold zscr at h
  obtain ⟨a, h1, h2, h3, h4, h5, h6, h7, h8⟩ := R
  exact ⟨a, RV_fr (fun c i q => h c i (by omega)) h1, GA_fr (fun c i q => h c i (by omega)) h2, RI_fr (by omega) (fun c i q => h c i (by omega)) h3, RI_fr (by omega) (fun c i q => h c i (by omega)) h4, RR_fr (fun c i q => h c i (by omega)) h5, RT_fr (fun c i q => h c i (by omega)) h6, RC_fr (fun c i q => h c i (by omega)) h7, RS_fr (fun c i q => h c i (by omega)) h8⟩
/-- the finding, the status -/
theorem Rel_st {μ : Zm} {x : Int32} (R : Rel μ) : Rel (zup (zup μ 0 1 x) 63 8 x) := by
  obtain ⟨a, h1, h2, h3, h4, h5, h6, h7, h8⟩ := R
  refine ⟨a, RV_fr (fun c i q => ?_) h1, GA_fr (fun c i q => ?_) h2, RI_fr (by omega) (fun c i q => ?_) h3, RI_fr (by omega) (fun c i q => ?_) h4, RR_fr (fun c i q => ?_) h5, RT_fr (fun c i q => ?_) h6, RC_fr (fun c i q => ?_) h7, ?_⟩
  all_goals first | (rw [zup_o (by omega), zup_o (by omega)]; done) | skip
  exact ⟨by rw [zup_o (by omega), zup_s rfl rfl, zup_s rfl rfl], by rw [zup_o (by omega), zup_o (by omega), zup_o (by omega), zup_o (by omega)]; exact h8.2⟩
def zop (f g : Zm → Option (Option Value × Zm)) (μ : Zm) : Prop := ∃ r μ1 μ2, f μ = some (some (.int r), μ1) ∧ g μ1 = some (some (.int r), μ2) ∧ Rel μ2
theorem zop_id {f g : Zm → Option (Option Value × Zm)} {μ : Zm} (r : Int32) (h1 : f μ = some (some (.int r), μ)) (h2 : g μ = some (some (.int r), μ)) (R : Rel μ) : zop f g μ := ⟨r, μ, μ, h1, h2, R⟩
theorem zop_m {f g : Zm → Option (Option Value × Zm)} {μ : Zm} (r : Int32) (μ1 μ2 : Zm) (h1 : f μ = some (some (.int r), μ1)) (h2 : g μ1 = some (some (.int r), μ2)) (R : Rel μ2) : zop f g μ := ⟨r, μ1, μ2, h1, h2, R⟩
theorem sp_isWoolT {d w : Nat} {μ : Zm} {a : Nat → Nat} (hc : CV μ 5 a) (hf : WF a) (hw : w < a 3) : zC true (d + 1) mX6_isWool [.ref 0, .int (nI w)] μ = some (some (.int (nI 1)), μ) := by
  have h2 := hc.2.2.1
  have hb := hf.2.2.1
  simp (disch := omega) only [nX6_isWool, eX6_isWool_0, eX6_isWool_1, eX6_isWool_4, eX6_isWool_5, eX6_isWool_6, eX6_isWool_9, eX6_isWool_12, eX6_isWool_15, eX6_isWool_16, eX6_isWool_19, eX6_isWool_20, h2, not_true_eq_false, not_false_eq_true, zok1, zok0, Bool.false_eq_true, zpush_s, zpush_n, Option.bind_some, Option.bind_none, ite_true, ite_false, if_true, if_false, reduceIte, nI_add, pk_mul, ob0, ob2, ob3, ob22, ob25, ob63, Nat.reduceEqDiff, Nat.reduceAdd, Nat.reduceMul, Nat.reduceSub, pLeT, pLeF, pLtT, pLtF, pEqT, pEqF, qLtT, qLtF, qLeT, qLeF, qEqF, nI_sub2, nI_dec, ob5, ob13]
theorem sp_isWoolF {d : Nat} {x : Int32} {μ : Zm} {a : Nat → Nat} (hc : CV μ 5 a) (hf : WF a) (hw : zout x (a 3)) : zC true (d + 1) mX6_isWool [.ref 0, .int x] μ = some (some (.int (nI 0)), μ) := by
  have h2 := hc.2.2.1
  have hb := hf.2.2.1
  rcases zout_c hw with hx | ⟨j, hj, hj2, rfl⟩ <;> simp (disch := omega) only [nX6_isWool, eX6_isWool_0, eX6_isWool_1, eX6_isWool_4, eX6_isWool_5, eX6_isWool_6, eX6_isWool_9, eX6_isWool_12, eX6_isWool_15, eX6_isWool_16, eX6_isWool_19, eX6_isWool_20, h2, not_true_eq_false, not_false_eq_true, zok1, zok0, Bool.false_eq_true, zpush_s, zpush_n, Option.bind_some, Option.bind_none, ite_true, ite_false, if_true, if_false, reduceIte, nI_add, pk_mul, ob0, ob2, ob3, ob22, ob25, ob63, Nat.reduceEqDiff, Nat.reduceAdd, Nat.reduceMul, Nat.reduceSub, pLeT, pLeF, pLtT, pLtF, pEqT, pEqF, qLtT, qLtF, qLeT, qLeF, qEqF, nI_sub2, nI_dec, ob5, ob13]
theorem sp_isFactT {d w : Nat} {μ : Zm} {a : Nat → Nat} (hc : CV μ 5 a) (hf : WF a) (hw : w < a 2) : zC true (d + 1) mX6_isFact [.ref 0, .int (nI w)] μ = some (some (.int (nI 1)), μ) := by
  have h2 := hc.2.1
  have hb := hf.2.1
  simp (disch := omega) only [nX6_isFact, eX6_isFact_0, eX6_isFact_1, eX6_isFact_4, eX6_isFact_5, eX6_isFact_6, eX6_isFact_9, eX6_isFact_12, eX6_isFact_15, eX6_isFact_16, eX6_isFact_19, eX6_isFact_20, h2, not_true_eq_false, not_false_eq_true, zok1, zok0, Bool.false_eq_true, zpush_s, zpush_n, Option.bind_some, Option.bind_none, ite_true, ite_false, if_true, if_false, reduceIte, nI_add, pk_mul, ob0, ob2, ob3, ob22, ob25, ob63, Nat.reduceEqDiff, Nat.reduceAdd, Nat.reduceMul, Nat.reduceSub, pLeT, pLeF, pLtT, pLtF, pEqT, pEqF, qLtT, qLtF, qLeT, qLeF, qEqF, nI_sub2, nI_dec, ob5, ob13]
theorem sp_isFactF {d : Nat} {x : Int32} {μ : Zm} {a : Nat → Nat} (hc : CV μ 5 a) (hf : WF a) (hw : zout x (a 2)) : zC true (d + 1) mX6_isFact [.ref 0, .int x] μ = some (some (.int (nI 0)), μ) := by
  have h2 := hc.2.1
  have hb := hf.2.1
  rcases zout_c hw with hx | ⟨j, hj, hj2, rfl⟩ <;> simp (disch := omega) only [nX6_isFact, eX6_isFact_0, eX6_isFact_1, eX6_isFact_4, eX6_isFact_5, eX6_isFact_6, eX6_isFact_9, eX6_isFact_12, eX6_isFact_15, eX6_isFact_16, eX6_isFact_19, eX6_isFact_20, h2, not_true_eq_false, not_false_eq_true, zok1, zok0, Bool.false_eq_true, zpush_s, zpush_n, Option.bind_some, Option.bind_none, ite_true, ite_false, if_true, if_false, reduceIte, nI_add, pk_mul, ob0, ob2, ob3, ob22, ob25, ob63, Nat.reduceEqDiff, Nat.reduceAdd, Nat.reduceMul, Nat.reduceSub, pLeT, pLeF, pLtT, pLtF, pEqT, pEqF, qLtT, qLtF, qLeT, qLeF, qEqF, nI_sub2, nI_dec, ob5, ob13]
theorem sp_isThereT {d v : Nat} {μ : Zm} {a : Nat → Nat} (hv : zV v) (hc : CV μ v a) (hf : WF a) (h : a 1 ≠ 0) : zC true (d + 1) mX5_isThere [.ref v] μ = some (some (.int (nI 1)), μ) := by
  have h2 := hc.1
  have hb := hf.1
  simp (disch := omega) only [nX5_isThere, eX5_isThere_0, eX5_isThere_1, eX5_isThere_4, eX5_isThere_7, eX5_isThere_8, eX5_isThere_11, eX5_isThere_12, obV hv, h2, not_true_eq_false, not_false_eq_true, zok1, zok0, Bool.false_eq_true, zpush_s, zpush_n, Option.bind_some, Option.bind_none, ite_true, ite_false, if_true, if_false, reduceIte, nI_add, pk_mul, ob0, ob2, ob3, ob22, ob25, ob63, Nat.reduceEqDiff, Nat.reduceAdd, Nat.reduceMul, Nat.reduceSub, pLeT, pLeF, pLtT, pLtF, pEqT, pEqF, qLtT, qLtF, qLeT, qLeF, qEqF, nI_sub2, nI_dec, ob5, ob13]
theorem sp_isThereF {d v : Nat} {μ : Zm} {a : Nat → Nat} (hv : zV v) (hc : CV μ v a) (h : a 1 = 0) : zC true (d + 1) mX5_isThere [.ref v] μ = some (some (.int (nI 0)), μ) := by
  have h2 := hc.1
  simp (disch := omega) only [nX5_isThere, eX5_isThere_0, eX5_isThere_1, eX5_isThere_4, eX5_isThere_7, eX5_isThere_8, eX5_isThere_11, eX5_isThere_12, obV hv, h2, h, not_true_eq_false, not_false_eq_true, zok1, zok0, Bool.false_eq_true, zpush_s, zpush_n, Option.bind_some, Option.bind_none, ite_true, ite_false, if_true, if_false, reduceIte, nI_add, pk_mul, ob0, ob2, ob3, ob22, ob25, ob63, Nat.reduceEqDiff, Nat.reduceAdd, Nat.reduceMul, Nat.reduceSub, pLeT, pLeF, pLtT, pLtF, pEqT, pEqF, qLtT, qLtF, qLeT, qLeF, qEqF, nI_sub2, nI_dec, ob5, ob13]
theorem sm_isValleyT {d : Nat} {μ : Zm} {a : Nat → Nat} (hm : MS μ a) (h : a 1 ≠ 0) : zC true (d + 1) mX7_isValley [.ref 63] μ = some (some (.int (nI 1)), μ) := by
  rw [sm_isValley hm, decide_eq_true h]
  rfl
theorem sm_isValleyF {d : Nat} {μ : Zm} {a : Nat → Nat} (hm : MS μ a) (h : a 1 = 0) : zC true (d + 1) mX7_isValley [.ref 63] μ = some (some (.int (nI 0)), μ) := by
  rw [sm_isValley hm, decide_eq_false (fun q => q h)]
  rfl
