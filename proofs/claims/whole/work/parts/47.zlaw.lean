/-! ===== the law ===== -/
theorem zm70 {j : Nat} : zmE 70 j = 0 := rfl
theorem Rel_0 {m2 : Zm} (h : ∀ c i : Nat, c < 74 → i < (zsh c).2 → m2 c i = zmE c i) {xs : Nat → Int32} {L : Nat} : Rel (zmS m2 xs L) := by
  have e : ∀ c i, c < 74 → i < (zsh c).2 → zmS m2 xs L c i = zmE c i := fun c i h1 h2 => by
    unfold zmS
    rw [if_neg (by omega), if_neg (by omega)]
    exact h c i h1 h2
  have wf : WF (fun _ => 0) := ⟨Nat.zero_le _, Nat.zero_le _, Nat.zero_le _, Nat.zero_le _, fun w hw => absurd hw (Nat.not_lt_zero w), fun s hs => absurd hs (Nat.not_lt_zero s)⟩
  have cv : ∀ v, zV v → CV (zmS m2 xs L) v (fun _ => 0) := fun v hv => by
    have : zmS m2 xs L v 0 = nI 0 ∧ zmS m2 xs L v 1 = nI 0 ∧ zmS m2 xs L v 2 = nI 0 ∧ zmS m2 xs L v 6 = nI 0 := by
      rcases hv with rfl | rfl | rfl | rfl <;> refine ⟨?_, ?_, ?_, ?_⟩ <;> exact (e _ _ (by decide) (by decide)).trans (by decide)
    exact ⟨this.1, this.2.1, this.2.2.1, this.2.2.2, fun w hw => absurd hw (Nat.not_lt_zero w), fun s hs => absurd hs (Nat.not_lt_zero s)⟩
  have ri : ∀ k, k < 2 → RI (zmS m2 xs L) k := fun k hk => by
    refine ⟨fun _ => 0, cv _ (zVI hk), ?_, wf, ?_⟩
    · have : ∀ i, i < 5 → zmS m2 xs L 65 (74 * k + i) = nI 0 := fun i hi => (e 65 _ (by omega) (show 74 * k + i < 148 by omega)).trans rfl
      exact ⟨this 0 (by omega), this 1 (by omega), this 2 (by omega), this 3 (by omega), this 4 (by omega), fun w hw => absurd hw (Nat.not_lt_zero w), fun s hs => absurd hs (Nat.not_lt_zero s)⟩
    · exact (e 66 k (by omega) (show k < 2 from hk)).trans rfl
  refine ⟨fun _ => 0, ⟨cv 5 zV5, ?_, wf⟩, ⟨0, 0, fun _ _ => 0, Nat.zero_le _, by omega, ?_, ?_, ?_, fun j hj => absurd hj (Nat.not_lt_zero j)⟩, ri 0 (by omega), ri 1 (by omega), fun r hr => ?_, ⟨0, Nat.zero_le _, ?_, ?_, fun i hi => absurd hi (Nat.not_lt_zero i)⟩, ⟨0, Nat.zero_le _, ?_, ?_, fun i hi => absurd hi (Nat.not_lt_zero i)⟩, ?_, ?_⟩
  · have : ∀ i, i < 5 → zmS m2 xs L 64 i = nI 0 := fun i hi => (e 64 _ (by omega) (show i < 74 by omega)).trans rfl
    exact ⟨this 0 (by omega), this 1 (by omega), this 2 (by omega), this 3 (by omega), this 4 (by omega), fun w hw => absurd hw (Nat.not_lt_zero w), fun s hs => absurd hs (Nat.not_lt_zero s)⟩
  · exact (e _ _ (by decide) (by decide)).trans (by decide)
  · exact (e _ _ (by decide) (by decide)).trans (by decide)
  · exact (e _ _ (by decide) (by decide)).trans (by decide)
  · have q1 : ∀ r : Fin 8, 1 < (zsh (31 + 2 * r.1)).2 ∧ 3 < (zsh (31 + 2 * r.1)).2 ∧ (zsh (31 + 2 * r.1 + 1)).2 = 40 ∧ zmE (31 + 2 * r.1) 1 = nI 0 ∧ zmE (31 + 2 * r.1) 3 = nI 0 := by decide
    have q2 : ∀ r : Fin 8, ∀ i : Fin 40, zmE (31 + 2 * r.1 + 1) i.1 = 0 := by decide +kernel
    obtain ⟨a1, a2, a3, a4, a5⟩ := q1 ⟨r, hr⟩
    dsimp only at a1 a2 a3 a4 a5
    refine ⟨Or.inl ⟨(e _ _ (by omega) a1).trans a4, (e 68 r (by omega) (show r < 8 from hr)).trans rfl⟩, ⟨0, Nat.zero_le _, (e _ _ (by omega) a2).trans a5, (e 69 r (by omega) (show r < 8 from hr)).trans rfl⟩, fun i hi => ?_⟩
    rw [e _ _ (by omega) (by omega), e 70 _ (by omega) (show 40 * r + i < 320 by omega), zm70]
    exact q2 ⟨r, hr⟩ ⟨i, hi⟩
  · exact (e _ _ (by decide) (by decide)).trans (by decide)
  · exact (e _ _ (by decide) (by decide)).trans (by decide)
  · exact (e _ _ (by decide) (by decide)).trans (by decide)
  · exact (e _ _ (by decide) (by decide)).trans (by decide)
  · rw [e 0 1 (by decide) (by decide), e 63 8 (by decide) (by decide)]
    decide
  · rw [e 0 3 (by decide) (by decide), e 63 17 (by decide) (by decide)]
    decide
theorem lw_out {μ : Zm} {L i : Nat} (h : μ 2100 0 = nI L) (hL : L ≤ 3072) (hi : L < i + 6) (hi2 : i ≤ L) : zA 60 mL_law 18 [.ref 2000, .ref 0, .ref 63, .int (nI i)] [] μ = some (some (.int 1), μ) := by
  have hl := zlen_s h hL
  have hlt : (nI L - nI 6 < nI i) = True := by
    by_cases q : 6 ≤ L
    · rw [nI_sub2 q]
      exact pLtT (by omega)
    · have hn : ∀ l : Fin 6, (nI l.1 - nI 6).toInt < 0 := by decide
      have hn := hn ⟨L, by omega⟩
      dsimp only at hn
      exact qLtT (by omega)
  have n1 : (1 : Int32) = nI 1 := rfl
  rw [n1, eL_law_18, eL_law_19, eL_law_20, hl, Option.bind_some, eL_law_21, eL_law_23, ofNat_nI, eL_law_24]
  simp (disch := omega) only [hlt, eL_law_990, eL_law_991, not_true_eq_false, not_false_eq_true, zok1, zok0, Bool.false_eq_true, zpush_s, zpush_n, Option.bind_some, Option.bind_none, ite_true, ite_false, if_true, if_false, ↓reduceIte, nI_add, pk_mul, ob0, ob2, ob3, ob22, ob25, ob63]
theorem zlaw {m2 : Zm} (h : ∀ c i : Nat, c < 74 → i < (zsh c).2 → m2 c i = zmE c i) {xs : Nat → Int32} {L : Nat} (hL : L ≤ 3072) : ∃ μ', zA 60 mL_law 16 [.ref 2000, .ref 0, .ref 63, zjk] [] (zmS m2 xs L) = some (some (.int 1), μ') := by
  have key : ∀ k, 6 * k ≤ L → ∃ μ, zA 60 mL_law 16 [.ref 2000, .ref 0, .ref 63, zjk] [] (zmS m2 xs L) = zA 60 mL_law 18 [.ref 2000, .ref 0, .ref 63, .int (nI (6 * k))] [] μ ∧ Rel μ ∧ μ 2100 0 = nI L := by
    intro k
    induction k with
    | zero =>
      intro _
      refine ⟨zmS m2 xs L, ?_, Rel_0 h, ?_⟩
      · rw [eL_law_16, eL_law_17]
      · unfold zmS
        rw [if_neg (by omega), if_pos ⟨rfl, rfl⟩]
    | succ k ih =>
      intro hk
      obtain ⟨μ, g1, g2, g3⟩ := ih (by omega)
      obtain ⟨μ', f1, f2, f3⟩ := lw_all g2 g3 hL (by omega)
      exact ⟨μ', g1.trans f1, f2, f3⟩
  obtain ⟨μ, g1, g2, g3⟩ := key (L / 6) (by omega)
  exact ⟨μ, g1.trans (lw_out g3 hL (by omega) (by omega))⟩
