/-! ===== one step of the abstract machine is a step of the machine ===== -/
def zlv (E : zE) (L : List Value) : List (Nat × Value) := (List.range L.length).filterMap (fun i => match L[i]? with
  | some v => if v = zjk ∨ (v.category = 2 ∧ ¬ L[i + 1]? = some zjk) then none else some (i, zcv E v)
  | none => none)
theorem zlv_mem {E : zE} {L : List Value} {q : Nat × Value} : q ∈ zlv E L ↔ ∃ v, L[q.1]? = some v ∧ v ≠ zjk ∧ (v.category = 2 → L[q.1 + 1]? = some zjk) ∧ q.2 = zcv E v := by
  unfold zlv
  rw [List.mem_filterMap]
  constructor
  · rintro ⟨i, hi, h⟩
    cases hL : L[i]? with
    | none => rw [hL] at h; cases h
    | some v =>
      rw [hL] at h
      by_cases hv : v = zjk ∨ (v.category = 2 ∧ ¬ L[i + 1]? = some zjk)
      · simp only [hv, if_true] at h; cases h
      · simp only [hv, if_false] at h
        cases h
        have h1 := not_or.mp hv
        exact ⟨v, hL, h1.1, fun hc => Classical.byContradiction fun hn => h1.2 ⟨hc, hn⟩, rfl⟩
  · rintro ⟨v, h1, h2, h3, h4⟩
    obtain ⟨i, w⟩ := q
    dsimp only at h1 h3 h4
    subst h4
    refine ⟨i, List.mem_range.mpr (List.getElem?_eq_some_iff.mp h1).1, ?_⟩
    rw [h1]
    have hv : ¬ (v = zjk ∨ (v.category = 2 ∧ ¬ L[i + 1]? = some zjk)) := fun h => h.elim h2 (fun h => h.2 (h3 h.1))
    simp only [hv, if_false]
theorem lv_mono {ls : Array Slot} {n : Nat} {l l' : List (Nat × Value)} (h : lv_has ls n l) (hs : ∀ q ∈ l', q ∈ l) : lv_has ls n l' := ⟨h.1, h.2.1, fun q hq => h.2.2 q (hs q hq)⟩
theorem zlv_set1 {E : zE} {U : State} (hG : zGs E U) {L : List Value} {i : Nat} {x : Value} (hj : x ≠ zjk) (hc : x.category = 1) : ∀ q ∈ zlv E (L.set i x), q ∈ (i, zcv E x) :: (zlv E L).filter (fun q => !(q.1 == i) && !(q.1 + 1 == i && q.2.category == 2)) := by
  intro q hq
  obtain ⟨v, h1, h2, h3, h4⟩ := zlv_mem.mp hq
  by_cases hi : q.1 = i
  · rw [hi, List.getElem?_set_self (by
      have := (List.getElem?_eq_some_iff.mp h1).1
      rw [List.length_set] at this
      omega)] at h1
    cases h1
    obtain ⟨a, b⟩ := q
    dsimp only at hi h4
    subst hi; subst h4
    exact List.mem_cons_self
  · rw [List.getElem?_set_ne (Ne.symm hi)] at h1
    refine List.mem_cons_of_mem _ (List.mem_filter.mpr ⟨zlv_mem.mpr ⟨v, h1, h2, fun hc2 => ?_, h4⟩, ?_⟩)
    · have h3 := h3 hc2
      by_cases hi2 : q.1 + 1 = i
      · rw [hi2, List.getElem?_set_self (by
          have := (List.getElem?_eq_some_iff.mp h3).1
          rw [List.length_set] at this
          omega)] at h3
        exact absurd (Option.some.inj h3) hj
      · rw [List.getElem?_set_ne (Ne.symm hi2)] at h3
        exact h3
    · have hcat : q.2.category = v.category := by rw [h4, zcv_cat hG]
      by_cases hc2 : v.category = 2
      · have h3 := h3 hc2
        have hi2 : ¬ q.1 + 1 = i := by
          intro hi2
          rw [hi2, List.getElem?_set_self (by
            have := (List.getElem?_eq_some_iff.mp h3).1
            rw [List.length_set] at this
            omega)] at h3
          exact absurd (Option.some.inj h3) hj
        simp [hi, hi2]
      · simp [hi, hcat, hc2]
theorem zlv_set2 {E : zE} {U : State} (hG : zGs E U) {L : List Value} {i : Nat} {x : Value} (hj : x ≠ zjk) : ∀ q ∈ zlv E ((L.set i x).set (i + 1) zjk), q ∈ (i, zcv E x) :: (zlv E L).filter (fun q => !(q.1 == i) && (!(q.1 == i + 1) && !(q.1 + 1 == i && q.2.category == 2))) := by
  intro q hq
  obtain ⟨v, h1, h2, h3, h4⟩ := zlv_mem.mp hq
  by_cases hi1 : q.1 = i + 1
  · rw [hi1, List.getElem?_set_self (by
      have := (List.getElem?_eq_some_iff.mp h1).1
      simp only [List.length_set] at this ⊢
      omega)] at h1
    exact absurd (Option.some.inj h1).symm h2
  · rw [List.getElem?_set_ne (Ne.symm hi1)] at h1
    by_cases hi : q.1 = i
    · rw [hi, List.getElem?_set_self (by
        have := (List.getElem?_eq_some_iff.mp h1).1
        rw [List.length_set] at this
        omega)] at h1
      cases h1
      obtain ⟨a, b⟩ := q
      dsimp only at hi h4
      subst hi; subst h4
      exact List.mem_cons_self
    · rw [List.getElem?_set_ne (Ne.symm hi)] at h1
      have hi2 : v.category = 2 → ¬ q.1 + 1 = i := by
        intro hc2 hi2
        have h3 := h3 hc2
        rw [hi2, List.getElem?_set_ne (by omega), List.getElem?_set_self (by
          have := (List.getElem?_eq_some_iff.mp h3).1
          simp only [List.length_set] at this
          omega)] at h3
        exact absurd (Option.some.inj h3) hj
      refine List.mem_cons_of_mem _ (List.mem_filter.mpr ⟨zlv_mem.mpr ⟨v, h1, h2, fun hc2 => ?_, h4⟩, ?_⟩)
      · have h3 := h3 hc2
        rw [List.getElem?_set_ne (by omega), List.getElem?_set_ne (by have := hi2 hc2; omega)] at h3
        exact h3
      · have hcat : q.2.category = v.category := by rw [h4, zcv_cat hG]
        by_cases hc2 : v.category = 2
        · simp [hi, hi1, hi2 hc2]
        · simp [hi, hi1, hcat, hc2]
def zsm (n : Nat) : Nat := ((List.range n).map (fun c => (zsh c).2)).sum
theorem zsm_succ (n : Nat) : zsm (n + 1) = zsm n + (zsh n).2 := by simp [zsm, List.range_succ]
theorem zsm_mono {a b : Nat} (h : a ≤ b) : zsm a ≤ zsm b := by
  induction b with
  | zero => rw [Nat.le_zero.mp h]; exact Nat.le_refl _
  | succ b ih =>
    rcases Nat.lt_or_ge a (b + 1) with h1 | h1
    · rw [zsm_succ]
      exact Nat.le_trans (ih (by omega)) (Nat.le_add_right _ _)
    · rw [show a = b + 1 by omega]; exact Nat.le_refl _
theorem znx_some {pc : Nat} {L st : List Value} {μ : Zm} {q : Nat × List Value × List Value × Zm} (h : znx pc L st μ = some (.inl q)) : q = (pc, L, st, μ) := by
  unfold znx at h
  cases h
  rfl
theorem z1i_some {st : List Value} {k : Int32 → List Value → Option zR} {x : zR} (h : z1i st k = some x) : ∃ a r, st = .int a :: r ∧ k a r = some x := by
  unfold z1i at h
  split at h
  · exact ⟨_, _, rfl, h⟩
  · cases h
theorem z2i_some {st : List Value} {k : Int32 → Int32 → List Value → Option zR} {x : zR} (h : z2i st k = some x) : ∃ a b r, st = .int b :: .int a :: r ∧ k a b r = some x := by
  unfold z2i at h
  split at h
  · exact ⟨_, _, _, rfl, h⟩
  · cases h
theorem z1l_some {st : List Value} {k : Int64 → List Value → Option zR} {x : zR} (h : z1l st k = some x) : ∃ a r, st = .long a :: r ∧ k a r = some x := by
  unfold z1l at h
  split at h
  · exact ⟨_, _, rfl, h⟩
  · cases h
theorem z2l_some {st : List Value} {k : Int64 → Int64 → List Value → Option zR} {x : zR} (h : z2l st k = some x) : ∃ a b r, st = .long b :: .long a :: r ∧ k a b r = some x := by
  unfold z2l at h
  split at h
  · exact ⟨_, _, _, rfl, h⟩
  · cases h
theorem zli_some {st : List Value} {k : Int64 → Int32 → List Value → Option zR} {x : zR} (h : zli st k = some x) : ∃ a b r, st = .int b :: .long a :: r ∧ k a b r = some x := by
  unfold zli at h
  split at h
  · exact ⟨_, _, _, rfl, h⟩
  · cases h
theorem z1r_some {st : List Value} {k : Nat → List Value → Option zR} {x : zR} (h : z1r st k = some x) : ∃ (a : Nat) (r : List Value), st = .ref a :: r ∧ k a r = some x := by
  unfold z1r at h
  split at h
  · exact ⟨_, _, rfl, h⟩
  · cases h
theorem zir_some {st : List Value} {k : Int32 → Nat → List Value → Option zR} {x : zR} (h : zir st k = some x) : ∃ (j : Int32) (c : Nat) (r : List Value), st = .int j :: .ref c :: r ∧ k j c r = some x := by
  unfold zir at h
  split at h
  · exact ⟨_, _, _, rfl, h⟩
  · cases h
theorem ziir_some {st : List Value} {k : Int32 → Int32 → Nat → List Value → Option zR} {x : zR} (h : ziir st k = some x) : ∃ (v j : Int32) (c : Nat) (r : List Value), st = .int v :: .int j :: .ref c :: r ∧ k v j c r = some x := by
  unfold ziir at h
  split at h
  · exact ⟨_, _, _, _, rfl, h⟩
  · cases h
theorem zrir_some {st : List Value} {k : Nat → Int32 → Nat → List Value → Option zR} {x : zR} (h : zrir st k = some x) : ∃ (v : Nat) (j : Int32) (c : Nat) (r : List Value), st = .ref v :: .int j :: .ref c :: r ∧ k v j c r = some x := by
  unfold zrir at h
  split at h
  · exact ⟨_, _, _, _, rfl, h⟩
  · cases h
theorem zvr_some {st : List Value} {k : Value → Nat → List Value → Option zR} {x : zR} (h : zvr st k = some x) : ∃ (v : Value) (c : Nat) (r : List Value), st = v :: .ref c :: r ∧ k v c r = some x := by
  unfold zvr at h
  split at h
  · exact ⟨_, _, _, rfl, h⟩
  · cases h
theorem zjp_some {pc : Nat} {off : Int} {k : Nat → Option zR} {x : zR} (h : zjp pc off k = some x) : ∃ t : Nat, (pc : Int) + off = (t : Int) ∧ k t = some x := by
  unfold zjp at h
  split at h
  · exact ⟨_, by omega, h⟩
  · cases h
theorem zldI_some {L : List Value} {i : Nat} {x : Int32} (h : zldI L i = some x) : L[i]? = some (.int x) := by
  unfold zldI at h
  split at h
  · cases h; assumption
  · cases h
theorem zldL_some {L : List Value} {i : Nat} {x : Int64} (h : zldL L i = some x) : L[i]? = some (.long x) ∧ L[i + 1]? = some zjk := by
  unfold zldL at h
  split at h
  · cases h; exact ⟨by assumption, by assumption⟩
  · cases h
theorem zldR_some {L : List Value} {i : Nat} {x : Nat} (h : zldR L i = some x) : L[i]? = some (.ref x) := by
  unfold zldR at h
  split at h
  · cases h; assumption
  · cases h
theorem zcv_r {E : zE} {x : Nat} : zcv E (.ref x) = .ref (zad E x) := rfl
theorem zst1_some {M : ZI} {L L' : List Value} {i : Nat} {v : Value} (h : zst1 M L i v = some L') : i < M.2.2.1 ∧ L' = L.set i v := by
  unfold zst1 at h
  split at h
  · cases h; exact ⟨by assumption, rfl⟩
  · cases h
theorem zst2_some {M : ZI} {L L' : List Value} {i : Nat} {v : Value} (h : zst2 M L i v = some L') : i + 1 < M.2.2.1 ∧ L' = (L.set i v).set (i + 1) zjk := by
  unfold zst2 at h
  split at h
  · cases h; exact ⟨by assumption, rfl⟩
  · cases h
def zFx (p : Program) (R : Room) (s : State) (m : MethodId) (args : Array Value) (meth : Method) (c : Code) (M : ZI) (E : zE) (d : Nat) : Prop :=
  p.tables.exec = Jvm.exec ∧ c.code = M.2.1 ∧ c.maxLocals = M.2.2.1 ∧ s.vm.findClass (zon M.2.2.2.2) = some m.cls ∧ (∀ w ∈ zG, w.before args s = true) ∧ zGs E s ∧ (meth.name = M.1.name ∨ ¬ M.1.name = "<init>") ∧ d + 2 ≤ R.frames ∧ 60 * (d + 2) ≤ R.locals
def zInv (E : zE) (ph : Bool) (M : ZI) (n0 s0 : Nat) (μ : Zm) (L : List Value) (s : State) (ls : Array Slot) (H : Heap) (locs : List Loc) (cells slots : Nat) : Prop :=
  lv_has ls M.2.2.1 (zlv E L) ∧ va_P E.1 vwCl (zwl E ph μ) H ∧ (ph = false → H.size = E.2.2.1 + zsz ph μ) ∧ va_S (zAA E) s.heap H locs ∧ zOld E μ ∧ cells + n0 = zsz ph μ ∧ slots + s0 = zsm (zsz ph μ)
theorem zlv_i {E : zE} {L : List Value} {ls : Array Slot} {n i : Nat} {x : Int32} (h : lv_has ls n (zlv E L)) (hL : L[i]? = some (.int x)) : ls[i]? = some (.val (.int x)) :=
  h.2.2 (i, .int x) (zlv_mem.mpr ⟨.int x, hL, (fun q => by cases q), (fun q => by cases q), rfl⟩)
theorem zlv_l {E : zE} {L : List Value} {ls : Array Slot} {n i : Nat} {x : Int64} (h : lv_has ls n (zlv E L)) (hL : L[i]? = some (.long x)) (hL2 : L[i + 1]? = some zjk) : ls[i]? = some (.val (.long x)) :=
  h.2.2 (i, .long x) (zlv_mem.mpr ⟨.long x, hL, (fun q => by cases q), fun _ => hL2, rfl⟩)
theorem zlv_r {E : zE} {L : List Value} {ls : Array Slot} {n i : Nat} {x : Nat} (h : lv_has ls n (zlv E L)) (hL : L[i]? = some (.ref x)) : ls[i]? = some (.val (.ref (zad E x))) :=
  h.2.2 (i, .ref (zad E x)) (zlv_mem.mpr ⟨.ref x, hL, (fun q => by cases q), (fun q => by cases q), zcv_r.symm⟩)
