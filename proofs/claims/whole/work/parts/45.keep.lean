/-! ===== no call touches what was there before ===== -/
def zK0 (μ μ' : Zm) : Prop := ∀ c i, 2000 ≤ c → μ' c i = μ c i
theorem zK0_id {μ : Zm} : zK0 μ μ := fun _ _ _ => rfl
theorem zK0_tr {μ μ' μ'' : Zm} (h : zK0 μ μ') (h2 : zK0 μ' μ'') : zK0 μ μ'' := fun c i q => (h2 c i q).trans (h c i q)
theorem zK0_up {μ : Zm} {c k : Nat} {x : Int32} (h : c < 74) : zK0 μ (zup μ c k x) := fun c' i q => zup_o (by omega)
theorem zK0_ob {μ : Zm} {c t : Nat} (h : zob true μ c t = true) : c < 74 := by
  have := (zob_spec h).2
  rwa [zsz_t] at this
theorem zK0_wri {μ μ' : Zm} {c : Nat} {i x : Int32} (h : zwri true μ c i x = some μ') : zK0 μ μ' := by
  unfold zwri at h
  split at h
  · next q =>
    rw [Bool.and_eq_true] at q
    cases h
    exact zK0_up (zK0_ob q.1)
  · cases h
theorem zK0_wrb {μ μ' : Zm} {c : Nat} {i x : Int32} (h : zwrb true μ c i x = some μ') : zK0 μ μ' := by
  unfold zwrb at h
  split at h
  · next q =>
    simp only [Bool.and_eq_true] at q
    cases h
    exact zK0_up (zK0_ob q.1.2)
  · split at h
    · next q =>
      simp only [Bool.and_eq_true] at q
      cases h
      exact zK0_up (zK0_ob q.1.2)
    · cases h
theorem zK0_ac {μ μ' : Zm} {a b : Nat} {i j n : Int32} (h : zac true μ a b i j n = some μ') : zK0 μ μ' := by
  unfold zac at h
  split at h
  · next q =>
    simp only [Bool.and_eq_true] at q
    have hb : b < 74 := zK0_ob q.1.1.1.1.1.2
    cases h
    intro c k hc
    unfold zcp
    rw [if_neg (by omega)]
  · cases h
theorem zK0_pf {μ μ' : Zm} {M : ZI} {t c k : Nat} {v : Value} (h : zpf true μ M t c k v = some μ') : zK0 μ μ' := by
  unfold zpf at h
  split at h
  · next q =>
    have hc := zK0_ob q
    repeat' split at h
    all_goals first
      | cases h; done
      | (cases h; exact zK0_up hc)
      | (cases h; exact zK0_tr (zK0_up hc) (zK0_up hc))
  · cases h
def zPr (P : Zm → Prop) (o : Option zR) : Prop := (∀ q, o = some (.inl q) → P q.2.2.2) ∧ ∀ r, o = some (.inr r) → P r.2
theorem kp_none {P : Zm → Prop} : zPr P none := ⟨fun _ h => by (cases h), fun _ h => by (cases h)⟩
theorem kp_nx {P : Zm → Prop} {pc : Nat} {L st : List Value} {μ : Zm} (h : P μ) : zPr P (znx pc L st μ) := ⟨fun q e => by
  unfold znx at e
  cases e
  exact h, fun _ e => by
  unfold znx at e
  cases e⟩
theorem kp_r {P : Zm → Prop} {v : Option Value} {μ : Zm} (h : P μ) : zPr P (some (.inr (v, μ))) := ⟨fun q e => (by cases e), fun _ e => (by
  cases e
  exact h)⟩
theorem kp_bind {P : Zm → Prop} {α : Type} {o : Option α} {f : α → Option zR} (h : ∀ x, o = some x → zPr P (f x)) : zPr P (o.bind f) := by
  cases o with
  | none => exact kp_none
  | some x => exact h x rfl
theorem kp_ite {P : Zm → Prop} {c : Prop} {_ : Decidable c} {a b : Option zR} (ha : c → zPr P a) (hb : ¬ c → zPr P b) : zPr P (if c then a else b) := by
  split
  · next h => exact ha h
  · next h => exact hb h
theorem kp_jp {P : Zm → Prop} {pc : Nat} {off : Int} {k : Nat → Option zR} (h : ∀ t, zPr P (k t)) : zPr P (zjp pc off k) := by
  unfold zjp
  exact kp_ite (fun _ => h _) (fun _ => kp_none)
theorem kp_1i {P : Zm → Prop} {st : List Value} {k : Int32 → List Value → Option zR} (h : ∀ a r, zPr P (k a r)) : zPr P (z1i st k) := by
  unfold z1i
  split
  · exact h _ _
  · exact kp_none
theorem kp_2i {P : Zm → Prop} {st : List Value} {k : Int32 → Int32 → List Value → Option zR} (h : ∀ a b r, zPr P (k a b r)) : zPr P (z2i st k) := by
  unfold z2i
  split
  · exact h _ _ _
  · exact kp_none
theorem kp_1l {P : Zm → Prop} {st : List Value} {k : Int64 → List Value → Option zR} (h : ∀ a r, zPr P (k a r)) : zPr P (z1l st k) := by
  unfold z1l
  split
  · exact h _ _
  · exact kp_none
theorem kp_2l {P : Zm → Prop} {st : List Value} {k : Int64 → Int64 → List Value → Option zR} (h : ∀ a b r, zPr P (k a b r)) : zPr P (z2l st k) := by
  unfold z2l
  split
  · exact h _ _ _
  · exact kp_none
theorem kp_li {P : Zm → Prop} {st : List Value} {k : Int64 → Int32 → List Value → Option zR} (h : ∀ a b r, zPr P (k a b r)) : zPr P (zli st k) := by
  unfold zli
  split
  · exact h _ _ _
  · exact kp_none
theorem kp_1r {P : Zm → Prop} {st : List Value} {k : Nat → List Value → Option zR} (h : ∀ a r, zPr P (k a r)) : zPr P (z1r st k) := by
  unfold z1r
  split
  · exact h _ _
  · exact kp_none
theorem kp_ir {P : Zm → Prop} {st : List Value} {k : Int32 → Nat → List Value → Option zR} (h : ∀ a b r, zPr P (k a b r)) : zPr P (zir st k) := by
  unfold zir
  split
  · exact h _ _ _
  · exact kp_none
theorem kp_iir {P : Zm → Prop} {st : List Value} {k : Int32 → Int32 → Nat → List Value → Option zR} (h : ∀ a b c r, zPr P (k a b c r)) : zPr P (ziir st k) := by
  unfold ziir
  split
  · exact h _ _ _ _
  · exact kp_none
theorem kp_rir {P : Zm → Prop} {st : List Value} {k : Nat → Int32 → Nat → List Value → Option zR} (h : ∀ a b c r, zPr P (k a b c r)) : zPr P (zrir st k) := by
  unfold zrir
  split
  · exact h _ _ _ _
  · exact kp_none
theorem kp_vr {P : Zm → Prop} {st : List Value} {k : Value → Nat → List Value → Option zR} (h : ∀ a b r, zPr P (k a b r)) : zPr P (zvr st k) := by
  unfold zvr
  split
  · exact h _ _ _
  · exact kp_none
theorem kp_call {call : ZI → List Value → Zm → Option (Option Value × Zm)} (hcall : ∀ M' av μ r, call M' av μ = some r → zK0 μ r.2) {k n : Nat} {M' : ZI} {av rest : List Value} {pc : Nat} {L : List Value} {μ : Zm} : zPr (zK0 μ) (zcall true call k M' n av rest pc L μ) := by
  unfold zcall
  repeat' first
    | exact kp_none
    | exact kp_nx zK0_id
    | exact kp_nx (zK0_ac (by assumption))
    | exact kp_nx (hcall _ _ _ _ (by assumption))
    | refine kp_ite (fun _ => ?_) (fun _ => ?_)
    | refine kp_bind (fun _ _ => ?_)
    | split
theorem kp_aa {μ : Zm} {c v : Nat} {A B : Bool} (h : ((((zob true μ c 13 && zob true μ v 3) || (zob true μ c 14 && zob true μ v 5)) && A && B) = true)) : c < 74 := by
  simp only [Bool.and_eq_true, Bool.or_eq_true] at h
  rcases h.1.1 with q | q
  · exact zK0_ob q.1
  · exact zK0_ob q.1
theorem kp_all {call : ZI → List Value → Zm → Option (Option Value × Zm)} (hcall : ∀ M' av μ r, call M' av μ = some r → zK0 μ r.2) {M : ZI} {pc : Nat} {L st : List Value} {μ : Zm} {i : Instr} : zPr (zK0 μ) (zai true call M i pc L st μ) := by
  cases i with
  | putfield k =>
    simp only [zai]
    exact kp_vr (fun _ _ _ => kp_bind (fun _ _ => kp_bind (fun _ h => kp_nx (zK0_pf h))))
  | iastore =>
    simp only [zai]
    exact kp_iir (fun _ _ _ _ => kp_bind (fun _ h => kp_nx (zK0_wri h)))
  | bastore =>
    simp only [zai]
    exact kp_iir (fun _ _ _ _ => kp_bind (fun _ h => kp_nx (zK0_wrb h)))
  | aastore =>
    simp only [zai]
    exact kp_rir (fun _ _ _ _ => kp_ite (fun h => kp_nx (zK0_up (kp_aa h))) (fun _ => kp_none))
  | new k =>
    simp only [zai, ↓reduceIte]
    exact kp_none
  | newarray k =>
    simp only [zai, ↓reduceIte]
    exact kp_none
  | anewarray k =>
    simp only [zai, ↓reduceIte]
    exact kp_none
  | invokestatic k =>
    simp only [zai]
    exact kp_bind (fun _ _ => kp_ite (fun _ => kp_call hcall) (fun _ => kp_none))
  | invokevirtual k =>
    simp only [zai]
    exact kp_bind (fun _ _ => kp_ite (fun _ => kp_call hcall) (fun _ => kp_none))
  | invokespecial k =>
    simp only [zai]
    exact kp_bind (fun _ _ => kp_ite (fun _ => kp_call hcall) (fun _ => kp_none))
  | _ => first
    | exact kp_none
    | (simp only [zai]
       repeat' first
        | exact kp_none
        | exact kp_nx zK0_id
        | exact kp_r zK0_id
        | refine kp_jp (fun _ => ?_)
        | refine kp_1i (fun _ _ => ?_)
        | refine kp_2i (fun _ _ _ => ?_)
        | refine kp_1l (fun _ _ => ?_)
        | refine kp_2l (fun _ _ _ => ?_)
        | refine kp_li (fun _ _ _ => ?_)
        | refine kp_1r (fun _ _ => ?_)
        | refine kp_ir (fun _ _ _ => ?_)
        | refine kp_ite (fun _ => ?_) (fun _ => ?_)
        | refine kp_bind (fun _ _ => ?_)
        | split)
theorem kp_s1 {call : ZI → List Value → Zm → Option (Option Value × Zm)} (hcall : ∀ M' av μ r, call M' av μ = some r → zK0 μ r.2) {M : ZI} {pc : Nat} {L st : List Value} {μ : Zm} : zPr (zK0 μ) (zs1 true call M pc L st μ) := by
  unfold zs1
  split
  · exact kp_ite (fun _ => kp_all hcall) (fun _ => kp_none)
  · exact kp_none
theorem kp_ss {call : ZI → List Value → Zm → Option (Option Value × Zm)} (hcall : ∀ M' av μ r, call M' av μ = some r → zK0 μ r.2) {M : ZI} : ∀ (n pc : Nat) (L st : List Value) (μ : Zm) (r : Option Value × Zm), zss true call M n pc L st μ = some r → zK0 μ r.2
  | 0, _, _, _, _, _, h => by cases h
  | n + 1, pc, L, st, μ, r, h => by
    have hk := kp_s1 hcall (M := M) (pc := pc) (L := L) (st := st) (μ := μ)
    unfold zss at h
    split at h
    · next q e =>
      split at h
      · exact zK0_tr (hk.1 q e) (kp_ss hcall n _ _ _ _ r h)
      · cases h
    · next r' e =>
      split at h
      · cases h
        exact hk.2 _ e
      · cases h
    · cases h
theorem zC_keep : ∀ (d : Nat) (M : ZI) (av : List Value) (μ : Zm) (r : Option Value × Zm), zC true d M av μ = some r → zK0 μ r.2
  | 0, _, _, _, _, h => by
    unfold zC at h
    cases h
  | d + 1, M, av, μ, r, h => by
    unfold zC at h
    obtain ⟨n, hn⟩ := zlim_some h
    split at hn
    · exact kp_ss (zC_keep d) n _ _ _ _ r hn
    · cases hn
