/-! ===== the two constructors, run by the kernel over a closed memory ===== -/
def zF (ph : Bool) : Nat → Nat → ZI → List Value → Zm → Option (Option Value × Zm)
  | 0, _, _, _, _ => none
  | d + 1, n, M, av, μ => if zgd M av then zss ph (fun M' av' μ' => zF ph d n M' av' μ') M n 0 (zen M.2.2.1 av) [] μ else none
section ZF
variable {ph : Bool} {c1 c2 : ZI → List Value → Zm → Option (Option Value × Zm)} {M : ZI}
theorem zcall_mono (hc : ∀ M av μ r, c1 M av μ = some r → c2 M av μ = some r) {k n : Nat} {M' : ZI} {av rest : List Value} {pc : Nat} {L : List Value} {μ : Zm} {x : zR} (h : zcall ph c1 k M' n av rest pc L μ = some x) : zcall ph c2 k M' n av rest pc L μ = some x := by
  unfold zcall at h ⊢
  split at h
  · rename_i h1
    rw [if_pos h1]
    split at h
    · rename_i h2; rw [if_pos h2]; exact h
    · rename_i h2
      rw [if_neg h2]
      split at h
      · rename_i h3; rw [if_pos h3]; exact h
      · rename_i h3
        rw [if_neg h3]
        split at h
        · rename_i h4; rw [if_pos h4]; exact h
        · rename_i h4
          rw [if_neg h4]
          split at h
          · rename_i h5; rw [if_pos h5]; exact h
          · rename_i h5
            rw [if_neg h5]
            split at h
            · rename_i h6
              rw [if_pos h6]
              obtain ⟨r, hr, h⟩ := Option.bind_eq_some_iff.mp h
              rw [hc _ _ _ _ hr]
              exact h
            · cases h
  · cases h
theorem zai_mono (hc : ∀ M av μ r, c1 M av μ = some r → c2 M av μ = some r) {i : Instr} {pc : Nat} {L st : List Value} {μ : Zm} {x : zR} (h : zai ph c1 M i pc L st μ = some x) : zai ph c2 M i pc L st μ = some x := by
  cases i with
  | invokestatic k =>
    obtain ⟨q, hq, h⟩ := Option.bind_eq_some_iff.mp h
    refine Option.bind_eq_some_iff.mpr ⟨q, hq, ?_⟩
    split at h
    · rename_i h1; rw [if_pos h1]; exact zcall_mono hc h
    · cases h
  | invokevirtual k =>
    obtain ⟨q, hq, h⟩ := Option.bind_eq_some_iff.mp h
    refine Option.bind_eq_some_iff.mpr ⟨q, hq, ?_⟩
    split at h
    · rename_i h1; rw [if_pos h1]; exact zcall_mono hc h
    · cases h
  | invokespecial k =>
    obtain ⟨q, hq, h⟩ := Option.bind_eq_some_iff.mp h
    refine Option.bind_eq_some_iff.mpr ⟨q, hq, ?_⟩
    split at h
    · rename_i h1; rw [if_pos h1]; exact zcall_mono hc h
    · cases h
  | _ => exact h
theorem zss_cmono (hc : ∀ M av μ r, c1 M av μ = some r → c2 M av μ = some r) : ∀ (n pc : Nat) (L st : List Value) (μ : Zm) (r : Option Value × Zm), zss ph c1 M n pc L st μ = some r → zss ph c2 M n pc L st μ = some r
  | 0, _, _, _, _, _, h => by cases h
  | n + 1, pc, L, st, μ, r, h => by
    have key : ∀ x, zs1 ph c1 M pc L st μ = some x → zs1 ph c2 M pc L st μ = some x := by
      intro x hx
      unfold zs1 at hx ⊢
      split at hx
      · split at hx
        · rename_i h1
          rw [if_pos h1]
          exact zai_mono hc hx
        · cases hx
      · cases hx
    unfold zss at h ⊢
    split at h
    · rename_i q hq
      rw [key _ hq]
      dsimp only
      split at h
      · rename_i h1
        rw [if_pos h1]
        exact zss_cmono hc n _ _ _ _ _ h
      · cases h
    · rename_i q hq
      rw [key _ hq]
      exact h
    · cases h
end ZF
theorem zF_C {ph : Bool} {n : Nat} : ∀ (d : Nat) (M : ZI) (av : List Value) (μ : Zm) (r : Option Value × Zm), zF ph d n M av μ = some r → zC ph d M av μ = some r
  | 0, _, _, _, _, h => by cases h
  | d + 1, M, av, μ, r, h => by
    unfold zF at h
    split at h
    · rename_i hg
      unfold zC
      refine zlim_of (n := n) (fun n r hn => ?_) ?_
      · rw [if_pos hg] at hn ⊢
        exact zss_mono n _ _ _ _ r hn
      · rw [if_pos hg]
        exact zss_cmono (fun M' av' μ' r' h' => zF_C d M' av' μ' r' h') n _ _ _ _ _ h
    · cases h
def zm0 : Zm := fun c i => if c = 2100 ∧ i = 0 then nI 4000 else 0
def zr1 : Option (Option Value × Zm) := zF false 4 400 mX6_init [.ref 0] (zal zm0 0)
def zm1 : Zm := match zr1 with | some r => r.2 | none => zm0
def zr2 : Option (Option Value × Zm) := zF false 4 400 mX7_init [.ref 63] (zal zm1 63)
def zm2 : Zm := match zr2 with | some r => r.2 | none => zm0
set_option maxRecDepth 100000 in
theorem zr1_ok : zr1.map (fun r => (r.1, zsz false r.2)) = some (none, 63) := by decide +kernel
set_option maxRecDepth 100000 in
theorem zr2_ok : zr2.map (fun r => (r.1, zsz false r.2)) = some (none, 74) := by decide +kernel
/-- what the memory holds at the start -/
def zmE (c i : Nat) : Int32 := if (zsh c).1 < 8 then (if zkd (zsh c).1 i = 1 ∧ ¬ (zsh c).1 = 99 then 1 else 0) else if 12 < (zsh c).1 then 1 else if c = 68 then -1000000 else 0
