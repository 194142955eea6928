/-! ===== equations of the abstract machine ===== -/
theorem zlim_of {α : Type} {f : Nat → Option α} {r : α} (hm : ∀ n r, f n = some r → f (n + 1) = some r) {n : Nat} (h : f n = some r) : zlim f = some r := by
  have hx : ∃ r, ∃ n, f n = some r := ⟨r, n, h⟩
  unfold zlim
  rw [dif_pos hx]
  have mono : ∀ k n r, f n = some r → f (n + k) = some r := by
    intro k
    induction k with
    | zero => exact fun n r h => h
    | succ k ih => exact fun n r h => hm _ _ (ih n r h)
  obtain ⟨n2, h2⟩ := Classical.choose_spec hx
  have e1 := mono n2 n r h
  have e2 := mono n n2 _ h2
  rw [Nat.add_comm] at e2
  rw [e1] at e2
  exact e2.symm
theorem zlim_congr {α : Type} {f g : Nat → Option α} (h : ∀ r, (∃ n, f n = some r) ↔ ∃ n, g n = some r) : zlim f = zlim g := by
  have e : (fun r => ∃ n, f n = some r) = (fun r => ∃ n, g n = some r) := funext fun r => propext (h r)
  unfold zlim
  have key : ∀ (P Q : α → Prop), P = Q → @dite (Option α) (∃ r, P r) (Classical.propDecidable _) (fun h => some (Classical.choose h)) (fun _ => none) = @dite (Option α) (∃ r, Q r) (Classical.propDecidable _) (fun h => some (Classical.choose h)) (fun _ => none) := by
    intro P Q h
    subst h
    rfl
  exact key _ _ e
theorem zlim_none {α : Type} : zlim (fun _ : Nat => (none : Option α)) = none := by
  cases h : zlim (fun _ : Nat => (none : Option α)) with
  | none => rfl
  | some r =>
    obtain ⟨n, hn⟩ := zlim_some h
    cases hn
theorem zss_mono {ph : Bool} {call : ZI → List Value → Zm → Option (Option Value × Zm)} {M : ZI} : ∀ (n pc : Nat) (L st : List Value) (μ : Zm) (r : Option Value × Zm), zss ph call M n pc L st μ = some r → zss ph call M (n + 1) pc L st μ = some r
  | 0, _, _, _, _, _, h => by cases h
  | n + 1, pc, L, st, μ, r, h => by
    unfold zss at h ⊢
    split at h
    · split at h
      · rename_i q hq hz
        rw [if_pos hz]
        exact zss_mono n _ _ _ _ _ h
      · cases h
    · exact h
    · cases h
/-- what is left of a step -/
noncomputable def zK (d : Nat) (M : ZI) (o : Option zR) : Option (Option Value × Zm) := match o with
  | some (.inl q) => zA d M q.1 q.2.1 q.2.2.1 q.2.2.2
  | some (.inr r) => some r
  | none => none
theorem zsz_t (μ : Zm) : zsz true μ = 74 := rfl
theorem zA_eq0 {d : Nat} {M : ZI} {pc : Nat} {L st : List Value} {μ : Zm} : zA d M pc L st μ = zK d M (zs1 true (zC true d) M pc L st μ) := by
  unfold zK
  cases h : zs1 true (zC true d) M pc L st μ with
  | none =>
    have : zA d M pc L st μ = zlim (fun _ : Nat => (none : Option (Option Value × Zm))) := by
      unfold zA
      apply zlim_congr
      intro r
      refine ⟨fun ⟨n, hn⟩ => ?_, fun ⟨n, hn⟩ => by cases hn⟩
      cases n with
      | zero => cases hn
      | succ n => unfold zss at hn; rw [h] at hn; cases hn
    rw [this, zlim_none]
  | some q =>
    cases q with
    | inl q =>
      show zlim _ = zlim _
      apply zlim_congr
      intro r
      constructor
      · rintro ⟨n, hn⟩
        cases n with
        | zero => cases hn
        | succ n =>
          unfold zss at hn
          rw [h] at hn
          simp only [zsz_t, Nat.le_refl, if_true] at hn
          exact ⟨n, hn⟩
      · rintro ⟨n, hn⟩
        refine ⟨n + 1, ?_⟩
        unfold zss
        rw [h]
        simp only [zsz_t, Nat.le_refl, if_true]
        exact hn
    | inr r =>
      refine zlim_of (n := 1) (fun n r hn => zss_mono n _ _ _ _ r hn) ?_
      unfold zss
      rw [h]
      simp only [zsz_t, Nat.le_refl, if_true]
theorem zA_eq {d : Nat} {M : ZI} {pc n : Nat} {i : Instr} {L st : List Value} {μ : Zm} (hdg : decode M.2.1 pc = .ok (i, n)) (hn : n = zil i ∨ zisT i = true) : zA d M pc L st μ = zK d M (zai true (zC true d) M i pc L st μ) := by
  rw [zA_eq0]
  unfold zs1
  rw [hdg]
  dsimp only
  rw [if_pos hn]
theorem zC_eq {d : Nat} {M : ZI} {av L : List Value} {μ : Zm} (h : zgd M av = true) (hL : zen M.2.2.1 av = L) : zC true (d + 1) M av μ = zA d M 0 L [] μ := by
  subst hL
  show zlim (fun n => if zgd M av then zss true (zC true d) M n 0 (zen M.2.2.1 av) [] μ else none) = _
  rw [h]
  rfl
section ZQ
variable {d : Nat} {M : ZI} {pc : Nat} {L st : List Value} {μ : Zm}
theorem zK_ite {c : Prop} [Decidable c] {a b : Option zR} : zK d M (if c then a else b) = if c then zK d M a else zK d M b := by split <;> rfl
theorem zK_bind {α : Type} {o : Option α} {f : α → Option zR} : zK d M (o.bind f) = o.bind (fun x => zK d M (f x)) := by cases o <;> rfl
theorem zK_nx {pc' : Nat} {L' st' : List Value} {μ' : Zm} : zK d M (znx pc' L' st' μ') = zA d M pc' L' st' μ' := rfl
theorem zjp_eq {pc : Nat} {off : Int} {t : Nat} {k : Nat → Option zR} (ht : (pc : Int) + off = (t : Int)) : zjp pc off k = k t := by
  unfold zjp
  rw [ht, if_pos (by omega)]
  rfl
theorem zq_if {k : ClassFile.Cond} {off : Int} {t : Nat} {a : Int32} {c : Prop} [Decidable c] (hdg : decode M.2.1 pc = .ok (.ifCond k off, 3)) (ht : (pc : Int) + off = (t : Int)) (hc : zcm k a 0 = decide c) : zA d M pc L (.int a :: st) μ = if c then zA d M t L st μ else zA d M (pc + 3) L st μ := by
  rw [zA_eq hdg (Or.inl rfl)]
  show zK d M (zjp pc off fun t => if zcm k a 0 then znx t L st μ else znx (pc + 3) L st μ) = _
  rw [zjp_eq ht, hc]
  by_cases h : c
  · rw [if_pos h, if_pos (by simpa using h)]; rfl
  · rw [if_neg h, if_neg (by simpa using h)]; rfl
theorem zq_icmp {k : ClassFile.Cond} {off : Int} {t : Nat} {a b : Int32} {c : Prop} [Decidable c] (hdg : decode M.2.1 pc = .ok (.if_icmp k off, 3)) (ht : (pc : Int) + off = (t : Int)) (hc : zcm k a b = decide c) : zA d M pc L (.int b :: .int a :: st) μ = if c then zA d M t L st μ else zA d M (pc + 3) L st μ := by
  rw [zA_eq hdg (Or.inl rfl)]
  show zK d M (zjp pc off fun t => if zcm k a b then znx t L st μ else znx (pc + 3) L st μ) = _
  rw [zjp_eq ht, hc]
  by_cases h : c
  · rw [if_pos h, if_pos (by simpa using h)]; rfl
  · rw [if_neg h, if_neg (by simpa using h)]; rfl
theorem zq_ne {k : ClassFile.Cond} {a b : Int32} (h : k = .ne) : zcm k a b = decide (a ≠ b) := by subst h; simp [zcm]
theorem zq_goto {off : Int} {t : Nat} (hdg : decode M.2.1 pc = .ok (.goto off, 3)) (ht : (pc : Int) + off = (t : Int)) : zA d M pc L st μ = zA d M t L st μ := by
  rw [zA_eq hdg (Or.inl rfl)]
  show zK d M (zjp pc off fun t => znx t L st μ) = _
  rw [zjp_eq ht]
  rfl
theorem zq_div {a b : Int32} (hdg : decode M.2.1 pc = .ok (.idiv, 1)) : zA d M pc L (.int b :: .int a :: st) μ = if b = 0 then none else zA d M (pc + 1) L (.int (a / b) :: st) μ := by
  rw [zA_eq hdg (Or.inl rfl)]
  show zK d M (if b = 0 then none else znx (pc + 1) L (.int (a / b) :: st) μ) = _
  rw [zK_ite]
  rfl
theorem zq_rem {a b : Int32} (hdg : decode M.2.1 pc = .ok (.irem, 1)) : zA d M pc L (.int b :: .int a :: st) μ = if b = 0 then none else zA d M (pc + 1) L (.int (a - a / b * b) :: st) μ := by
  rw [zA_eq hdg (Or.inl rfl)]
  show zK d M (if b = 0 then none else znx (pc + 1) L (.int (a - a / b * b) :: st) μ) = _
  rw [zK_ite]
  rfl
theorem zq_lrem {a b : Int64} (hdg : decode M.2.1 pc = .ok (.lrem, 1)) : zA d M pc L (.long b :: .long a :: st) μ = if b = 0 then none else zA d M (pc + 1) L (.long (a - a / b * b) :: st) μ := by
  rw [zA_eq hdg (Or.inl rfl)]
  show zK d M (if b = 0 then none else znx (pc + 1) L (.long (a - a / b * b) :: st) μ) = _
  rw [zK_ite]
  rfl
theorem zq_ldcI {k : Nat} {v : Int32} (hdg : decode M.2.1 pc = .ok (.ldc k, 2)) (hz : zf2 zkL M.2.2.2.2 k = some v) : zA d M pc L st μ = zA d M (pc + 2) L (.int v :: st) μ := by
  rw [zA_eq hdg (Or.inl rfl)]
  simp only [zai, hz]
  rfl
theorem zq_ldcS {k j r : Nat} (hr : 2010 + j = r) (hdg : decode M.2.1 pc = .ok (.ldc k, 2)) (hz0 : zf2 zkL M.2.2.2.2 k = none) (hz : zf2 zsL M.2.2.2.2 k = some j) : zA d M pc L st μ = zA d M (pc + 2) L (.ref r :: st) μ := by
  subst hr
  rw [zA_eq hdg (Or.inl rfl)]
  simp only [zai, hz0, hz]
  rfl
theorem zq_ldcw {k : Nat} {v : Int32} (hdg : decode M.2.1 pc = .ok (.ldc_w k, 3)) (hz : zf2 zkL M.2.2.2.2 k = some v) : zA d M pc L st μ = zA d M (pc + 3) L (.int v :: st) μ := by
  rw [zA_eq hdg (Or.inl rfl)]
  simp only [zai, hz]
  rfl
theorem zq_ldc2 {k : Nat} {v : Int64} (hdg : decode M.2.1 pc = .ok (.ldc2_w k, 3)) (hz : zf2 zlL M.2.2.2.2 k = some v) : zA d M pc L st μ = zA d M (pc + 3) L (.long v :: st) μ := by
  rw [zA_eq hdg (Or.inl rfl)]
  simp only [zai, hz]
  rfl
theorem zq_get {k t f nest c : Nat} {v : Value} (hdg : decode M.2.1 pc = .ok (.getfield k, 3)) (hz : zf2 zfL M.2.2.2.2 k = some (t, f, nest)) (hv : zsv true μ t c f = v) : zA d M pc L (.ref c :: st) μ = if zob true μ c t = true then zA d M (pc + 3) L (v :: st) μ else none := by
  subst hv
  rw [zA_eq hdg (Or.inl rfl)]
  show zK d M (match zf2 zfL M.2.2.2.2 k with
    | some (t, f, _) => if zob true μ c t then znx (pc + 3) L (zsv true μ t c f :: st) μ else none
    | none => _) = _
  rw [hz]
  dsimp only
  rw [zK_ite]
  rfl
theorem zq_getS {k f c : Nat} (hdg : decode M.2.1 pc = .ok (.getfield k, 3)) (hz : zf2 zfL M.2.2.2.2 k = none) (hf : ztf M.2.2.2.2 k = some f) : zA d M pc L (.ref c :: st) μ = if 2010 ≤ c ∧ c < 2018 then zA d M (pc + 3) L ((if f = 0 then .ref (c + 10) else .int 0) :: st) μ else none := by
  rw [zA_eq hdg (Or.inl rfl)]
  simp only [zai, z1r, hz, hf]
  show zK d M (if 2010 ≤ c ∧ c < 2018 then _ else none) = _
  rw [zK_ite]
  rfl
theorem zq_put {k t f nest c : Nat} {v : Value} {μ' : Zm} (hdg : decode M.2.1 pc = .ok (.putfield k, 3)) (hz : zf2 zfL M.2.2.2.2 k = some (t, f, nest)) (hv : zob true μ c t = true → zpf true μ M t c f v = some μ') : zA d M pc L (v :: .ref c :: st) μ = if zob true μ c t = true then zA d M (pc + 3) L st μ' else none := by
  rw [zA_eq hdg (Or.inl rfl)]
  show zK d M ((zf2 zfL M.2.2.2.2 k).bind fun q => (zpf true μ M q.1 c q.2.1 v).bind fun μ' => znx (pc + 3) L st μ') = _
  rw [hz]
  show zK d M ((zpf true μ M t c f v).bind fun μ' => znx (pc + 3) L st μ') = _
  by_cases h : zob true μ c t = true
  · rw [hv h, if_pos h]; rfl
  · rw [if_neg h]
    unfold zpf
    rw [if_neg h]
    rfl
theorem zpf_i {c t k : Nat} {x : Int32} (h : zob true μ c t = true) (h0 : zkd t k = 0) : zpf true μ M t c k (.int x) = some (zup μ c k x) := by
  unfold zpf zfn
  rw [if_pos h, h0]
  rfl
theorem zpf_b {c t k : Nat} {x : Int32} (h : zob true μ c t = true) (h0 : zkd t k = 3) (hx : x = 0 ∨ x = 1) : zpf true μ M t c k (.int x) = some (zup μ c k x) := by
  unfold zpf zfn
  rw [if_pos h, h0]
  simp [hx]
theorem zpf_l {c t k : Nat} {x : Int64} (h : zob true μ c t = true) (h0 : zkd t k = 2) : zpf true μ M t c k (.long x) = some (zup (zup μ c k (zhi x)) c (k + 1000) (zlo x)) := by
  unfold zpf zfn
  rw [if_pos h, h0]
  rfl
theorem zq_gs {k : Nat} {v : Value} (hdg : decode M.2.1 pc = .ok (.getstatic k, 3)) (hz : zgs M.2.2.2.2 k = some v) : zA d M pc L st μ = zA d M (pc + 3) L (v :: st) μ := by
  rw [zA_eq hdg (Or.inl rfl)]
  show zK d M ((zgs M.2.2.2.2 k).bind fun v => znx (pc + 3) L (v :: st) μ) = _
  rw [hz]
  rfl
theorem zq_iald {c : Nat} {j : Int32} (hdg : decode M.2.1 pc = .ok (.iaload, 1)) : zA d M pc L (.int j :: .ref c :: st) μ = (zrdi true μ c j).bind fun x => zA d M (pc + 1) L (.int x :: st) μ := by
  rw [zA_eq hdg (Or.inl rfl)]
  show zK d M ((zrdi true μ c j).bind fun x => znx (pc + 1) L (.int x :: st) μ) = _
  rw [zK_bind]
  rfl
theorem zq_bald {c : Nat} {j : Int32} (hdg : decode M.2.1 pc = .ok (.baload, 1)) : zA d M pc L (.int j :: .ref c :: st) μ = (zrdb true μ c j).bind fun x => zA d M (pc + 1) L (.int x :: st) μ := by
  rw [zA_eq hdg (Or.inl rfl)]
  show zK d M ((zrdb true μ c j).bind fun x => znx (pc + 1) L (.int x :: st) μ) = _
  rw [zK_bind]
  rfl
theorem zq_iast {c : Nat} {j x : Int32} (hdg : decode M.2.1 pc = .ok (.iastore, 1)) : zA d M pc L (.int x :: .int j :: .ref c :: st) μ = (zwri true μ c j x).bind fun μ' => zA d M (pc + 1) L st μ' := by
  rw [zA_eq hdg (Or.inl rfl)]
  show zK d M ((zwri true μ c j x).bind fun μ' => znx (pc + 1) L st μ') = _
  rw [zK_bind]
  rfl
theorem zq_bast {c : Nat} {j x : Int32} (hdg : decode M.2.1 pc = .ok (.bastore, 1)) : zA d M pc L (.int x :: .int j :: .ref c :: st) μ = (zwrb true μ c j x).bind fun μ' => zA d M (pc + 1) L st μ' := by
  rw [zA_eq hdg (Or.inl rfl)]
  show zK d M ((zwrb true μ c j x).bind fun μ' => znx (pc + 1) L st μ') = _
  rw [zK_bind]
  rfl
theorem zq_aald {c : Nat} {j : Int32} (hdg : decode M.2.1 pc = .ok (.aaload, 1)) : zA d M pc L (.int j :: .ref c :: st) μ = if ((zob true μ c 13 || zob true μ c 14) && zin j (zsh c).2) = true then zA d M (pc + 1) L (zrv (zrf true μ (zsh c).1 c j.toNatClampNeg) :: st) μ else none := by
  rw [zA_eq hdg (Or.inl rfl)]
  show zK d M (if (zob true μ c 13 || zob true μ c 14) && zin j (zsh c).2 then znx (pc + 1) L (zrv (zrf true μ (zsh c).1 c j.toNatClampNeg) :: st) μ else none) = _
  rw [zK_ite]
  rfl
theorem zq_alen {c : Nat} (hdg : decode M.2.1 pc = .ok (.arraylength, 1)) : zA d M pc L (.ref c :: st) μ = (zlen true μ c).bind fun n => zA d M (pc + 1) L (.int (Int32.ofNat n) :: st) μ := by
  rw [zA_eq hdg (Or.inl rfl)]
  show zK d M ((zlen true μ c).bind fun n => znx (pc + 1) L (.int (Int32.ofNat n) :: st) μ) = _
  rw [zK_bind]
  rfl
theorem zq_call {k kind n : Nat} {M' : ZI} {ins : Instr} {av rest : List Value} (hdg : decode M.2.1 pc = .ok (ins, 3)) (hins : ins = .invokestatic k ∨ ins = .invokevirtual k) (hz : zf2 zcL M.2.2.2.2 k = some (kind, M', n)) (hk : (ins = .invokestatic k → kind ≤ 1) ∧ (ins = .invokevirtual k → kind = 2 ∨ kind = 3)) (hst : st = av.reverse ++ rest) (hav : av.length = n) (hr : rest.length ≤ 4) (hrc : kind ≤ 1 ∨ zrc true μ M'.2.2.2.2 av.head? = true) :
    zA d M pc L st μ = (zC true d M' av μ).bind fun r => zA d M (pc + 3) L (zpush r.1 rest) r.2 := by
  have h1 : (st.take n).reverse = av := by rw [hst, ← hav, List.take_left' (by simp), List.reverse_reverse]
  have h2 : st.drop n = rest := by rw [hst, ← hav, List.drop_left' (by simp)]
  have h3 : zK d M (zcall true (zC true d) kind M' n av rest pc L μ) = (zC true d M' av μ).bind fun r => zA d M (pc + 3) L (zpush r.1 rest) r.2 := by
    have hk5 : kind ≤ 5 := by
      rcases hins with h | h
      · have := hk.1 h; omega
      · have := hk.2 h; omega
    unfold zcall
    rw [if_pos ⟨hav, hr⟩, if_neg (by omega), if_neg (by omega), if_neg (by omega), if_neg (by omega), if_pos ⟨hk5, hrc⟩, zK_bind]
    simp only [zsz_t, Nat.le_refl, if_true]
    rfl
  rcases hins with h | h
  · subst h
    rw [zA_eq hdg (Or.inl rfl), ← h3]
    show zK d M ((zf2 zcL M.2.2.2.2 k).bind fun q => if q.1 ≤ 1 ∨ 7 ≤ q.1 then zcall true (zC true d) q.1 q.2.1 q.2.2 (st.take q.2.2).reverse (st.drop q.2.2) pc L μ else none) = _
    rw [hz]
    show zK d M (if kind ≤ 1 ∨ 7 ≤ kind then zcall true (zC true d) kind M' n (st.take n).reverse (st.drop n) pc L μ else none) = _
    rw [if_pos (Or.inl (hk.1 rfl)), h1, h2]
  · subst h
    rw [zA_eq hdg (Or.inl rfl), ← h3]
    show zK d M ((zf2 zcL M.2.2.2.2 k).bind fun q => if q.1 = 2 ∨ q.1 = 3 then zcall true (zC true d) q.1 q.2.1 q.2.2 (st.take q.2.2).reverse (st.drop q.2.2) pc L μ else none) = _
    rw [hz]
    show zK d M (if kind = 2 ∨ kind = 3 then zcall true (zC true d) kind M' n (st.take n).reverse (st.drop n) pc L μ else none) = _
    rw [if_pos (hk.2 rfl), h1, h2]
theorem zq_virt {k kind n c : Nat} {M' : ZI} {av rest : List Value} (hdg : decode M.2.1 pc = .ok (.invokevirtual k, 3)) (hz : zf2 zcL M.2.2.2.2 k = some (kind, M', n)) (hk : kind = 2 ∨ kind = 3) (hst : st = (Value.ref c :: av).reverse ++ rest) (hav : (Value.ref c :: av).length = n) (hr : rest.length ≤ 4) (ho : M'.2.2.2.2 < 8) :
    zA d M pc L st μ = if zob true μ c M'.2.2.2.2 = true then (zC true d M' (.ref c :: av) μ).bind fun r => zA d M (pc + 3) L (zpush r.1 rest) r.2 else none := by
  by_cases h : zob true μ c M'.2.2.2.2 = true
  · rw [if_pos h]
    refine zq_call hdg (Or.inr rfl) hz ⟨(fun q => by cases q), fun _ => hk⟩ hst hav hr (Or.inr ?_)
    show zrc2 true μ _ c = true
    unfold zrc2
    rw [if_neg (by omega), h, decide_eq_true ho]
    rfl
  · rw [if_neg h]
    have h1 : (st.take n).reverse = Value.ref c :: av := by rw [hst, ← hav, List.take_left' (by simp), List.reverse_reverse]
    have h2 : st.drop n = rest := by rw [hst, ← hav, List.drop_left' (by simp)]
    rw [zA_eq hdg (Or.inl rfl)]
    show zK d M ((zf2 zcL M.2.2.2.2 k).bind fun q => if q.1 = 2 ∨ q.1 = 3 then zcall true (zC true d) q.1 q.2.1 q.2.2 (st.take q.2.2).reverse (st.drop q.2.2) pc L μ else none) = _
    rw [hz]
    show zK d M (if kind = 2 ∨ kind = 3 then zcall true (zC true d) kind M' n (st.take n).reverse (st.drop n) pc L μ else none) = _
    rw [if_pos hk, h1, h2]
    unfold zcall
    rw [if_pos ⟨hav, hr⟩, if_neg (by omega), if_neg (by omega), if_neg (by omega), if_neg (by omega), if_neg]
    · rfl
    · rintro ⟨-, hh⟩
      rcases hh with hh | hh
      · omega
      · have hh : zrc2 true μ M'.2.2.2.2 c = true := hh
        unfold zrc2 at hh
        rw [if_neg (by omega), Bool.and_eq_true] at hh
        exact h hh.1
theorem zq_copy {k a b : Nat} {M' : ZI} {i j n : Int32} (hdg : decode M.2.1 pc = .ok (.invokestatic k, 3)) (hz : zf2 zcL M.2.2.2.2 k = some (7, M', 5)) (hr : st.length ≤ 4) : zA d M pc L (.int n :: .int j :: .ref b :: .int i :: .ref a :: st) μ = (zac true μ a b i j n).bind fun μ' => zA d M (pc + 3) L st μ' := by
  rw [zA_eq hdg (Or.inl rfl)]
  show zK d M ((zf2 zcL M.2.2.2.2 k).bind fun q => if q.1 ≤ 1 ∨ 7 ≤ q.1 then zcall true (zC true d) q.1 q.2.1 q.2.2 ((Value.int n :: .int j :: .ref b :: .int i :: .ref a :: st).take q.2.2).reverse ((Value.int n :: .int j :: .ref b :: .int i :: .ref a :: st).drop q.2.2) pc L μ else none) = _
  rw [hz]
  show zK d M (zcall true (zC true d) 7 M' 5 [.ref a, .int i, .ref b, .int j, .int n] st pc L μ) = _
  unfold zcall
  rw [if_pos ⟨rfl, hr⟩]
  show zK d M ((zac true μ a b i j n).bind (fun μ' => znx (pc + 3) L st μ')) = _
  rw [zK_bind]
  rfl
theorem zq_min {k : Nat} {M' : ZI} {a b : Int32} (hdg : decode M.2.1 pc = .ok (.invokestatic k, 3)) (hz : zf2 zcL M.2.2.2.2 k = some (8, M', 2)) (hr : st.length ≤ 4) : zA d M pc L (.int b :: .int a :: st) μ = zA d M (pc + 3) L (.int (if b < a then b else a) :: st) μ := by
  rw [zA_eq hdg (Or.inl rfl)]
  show zK d M ((zf2 zcL M.2.2.2.2 k).bind fun q => if q.1 ≤ 1 ∨ 7 ≤ q.1 then zcall true (zC true d) q.1 q.2.1 q.2.2 ((Value.int b :: .int a :: st).take q.2.2).reverse ((Value.int b :: .int a :: st).drop q.2.2) pc L μ else none) = _
  rw [hz]
  show zK d M (zcall true (zC true d) 8 M' 2 [.int a, .int b] st pc L μ) = _
  unfold zcall
  rw [if_pos ⟨rfl, hr⟩]
  rfl
theorem zq_max {k : Nat} {M' : ZI} {a b : Int32} (hdg : decode M.2.1 pc = .ok (.invokestatic k, 3)) (hz : zf2 zcL M.2.2.2.2 k = some (9, M', 2)) (hr : st.length ≤ 4) : zA d M pc L (.int b :: .int a :: st) μ = zA d M (pc + 3) L (.int (if a < b then b else a) :: st) μ := by
  rw [zA_eq hdg (Or.inl rfl)]
  show zK d M ((zf2 zcL M.2.2.2.2 k).bind fun q => if q.1 ≤ 1 ∨ 7 ≤ q.1 then zcall true (zC true d) q.1 q.2.1 q.2.2 ((Value.int b :: .int a :: st).take q.2.2).reverse ((Value.int b :: .int a :: st).drop q.2.2) pc L μ else none) = _
  rw [hz]
  show zK d M (zcall true (zC true d) 9 M' 2 [.int a, .int b] st pc L μ) = _
  unfold zcall
  rw [if_pos ⟨rfl, hr⟩]
  rfl
theorem zq_tsw {dd lo hi : Int} {offs : Array Int} {len t : Nat} {a : Int32} {off : Int} (hdg : decode M.2.1 pc = .ok (.tableswitch dd lo hi offs, len)) (ho : (if a.toInt < lo ∨ hi < a.toInt then some dd else offs[(a.toInt - lo).toNat]?) = some off) (ht : (pc : Int) + off = (t : Int)) : zA d M pc L (.int a :: st) μ = zA d M t L st μ := by
  rw [zA_eq hdg (Or.inr rfl)]
  show zK d M (if a.toInt < lo ∨ hi < a.toInt then zjp pc dd fun t => znx t L st μ else (offs[(a.toInt - lo).toNat]?).bind fun off => zjp pc off fun t => znx t L st μ) = _
  split at ho
  · rename_i h
    cases ho
    rw [if_pos h, zjp_eq ht]
    rfl
  · rename_i h
    rw [if_neg h, ho]
    show zK d M (zjp pc off fun t => znx t L st μ) = _
    rw [zjp_eq ht]
    rfl
theorem zq_ret {x : Int32} {ty : FieldType} (hdg : decode M.2.1 pc = .ok (.ireturn, 1)) (hty : M.2.2.2.1 = some ty) : zA d M pc L [.int x] μ = if zok ty x = true then some (some (.int x), μ) else none := by
  rw [zA_eq hdg (Or.inl rfl)]
  simp only [zai, hty]
  rw [zK_ite]
  rfl
theorem zq_retI {x : Int32} (hdg : decode M.2.1 pc = .ok (.ireturn, 1)) (hty : M.2.2.2.1 = some .int) : zA d M pc L [.int x] μ = some (some (.int x), μ) := by
  rw [zq_ret hdg hty]
  rfl
theorem zq_retV (hdg : decode M.2.1 pc = .ok (.return_, 1)) (hty : M.2.2.2.1 = none) : zA d M pc L [] μ = some (none, μ) := by
  rw [zA_eq hdg (Or.inl rfl)]
  simp only [zai, hty]
  rfl
theorem zq_ild_n {k : Fin 4} {x : Int32} (hdg : decode M.2.1 pc = .ok (.iload_n k, 1)) (hL : zldI L k = some x) : zA d M pc L st μ = zA d M (pc + 1) L (.int x :: st) μ := by
  rw [zA_eq hdg (Or.inl rfl)]
  show zK d M ((zldI L k).bind fun x => znx (pc + 1) L (.int x :: st) μ) = _
  rw [hL]
  rfl
theorem zq_ild {k : Nat} {x : Int32} (hdg : decode M.2.1 pc = .ok (.iload k, 2)) (hL : zldI L k = some x) : zA d M pc L st μ = zA d M (pc + 2) L (.int x :: st) μ := by
  rw [zA_eq hdg (Or.inl rfl)]
  show zK d M ((zldI L k).bind fun x => znx (pc + 2) L (.int x :: st) μ) = _
  rw [hL]
  rfl
theorem zq_lld_n {k : Fin 4} {x : Int64} (hdg : decode M.2.1 pc = .ok (.lload_n k, 1)) (hL : zldL L k = some x) : zA d M pc L st μ = zA d M (pc + 1) L (.long x :: st) μ := by
  rw [zA_eq hdg (Or.inl rfl)]
  show zK d M ((zldL L k).bind fun x => znx (pc + 1) L (.long x :: st) μ) = _
  rw [hL]
  rfl
theorem zq_lld {k : Nat} {x : Int64} (hdg : decode M.2.1 pc = .ok (.lload k, 2)) (hL : zldL L k = some x) : zA d M pc L st μ = zA d M (pc + 2) L (.long x :: st) μ := by
  rw [zA_eq hdg (Or.inl rfl)]
  show zK d M ((zldL L k).bind fun x => znx (pc + 2) L (.long x :: st) μ) = _
  rw [hL]
  rfl
theorem zq_ald_n {k : Fin 4} {x : Nat} (hdg : decode M.2.1 pc = .ok (.aload_n k, 1)) (hL : zldR L k = some x) : zA d M pc L st μ = zA d M (pc + 1) L (.ref x :: st) μ := by
  rw [zA_eq hdg (Or.inl rfl)]
  show zK d M ((zldR L k).bind fun x => znx (pc + 1) L (.ref x :: st) μ) = _
  rw [hL]
  rfl
theorem zq_ald {k : Nat} {x : Nat} (hdg : decode M.2.1 pc = .ok (.aload k, 2)) (hL : zldR L k = some x) : zA d M pc L st μ = zA d M (pc + 2) L (.ref x :: st) μ := by
  rw [zA_eq hdg (Or.inl rfl)]
  show zK d M ((zldR L k).bind fun x => znx (pc + 2) L (.ref x :: st) μ) = _
  rw [hL]
  rfl
theorem zq_ist_n {k : Fin 4} {x : Int32} {L' : List Value} (hdg : decode M.2.1 pc = .ok (.istore_n k, 1)) (hL : zst1 M L k (.int x) = some L') : zA d M pc L (.int x :: st) μ = zA d M (pc + 1) L' st μ := by
  rw [zA_eq hdg (Or.inl rfl)]
  show zK d M ((zst1 M L k (.int x)).bind fun L' => znx (pc + 1) L' st μ) = _
  rw [hL]
  rfl
theorem zq_ist {k : Nat} {x : Int32} {L' : List Value} (hdg : decode M.2.1 pc = .ok (.istore k, 2)) (hL : zst1 M L k (.int x) = some L') : zA d M pc L (.int x :: st) μ = zA d M (pc + 2) L' st μ := by
  rw [zA_eq hdg (Or.inl rfl)]
  show zK d M ((zst1 M L k (.int x)).bind fun L' => znx (pc + 2) L' st μ) = _
  rw [hL]
  rfl
theorem zq_lst_n {k : Fin 4} {x : Int64} {L' : List Value} (hdg : decode M.2.1 pc = .ok (.lstore_n k, 1)) (hL : zst2 M L k (.long x) = some L') : zA d M pc L (.long x :: st) μ = zA d M (pc + 1) L' st μ := by
  rw [zA_eq hdg (Or.inl rfl)]
  show zK d M ((zst2 M L k (.long x)).bind fun L' => znx (pc + 1) L' st μ) = _
  rw [hL]
  rfl
theorem zq_lst {k : Nat} {x : Int64} {L' : List Value} (hdg : decode M.2.1 pc = .ok (.lstore k, 2)) (hL : zst2 M L k (.long x) = some L') : zA d M pc L (.long x :: st) μ = zA d M (pc + 2) L' st μ := by
  rw [zA_eq hdg (Or.inl rfl)]
  show zK d M ((zst2 M L k (.long x)).bind fun L' => znx (pc + 2) L' st μ) = _
  rw [hL]
  rfl
theorem zq_ast_n {k : Fin 4} {x : Nat} {L' : List Value} (hdg : decode M.2.1 pc = .ok (.astore_n k, 1)) (hL : zst1 M L k (.ref x) = some L') : zA d M pc L (.ref x :: st) μ = zA d M (pc + 1) L' st μ := by
  rw [zA_eq hdg (Or.inl rfl)]
  show zK d M ((zst1 M L k (.ref x)).bind fun L' => znx (pc + 1) L' st μ) = _
  rw [hL]
  rfl
theorem zq_ast {k : Nat} {x : Nat} {L' : List Value} (hdg : decode M.2.1 pc = .ok (.astore k, 2)) (hL : zst1 M L k (.ref x) = some L') : zA d M pc L (.ref x :: st) μ = zA d M (pc + 2) L' st μ := by
  rw [zA_eq hdg (Or.inl rfl)]
  show zK d M ((zst1 M L k (.ref x)).bind fun L' => znx (pc + 2) L' st μ) = _
  rw [hL]
  rfl
theorem zq_inc {k : Nat} {j : Int} {x v : Int32} {L' : List Value} (hdg : decode M.2.1 pc = .ok (.iinc k j, 3)) (hv : zldI L k = some x) (hj : Int32.ofInt j = v) (hL : zst1 M L k (.int (x + v)) = some L') : zA d M pc L st μ = zA d M (pc + 3) L' st μ := by
  subst hj
  rw [zA_eq hdg (Or.inl rfl)]
  show zK d M ((zldI L k).bind fun x => (zst1 M L k (.int (x + Int32.ofInt j))).bind fun L' => znx (pc + 3) L' st μ) = _
  rw [hv]
  show zK d M ((zst1 M L k (.int (x + Int32.ofInt j))).bind fun L' => znx (pc + 3) L' st μ) = _
  rw [hL]
  rfl
theorem zq_cI {n : Nat} {i : Instr} {v : Int32} (hdg : decode M.2.1 pc = .ok (i, n)) (hn : n = zil i) (h : ∀ call, zai true call M i pc L st μ = znx (pc + n) L (.int v :: st) μ) : zA d M pc L st μ = zA d M (pc + n) L (.int v :: st) μ := by
  rw [zA_eq hdg (Or.inl hn), h]
  rfl
theorem zq_iadd {a b : Int32} (hdg : decode M.2.1 pc = .ok (.iadd, 1)) : zA d M pc L (.int b :: .int a :: st) μ = zA d M (pc + 1) L (.int (a + b) :: st) μ := by
  rw [zA_eq hdg (Or.inl rfl)]
  rfl
theorem zq_isub {a b : Int32} (hdg : decode M.2.1 pc = .ok (.isub, 1)) : zA d M pc L (.int b :: .int a :: st) μ = zA d M (pc + 1) L (.int (a - b) :: st) μ := by
  rw [zA_eq hdg (Or.inl rfl)]
  rfl
theorem zq_imul {a b : Int32} (hdg : decode M.2.1 pc = .ok (.imul, 1)) : zA d M pc L (.int b :: .int a :: st) μ = zA d M (pc + 1) L (.int (a * b) :: st) μ := by
  rw [zA_eq hdg (Or.inl rfl)]
  rfl
theorem zq_iand {a b : Int32} (hdg : decode M.2.1 pc = .ok (.iand, 1)) : zA d M pc L (.int b :: .int a :: st) μ = zA d M (pc + 1) L (.int (a &&& b) :: st) μ := by
  rw [zA_eq hdg (Or.inl rfl)]
  rfl
theorem zq_ior {a b : Int32} (hdg : decode M.2.1 pc = .ok (.ior, 1)) : zA d M pc L (.int b :: .int a :: st) μ = zA d M (pc + 1) L (.int (a ||| b) :: st) μ := by
  rw [zA_eq hdg (Or.inl rfl)]
  rfl
theorem zq_ixor {a b : Int32} (hdg : decode M.2.1 pc = .ok (.ixor, 1)) : zA d M pc L (.int b :: .int a :: st) μ = zA d M (pc + 1) L (.int (a ^^^ b) :: st) μ := by
  rw [zA_eq hdg (Or.inl rfl)]
  rfl
theorem zq_ishl {a b : Int32} (hdg : decode M.2.1 pc = .ok (.ishl, 1)) : zA d M pc L (.int b :: .int a :: st) μ = zA d M (pc + 1) L (.int (a <<< (b &&& 31)) :: st) μ := by
  rw [zA_eq hdg (Or.inl rfl)]
  rfl
theorem zq_ishr {a b : Int32} (hdg : decode M.2.1 pc = .ok (.ishr, 1)) : zA d M pc L (.int b :: .int a :: st) μ = zA d M (pc + 1) L (.int (a >>> (b &&& 31)) :: st) μ := by
  rw [zA_eq hdg (Or.inl rfl)]
  rfl
theorem zq_iushr {a b : Int32} (hdg : decode M.2.1 pc = .ok (.iushr, 1)) : zA d M pc L (.int b :: .int a :: st) μ = zA d M (pc + 1) L (.int ((a.toUInt32 >>> (b.toUInt32 &&& Int32.toUInt32 31)).toInt32) :: st) μ := by
  rw [zA_eq hdg (Or.inl rfl)]
  rfl
theorem zq_ladd {a b : Int64} (hdg : decode M.2.1 pc = .ok (.ladd, 1)) : zA d M pc L (.long b :: .long a :: st) μ = zA d M (pc + 1) L (.long (a + b) :: st) μ := by
  rw [zA_eq hdg (Or.inl rfl)]
  rfl
theorem zq_lmul {a b : Int64} (hdg : decode M.2.1 pc = .ok (.lmul, 1)) : zA d M pc L (.long b :: .long a :: st) μ = zA d M (pc + 1) L (.long (a * b) :: st) μ := by
  rw [zA_eq hdg (Or.inl rfl)]
  rfl
theorem zq_land {a b : Int64} (hdg : decode M.2.1 pc = .ok (.land, 1)) : zA d M pc L (.long b :: .long a :: st) μ = zA d M (pc + 1) L (.long (a &&& b) :: st) μ := by
  rw [zA_eq hdg (Or.inl rfl)]
  rfl
theorem zq_lor {a b : Int64} (hdg : decode M.2.1 pc = .ok (.lor, 1)) : zA d M pc L (.long b :: .long a :: st) μ = zA d M (pc + 1) L (.long (a ||| b) :: st) μ := by
  rw [zA_eq hdg (Or.inl rfl)]
  rfl
theorem zq_lcmp {a b : Int64} (hdg : decode M.2.1 pc = .ok (.lcmp, 1)) : zA d M pc L (.long b :: .long a :: st) μ = zA d M (pc + 1) L (.int (lg_cmp a b) :: st) μ := by
  rw [zA_eq hdg (Or.inl rfl)]
  rfl
theorem zq_lshl {a : Int64} {b : Int32} (hdg : decode M.2.1 pc = .ok (.lshl, 1)) : zA d M pc L (.int b :: .long a :: st) μ = zA d M (pc + 1) L (.long (a <<< (b.toInt64 &&& 63)) :: st) μ := by
  rw [zA_eq hdg (Or.inl rfl)]
  rfl
theorem zq_lshr {a : Int64} {b : Int32} (hdg : decode M.2.1 pc = .ok (.lshr, 1)) : zA d M pc L (.int b :: .long a :: st) μ = zA d M (pc + 1) L (.long (a >>> (b.toInt64 &&& 63)) :: st) μ := by
  rw [zA_eq hdg (Or.inl rfl)]
  rfl
theorem zq_ineg {a : Int32} (hdg : decode M.2.1 pc = .ok (.ineg, 1)) : zA d M pc L (.int a :: st) μ = zA d M (pc + 1) L (.int (-a) :: st) μ := by
  rw [zA_eq hdg (Or.inl rfl)]
  rfl
theorem zq_i2l {a : Int32} (hdg : decode M.2.1 pc = .ok (.i2l, 1)) : zA d M pc L (.int a :: st) μ = zA d M (pc + 1) L (.long a.toInt64 :: st) μ := by
  rw [zA_eq hdg (Or.inl rfl)]
  rfl
theorem zq_i2b {a : Int32} (hdg : decode M.2.1 pc = .ok (.i2b, 1)) : zA d M pc L (.int a :: st) μ = zA d M (pc + 1) L (.int a.toInt8.toInt32 :: st) μ := by
  rw [zA_eq hdg (Or.inl rfl)]
  rfl
theorem zq_i2s {a : Int32} (hdg : decode M.2.1 pc = .ok (.i2s, 1)) : zA d M pc L (.int a :: st) μ = zA d M (pc + 1) L (.int a.toInt16.toInt32 :: st) μ := by
  rw [zA_eq hdg (Or.inl rfl)]
  rfl
theorem zq_i2c {a : Int32} (hdg : decode M.2.1 pc = .ok (.i2c, 1)) : zA d M pc L (.int a :: st) μ = zA d M (pc + 1) L (.int (a.toUInt32 % 65536).toInt32 :: st) μ := by
  rw [zA_eq hdg (Or.inl rfl)]
  rfl
theorem zq_l2i {a : Int64} (hdg : decode M.2.1 pc = .ok (.l2i, 1)) : zA d M pc L (.long a :: st) μ = zA d M (pc + 1) L (.int a.toInt32 :: st) μ := by
  rw [zA_eq hdg (Or.inl rfl)]
  rfl
theorem zq_dupI {a : Int32} (hdg : decode M.2.1 pc = .ok (.dup, 1)) : zA d M pc L (.int a :: st) μ = zA d M (pc + 1) L (.int a :: .int a :: st) μ := by
  rw [zA_eq hdg (Or.inl rfl)]
  rfl
theorem zq_dupR {a : Nat} (hdg : decode M.2.1 pc = .ok (.dup, 1)) : zA d M pc L (.ref a :: st) μ = zA d M (pc + 1) L (.ref a :: .ref a :: st) μ := by
  rw [zA_eq hdg (Or.inl rfl)]
  rfl
theorem zq_dup2II {a : Int32} {b : Int32} (hdg : decode M.2.1 pc = .ok (.dup2, 1)) : zA d M pc L (.int a :: .int b :: st) μ = zA d M (pc + 1) L (.int a :: .int b :: .int a :: .int b :: st) μ := by
  rw [zA_eq hdg (Or.inl rfl)]
  rfl
theorem zq_dup2IR {a : Int32} {b : Nat} (hdg : decode M.2.1 pc = .ok (.dup2, 1)) : zA d M pc L (.int a :: .ref b :: st) μ = zA d M (pc + 1) L (.int a :: .ref b :: .int a :: .ref b :: st) μ := by
  rw [zA_eq hdg (Or.inl rfl)]
  rfl
theorem zq_pop {a : Int32} (hdg : decode M.2.1 pc = .ok (.pop, 1)) : zA d M pc L (.int a :: st) μ = zA d M (pc + 1) L (st) μ := by
  rw [zA_eq hdg (Or.inl rfl)]
  rfl
theorem zq_iconst {k : Int} {v : Int32} (hdg : decode M.2.1 pc = .ok (.iconst k, 1)) (hv : Int32.ofInt k = v) : zA d M pc L (st) μ = zA d M (pc + 1) L (.int v :: st) μ := by
  subst hv
  rw [zA_eq hdg (Or.inl rfl)]
  rfl
theorem zq_bipush {k : Int} {v : Int32} (hdg : decode M.2.1 pc = .ok (.bipush k, 2)) (hv : (Int8.ofInt k).toInt32 = v) : zA d M pc L (st) μ = zA d M (pc + 2) L (.int v :: st) μ := by
  subst hv
  rw [zA_eq hdg (Or.inl rfl)]
  rfl
theorem zq_sipush {k : Int} {v : Int32} (hdg : decode M.2.1 pc = .ok (.sipush k, 3)) (hv : (Int16.ofInt k).toInt32 = v) : zA d M pc L (st) μ = zA d M (pc + 3) L (.int v :: st) μ := by
  subst hv
  rw [zA_eq hdg (Or.inl rfl)]
  rfl
theorem zq_lconst {k : Fin 2} {v : Int64} (hdg : decode M.2.1 pc = .ok (.lconst k, 1)) (hv : Int64.ofNat k = v) : zA d M pc L (st) μ = zA d M (pc + 1) L (.long v :: st) μ := by
  subst hv
  rw [zA_eq hdg (Or.inl rfl)]
  rfl
end ZQ
