/-! ===== arrays that are written; things that are made ===== -/
theorem zcp_ne {μ : Zm} {a i b j n c k : Nat} (h : c ≠ b) : zcp μ a i b j n c k = μ c k := if_neg (fun q => h q.1)
theorem zrf_up_eq {ph : Bool} {μ : Zm} {t x j : Nat} : zrf ph (zup μ x j 1) t x j = some (ztg t x j) := by simp [zrf, zup]
theorem zrf_up_ne {ph : Bool} {μ : Zm} {t x j k : Nat} {y : Int32} (h : ¬ k = j) : zrf ph (zup μ x j y) t x k = zrf ph μ t x k := by simp [zrf, zup, h]
section ZV
variable {p : Program} {l : Launch} {e : Env} {R : Room} {s : State} {m : MethodId} {args : Array Value} {below : List Frame} {meth : Method} {c : Code} {H : Heap} {locs : List Loc} {cells slots : Nat} {Q : State → Prop} {M : ZI} {E : zE} {d n0 s0 pc : Nat} {ph : Bool} {L st : List Value} {μ : Zm} {ls : Array Slot} {q : Nat × List Value × List Value × Zm} {call : ZI → List Value → Zm → Option (Option Value × Zm)}
theorem zs_iastore (F : zFx p R s m args meth c M E d) (hdg : decode M.2.1 pc = .ok (.iastore, 1)) (hI : zInv E ph M n0 s0 μ L s ls H locs cells slots) (h : zai ph call M .iastore pc L st μ = some (.inl q)) (kk : zKK p l e R s m args below meth c Q M E ph n0 s0 q) : W p l e R s m args below meth c H locs cells slots Q (F0 m pc ls (st.map (zcv E))) := by
  obtain ⟨hx, hb, hml, hown, hts, hG, hnm, hfr, hlo⟩ := F
  have hS := hI.2.2.2.1
  replace h := ziir_some h
  obtain ⟨v, j, x, r, rfl, h⟩ := h
  replace h := Option.bind_eq_some_iff.mp h
  obtain ⟨μ', hv, h⟩ := h
  cases znx_some h
  unfold zwri at hv
  split at hv
  · rename_i hc
    rw [Bool.and_eq_true] at hc
    obtain ⟨hsh, hsz⟩ := zob_spec hc.1
    have hin := zin_spec hc.2
    have h74 := zsh_lt (c := x) (by omega)
    replace hv := Option.some.inj hv
    subst hv
    show W p l e R s m args below meth c H locs cells slots Q (F0 m pc ls (.int v :: .int j :: zcv E (.ref x) :: r.map (zcv E)))
    rw [zcv_ref (by omega)]
    have hg := zwl_get (E := E) hsz
    rw [zce_arr hsh (by omega) (by omega)] at hg
    have hcell := hI.2.1 x _ hg
    refine W.iast hx hb hcell ((hG.1.2 0 (E.2.1 10, .int) rfl).1 (zsh x).2 (fun j => .int (μ x j))) (fun q => by cases q) (by show ¬ (j < 0 ∨ (arrV _ _ _).slots.size ≤ _); rw [arrV_size]; exact hin) rfl rfl hdg fun H1 e z oq => ?_
    refine kk _ _ _ _ _ (zInv_wr hI hsz h74 (fun c' k' hc => zup_ne (Or.inl hc)) (hI.2.1.set zwl_D hg ?_ oq) (hS.put z oq (zwl_D.2 x _ hg)) (fun _ => z))
    rw [zce_arr hsh (by omega) (by omega)]
    show H1[E.2.2.1 + x]? = some (vp_cell _ _)
    rw [e, vp_cell_i, vp_cell_i, arrV_store]
    congr 2
    funext k
    by_cases hk : k = j.toNatClampNeg
    · subst hk
      dsimp only
      rw [zup_eq]
      simp [updV]
    · dsimp only
      rw [zup_ne (Or.inr hk)]
      simp [updV, hk]
  · cases hv
theorem zs_bastore (F : zFx p R s m args meth c M E d) (hdg : decode M.2.1 pc = .ok (.bastore, 1)) (hI : zInv E ph M n0 s0 μ L s ls H locs cells slots) (h : zai ph call M .bastore pc L st μ = some (.inl q)) (kk : zKK p l e R s m args below meth c Q M E ph n0 s0 q) : W p l e R s m args below meth c H locs cells slots Q (F0 m pc ls (st.map (zcv E))) := by
  obtain ⟨hx, hb, hml, hown, hts, hG, hnm, hfr, hlo⟩ := F
  have hS := hI.2.2.2.1
  replace h := ziir_some h
  obtain ⟨v, j, x, r, rfl, h⟩ := h
  replace h := Option.bind_eq_some_iff.mp h
  obtain ⟨μ', hv, h⟩ := h
  cases znx_some h
  unfold zwrb at hv
  show W p l e R s m args below meth c H locs cells slots Q (F0 m pc ls (.int v :: .int j :: zcv E (.ref x) :: r.map (zcv E)))
  split at hv
  · rename_i hc
    rw [Bool.and_eq_true, Bool.and_eq_true] at hc
    obtain ⟨hsh, hsz⟩ := zob_spec hc.1.2
    have hin := zin_spec hc.2
    have h74 := zsh_lt (c := x) (by omega)
    replace hv := Option.some.inj hv
    subst hv
    rw [zcv_ref (by omega)]
    have hg := zwl_get (E := E) hsz
    rw [zce_arr hsh (by omega) (by omega)] at hg
    refine va_bast hx hb hG.1 hI.2.1 zwl_D hS x 1 hg rfl hin hdg (fun H1 locs1 hP1 hD1 hS1 => ?_)
    have hf : upd (fun i => μ x i) j.toNatClampNeg (vp_nar .byte v) = fun i => zup μ x j.toNatClampNeg v.toInt8.toInt32 x i := by
      funext k
      by_cases hk : k = j.toNatClampNeg
      · subst hk
        rw [zup_eq, pk_us, vp_nar_byte]
      · rw [zup_ne (Or.inr hk), pk_un hk]
    rw [hf, ← zce_arr (E := E) (ph := ph) hsh (by omega) (by omega)] at hP1
    exact kk _ _ _ _ _ (zInv_wr hI hsz h74 (fun c' k' hc => zup_ne (Or.inl hc)) hP1 hS1 (fun h => by rw [hc.1.1] at h; cases h))
  · split at hv
    · rename_i hc
      rw [Bool.and_eq_true, Bool.and_eq_true] at hc
      obtain ⟨hsh, hsz⟩ := zob_spec hc.1.2
      have hin := zin_spec hc.2
      have h74 := zsh_lt (c := x) (by omega)
      replace hv := Option.some.inj hv
      subst hv
      rw [zcv_ref (by omega)]
      have hg := zwl_get (E := E) hsz
      rw [zce_arr hsh (by omega) (by omega)] at hg
      refine va_zast hx hb hG.1 hI.2.1 zwl_D hS x 2 hg rfl hin hdg (fun H1 locs1 hP1 hD1 hS1 => ?_)
      have hf : upd (fun i => μ x i) j.toNatClampNeg (vp_nar .boolean v) = fun i => zup μ x j.toNatClampNeg (v &&& 1) x i := by
        funext k
        by_cases hk : k = j.toNatClampNeg
        · subst hk
          rw [zup_eq, pk_us]
          rfl
        · rw [zup_ne (Or.inr hk), pk_un hk]
      rw [hf, ← zce_arr (E := E) (ph := ph) hsh (by omega) (by omega)] at hP1
      exact kk _ _ _ _ _ (zInv_wr hI hsz h74 (fun c' k' hc => zup_ne (Or.inl hc)) hP1 hS1 (fun h => by rw [hc.1.1] at h; cases h))
    · cases hv
theorem zs_aastore (F : zFx p R s m args meth c M E d) (hdg : decode M.2.1 pc = .ok (.aastore, 1)) (hI : zInv E ph M n0 s0 μ L s ls H locs cells slots) (h : zai ph call M .aastore pc L st μ = some (.inl q)) (kk : zKK p l e R s m args below meth c Q M E ph n0 s0 q) : W p l e R s m args below meth c H locs cells slots Q (F0 m pc ls (st.map (zcv E))) := by
  obtain ⟨hx, hb, hml, hown, hts, hG, hnm, hfr, hlo⟩ := F
  have hS := hI.2.2.2.1
  replace h := zrir_some h
  obtain ⟨v, j, x, r, rfl, h⟩ := h
  split at h
  · rename_i hc
    cases znx_some h
    simp only [Bool.and_eq_true, Bool.or_eq_true, decide_eq_true_eq] at hc
    obtain ⟨⟨hc, hin⟩, hv⟩ := hc
    have hin := zin_spec hin
    show W p l e R s m args below meth c H locs cells slots Q (F0 m pc ls (zcv E (.ref v) :: .int j :: zcv E (.ref x) :: r.map (zcv E)))
    have fin : ∀ (t tv k : Nat) (C : String), k < 5 → (zty E)[k]? = some (E.2.1 t, .object C) → t < 15 → ¬ t < 13 → tv < 8 → (zcl tv).1 = C → (zsh x).1 = t → x < zsz ph μ → (zsh v).1 = tv → v < zsz ph μ → W p l e R s m args below meth c H locs cells slots Q (F0 m pc ls (zcv E (.ref v) :: .int j :: zcv E (.ref x) :: r.map (zcv E))) := by
      intro t tv k C hk5 hty ht15 ht13 htv hC hsh hsz hshv hszv
      have h74 := zsh_lt (c := x) (by omega)
      have h74v := zsh_lt (c := v) (by omega)
      rw [zcv_ref (by omega), zcv_ref (by omega)]
      have hg := zwl_get (E := E) hsz
      rw [zce_ref hsh (by omega) ht13] at hg
      have hgv := zwl_get (E := E) hszv
      rw [zce_obj hshv htv] at hgv
      have hcell := hI.2.1 x _ hg
      obtain ⟨r', hr', cellV, g1, g2, g3, -⟩ := hI.2.1 v _ hgv
      have hcls := (hG.1.1 tv _ (zcl_get htv)).2
      obtain ⟨kA, comp, k1, k2, k3, -⟩ := (hG.1.2 k _ hty).2
      have hcomp : comp = E.1.1 tv := by
        have := hcls.1
        rw [hC] at this
        exact Option.some.inj (k3.symm.trans this)
      subst hcomp
      have hcls2 := hcls
      obtain ⟨kC, hkC, -⟩ := hcls2.2
      have hlt : j.toNatClampNeg < (zsh x).2 := Nat.not_le.mp fun q => hin (Or.inr q)
      refine W.aast hx hb hcell (fun q h => by cases h) (fun h => by cases h) k1 k2 rfl hkC ⟨fun q => hin (Or.inl q), by show _ < (arrV _ _ _).slots.size; rw [arrV_size]; exact hlt⟩ g1 (fun q h => by rw [g3] at h; cases h) (by rw [g2]; exact hkC) (by rw [g2]; exact va_assign hcls) rfl rfl hdg fun H1 e z oq => ?_
      refine kk _ _ _ _ _ (zInv_wr hI hsz h74 (fun c' k' hc => zup_ne (Or.inl hc)) (hI.2.1.set zwl_D hg ?_ oq) (hS.put z oq (zwl_D.2 x _ hg)) (fun _ => z))
      rw [zce_ref hsh (by omega) ht13]
      show H1[E.2.2.1 + x]? = some (vp_cell _ _)
      rw [e, vp_cell_q, vp_cell_q, arrV_store]
      congr 2
      funext k
      by_cases hk : k = j.toNatClampNeg
      · subst hk
        dsimp only
        rw [zrf_up_eq]
        rw [hsh] at hv
        simp [updV, va_rf, hv]
      · dsimp only
        rw [zrf_up_ne hk]
        simp [updV, hk]
    rcases hc with ⟨h1, h2⟩ | ⟨h1, h2⟩
    · obtain ⟨a1, a2⟩ := zob_spec h1
      obtain ⟨b1, b2⟩ := zob_spec h2
      exact fin 13 3 3 "WoolTells$Row" (by omega) rfl (by omega) (by omega) (by omega) rfl a1 a2 b1 b2
    · obtain ⟨a1, a2⟩ := zob_spec h1
      obtain ⟨b1, b2⟩ := zob_spec h2
      exact fin 14 5 4 "WoolTells$Valley" (by omega) rfl (by omega) (by omega) (by omega) rfl a1 a2 b1 b2
  · cases h
theorem zsz_al {μ : Zm} {n : Nat} (hn : n < 74) : zsz false (zal μ n) = n + 1 := by
  show (zal μ n 999 0).toNatClampNeg = n + 1
  rw [show zal μ n 999 0 = nI (n + 1) from rfl, nI_clamp (by omega)]
theorem zal_ne {μ : Zm} {n c k : Nat} (h1 : c ≠ 999) (h2 : c ≠ n) : zal μ n c k = μ c k := by
  unfold zal
  rw [if_neg h1, if_neg h2]
theorem zal_eq {μ : Zm} {n k : Nat} (h : n ≠ 999) : zal μ n n k = 0 := by
  unfold zal
  rw [if_neg h, if_pos rfl]
theorem zwl_al {E : zE} {μ : Zm} (hn : zsz false μ < 74) : zwl E false (zal μ (zsz false μ)) = zwl E false μ ++ [(E.2.2.1 + zsz false μ, zce E false (zal μ (zsz false μ)) (zsz false μ))] := by
  unfold zwl
  rw [zsz_al hn, List.range_succ, List.map_append]
  have h1 : (List.range (zsz false μ)).map (fun c => (E.2.2.1 + c, zce E false (zal μ (zsz false μ)) c)) = (List.range (zsz false μ)).map (fun c => (E.2.2.1 + c, zce E false μ c)) := by
    apply List.map_congr_left
    intro c hc
    have hc := List.mem_range.mp hc
    rw [zce_congr (fun k => zal_ne (by omega) (by omega))]
  rw [h1]
  rfl
/-- the memory behind a making -/
theorem zInv_al {E : zE} {M : ZI} {n0 s0 : Nat} {μ : Zm} {L : List Value} {s : State} {ls : Array Slot} {H H1 : Heap} {locs : List Loc} {cells slots : Nat} (hI : zInv E false M n0 s0 μ L s ls H locs cells slots) (hn : zsz false μ < 74)
    (hc : va_at E.1 vwCl (E.2.2.1 + zsz false μ, zce E false (zal μ (zsz false μ)) (zsz false μ)) H1) (hz : H1.size = H.size + 1) (ho : ∀ q, q < H.size → H1[q]? = H[q]?) : zInv E false M n0 s0 (zal μ (zsz false μ)) L s ls H1 locs (cells + 1) (slots + (zsh (zsz false μ)).2) := by
  obtain ⟨i1, i2, i3, i4, i5, i6, i7⟩ := hI
  refine ⟨i1, ?_, fun hp => ?_, ⟨Nat.le_trans i4.1 (by omega), fun q h1 h2 => ?_, i4.2.2⟩, ⟨fun j hj => ?_, ?_⟩, ?_, ?_⟩
  · rw [zwl_al hn]
    refine va_P.app (i2.kept fun k q hk => ho _ (i2 k q hk).lt) (fun k q hk => ?_)
    have hk1 : k < 1 := (List.getElem?_eq_some_iff.mp hk).1
    rw [show k = 0 by omega] at hk
    cases hk
    exact hc
  · rw [hz, i3 rfl, zsz_al hn]
    omega
  · rw [ho q (Nat.lt_of_lt_of_le h1 i4.1)]
    exact i4.2.1 q h1 h2
  · rw [zal_ne (by omega) (by omega)]; exact i5.1 j hj
  · rw [zal_ne (by omega) (by omega)]; exact i5.2
  · rw [zsz_al hn]; omega
  · rw [zsz_al hn, zsm_succ]; omega
theorem zn_q : znL.all (fun e => decide (e.2.2 < 8)) = true := by decide +kernel
theorem za_w : Cond.arrayClass .int ∈ lw_tbl ∧ Cond.arrayClass .byte ∈ lw_tbl ∧ Cond.arrayClass .boolean ∈ lw_tbl := ⟨List.mem_of_getElem? (i := 238) (by decide +kernel), List.mem_of_getElem? (i := 158) (by decide +kernel), List.mem_of_getElem? (i := 901) (by decide +kernel)⟩
theorem zs_new {k : Nat} (F : zFx p R s m args meth c M E d) (hdg : decode M.2.1 pc = .ok (.new k, 3)) (hI : zInv E ph M n0 s0 μ L s ls H locs cells slots) (h : zai ph call M (.new k) pc L st μ = some (.inl q)) (hR : zsz ph q.2.2.2 ≤ R.cells + n0 ∧ zsm (zsz ph q.2.2.2) ≤ R.slots + s0) (kk : zKK p l e R s m args below meth c Q M E ph n0 s0 q) : W p l e R s m args below meth c H locs cells slots Q (F0 m pc ls (st.map (zcv E))) := by
  obtain ⟨hx, hb, hml, hown, hts, hG, hnm, hfr, hlo⟩ := F
  replace h : (if ph = true then none else (zf2 znL M.2.2.2.2 k).bind fun t => if zsz ph μ < 74 ∧ (zsh (zsz ph μ)).1 = t then znx (pc + 3) L (.ref (zsz ph μ) :: st) (zal μ (zsz ph μ)) else none) = some (.inl q) := h
  cases ph with
  | true => cases h
  | false =>
    rw [if_neg (by decide)] at h
    replace h := Option.bind_eq_some_iff.mp h
    obtain ⟨t, hz, h⟩ := h
    split at h
    · rename_i hc
      cases znx_some h
      obtain ⟨hn, hsh⟩ := hc
      have ht : t < 8 := of_decide_eq_true (List.all_eq_true.mp zn_q _ (zf2_mem hz))
      have hw := zn_mem _ (zf2_mem hz)
      have hI2 := hI
      obtain ⟨i1, i2, i3, i4, i5, i6, i7⟩ := hI2
      dsimp only at hR
      rw [zsz_al hn, zsm_succ, zsh_obj hsh ht] at hR
      have hKn := hG.1.1 t _ (zcl_get ht)
      rw [zcl_on ht] at hKn
      refine W.newcK hx hb hown (hts _ (zG_mem (hw (.classLink (zon M.2.2.2.2) k (zon t)) (by simp [znw])) rfl)) (hts _ (zG_mem (hw (.instantiable (zon t) (zcl t).2.2) (by simp [znw])) rfl)) (hts _ (zG_mem (hw (.initialized (zon t)) (by simp [znw])) rfl)) rfl hdg (by omega) (by omega) hKn.2.1 rfl fun H1 kC hkC e1 z1 o1 => ?_
      have kk := kk ls H1 locs (cells + 1) (slots + (zsh (zsz false μ)).2) (zInv_al hI hn ?_ z1 o1)
      · rw [zsh_obj hsh ht] at kk
        have kk : W p l e R s m args below meth c H1 locs (cells + 1) (slots + (zcl t).2.2) Q (F0 m (pc + 3) ls (zcv E (.ref (zsz false μ)) :: st.map (zcv E))) := kk
        rw [zcv_ref (by omega), ← i3 rfl] at kk
        exact kk
      · rw [zce_obj hsh ht]
        refine ⟨_, zcl_get ht, ?_⟩
        rw [i3 rfl] at e1
        have hty : ∀ k, k < (zcl t).2.2 → parseFieldDescriptor ((zcl t).2.1 k).2.2.1 = some (zty0 t k) := fun k hk => by
          have := zkc_of ht hk
          simp only [zkc, Bool.and_eq_true, beq_iff_eq, decide_eq_true_eq] at this
          exact this.2
        have hb := u_born (zty0 t) hts (zu_in ht) (hG.1.1 t _ (zcl_get ht)) hkC e1 hty
        refine hb.to fun j hj => ?_
        have hkc := zct_ty (zkc_of ht hj)
        show defaultValue (zty0 t j) = vp_V _ j
        have hv : vp_V ((List.range (zcl t).2.2).map (fun k => zcv E (zsv false (zal μ (zsz false μ)) t (zsz false μ) k))) j = zcv E (zsv false (zal μ (zsz false μ)) t (zsz false μ) j) := by
          unfold vp_V
          rw [List.getD_eq_getElem?_getD, List.getElem?_map, List.getElem?_range hj]
          rfl
        rw [hv]
        have h4 : zkd t j = 0 ∨ zkd t j = 1 ∨ zkd t j = 2 ∨ zkd t j = 3 := by
          unfold zkd
          repeat' split
          all_goals simp
        unfold zsv
        rcases h4 with h4 | h4 | h4 | h4
        · rw [if_neg (by omega), if_neg (by omega), hkc.1 h4, zal_eq (by omega)]; rfl
        · rw [if_pos h4]
          unfold zrf
          rw [zal_eq (by omega)]
          rcases hkc.2.1 h4 with ⟨n, h⟩ | ⟨n, h⟩ <;> rw [h] <;> rfl
        · rw [if_neg (by omega), if_pos h4, hkc.2.2.1 h4, zal_eq (by omega), zal_eq (by omega)]; rfl
        · rw [if_neg (by omega), if_neg (by omega), hkc.2.2.2 h4, zal_eq (by omega)]; rfl
    · cases h
end ZV
