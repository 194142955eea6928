/-! ===== steps that write, and that make ===== -/
theorem zmk_eq (x : Int64) : zmk (zhi x) (zlo x) = x := by
  apply Int64.toBitVec_inj.mp
  show (x.toBitVec.extractLsb' 32 32 ++ x.toBitVec.extractLsb' 0 32) = x.toBitVec
  apply BitVec.eq_of_getLsbD_eq
  intro i hi
  rw [BitVec.getLsbD_append]
  by_cases h : i < 32
  · rw [if_pos h, BitVec.getLsbD_extractLsb']
    simp [h]
  · rw [if_neg h, BitVec.getLsbD_extractLsb']
    rw [show 32 + (i - 32) = i by omega]
    simp [show i - 32 < 32 by omega]
theorem zsv_ne {ph : Bool} {μ : Zm} {t c k f : Nat} {y : Int32} (h : k ≠ f) (hf : f < 1000) : zsv ph (zup μ c f y) t c k = zsv ph μ t c k := by
  unfold zsv zrf
  rw [zup_ne (Or.inr h), zup_ne (Or.inr (by omega))]
theorem zset_obj {E : zE} {ph : Bool} {μ μ' : Zm} {x t f : Nat} {v' : Value} (hsh : (zsh x).1 = t) (ht : t < 8) (hf : f < (zcl t).2.2) (hv : zcv E (zsv ph μ' t x f) = v') (hne : ∀ k, k < (zcl t).2.2 → k ≠ f → zsv ph μ t x k = zsv ph μ' t x k) :
    (.inr (t, ((List.range (zcl t).2.2).map (fun k => zcv E (zsv ph μ t x k))).set f v') : va_E) = zce E ph μ' x := by
  rw [zce_obj hsh ht, ← hv, zrange_set (g := fun k => zcv E (zsv ph μ' t x k)) hf (fun j hj1 hj => by rw [hne j hj1 hj])]
theorem zf_nest : zfL.all (fun e => e.2.2.2.2 == 0 || !(e.1 == e.2.2.1)) = true := by decide +kernel
theorem zct_ty {t k : Nat} (h : zkc t k = true) : (zkd t k = 0 → zty0 t k = .int) ∧ (zkd t k = 1 → (∃ n, zty0 t k = .object n) ∨ ∃ a, zty0 t k = .array a) ∧ (zkd t k = 2 → zty0 t k = .long) ∧ (zkd t k = 3 → zty0 t k = .boolean) := by
  unfold zkc at h
  simp only [Bool.and_eq_true] at h
  replace h := h.1.1.1
  refine ⟨fun h0 => ?_, fun h0 => ?_, fun h0 => ?_, fun h0 => ?_⟩ <;> rw [h0] at h <;> revert h <;> cases zty0 t k <;> simp
theorem zkd_N : ((List.range 8).all fun t => decide ((zcl t).2.2 ≤ 25)) = true := by decide +kernel
theorem zN_le {t : Nat} (ht : t < 8) : (zcl t).2.2 ≤ 25 := of_decide_eq_true (List.all_eq_true.mp zkd_N t (List.mem_range.mpr ht))
section ZU
variable {p : Program} {l : Launch} {e : Env} {R : Room} {s : State} {m : MethodId} {args : Array Value} {below : List Frame} {meth : Method} {c : Code} {H : Heap} {locs : List Loc} {cells slots : Nat} {Q : State → Prop} {M : ZI} {E : zE} {d n0 s0 pc : Nat} {ph : Bool} {L st : List Value} {μ : Zm} {ls : Array Slot} {q : Nat × List Value × List Value × Zm} {call : ZI → List Value → Zm → Option (Option Value × Zm)}
/-- a final field, in its own constructor; the heap keeps its size -/
theorem zput_final {t f x k : Nat} {r : List Value} {v : Value} (F : zFx p R s m args meth c M E d) (hdg : decode M.2.1 pc = .ok (.putfield k, 3)) (hP : va_P E.1 vwCl (zwl E ph μ) H) (hS : va_S (zAA E) s.heap H locs)
    (ht : t < 8) (hf : f < (zcl t).2.2) (hsh : (zsh x).1 = t) (hsz : x < zsz ph μ) (hown : M.2.2.2.2 = t) (hname : M.1.name = "<init>") (hfin : zfn t f = true) (hlink : (Cond.fieldLink (zon t) k (zon t) ((zcl t).2.1 f).2.1 ((zcl t).2.1 f).2.2.1).before args s = true)
    (hn : narrow (zty0 t f) v = v) (hfit : fits (zty0 t f) v = true)
    (kk : ∀ (H1 : Heap) (locs1 : List Loc), va_P E.1 vwCl ((zwl E ph μ).set x (E.2.2.1 + x, .inr (t, ((List.range (zcl t).2.2).map (fun k => zcv E (zsv ph μ t x k))).set f v))) H1 → va_S (zAA E) s.heap H1 locs1 → H1.size = H.size → W p l e R s m args below meth c H1 locs1 cells slots Q (F0 m (pc + 3) ls r)) :
    W p l e R s m args below meth c H locs cells slots Q (F0 m pc ls (v :: .ref (E.2.2.1 + x) :: r)) := by
  obtain ⟨hx, hb, hml, hownC, hts, hG, hnm, hfr, hlo⟩ := F
  rw [hown] at hownC
  have hkc := zkc_of ht hf
  simp only [zkc, Bool.and_eq_true, beq_iff_eq, decide_eq_true_eq] at hkc
  have he : (zwl E ph μ)[x]? = some (E.2.2.1 + x, .inr (t, (List.range (zcl t).2.2).map (fun k => zcv E (zsv ph μ t x k)))) := by rw [zwl_get hsz, zce_obj hsh ht]
  have hap := va_apart (own := zon t) hts (zu_in ht) (zty0 t) (fun k hk => by
    have := zkc_of ht hk
    simp only [zkc, Bool.and_eq_true, beq_iff_eq, decide_eq_true_eq] at this
    exact this.2) (znm ht) hG.1 (zcl_get ht)
  obtain ⟨w, h1, cell, q1, q2, q3, q4⟩ := hP x _ he
  have hr : w = zcl t := Option.some.inj (h1.symm.trans (zcl_get ht))
  subst hr
  obtain ⟨hSl, hfc, kC, hkC, hkind⟩ := hG.1.1 t _ (zcl_get ht)
  obtain ⟨cf, kf, fi, fd, hi, hsl⟩ := hSl f hf
  have hlay := hts _ (zu_in ht _ (u_in_lay hf))
  unfold u_lay at hlay
  rw [if_pos (by rw [hkc.1.1.2]; exact hfin)] at hlay
  have hst := (u_facts hfc hkC (u_lays hts (zu_in ht) hf) hi).1
  have hcf : m.cls = cf := by
    obtain ⟨_, _, c', _, _, _, -, -, hf', -, -, -, hown2, -⟩ := Cond.laysFinal_spec hlay
    have e1 := hi.symm.trans hf'
    simp only [Option.some.injEq, Prod.mk.injEq] at e1
    rw [hkc.1.2] at hown2
    rw [e1.1]
    exact Option.some.inj (hownC.symm.trans hown2)
  have h6 := u_fits hfc hkC hkind (Or.inr hlay) hi hkc.2 hn hfit
  have hmn : meth.name = "<init>" := by
    rcases hnm with h | h
    · rw [h, hname]
    · exact absurd hname h
  have hi2 : s.fieldFound? (zon t) ((zcl t).2.1 f).2.1 ((zcl t).2.1 f).2.2.1 = some (cf, kf, fi, fd) := by rw [← hkc.1.2]; exact hi
  refine W.putFinK hx hb hownC hlink hi2 hst hcf hmn (by rw [q2]; exact h6) q1 q3 (by rw [hsl]; exact k2_hasslot (q4 f hf)) rfl rfl hdg fun H' e1 e2 e3 => ?_
  rw [hsl] at e1 ⊢
  exact kk H' _ (hP.set zwl_D he ⟨_, h1, t_OB.to (V := updV (vp_V ((List.range (zcl t).2.2).map (fun k => zcv E (zsv ph μ t x k)))) f v) ⟨_, e1, q2, q3, t_set q4 hap hf v⟩ (fun j _ => vp_updV_set (by simpa using hf) v j)⟩ e3) (hS.put e2 e3 (zwl_D.2 x _ he)) e2
theorem zs_putfield {k : Nat} (F : zFx p R s m args meth c M E d) (hdg : decode M.2.1 pc = .ok (.putfield k, 3)) (hI : zInv E ph M n0 s0 μ L s ls H locs cells slots) (h : zai ph call M (.putfield k) pc L st μ = some (.inl q)) (kk : zKK p l e R s m args below meth c Q M E ph n0 s0 q) : W p l e R s m args below meth c H locs cells slots Q (F0 m pc ls (st.map (zcv E))) := by
  have F0' := F
  obtain ⟨hx, hb, hml, hown, hts, hG, hnm, hfr, hlo⟩ := F
  have hS := hI.2.2.2.1
  replace h := zvr_some h
  obtain ⟨v, x, r, rfl, h⟩ := h
  replace h := Option.bind_eq_some_iff.mp h
  obtain ⟨⟨t, f, nest⟩, hz, h⟩ := h
  replace h := Option.bind_eq_some_iff.mp h
  obtain ⟨μ', hv, h⟩ := h
  cases znx_some h
  unfold zpf at hv
  split at hv
  · rename_i hob
    obtain ⟨hsh, hsz⟩ := zob_spec hob
    have hfq := List.all_eq_true.mp zf_q _ (zf2_mem hz)
    simp only [zfq, Bool.and_eq_true, decide_eq_true_eq] at hfq
    obtain ⟨ht, hf⟩ := hfq
    dsimp only at hsh hv ht hf
    have hN := zN_le ht
    have hkc0 := zkc_of ht hf
    have hkc := hkc0
    simp only [zkc, Bool.and_eq_true, beq_iff_eq, decide_eq_true_eq] at hkc
    have hw := zf_mem _ (zf2_mem hz) _ List.mem_cons_self
    have h74 : x < 74 := zsh_lt (by omega)
    simp only at hw
    show W p l e R s m args below meth c H locs cells slots Q (F0 m pc ls (zcv E v :: zcv E (.ref x) :: r.map (zcv E)))
    rw [zcv_ref (by omega)]
    have he : (zwl E ph μ)[x]? = some (E.2.2.1 + x, .inr (t, (List.range (zcl t).2.2).map (fun k => zcv E (zsv ph μ t x k)))) := by rw [zwl_get hsz, zce_obj hsh ht]
    have hty : ∀ k, k < (zcl t).2.2 → parseFieldDescriptor ((zcl t).2.1 k).2.2.1 = some (zty0 t k) := fun k hk => by
      have := zkc_of ht hk
      simp only [zkc, Bool.and_eq_true, beq_iff_eq, decide_eq_true_eq] at this
      exact this.2
    have hsame : ∀ y, s.fieldFound? ((zcl t).2.1 f).1 ((zcl t).2.1 f).2.1 ((zcl t).2.1 f).2.2.1 = some y → s.fieldFound? (zon t) ((zcl t).2.1 f).2.1 ((zcl t).2.1 f).2.2.1 = some y := fun y hy => by rw [← hkc.1.2]; exact hy
    split at hv
    · rename_i hfin
      split at hv
      · rename_i hini
        cases v with
        | ref y =>
          simp only at hv
          split at hv
          · rename_i hy
            have hv := Option.some.inj hv
            have hnest : nest = 0 := by
              have := List.all_eq_true.mp zf_nest _ (zf2_mem hz)
              simp only [Bool.or_eq_true, beq_iff_eq, Bool.not_eq_true', beq_eq_false_iff_ne] at this
              rcases this with h | h
              · exact h
              · exact absurd hini.2 h
            rw [if_pos hnest] at hw
            have hk1 : zkd t f = 1 := by
              unfold zfn at hfin
              simp only [Bool.and_eq_true, beq_iff_eq] at hfin
              exact hfin.1
            have hyl : y < 1000 := by rw [hy]; exact ztg_lt h74 (by omega)
            have hlink := hts _ (zG_mem hw rfl)
            rw [hini.2] at hlink
            have hcv : zcv E (.ref y) = .ref (E.2.2.1 + y) := zcv_ref hyl
            refine zput_final F0' hdg hI.2.1 hS ht hf hsh hsz hini.2 hini.1 hfin hlink ?_ ?_ (fun H1 locs1 hP1 hS1 hz1 => ?_)
            · rw [hcv]
              rcases (zct_ty hkc0).2.1 hk1 with ⟨n, h⟩ | ⟨n, h⟩ <;> rw [h] <;> rfl
            · rw [hcv]
              rcases (zct_ty hkc0).2.1 hk1 with ⟨n, h⟩ | ⟨n, h⟩ <;> rw [h] <;> rfl
            · rw [zset_obj (μ' := μ') hsh ht hf (by
                rw [← hv]
                unfold zsv
                rw [if_pos hk1, hy]
                unfold zrf
                rw [zup_eq]
                rw [if_neg (by simp)]
                rfl) (fun k _ hk => by rw [← hv, zsv_ne hk (by omega)])] at hP1
              exact kk _ _ _ _ _ (zInv_wr hI hsz h74 (fun c' k' hc => by rw [← hv]; exact zup_ne (Or.inl hc)) hP1 hS1 (fun _ => hz1))
          · cases hv
        | _ => cases hv
      · cases hv
    · rename_i hfin
      have hff : ((zcl t).2.1 f).2.2.2 = false := by
        rw [hkc.1.1.2]
        exact Bool.eq_false_iff.mpr hfin
      have fin : ∀ (v' : Value) (μ' : Zm), zcv E v = v' → ph = true → narrow (zty0 t f) v' = v' → fits (zty0 t f) v' = true → zcv E (zsv ph μ' t x f) = v' → (∀ k, k < (zcl t).2.2 → k ≠ f → zsv ph μ t x k = zsv ph μ' t x k) → (∀ c' k, c' ≠ x → μ' c' k = μ c' k) → zKK p l e R s m args below meth c Q M E ph n0 s0 (pc + 3, L, r, μ') → W p l e R s m args below meth c H locs cells slots Q (F0 m pc ls (zcv E v :: .ref (E.2.2.1 + x) :: r.map (zcv E))) := by
        intro v' μ' h1 hph h2 h3 h4 h5 h6 kk
        rw [h1]
        by_cases hn : nest = 0
        · rw [if_pos hn] at hw
          refine va_put (C := (zcl t).1) (T := (zcl t).2.1) (N := (zcl t).2.2) hx hb hts (zu_in ht) (zty0 t) hty (znm ht) hown hG.1 hI.2.1 zwl_D hS x he (zcl_get ht) f hf (hts _ (zG_mem hw rfl)) hsame hff hkc.2 h2 h3 (by simpa using hf) hdg (fun H1 locs1 hP1 hD1 hS1 => ?_)
          rw [zset_obj hsh ht hf h4 h5] at hP1
          exact kk _ _ _ _ _ (zInv_wr hI hsz h74 h6 hP1 hS1 (fun h => by rw [hph] at h; cases h))
        · rw [if_neg hn] at hw
          refine va_putN (C := (zcl t).1) (T := (zcl t).2.1) (N := (zcl t).2.2) hx hb hts (zu_in ht) (zty0 t) hty (znm ht) hown hG.1 hI.2.1 zwl_D hS x he (zcl_get ht) f hf ((hG.2.2.2.2.2.2.2.2.2.2.2.1 _ (zf2_mem hz) hn).use rfl) hsame hff hkc.2 h2 h3 (by simpa using hf) hdg (fun H1 locs1 hP1 hD1 hS1 => ?_)
          rw [zset_obj hsh ht hf h4 h5] at hP1
          exact kk _ _ _ _ _ (zInv_wr hI hsz h74 h6 hP1 hS1 (fun h => by rw [hph] at h; cases h))
      split at hv
      · cases hv
      · rename_i hph
        have hph : ph = true := by simpa using hph
        split at hv
        · rename_i hk0
          cases v with
          | int y =>
            replace hv := Option.some.inj hv
            subst hv
            have e0 : zsv ph (zup μ x f y) t x f = .int y := by unfold zsv; rw [if_neg (by omega), if_neg (by omega), zup_eq]
            exact fin _ _ rfl hph (by rw [(zct_ty hkc0).1 hk0]; rfl) (by rw [(zct_ty hkc0).1 hk0]; rfl) (by rw [e0]) (fun k _ hk => (zsv_ne hk (by omega)).symm) (fun c' k' hc => zup_ne (Or.inl hc)) kk
          | _ => cases hv
        · rename_i hk0
          split at hv
          · rename_i hk3
            cases v with
            | int y =>
              simp only at hv
              split at hv
              · rename_i hy
                replace hv := Option.some.inj hv
                subst hv
                have e0 : zsv ph (zup μ x f y) t x f = .int y := by unfold zsv; rw [if_neg (by omega), if_neg (by omega), zup_eq]
                exact fin _ _ rfl hph (by rw [(zct_ty hkc0).2.2.2 hk3]; rcases hy with rfl | rfl <;> rfl) (by rw [(zct_ty hkc0).2.2.2 hk3]; rcases hy with rfl | rfl <;> rfl) (by rw [e0]) (fun k _ hk => (zsv_ne hk (by omega)).symm) (fun c' k' hc => zup_ne (Or.inl hc)) kk
              · cases hv
            | _ => cases hv
          · rename_i hk3
            split at hv
            · rename_i hk2
              cases v with
              | long y =>
                replace hv := Option.some.inj hv
                subst hv
                have e0 : zsv ph (zup (zup μ x f (zhi y)) x (f + 1000) (zlo y)) t x f = .long y := by
                  unfold zsv
                  rw [if_neg (by omega), if_pos hk2, zup_eq, zup_ne (Or.inr (by omega)), zup_eq, zmk_eq]
                have hNk : ∀ k, k < (zcl t).2.2 → k ≠ f → zsv ph μ t x k = zsv ph (zup (zup μ x f (zhi y)) x (f + 1000) (zlo y)) t x k := by
                  intro k hkN hk
                  unfold zsv zrf
                  rw [zup_ne (Or.inr (by omega)), zup_ne (Or.inr hk), zup_ne (Or.inr (by omega)), zup_ne (Or.inr (by omega))]
                exact fin _ _ rfl hph (by rw [(zct_ty hkc0).2.2.1 hk2]; rfl) (by rw [(zct_ty hkc0).2.2.1 hk2]; rfl) (by rw [e0]) hNk (fun c' k' hc => by rw [zup_ne (Or.inl hc), zup_ne (Or.inl hc)]) kk
              | _ => cases hv
            · rename_i hk2
              cases v with
              | ref y =>
                simp only at hv
                split at hv
                · rename_i hy
                  replace hv := Option.some.inj hv
                  subst hv
                  have hk1 : zkd t f = 1 := by
                    have h4 : zkd t f = 0 ∨ zkd t f = 1 ∨ zkd t f = 2 ∨ zkd t f = 3 := by
                      unfold zkd
                      repeat' split
                      all_goals simp
                    omega
                  have hyl : y < 1000 := by rw [hy.1]; exact ztg_lt h74 (by omega)
                  have e0 : zsv ph (zup μ x f 1) t x f = .ref y := by
                    unfold zsv
                    rw [if_pos hk1, hy.1]
                    unfold zrf
                    rw [zup_eq, if_neg (by simp)]
                    rfl
                  exact fin (.ref (E.2.2.1 + y)) _ (zcv_ref hyl) hph (by rcases (zct_ty hkc0).2.1 hk1 with ⟨n, h⟩ | ⟨n, h⟩ <;> rw [h] <;> rfl) (by rcases (zct_ty hkc0).2.1 hk1 with ⟨n, h⟩ | ⟨n, h⟩ <;> rw [h] <;> rfl) (by rw [e0, zcv_ref hyl]) (fun k _ hk => (zsv_ne hk (by omega)).symm) (fun c' k' hc => zup_ne (Or.inl hc)) kk
                · cases hv
              | _ => cases hv
  · cases hv
end ZU
