/-! ===== calls; the walk; soundness of the abstract machine ===== -/
section ZX
variable {p : Program} {l : Launch} {e : Env} {R : Room} {s : State} {m : MethodId} {args : Array Value} {below : List Frame} {meth : Method} {c : Code} {H : Heap} {locs : List Loc} {cells slots : Nat} {Q : State → Prop} {M : ZI} {E : zE} {d n0 s0 pc : Nat} {ph : Bool} {L st : List Value} {μ : Zm} {ls : Array Slot} {q : Nat × List Value × List Value × Zm}
theorem zrest_sum {E : zE} {U : State} (hG : zGs E U) {rest : List Value} (h : rest.length ≤ 4) : ((rest.map (zcv E)).map fun v => v.category).sum ≤ 8 := by
  have := zcat_sum (rest.map (zcv E))
  rw [List.length_map] at this
  omega
/-- a call, of whatever kind but a constructor's -/
theorem zs_call {k kind n : Nat} {M' : ZI} {av rest : List Value} {ins : Instr} (F : zFx p R s m args meth c M E d) (IH : zSat l E ph d) (hz : zf2 zcL M.2.2.2.2 k = some (kind, M', n)) (hst : st = av.reverse ++ rest)
    (hdg : decode M.2.1 pc = .ok (ins, 3)) (hins : ((kind ≤ 1 ∨ 7 ≤ kind) ∧ ins = .invokestatic k) ∨ ((kind = 2 ∨ kind = 3) ∧ ins = .invokevirtual k) ∨ ((kind = 4 ∨ kind = 5 ∨ kind = 6) ∧ ins = .invokespecial k))
    (hI : zInv E ph M n0 s0 μ L s ls H locs cells slots) (h : zcall ph (zC ph d) kind M' n av rest pc L μ = some (.inl q)) (hR : zsz ph q.2.2.2 ≤ R.cells + n0 ∧ zsm (zsz ph q.2.2.2) ≤ R.slots + s0) (kk : zKK p l e R s m args below meth c Q M E ph n0 s0 q) : W p l e R s m args below meth c H locs cells slots Q (F0 m pc ls (st.map (zcv E))) := by
  obtain ⟨hx, hb, hml, hown, hts, hG, hnm, hfr, hlo⟩ := F
  have hI2 := hI
  obtain ⟨i1, i2, i3, i4, i5, i6, i7⟩ := hI2
  unfold zcall at h
  split at h
  · rename_i hlen
    obtain ⟨hlen, hrest⟩ := hlen
    have hsum := zrest_sum hG hrest
    have hw := zc_mem _ (zf2_mem hz)
    have hq := List.all_eq_true.mp zc_q _ (zf2_mem hz)
    unfold zcw at hw
    dsimp only at hw
    have hlsz : ls.size = M.2.2.1 := i1.1
    subst hst
    rw [List.map_append, List.map_reverse]
    split at h
    · -- Object's constructor
      rename_i h6
      subst h6
      rw [if_pos rfl] at hw
      have hins : ins = .invokespecial k := by rcases hins with h | h | h <;> first | exact h.2 | (exfalso; omega)
      subst hins
      split at h
      · rename_i a
        cases znx_some h
        show W p l e R s m args below meth c H locs cells slots Q (F0 m pc ls (zcv E (.ref a) :: rest.map (zcv E)))
        rw [zcv_r]
        exact W.objInit hx hb hown (hts _ (zG_mem (hw _ List.mem_cons_self) rfl)) (hts _ (zG_mem zb_w.1 rfl)) (hts _ (zG_mem zb_w.2.1 rfl)) rfl (by rw [hml]; exact hlsz) rfl hdg (by omega) (by
          have := lv_room (m := m) (pc := pc) (ls := ls) (rest := rest.map (zcv E)) hsum
          show 2 * (F0 m pc ls (rest.map (zcv E))).monitorRoom + _ + 12 ≤ _
          omega) (kk _ _ _ _ _ hI)
      · cases h
    · rename_i h6
      rw [if_neg h6] at hw
      split at h
      · -- System.arraycopy
        rename_i h7
        subst h7
        rw [if_pos rfl] at hw
        have hins : ins = .invokestatic k := by rcases hins with h | h | h <;> first | exact h.2 | (exfalso; omega)
        subst hins
        split at h
        · rename_i a i b j nn
          replace h := Option.bind_eq_some_iff.mp h
          obtain ⟨μ', hv, h⟩ := h
          cases znx_some h
          obtain ⟨a, rfl⟩ : ∃ a' : Nat, a' = a := ⟨a, rfl⟩
          obtain ⟨b, rfl⟩ : ∃ b' : Nat, b' = b := ⟨b, rfl⟩
          unfold zac at hv
          split at hv
          · rename_i hc
            simp only [Bool.and_eq_true, Bool.not_eq_true', decide_eq_false_iff_not, decide_eq_true_eq] at hc
            obtain ⟨⟨⟨⟨⟨⟨⟨hph, ha⟩, hbb⟩, hi⟩, hj⟩, hn⟩, h4⟩, h5⟩ := hc
            replace hv := Option.some.inj hv
            subst hv
            obtain ⟨a1, a2⟩ := zob_spec ha
            obtain ⟨b1, b2⟩ := zob_spec hbb
            have h74 := zsh_lt (c := b) (by omega)
            have h74a := zsh_lt (c := a) (by omega)
            have hga := zwl_get (E := E) a2
            rw [zce_arr a1 (by omega) (by omega)] at hga
            have hgb := zwl_get (E := E) b2
            rw [zce_arr b1 (by omega) (by omega)] at hgb
            show W p l e R s m args below meth c H locs cells slots Q (F0 m pc ls (.int nn :: .int j :: zcv E (.ref b) :: .int i :: zcv E (.ref a) :: rest.map (zcv E)))
            rw [zcv_ref (by omega), zcv_ref (by omega)]
            refine va_copyi hx hb (by rw [hml]; exact hlsz.symm) hown (hts _ (zG_mem (hw _ List.mem_cons_self) rfl)) (hts _ (zG_mem zb_w.2.2.1 rfl)) (hts _ (zG_mem zb_w.2.2.2.1 rfl)) (hts _ (zG_mem zb_w.2.2.2.2.1 rfl)) hG.1 i2 zwl_D i4 a b 0 0 hga hgb rfl rfl rfl hi hj hn h4 h5 (fun _ _ => rfl) (by omega) (by
              have hnf : nativeFrameWords "java/lang/System" "arraycopy" 5 = 7 := by decide
              rw [hnf]
              omega) hdg (fun H1 locs1 hP1 hD1 hS1 => ?_)
            refine kk _ _ _ _ _ (zInv_wr hI b2 h74 (fun c' k' hc => zcp_ne hc) ?_ hS1 (fun h => by rw [hph] at h; cases h))
            rw [zce_arr b1 (by omega) (by omega)]
            have hf : va_cpy (fun i => μ a i) (fun i => μ b i) i.toNatClampNeg j.toNatClampNeg nn.toNatClampNeg = fun k => zcp μ a i.toNatClampNeg b j.toNatClampNeg nn.toNatClampNeg b k := by
              funext k
              simp [va_cpy, zcp]
            rw [hf] at hP1
            exact hP1
          · cases hv
        · cases h
      · rename_i h7
        rw [if_neg h7] at hw
        split at h
        · -- Math.min
          rename_i h8
          subst h8
          rw [if_pos rfl] at hw
          have hins : ins = .invokestatic k := by rcases hins with h | h | h <;> first | exact h.2 | (exfalso; omega)
          subst hins
          split at h
          · rename_i a b
            cases znx_some h
            show W p l e R s m args below meth c H locs cells slots Q (F0 m pc ls (.int b :: .int a :: rest.map (zcv E)))
            exact va_mmin hx hb (by rw [hml]; exact hlsz.symm) hown (hts _ (zG_mem (hw _ List.mem_cons_self) rfl)) (hts _ (zG_mem zb_w.2.2.2.2.2.2.1 rfl)) (hts _ (zG_mem zb_w.2.2.2.2.2.1 rfl)) (hts _ (zG_mem zb_w2.1 rfl)) (by omega) (by omega) (by dsimp only at hR; omega) (by dsimp only at hR; omega) hdg (kk _ _ _ _ _ hI)
          · cases h
        · rename_i h8
          rw [if_neg h8] at hw
          split at h
          · -- Math.max
            rename_i h9
            subst h9
            rw [if_pos rfl] at hw
            have hins : ins = .invokestatic k := by rcases hins with h | h | h <;> first | exact h.2 | (exfalso; omega)
            subst hins
            split at h
            · rename_i a b
              cases znx_some h
              show W p l e R s m args below meth c H locs cells slots Q (F0 m pc ls (.int b :: .int a :: rest.map (zcv E)))
              exact va_mmax hx hb (by rw [hml]; exact hlsz.symm) hown (hts _ (zG_mem (hw _ List.mem_cons_self) rfl)) (hts _ (zG_mem zb_w.2.2.2.2.2.2.2 rfl)) (hts _ (zG_mem zb_w.2.2.2.2.2.1 rfl)) (hts _ (zG_mem zb_w2.2 rfl)) (by omega) (by omega) (by dsimp only at hR; omega) (by dsimp only at hR; omega) hdg (kk _ _ _ _ _ hI)
            · cases h
          · rename_i h9
            rw [if_neg h9] at hw
            split at h
            · rename_i hrc
              obtain ⟨hk5, hrc⟩ := hrc
              replace h := Option.bind_eq_some_iff.mp h
              obtain ⟨r, hcall, h⟩ := h
              split at h
              · rename_i hzz
                cases znx_some h
                dsimp only at hR
                unfold zcq at hq
                simp only [Bool.or_eq_true, Bool.and_eq_true, decide_eq_true_eq, beq_iff_eq] at hq
                rcases hq with hq | ⟨⟨⟨⟨⟨⟨⟨q1, q2⟩, q3⟩, q4⟩, q5⟩, q6⟩, q7⟩, q8⟩
                · omega
                · have hcode := zc_code _ (zf2_mem hz) (by show kind < 6; omega)
                  have hM := IH M' av μ r ⟨q1, q2, hcode⟩ hcall hzz
                  have hGI := zws_good M' hcode
                  have hm := zsm_mono hzz
                  have hrc0 : (zrm d (zsz ph r.2 - zsz ph μ) (zsm (zsz ph r.2) - zsm (zsz ph μ))).cells = (zsz ph r.2 - zsz ph μ) := rfl
                  have hrs0 : (zrm d (zsz ph r.2 - zsz ph μ) (zsm (zsz ph r.2) - zsm (zsz ph μ))).slots = (zsm (zsz ph r.2) - zsm (zsz ph μ)) := rfl
                  have hRR : (zrm d (zsz ph r.2 - zsz ph μ) (zsm (zsz ph r.2) - zsm (zsz ph μ))).frames + 1 ≤ R.frames ∧ 8 + (M'.2.2.1 + 11) + (zrm d (zsz ph r.2 - zsz ph μ) (zsm (zsz ph r.2) - zsm (zsz ph μ))).locals ≤ R.locals := by
                    refine ⟨?_, ?_⟩
                    · show d + 1 + 1 ≤ _; omega
                    · show 8 + (M'.2.2.1 + 11) + 60 * (d + 1) ≤ _; omega
                  have hCF : CallFix p m c M.2.1 M.2.2.1 s args zG (zon M.2.2.2.2) := ⟨hx, hb, hml, hown, hts⟩
                  have hf : cells + (zsz ph r.2 - zsz ph μ) ≤ R.cells ∧ slots + (zsm (zsz ph r.2) - zsm (zsz ph μ)) ≤ R.slots := by omega
                  have hpre : ∀ U : State, U.heap = H → s.WarmedH U.vm → zPc E ph av μ (av.map (zcv E)).toArray U := fun U hU hW => ⟨rfl, zGs_keep hG hW (fun q hq => by
                    rw [hU]
                    exact i4.2.1 q (Nat.lt_of_lt_of_le hq hG.2.1) (Nat.not_le.mpr hq)) (by rw [hU]; exact Nat.le_trans hG.2.1 i4.1), by rw [hU]; exact i2, fun hp => by rw [hU]; exact i3 hp, i5⟩
                  have hini := hts _ (zG_mem (hw (.initialized M'.1.cls) (by simp)) rfl)
                  by_cases hk1 : kind ≤ 1
                  · have hins : ins = .invokestatic k := by rcases hins with h | h | h <;> first | exact h.2 | (exfalso; omega)
                    subst hins
                    have hstat := hts _ (zG_mem (hw (.static M'.1) (by simp [hk1])) rfl)
                    rw [if_pos hk1] at q4
                    have hn : (av.map (zcv E)).length = n := by rw [List.length_map]; exact hlen
                    by_cases h0 : kind = 0
                    · subst h0
                      have hl := hts _ (zG_mem (hw (.methodLink (zon M.2.2.2.2) k M'.1) (by simp)) rfl)
                      exact zback (va_runS (As := av.map (zcv E)) (rest := rest.map (zcv E)) hCF hM ⟨callB_of n hts hGI rfl hrc0 hrs0 hini hl ⟨q3.1, q3.2, q4⟩ hRR, hstat⟩ ⟨zPc_blind, hpre⟩ rfl hn hlsz rfl (lv_room hsum) hdg hf) hG hI hzz kk
                    · have h1 : kind = 1 := by omega
                      subst h1
                      have hl := hG.2.2.2.2.2.2.2.2.2.2.2.2.1 _ (zf2_mem hz) (Or.inl rfl)
                      exact zback (va_runSN (As := av.map (zcv E)) (rest := rest.map (zcv E)) hCF hM ⟨va_cnB n hts hGI rfl hrc0 hrs0 hl hini ⟨q3.1, q3.2, q4⟩ hRR, hstat, trivial⟩ ⟨zPc_blind, hpre⟩ rfl hn hlsz rfl (lv_room hsum) hdg hf) hG hI hzz kk
                  · rw [if_neg hk1] at q4 q8
                    have hrc := hrc.resolve_left hk1
                    cases av with
                    | nil => cases hrc
                    | cons v av =>
                      cases v with
                      | ref b =>
                        obtain ⟨b, rfl⟩ : ∃ b' : Nat, b' = b := ⟨b, rfl⟩
                        have hinst := hts _ (zG_mem (hw (.instanceMethod M'.1) (by simp [hk1])) rfl)
                        have hn : (av.map (zcv E)).length = n - 1 := by rw [List.length_map]; rw [List.length_cons] at hlen; omega
                        have hb2030 : True ∧ ∃ cell : Cell, H[zad E b]? = some cell ∧ cell.vm.isStatics = false ∧ s.vm.findClass M'.1.cls = some cell.cls := by
                          replace hrc : zrc2 ph μ M'.2.2.2.2 b = true := hrc
                          unfold zrc2 at hrc
                          split at hrc
                          · rename_i ho
                            simp only [Bool.and_eq_true, decide_eq_true_eq] at hrc
                            refine ⟨trivial, ?_⟩
                            obtain ⟨i, hi, rfl⟩ : ∃ i, i < 8 ∧ b = 2010 + i := ⟨b - 2010, by omega, by omega⟩
                            rw [show zad E (2010 + i) = E.2.2.2.1 (2010 + i) from if_neg (by omega), ← q2, ho]
                            exact vk_recv (i := i) (adK := fun i => E.2.2.2.1 (2010 + i)) hG.2.2.2.2.2.2.1 hi i4
                          · simp only [Bool.and_eq_true, decide_eq_true_eq] at hrc
                            obtain ⟨b1, b2⟩ := zob_spec hrc.1
                            have h74 := zsh_lt (c := b) (by omega)
                            refine ⟨trivial, ?_⟩
                            rw [zad_lt (by omega)]
                            have hgb := zwl_get (E := E) b2
                            rw [zce_obj b1 hrc.2] at hgb
                            have := va_recv hG.1 i2 (zcl_get hrc.2) hgb
                            rw [zcl_on hrc.2, q2] at this
                            exact this
                        have hpre : ∀ U : State, U.heap = H → s.WarmedH U.vm → zPc E ph (.ref b :: av) μ (Value.ref (zad E b) :: av.map (zcv E)).toArray U := fun U hU hW => by
                          have := hpre U hU hW
                          rw [List.map_cons, zcv_r] at this
                          exact this
                        rw [List.map_cons, zcv_r]
                        have hst : (Value.ref (zad E b) :: List.map (zcv E) av).reverse ++ rest.map (zcv E) = (av.map (zcv E)).reverse ++ .ref (zad E b) :: rest.map (zcv E) := by simp
                        rw [hst]
                        by_cases h2 : kind = 2
                        · have hins : ins = .invokevirtual k := by rcases hins with h | h | h <;> first | exact h.2 | (exfalso; omega)
                          subst hins
                          subst h2
                          have hl := hts _ (zG_mem (hw (.methodLink (zon M.2.2.2.2) k M'.1) (by simp)) rfl)
                          have hsel := hts _ (zG_mem (hw (.selects M'.1.cls M'.1 M'.1) (by simp)) rfl)
                          exact zback (va_runV (As := av.map (zcv E)) (rest := rest.map (zcv E)) hCF hM ⟨callB_of (n - 1) hts hGI rfl hrc0 hrs0 hini hl ⟨q3.1, q3.2, q4⟩ hRR, hinst, hsel⟩ ⟨zPc_blind, hb2030.2, hpre⟩ rfl hn hlsz rfl (lv_room hsum) hdg hf) hG hI hzz kk
                        · by_cases h3 : kind = 3
                          · have hins : ins = .invokevirtual k := by rcases hins with h | h | h <;> first | exact h.2 | (exfalso; omega)
                            subst hins
                            subst h3
                            have hl := hG.2.2.2.2.2.2.2.2.2.2.2.2.1 _ (zf2_mem hz) (Or.inr (Or.inl rfl))
                            have hsel := hts _ (zG_mem (hw (.selects M'.1.cls M'.1 M'.1) (by simp)) rfl)
                            exact zback (va_runVN (As := av.map (zcv E)) (rest := rest.map (zcv E)) hCF hM ⟨va_cnB (n - 1) hts hGI rfl hrc0 hrs0 hl hini ⟨q3.1, q3.2, q4⟩ hRR, hinst, hsel⟩ ⟨zPc_blind, hb2030.2, hpre⟩ rfl hn hlsz rfl (lv_room hsum) hdg hf) hG hI hzz kk
                          · have hins : ins = .invokespecial k := by rcases hins with h | h | h <;> first | exact h.2 | (exfalso; omega)
                            subst hins
                            have h45 : kind = 4 ∨ kind = 5 := by omega
                            rw [if_pos h45] at q7
                            obtain ⟨q10, q9⟩ : M'.1.name = "<init>" ∧ M'.2.2.2.1 = none := by simpa using q7
                            have hws : zws M' = Cond.code M'.1 M'.2.1 M'.2.2.1 none :: zG := by rw [← q9]; rfl
                            rcases h45 with h4 | h4
                            · subst h4
                              have hl := hts _ (zG_mem (hw (.methodLink (zon M.2.2.2.2) k M'.1) (by simp)) rfl)
                              exact zback (va_runI (As := av.map (zcv E)) (rest := rest.map (zcv E)) hCF hM ⟨callB_of (n - 1) hts hGI hws hrc0 hrs0 hini hl ⟨q3.1, q3.2, q4⟩ hRR, q10, hinst⟩ ⟨zPc_blind, hpre⟩ rfl hn hlsz rfl (lv_room hsum) hdg hf) hG hI hzz kk
                            · subst h4
                              have hl := hG.2.2.2.2.2.2.2.2.2.2.2.2.1 _ (zf2_mem hz) (Or.inr (Or.inr rfl))
                              exact zback (va_runIN (As := av.map (zcv E)) (rest := rest.map (zcv E)) hCF hM ⟨va_cnB (n - 1) hts hGI hws hrc0 hrs0 hl hini ⟨q3.1, q3.2, q4⟩ hRR, q10, hinst⟩ ⟨zPc_blind, hpre⟩ rfl hn hlsz rfl (lv_room hsum) hdg hf) hG hI hzz kk
                      | _ => cases hrc
              · cases h
            · cases h
  · cases h
theorem ztk {n : Nat} {st : List Value} : st = ((st.take n).reverse).reverse ++ st.drop n := by rw [List.reverse_reverse, List.take_append_drop]
/-- every step -/
theorem zstep {i : Instr} {n : Nat} (F : zFx p R s m args meth c M E d) (IH : zSat l E ph d) (hdg : decode M.2.1 pc = .ok (i, n)) (hn : n = zil i ∨ zisT i = true) (hI : zInv E ph M n0 s0 μ L s ls H locs cells slots)
    (h : zai ph (zC ph d) M i pc L st μ = some (.inl q)) (hR : zsz ph q.2.2.2 ≤ R.cells + n0 ∧ zsm (zsz ph q.2.2.2) ≤ R.slots + s0) (kk : zKK p l e R s m args below meth c Q M E ph n0 s0 q) : W p l e R s m args below meth c H locs cells slots Q (F0 m pc ls (st.map (zcv E))) := by
  by_cases ht : zisT i = true
  · cases i with
    | tableswitch a b c' o => exact zs_tableswitch F hdg hI h kk
    | _ => cases ht
  · have hn := hn.resolve_right ht
    subst hn
    cases i with
    | iadd => exact zs_iadd F hdg hI h kk
    | isub => exact zs_isub F hdg hI h kk
    | imul => exact zs_imul F hdg hI h kk
    | iand => exact zs_iand F hdg hI h kk
    | ior => exact zs_ior F hdg hI h kk
    | ixor => exact zs_ixor F hdg hI h kk
    | ishl => exact zs_ishl F hdg hI h kk
    | ishr => exact zs_ishr F hdg hI h kk
    | iushr => exact zs_iushr F hdg hI h kk
    | idiv => exact zs_idiv F hdg hI h kk
    | irem => exact zs_irem F hdg hI h kk
    | ineg => exact zs_ineg F hdg hI h kk
    | ladd => exact zs_ladd F hdg hI h kk
    | lmul => exact zs_lmul F hdg hI h kk
    | lrem => exact zs_lrem F hdg hI h kk
    | land => exact zs_land F hdg hI h kk
    | lor => exact zs_lor F hdg hI h kk
    | lcmp => exact zs_lcmp F hdg hI h kk
    | lshl => exact zs_lshl F hdg hI h kk
    | lshr => exact zs_lshr F hdg hI h kk
    | i2l => exact zs_i2l F hdg hI h kk
    | i2b => exact zs_i2b F hdg hI h kk
    | i2s => exact zs_i2s F hdg hI h kk
    | i2c => exact zs_i2c F hdg hI h kk
    | l2i => exact zs_l2i F hdg hI h kk
    | iconst k => exact zs_iconst F hdg hI h kk
    | bipush k => exact zs_bipush F hdg hI h kk
    | sipush k => exact zs_sipush F hdg hI h kk
    | lconst k => exact zs_lconst F hdg hI h kk
    | iload_n k => exact zs_iload_n F hdg hI h kk
    | iload k => exact zs_iload F hdg hI h kk
    | lload_n k => exact zs_lload_n F hdg hI h kk
    | lload k => exact zs_lload F hdg hI h kk
    | aload_n k => exact zs_aload_n F hdg hI h kk
    | aload k => exact zs_aload F hdg hI h kk
    | istore_n k => exact zs_istore_n F hdg hI h kk
    | istore k => exact zs_istore F hdg hI h kk
    | lstore_n k => exact zs_lstore_n F hdg hI h kk
    | lstore k => exact zs_lstore F hdg hI h kk
    | astore_n k => exact zs_astore_n F hdg hI h kk
    | astore k => exact zs_astore F hdg hI h kk
    | iinc k j => exact zs_iinc F hdg hI h kk
    | dup => exact zs_dup F hdg hI h kk
    | dup2 => exact zs_dup2 F hdg hI h kk
    | pop => exact zs_pop F hdg hI h kk
    | ifCond k off => exact zs_ifCond F hdg hI h kk
    | if_icmp k off => exact zs_if_icmp F hdg hI h kk
    | goto off => exact zs_goto F hdg hI h kk
    | ldc k => exact zs_ldc F hdg hI h kk
    | ldc_w k => exact zs_ldc_w F hdg hI h kk
    | ldc2_w k => exact zs_ldc2_w F hdg hI h kk
    | getstatic k => exact zs_getstatic F hdg hI h kk
    | getfield k => exact zs_getfield F hdg hI h kk
    | putfield k => exact zs_putfield F hdg hI h kk
    | arraylength => exact zs_arraylength F hdg hI h kk
    | iaload => exact zs_iaload F hdg hI h kk
    | baload => exact zs_baload F hdg hI h kk
    | aaload => exact zs_aaload F hdg hI h kk
    | iastore => exact zs_iastore F hdg hI h kk
    | bastore => exact zs_bastore F hdg hI h kk
    | aastore => exact zs_aastore F hdg hI h kk
    | new k => exact zs_new F hdg hI h hR kk
    | newarray k => exact zs_newarray F hdg hI h hR kk
    | anewarray k => exact zs_anewarray F hdg hI h hR kk
    | invokestatic k =>
      replace h := Option.bind_eq_some_iff.mp h
      obtain ⟨⟨kind, M', na⟩, hz, h⟩ := h
      dsimp only at h
      split at h
      · rename_i hk
        exact zs_call F IH hz ztk hdg (Or.inl ⟨hk, rfl⟩) hI h hR kk
      · cases h
    | invokevirtual k =>
      replace h := Option.bind_eq_some_iff.mp h
      obtain ⟨⟨kind, M', na⟩, hz, h⟩ := h
      dsimp only at h
      split at h
      · rename_i hk
        exact zs_call F IH hz ztk hdg (Or.inr (Or.inl ⟨hk, rfl⟩)) hI h hR kk
      · cases h
    | invokespecial k =>
      replace h := Option.bind_eq_some_iff.mp h
      obtain ⟨⟨kind, M', na⟩, hz, h⟩ := h
      dsimp only at h
      split at h
      · rename_i hk
        exact zs_call F IH hz ztk hdg (Or.inr (Or.inr ⟨hk, rfl⟩)) hI h hR kk
      · cases h
    | ireturn =>
      exfalso
      simp only [zai] at h
      split at h
      · split at h <;> cases h
      · cases h
    | return_ =>
      exfalso
      simp only [zai] at h
      split at h <;> cases h
    | tableswitch a b c' o => exact absurd rfl ht
    | _ => cases h
def zNR (o : Option zR) : Prop := ∀ r, o ≠ some (.inr r)
theorem nr_none : zNR none := fun _ h => by cases h
theorem nr_nx {pc : Nat} {L st : List Value} {μ : Zm} : zNR (znx pc L st μ) := fun _ h => by cases h
theorem nr_bind {α : Type} {o : Option α} {f : α → Option zR} (h : ∀ x, zNR (f x)) : zNR (o.bind f) := by
  cases o with
  | none => exact nr_none
  | some x => exact h x
theorem nr_ite {c : Prop} {_ : Decidable c} {a b : Option zR} (ha : zNR a) (hb : zNR b) : zNR (if c then a else b) := by
  split
  · exact ha
  · exact hb
theorem nr_jp {pc : Nat} {off : Int} {k : Nat → Option zR} (h : ∀ t, zNR (k t)) : zNR (zjp pc off k) := by
  unfold zjp
  exact nr_ite (h _) nr_none
theorem nr_1i {st : List Value} {k : Int32 → List Value → Option zR} (h : ∀ a r, zNR (k a r)) : zNR (z1i st k) := by
  unfold z1i
  split
  · exact h _ _
  · exact nr_none
theorem nr_2i {st : List Value} {k : Int32 → Int32 → List Value → Option zR} (h : ∀ a b r, zNR (k a b r)) : zNR (z2i st k) := by
  unfold z2i
  split
  · exact h _ _ _
  · exact nr_none
theorem nr_1l {st : List Value} {k : Int64 → List Value → Option zR} (h : ∀ a r, zNR (k a r)) : zNR (z1l st k) := by
  unfold z1l
  split
  · exact h _ _
  · exact nr_none
theorem nr_2l {st : List Value} {k : Int64 → Int64 → List Value → Option zR} (h : ∀ a b r, zNR (k a b r)) : zNR (z2l st k) := by
  unfold z2l
  split
  · exact h _ _ _
  · exact nr_none
theorem nr_li {st : List Value} {k : Int64 → Int32 → List Value → Option zR} (h : ∀ a b r, zNR (k a b r)) : zNR (zli st k) := by
  unfold zli
  split
  · exact h _ _ _
  · exact nr_none
theorem nr_1r {st : List Value} {k : Nat → List Value → Option zR} (h : ∀ a r, zNR (k a r)) : zNR (z1r st k) := by
  unfold z1r
  split
  · exact h _ _
  · exact nr_none
theorem nr_ir {st : List Value} {k : Int32 → Nat → List Value → Option zR} (h : ∀ a b r, zNR (k a b r)) : zNR (zir st k) := by
  unfold zir
  split
  · exact h _ _ _
  · exact nr_none
theorem nr_iir {st : List Value} {k : Int32 → Int32 → Nat → List Value → Option zR} (h : ∀ a b c r, zNR (k a b c r)) : zNR (ziir st k) := by
  unfold ziir
  split
  · exact h _ _ _ _
  · exact nr_none
theorem nr_rir {st : List Value} {k : Nat → Int32 → Nat → List Value → Option zR} (h : ∀ a b c r, zNR (k a b c r)) : zNR (zrir st k) := by
  unfold zrir
  split
  · exact h _ _ _ _
  · exact nr_none
theorem nr_vr {st : List Value} {k : Value → Nat → List Value → Option zR} (h : ∀ a b r, zNR (k a b r)) : zNR (zvr st k) := by
  unfold zvr
  split
  · exact h _ _ _
  · exact nr_none
theorem nr_call {call : ZI → List Value → Zm → Option (Option Value × Zm)} {k n : Nat} {M' : ZI} {av rest : List Value} {pc : Nat} {L : List Value} {μ : Zm} : zNR (zcall ph call k M' n av rest pc L μ) := by
  unfold zcall
  repeat' first
    | exact nr_none
    | exact nr_nx
    | refine nr_ite ?_ ?_
    | refine nr_bind (fun _ => ?_)
    | split
theorem nr_all {call : ZI → List Value → Zm → Option (Option Value × Zm)} {i : Instr} (h1 : i ≠ .ireturn) (h2 : i ≠ .return_) : zNR (zai ph call M i pc L st μ) := by
  cases i <;> first
    | exact absurd rfl h1
    | exact absurd rfl h2
    | exact nr_none
    | (simp only [zai]
       repeat' first
        | exact nr_none
        | exact nr_nx
        | exact nr_call
        | refine nr_jp (fun _ => ?_)
        | refine nr_1i (fun _ _ => ?_)
        | refine nr_2i (fun _ _ _ => ?_)
        | refine nr_1l (fun _ _ => ?_)
        | refine nr_2l (fun _ _ _ => ?_)
        | refine nr_li (fun _ _ _ => ?_)
        | refine nr_1r (fun _ _ => ?_)
        | refine nr_ir (fun _ _ _ => ?_)
        | refine nr_iir (fun _ _ _ _ => ?_)
        | refine nr_rir (fun _ _ _ _ => ?_)
        | refine nr_vr (fun _ _ _ => ?_)
        | refine nr_ite ?_ ?_
        | refine nr_bind (fun _ => ?_)
        | split)
theorem zss_le {ph : Bool} {call : ZI → List Value → Zm → Option (Option Value × Zm)} {M : ZI} : ∀ (n pc : Nat) (L st : List Value) (μ : Zm) (r : Option Value × Zm), zss ph call M n pc L st μ = some r → zsz ph μ ≤ zsz ph r.2
  | 0, _, _, _, _, _, h => by cases h
  | n + 1, pc, L, st, μ, r, h => by
    unfold zss at h
    split at h
    · split at h
      · exact Nat.le_trans (by assumption) (zss_le n _ _ _ _ r h)
      · cases h
    · split at h
      · cases h; assumption
      · cases h
    · cases h
/-- what a method's end wants -/
def zEnd (p : Program) (l : Launch) (e : Env) (R : Room) (s : State) (m : MethodId) (args : Array Value) (below : List Frame) (meth : Method) (c : Code) (Q : State → Prop) (M : ZI) (E : zE) (ph : Bool) (n0 s0 : Nat) (r : Option Value × Zm) : Prop :=
  ∀ (pc : Nat) (L : List Value) (ls : Array Slot) (H : Heap) (locs : List Loc) (cells slots : Nat), zInv E ph M n0 s0 r.2 L s ls H locs cells slots →
    ((∃ (x : Int32) (ty : FieldType), r.1 = some (.int x) ∧ M.2.2.2.1 = some ty ∧ zok ty x = true ∧ decode M.2.1 pc = .ok (.ireturn, 1)) → W p l e R s m args below meth c H locs cells slots Q (F0 m pc ls ((r.1.map (zcv E)).toList)))
    ∧ (r.1 = none ∧ M.2.2.2.1 = none ∧ decode M.2.1 pc = .ok (.return_, 1) → W p l e R s m args below meth c H locs cells slots Q (F0 m pc ls []))
/-- the walk -/
theorem zwalk (F : zFx p R s m args meth c M E d) (IH : zSat l E ph d) {r : Option Value × Zm} (hR : zsz ph r.2 ≤ R.cells + n0 ∧ zsm (zsz ph r.2) ≤ R.slots + s0) (hend : zEnd p l e R s m args below meth c Q M E ph n0 s0 r) :
    ∀ (n pc : Nat) (L st : List Value) (μ : Zm) (ls : Array Slot) (H : Heap) (locs : List Loc) (cells slots : Nat), zss ph (zC ph d) M n pc L st μ = some r → zInv E ph M n0 s0 μ L s ls H locs cells slots → W p l e R s m args below meth c H locs cells slots Q (F0 m pc ls (st.map (zcv E)))
  | 0, _, _, _, _, _, _, _, _, _, h, _ => by cases h
  | n + 1, pc, L, st, μ, ls, H, locs, cells, slots, h, hI => by
    unfold zss at h
    split at h
    · rename_i q hq
      split at h
      · have hle := zss_le n _ _ _ _ r h
        unfold zs1 at hq
        split at hq
        · rename_i i k hdg
          split at hq
          · rename_i hn
            have hm := zsm_mono hle
            exact zstep F IH hdg hn hI hq ⟨by omega, by omega⟩ (fun ls' H' locs' cells' slots' hI' => zwalk F IH hR hend n _ _ _ _ ls' H' locs' cells' slots' h hI')
          · cases hq
        · cases hq
      · cases h
    · rename_i r' hq
      split at h
      · cases h
        unfold zs1 at hq
        split at hq
        · rename_i i k hdg
          split at hq
          · rename_i hn
            cases i with
            | ireturn =>
              have hk : k = 1 := by simpa [zil, zisT] using hn
              subst hk
              simp only [zai] at hq
              split at hq
              · rename_i x ty hty
                split at hq
                · rename_i hok
                  cases hq
                  exact (hend pc L ls H locs cells slots hI).1 ⟨x, ty, rfl, hty, hok, hdg⟩
                · cases hq
              · cases hq
            | return_ =>
              have hk : k = 1 := by simpa [zil, zisT] using hn
              subst hk
              simp only [zai] at hq
              split at hq
              · rename_i hty
                cases hq
                exact (hend pc L ls H locs cells slots hI).2 ⟨rfl, hty, hdg⟩
              · cases hq
            | _ => exact absurd hq (nr_all (fun q => by cases q) (fun q => by cases q) r)
          · cases hq
        · cases hq
      · cases h
    · cases h
end ZX
theorem zlim_some {α : Type} {f : Nat → Option α} {r : α} (h : zlim f = some r) : ∃ n, f n = some r := by
  unfold zlim at h
  by_cases hx : ∃ r, ∃ n, f n = some r
  · rw [dif_pos hx] at h
    cases h
    exact Classical.choose_spec hx
  · rw [dif_neg hx] at h
    cases h
theorem zen_args {E : zE} {U : State} (hG : zGs E U) : ∀ (av : List Value) (pre : List Value) (k : Nat) (q : Nat × Value), (∀ v, v ∈ av → v ≠ zjk) → pre.length ≤ q.1 →
    q ∈ zlv E (pre ++ (av.flatMap (fun v => if v.category = 2 then [v, zjk] else [v])) ++ List.replicate k zjk) → q ∈ lv_args pre.length (av.map (zcv E))
  | [], pre, k, q, _, hq, h => by
    exfalso
    obtain ⟨v, h1, h2, -⟩ := zlv_mem.mp h
    rw [List.flatMap_nil, List.append_nil, List.getElem?_append_right hq] at h1
    have := List.eq_of_mem_replicate (List.mem_of_getElem? h1)
    exact h2 this
  | v :: av, pre, k, q, hj, hq, h => by
    rw [List.map_cons]
    unfold lv_args
    rw [zcv_cat hG]
    by_cases hc : v.category = 2
    · rw [if_pos hc]
      rw [List.flatMap_cons, if_pos hc] at h
      have h' : q ∈ zlv E ((pre ++ [v, zjk]) ++ (av.flatMap (fun v => if v.category = 2 then [v, zjk] else [v])) ++ List.replicate k zjk) := by simpa using h
      by_cases hq0 : q.1 = pre.length
      · obtain ⟨w, h1, h2, h3, h4⟩ := zlv_mem.mp h'
        rw [hq0] at h1
        simp at h1
        subst h1
        obtain ⟨a, b⟩ := q
        dsimp only at hq0 h4
        subst hq0; subst h4
        exact List.mem_cons_self
      · by_cases hq1 : q.1 = pre.length + 1
        · exfalso
          obtain ⟨w, h1, h2, h3, h4⟩ := zlv_mem.mp h'
          rw [hq1] at h1
          rw [List.append_assoc, List.append_assoc, List.getElem?_append_right (by omega), show pre.length + 1 - pre.length = 1 by omega] at h1
          simp at h1
          exact h2 h1.symm
        · have := zen_args hG av (pre ++ [v, zjk]) k q (fun v hv => hj v (List.mem_cons_of_mem _ hv)) (by rw [List.length_append]; show pre.length + 2 ≤ q.1; omega) h'
          rw [List.length_append] at this
          exact List.mem_cons_of_mem _ this
    · rw [if_neg hc]
      rw [List.flatMap_cons, if_neg hc] at h
      have h' : q ∈ zlv E ((pre ++ [v]) ++ (av.flatMap (fun v => if v.category = 2 then [v, zjk] else [v])) ++ List.replicate k zjk) := by simpa using h
      by_cases hq0 : q.1 = pre.length
      · obtain ⟨w, h1, h2, h3, h4⟩ := zlv_mem.mp h'
        rw [hq0] at h1
        simp at h1
        subst h1
        obtain ⟨a, b⟩ := q
        dsimp only at hq0 h4
        subst hq0; subst h4
        exact List.mem_cons_self
      · have := zen_args hG av (pre ++ [v]) k q (fun v hv => hj v (List.mem_cons_of_mem _ hv)) (by rw [List.length_append]; show pre.length + 1 ≤ q.1; omega) h'
        rw [List.length_append] at this
        exact List.mem_cons_of_mem _ this
theorem zlen_sl {E : zE} {U : State} (hG : zGs E U) : ∀ av : List Value, (lg_sl (av.map (zcv E))).length = (av.flatMap (fun v => if v.category = 2 then [v, zjk] else [v])).length
  | [] => rfl
  | v :: av => by
    have ih := zlen_sl hG av
    unfold lg_sl at ih ⊢
    rw [List.map_cons, List.flatMap_cons, List.flatMap_cons, List.length_append, List.length_append, ih, zcv_cat hG]
    by_cases h : v.category = 2
    · rw [if_pos h, if_pos h]; rfl
    · rw [if_neg h, if_neg h]; rfl
/-- SOUNDNESS: what the abstract machine answers, the method answers -/
theorem zsound (l : Launch) (E : zE) (ph : Bool) : ∀ d, zSat l E ph d
  | 0 => fun M av μ r _ h _ => by cases h
  | d + 1 => by
    intro M av μ r hPl h hle
    have IH := zsound l E ph d
    obtain ⟨hpn, hon, hcd⟩ := hPl
    obtain ⟨n, hn⟩ := zlim_some h
    split at hn
    · rename_i hlen
      unfold zgd at hlen
      rw [Bool.and_eq_true, decide_eq_true_eq] at hlen
      obtain ⟨hlen, hgd⟩ := hlen
      refine Met.ofW (cc := M.2.1) (maxL := M.2.2.1) (ret := M.2.2.2.1) hpn rfl ?_
      intro p e s m args below meth c s₁ B hml hv
      obtain ⟨rfl, hG, hP, hsz, hold⟩ := hv
      have hts := atoms_spec (ws := zws M) B.pre
      have hown : s.vm.findClass (zon M.2.2.2.2) = some m.cls := by rw [hon]; exact findClass_of_methodNamed B.named
      rw [lg_entry_eq]
      have hcat := zlen_sl hG av
      have hl := lv_entry (av.map (zcv E)) (n := M.2.2.1) (by rw [hcat]; exact hlen)
      generalize hls : (lg_sl (av.map (zcv E)) ++ List.replicate (M.2.2.1 - (lg_sl (av.map (zcv E))).length) Slot.unset).toArray = ls at hl ⊢
      have hjk : ∀ v, v ∈ av → v ≠ zjk := fun v hv => of_decide_eq_true (List.all_eq_true.mp hgd v hv)
      have hI : zInv E ph M (zsz ph μ) (zsm (zsz ph μ)) μ (zen M.2.2.1 av) s ls s.heap [] 0 0 := ⟨lv_mono hl (fun q hq => by
        have := zen_args hG av [] (M.2.2.1 - (av.flatMap (fun v => if v.category = 2 then [v, zjk] else [v])).length) q hjk (Nat.zero_le _) (by
          rw [List.nil_append]
          exact hq)
        exact this), hP, hsz, va_S.rf, hold, by omega, by omega⟩
      have hRr : (headSpec (zws M) (zrm (d + 1) (zsz ph r.2 - zsz ph μ) (zsm (zsz ph r.2) - zsm (zsz ph μ)))).room = zrm (d + 1) (zsz ph r.2 - zsz ph μ) (zsm (zsz ph r.2) - zsm (zsz ph μ)) := rfl
      have hm := zsm_mono hle
      have F : zFx p (headSpec (zws M) (zrm (d + 1) (zsz ph r.2 - zsz ph μ) (zsm (zsz ph r.2) - zsm (zsz ph μ)))).room s m (av.map (zcv E)).toArray meth c M E d := ⟨B.exec, B.bytes, hml, hown, fun w hw => hts w (List.mem_cons_of_mem _ hw), hG, Or.inl (name_of_methodNamed B.named B.method).1, by rw [hRr]; show d + 2 ≤ d + 1 + 1; omega, by rw [hRr]; show 60 * (d + 2) ≤ 60 * (d + 1 + 1); omega⟩
      have hlocks := B.notSynchronized
      refine zwalk F IH (n0 := zsz ph μ) (s0 := zsm (zsz ph μ)) (r := r) ?_ ?_ n 0 (zen M.2.2.1 av) [] μ ls s.heap [] 0 0 hn hI
      · rw [hRr]
        exact ⟨by show _ ≤ zsz ph r.2 - zsz ph μ + zsz ph μ; omega, by show _ ≤ zsm (zsz ph r.2) - zsm (zsz ph μ) + zsm (zsz ph μ); omega⟩
      · intro pc L ls H locs cells slots hI
        obtain ⟨i1, i2, i3, i4, i5, i6, i7⟩ := hI
        have hc : cells = zsz ph r.2 - zsz ph μ := by omega
        have hs : slots = zsm (zsz ph r.2) - zsm (zsz ph μ) := by omega
        subst hc; subst hs
        have post : ∀ (t : State), t.heap = H → zQc E ph r (av.map (zcv E)).toArray s (.returned (r.1.map (zcv E))) t := fun t ht => ⟨rfl, by rw [ht]; exact i2, fun hp => by rw [ht]; exact i3 hp, by rw [ht]; exact i4.1, fun q hq => by rw [ht]; exact i4.2.1 q (Nat.lt_of_lt_of_le hq hG.2.1) (Nat.not_le.mpr hq), i5⟩
        refine ⟨?_, ?_⟩
        · rintro ⟨x, ty, hr1, hty, hok, hdg⟩
          rw [hr1]
          have hret : meth.sig.returnType = some ty := by rw [← hty]; exact B.returns
          refine W.zret (v := x) (ty := ty) B.exec B.bytes hret ?_ (fun t ht hW => ?_) i4.2.2 hdg
          · unfold zok at hok
            cases ty <;> simp only [decide_eq_true_eq] at hok <;> first | rfl | exact congrArg Value.int hok | cases hok
          · have := post t ht
            rw [hr1] at this
            exact this
        · rintro ⟨hr1, hty, hdg⟩
          have hret : meth.sig.returnType = none := by rw [← hty]; exact B.returns
          refine W.vret B.exec B.bytes hret (fun t ht hW => ?_) i4.2.2 hdg
          have := post t ht
          rw [hr1] at this
          exact this
    · cases hn
