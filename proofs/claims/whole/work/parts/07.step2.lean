/-! ===== steps that read and write the memory ===== -/
theorem zin_spec {i : Int32} {n : Nat} (h : zin i n = true) : vp_in i n := by
  unfold zin at h
  simp only [Bool.and_eq_true, Bool.not_eq_true', decide_eq_false_iff_not, decide_eq_true_eq] at h
  intro q
  rcases q with q | q
  · exact h.1 q
  · omega
theorem zsL_ok : zsL.all (fun e => e.1 == 2 && e.2.1 == zsx.getD e.2.2 0 && decide (e.2.2 < 8)) = true := by decide +kernel
theorem zstr_w : Cond.fieldLink "java/lang/String" 9 "java/lang/String" "value" "[B" ∈ lw_tbl ∧ Cond.fieldLink "java/lang/String" 15 "java/lang/String" "coder" "B" ∈ lw_tbl ∧ Cond.fieldLink "java/lang/String" 38 "java/lang/String" "COMPACT_STRINGS" "Z" ∈ lw_tbl ∧ Cond.fieldLink "java/lang/String" 1053 "jdk/internal/util/Preconditions" "SIOOBE_FORMATTER" "Ljava/util/function/BiFunction;" ∈ lw_tbl ∧ Cond.fieldLink "WoolTells" 275 "WoolTells" "NEAREST" "[I" ∈ lw_tbl ∧ Cond.fieldLink "WoolTells" 278 "WoolTells" "SIZE_BODIES" "[I" ∈ lw_tbl ∧ Cond.fieldLink "WoolTells" 285 "WoolTells" "MARK_BODIES" "[I" ∈ lw_tbl :=
  ⟨List.mem_of_getElem? (i := 1217) (by decide +kernel), List.mem_of_getElem? (i := 1218) (by decide +kernel), List.mem_of_getElem? (i := 445) (by decide +kernel), List.mem_of_getElem? (i := 461) (by decide +kernel), List.mem_of_getElem? (i := 765) (by decide +kernel), List.mem_of_getElem? (i := 775) (by decide +kernel), List.mem_of_getElem? (i := 784) (by decide +kernel)⟩
theorem zce_obj {E : zE} {ph : Bool} {μ : Zm} {c t : Nat} (h : (zsh c).1 = t) (ht : t < 8) : zce E ph μ c = .inr (t, (List.range (zcl t).2.2).map (fun k => zcv E (zsv ph μ t c k))) := by
  unfold zce
  rw [h, if_pos ht, zsh_obj h ht]
theorem zce_arr {E : zE} {ph : Bool} {μ : Zm} {c t : Nat} (h : (zsh c).1 = t) (h1 : ¬ t < 8) (h2 : t < 13) : zce E ph μ c = .inl (E.2.1 t, (zsh c).2, .inl (fun i => μ c i)) := by
  unfold zce
  rw [h, if_neg h1, if_pos h2]
theorem zce_ref {E : zE} {ph : Bool} {μ : Zm} {c t : Nat} (h : (zsh c).1 = t) (h1 : ¬ t < 8) (h2 : ¬ t < 13) : zce E ph μ c = .inl (E.2.1 t, (zsh c).2, .inr (.inr (.inr (.inr (fun i => (zrf ph μ t c i).map (fun k => E.2.2.1 + k)))))) := by
  unfold zce
  rw [h, if_neg h1, if_neg h2]
theorem zcv_rv {E : zE} {ph : Bool} {μ : Zm} {t c k : Nat} (h : ztg t c k < 1000) : zcv E (zrv (zrf ph μ t c k)) = va_rf ((zrf ph μ t c k).map (fun k => E.2.2.1 + k)) := by
  unfold zrf
  split
  · rfl
  · exact zcv_ref h
theorem zInv_wr {E : zE} {ph : Bool} {M : ZI} {n0 s0 : Nat} {μ μ' : Zm} {L : List Value} {s : State} {ls : Array Slot} {H H1 : Heap} {locs locs1 : List Loc} {cells slots c : Nat} (hI : zInv E ph M n0 s0 μ L s ls H locs cells slots) (hc : c < zsz ph μ) (h74 : c < 74) (hμ : ∀ c' k, c' ≠ c → μ' c' k = μ c' k)
    (hP : va_P E.1 vwCl ((zwl E ph μ).set c (E.2.2.1 + c, zce E ph μ' c)) H1) (hS : va_S (zAA E) s.heap H1 locs1) (hz : ph = false → H1.size = H.size) : zInv E ph M n0 s0 μ' L s ls H1 locs1 cells slots := by
  obtain ⟨i1, i2, i3, i4, i5, i6, i7⟩ := hI
  have hsz : zsz ph μ' = zsz ph μ := by unfold zsz; rw [hμ 999 0 (by omega)]
  refine ⟨i1, ?_, fun hp => ?_, hS, ⟨fun j hj => ?_, ?_⟩, ?_, ?_⟩
  · rw [← zwl_set hsz hc (fun c' hc' _ k => (hμ c' k hc').symm)]
    exact hP
  · rw [hz hp, i3 hp, hsz]
  · rw [hμ 2000 j (by omega)]; exact i5.1 j hj
  · rw [hμ 2100 0 (by omega)]; exact i5.2
  · rw [hsz]; exact i6
  · rw [hsz]; exact i7
section ZT
variable {p : Program} {l : Launch} {e : Env} {R : Room} {s : State} {m : MethodId} {args : Array Value} {below : List Frame} {meth : Method} {c : Code} {H : Heap} {locs : List Loc} {cells slots : Nat} {Q : State → Prop} {M : ZI} {E : zE} {d n0 s0 pc : Nat} {ph : Bool} {L st : List Value} {μ : Zm} {ls : Array Slot} {q : Nat × List Value × List Value × Zm} {call : ZI → List Value → Zm → Option (Option Value × Zm)}
theorem zs_ldc {k : Nat} (F : zFx p R s m args meth c M E d) (hdg : decode M.2.1 pc = .ok (.ldc k, 2)) (hI : zInv E ph M n0 s0 μ L s ls H locs cells slots) (h : zai ph call M (.ldc k) pc L st μ = some (.inl q)) (kk : zKK p l e R s m args below meth c Q M E ph n0 s0 q) : W p l e R s m args below meth c H locs cells slots Q (F0 m pc ls (st.map (zcv E))) := by
  obtain ⟨hx, hb, hml, hown, hts, hG, hnm, hfr, hlo⟩ := F
  simp only [zai] at h
  split at h
  · rename_i v hv
    cases znx_some h
    exact lv_ldc hx hb hown (hts _ (zG_mem (zk_mem _ (zf2_mem hv) _ List.mem_cons_self) rfl)) hdg (kk _ _ _ _ _ hI)
  · replace h := Option.bind_eq_some_iff.mp h
    obtain ⟨j, hj, h⟩ := h
    cases znx_some h
    have h1 := List.all_eq_true.mp zsL_ok _ (zf2_mem hj)
    simp only [Bool.and_eq_true, beq_iff_eq, decide_eq_true_eq] at h1
    obtain ⟨⟨h1, h2⟩, h3⟩ := h1
    have hR := hG.2.2.2.2.2.2.2.1 j h3
    rw [h1] at hown
    have kk : W p l e R s m args below meth c H locs cells slots Q (F0 m (pc + 2) ls (zcv E (.ref (2010 + j)) :: st.map (zcv E))) := kk _ _ _ _ _ hI
    rw [zcv_r, show zad E (2010 + j) = E.2.2.2.1 (2010 + j) from if_neg (by omega)] at kk
    rw [← h2] at hR
    exact va_ldcS hx hb hown hR hdg kk
theorem zs_ldc_w {k : Nat} (F : zFx p R s m args meth c M E d) (hdg : decode M.2.1 pc = .ok (.ldc_w k, 3)) (hI : zInv E ph M n0 s0 μ L s ls H locs cells slots) (h : zai ph call M (.ldc_w k) pc L st μ = some (.inl q)) (kk : zKK p l e R s m args below meth c Q M E ph n0 s0 q) : W p l e R s m args below meth c H locs cells slots Q (F0 m pc ls (st.map (zcv E))) := by
  obtain ⟨hx, hb, hml, hown, hts, hG, hnm, hfr, hlo⟩ := F
  replace h := Option.bind_eq_some_iff.mp h
  obtain ⟨v, hv, h⟩ := h
  cases znx_some h
  exact lv_ldcw hx hb hown (hts _ (zG_mem (zk_mem _ (zf2_mem hv) _ List.mem_cons_self) rfl)) hdg (kk _ _ _ _ _ hI)
theorem zs_ldc2_w {k : Nat} (F : zFx p R s m args meth c M E d) (hdg : decode M.2.1 pc = .ok (.ldc2_w k, 3)) (hI : zInv E ph M n0 s0 μ L s ls H locs cells slots) (h : zai ph call M (.ldc2_w k) pc L st μ = some (.inl q)) (kk : zKK p l e R s m args below meth c Q M E ph n0 s0 q) : W p l e R s m args below meth c H locs cells slots Q (F0 m pc ls (st.map (zcv E))) := by
  obtain ⟨hx, hb, hml, hown, hts, hG, hnm, hfr, hlo⟩ := F
  replace h := Option.bind_eq_some_iff.mp h
  obtain ⟨v, hv, h⟩ := h
  cases znx_some h
  exact lv_ldc2 hx hb hown (hts _ (zG_mem (zl_mem _ (zf2_mem hv) _ List.mem_cons_self) rfl)) hdg (kk _ _ _ _ _ hI)
theorem zs_getstatic {k : Nat} (F : zFx p R s m args meth c M E d) (hdg : decode M.2.1 pc = .ok (.getstatic k, 3)) (hI : zInv E ph M n0 s0 μ L s ls H locs cells slots) (h : zai ph call M (.getstatic k) pc L st μ = some (.inl q)) (kk : zKK p l e R s m args below meth c Q M E ph n0 s0 q) : W p l e R s m args below meth c H locs cells slots Q (F0 m pc ls (st.map (zcv E))) := by
  obtain ⟨hx, hb, hml, hown, hts, hG, hnm, hfr, hlo⟩ := F
  replace h := Option.bind_eq_some_iff.mp h
  obtain ⟨v, hv, h⟩ := h
  cases znx_some h
  have kk : W p l e R s m args below meth c H locs cells slots Q (F0 m (pc + 3) ls (zcv E v :: st.map (zcv E))) := kk _ _ _ _ _ hI
  have hS := hI.2.2.2.1
  unfold zgs at hv
  split at hv
  · rename_i ho
    rw [ho] at hown
    split at hv
    · rename_i hk
      cases hv
      subst hk
      exact va_gets hx hb hG.2.2.2.2.1 hS hown (hts _ (zG_mem zstr_w.2.2.1 rfl)) (fun _ h9 => h9) hdg kk
    · split at hv
      · rename_i hk
        cases hv
        subst hk
        exact va_gets hx hb hG.2.2.2.2.2.1 hS hown (hts _ (zG_mem zstr_w.2.2.2.1 rfl)) (fun _ h9 => h9) hdg kk
      · cases hv
  · split at hv
    · rename_i ho
      rw [ho] at hown
      split at hv
      · rename_i hk
        cases hv
        subst hk
        exact va_gets hx hb (hG.2.2.2.1 0 (by omega)).1 hS hown (hts _ (zG_mem zstr_w.2.2.2.2.1 rfl)) (fun _ h9 => h9) hdg kk
      · split at hv
        · rename_i hk
          cases hv
          subst hk
          exact va_gets hx hb (hG.2.2.2.1 1 (by omega)).1 hS hown (hts _ (zG_mem zstr_w.2.2.2.2.2.1 rfl)) (fun _ h9 => h9) hdg kk
        · split at hv
          · rename_i hk
            cases hv
            subst hk
            exact va_gets hx hb (hG.2.2.2.1 2 (by omega)).1 hS hown (hts _ (zG_mem zstr_w.2.2.2.2.2.2 rfl)) (fun _ h9 => h9) hdg kk
          · cases hv
    · cases hv
theorem zs_getfield {k : Nat} (F : zFx p R s m args meth c M E d) (hdg : decode M.2.1 pc = .ok (.getfield k, 3)) (hI : zInv E ph M n0 s0 μ L s ls H locs cells slots) (h : zai ph call M (.getfield k) pc L st μ = some (.inl q)) (kk : zKK p l e R s m args below meth c Q M E ph n0 s0 q) : W p l e R s m args below meth c H locs cells slots Q (F0 m pc ls (st.map (zcv E))) := by
  obtain ⟨hx, hb, hml, hown, hts, hG, hnm, hfr, hlo⟩ := F
  have hS := hI.2.2.2.1
  replace h := z1r_some h
  obtain ⟨x, r, rfl, h⟩ := h
  split at h
  · rename_i t f nest hz
    split at h
    · rename_i hob
      cases znx_some h
      obtain ⟨hsh, hsz⟩ := zob_spec hob
      have hfq := List.all_eq_true.mp zf_q _ (zf2_mem hz)
      simp only [zfq, Bool.and_eq_true, decide_eq_true_eq] at hfq
      have hkc := zkc_of hfq.1 hfq.2
      simp only [zkc, Bool.and_eq_true, beq_iff_eq, decide_eq_true_eq] at hkc
      have hw := zf_mem _ (zf2_mem hz) _ List.mem_cons_self
      have h74 : x < 74 := zsh_lt (by omega)
      have kk : W p l e R s m args below meth c H locs cells slots Q (F0 m (pc + 3) ls (zcv E (zsv ph μ t x f) :: r.map (zcv E))) := kk _ _ _ _ _ hI
      rw [List.map_cons, zcv_ref (by omega)]
      have he : (zwl E ph μ)[x]? = some (E.2.2.1 + x, .inr (t, (List.range (zcl t).2.2).map (fun k => zcv E (zsv ph μ t x k)))) := by rw [zwl_get hsz, zce_obj hsh hfq.1]
      have hv : ((List.range (zcl t).2.2).map (fun k => zcv E (zsv ph μ t x k)))[f]? = some (zcv E (zsv ph μ t x f)) := by rw [List.getElem?_map, List.getElem?_range hfq.2]; rfl
      simp only at hw
      have hsame : ∀ y, s.fieldFound? ((zcl t).2.1 f).1 ((zcl t).2.1 f).2.1 ((zcl t).2.1 f).2.2.1 = some y → s.fieldFound? (zon t) ((zcl t).2.1 f).2.1 ((zcl t).2.1 f).2.2.1 = some y := fun y hy => by rw [← hkc.1.2]; exact hy
      by_cases hn : nest = 0
      · rw [if_pos hn] at hw
        exact va_get (C := (zcl t).1) (T := (zcl t).2.1) (N := (zcl t).2.2) hx hb hts (zu_in hfq.1) hown hG.1 hI.2.1 x he (zcl_get hfq.1) f hfq.2 (hts _ (zG_mem hw rfl)) hsame hv hdg kk
      · rw [if_neg hn] at hw
        exact va_getN (C := (zcl t).1) (T := (zcl t).2.1) (N := (zcl t).2.2) hx hb hts (zu_in hfq.1) hown hG.1 hI.2.1 x he (zcl_get hfq.1) f hfq.2 ((hG.2.2.2.2.2.2.2.2.2.2.2.1 _ (zf2_mem hz) hn).use rfl) hsame hv hdg kk
    · cases h
  · replace h := Option.bind_eq_some_iff.mp h
    obtain ⟨f, hf, h⟩ := h
    split at h
    · rename_i hc
      cases znx_some h
      have kk : W p l e R s m args below meth c H locs cells slots Q (F0 m (pc + 3) ls (zcv E (if f = 0 then .ref (x + 10) else .int 0) :: r.map (zcv E))) := kk _ _ _ _ _ hI
      obtain ⟨i, hi, rfl⟩ : ∃ i, i < 8 ∧ x = 2010 + i := ⟨x - 2010, by omega, by omega⟩
      have hstr := hG.2.2.2.2.2.2.1.1 i hi
      rw [List.map_cons, zcv_r, show zad E (2010 + i) = E.2.2.2.1 (2010 + i) from if_neg (by omega)]
      unfold ztf at hf
      split at hf
      · rename_i ho
        rw [ho] at hown
        split at hf
        · rename_i hk
          cases hf
          subst hk
          rw [if_pos rfl, zcv_r, show zad E (2010 + i + 10) = E.2.2.2.1 (2020 + i) from by unfold zad; rw [if_neg (by omega), show 2010 + i + 10 = 2020 + i by omega]] at kk
          exact vk_getf hx hb hstr.2.2.1 hS hown (hts _ (zG_mem zstr_w.1 rfl)) (fun _ h9 => h9) hdg kk
        · split at hf
          · rename_i hk
            cases hf
            subst hk
            rw [if_neg (by omega)] at kk
            exact vk_getf hx hb hstr.2.1 hS hown (hts _ (zG_mem zstr_w.2.1 rfl)) (fun _ h9 => h9) hdg kk
          · cases hf
      · cases hf
    · cases h
theorem zs_arraylength (F : zFx p R s m args meth c M E d) (hdg : decode M.2.1 pc = .ok (.arraylength, 1)) (hI : zInv E ph M n0 s0 μ L s ls H locs cells slots) (h : zai ph call M .arraylength pc L st μ = some (.inl q)) (kk : zKK p l e R s m args below meth c Q M E ph n0 s0 q) : W p l e R s m args below meth c H locs cells slots Q (F0 m pc ls (st.map (zcv E))) := by
  obtain ⟨hx, hb, hml, hown, hts, hG, hnm, hfr, hlo⟩ := F
  have hS := hI.2.2.2.1
  replace h := z1r_some h
  obtain ⟨x, r, rfl, h⟩ := h
  replace h := Option.bind_eq_some_iff.mp h
  obtain ⟨n, hn, h⟩ := h
  cases znx_some h
  have kk : W p l e R s m args below meth c H locs cells slots Q (F0 m (pc + 1) ls (.int (Int32.ofNat n) :: r.map (zcv E))) := kk _ _ _ _ _ hI
  unfold zlen at hn
  split at hn
  · rename_i h1
    cases hn
    rw [List.map_cons, zcv_ref (by omega)]
    obtain ⟨-, h15, -, -⟩ := zsh_small h1.2.2
    have hg := zwl_get (E := E) h1.2.1
    by_cases h13 : (zsh x).1 < 13
    · rw [zce_arr rfl (by omega) h13] at hg
      by_cases h10 : (zsh x).1 = 10
      · exact va_alen hx hb hG.1 hI.2.1 x 0 hg (ty := .int) (by rw [h10]; rfl) rfl hdg kk
      · by_cases h11 : (zsh x).1 = 11
        · exact va_alen hx hb hG.1 hI.2.1 x 1 hg (ty := .byte) (by rw [h11]; rfl) rfl hdg kk
        · exact va_alen hx hb hG.1 hI.2.1 x 2 hg (ty := .boolean) (by rw [show (zsh x).1 = 12 by omega]; rfl) rfl hdg kk
    · rw [zce_ref rfl (by omega) h13] at hg
      by_cases h10 : (zsh x).1 = 13
      · exact va_alen hx hb hG.1 hI.2.1 x 3 hg (ty := .object "WoolTells$Row") (by rw [h10]; rfl) rfl hdg kk
      · exact va_alen hx hb hG.1 hI.2.1 x 4 hg (ty := .object "WoolTells$Valley") (by rw [show (zsh x).1 = 14 by omega]; rfl) rfl hdg kk
  · split at hn
    · rename_i h1
      subst h1
      split at hn
      · rename_i hl3
        cases hn
        rw [List.map_cons, zcv_r, show zad E 2000 = E.2.2.2.1 2000 from if_neg (by omega)]
        have hL := hG.2.2.2.2.2.2.2.2.2.2.1
        rw [hI.2.2.2.2.1.2, nI_clamp (by omega)] at kk hl3
        exact va_slen hx hb (hG.2.2.2.2.2.2.2.2.1 hl3) (Nat.lt_of_lt_of_le hG.2.2.2.2.2.2.2.2.2.1 hG.2.1) (Nat.not_le.mpr hG.2.2.2.2.2.2.2.2.2.1) hS hdg kk
      · cases hn
    · split at hn
      · rename_i h1
        cases hn
        obtain ⟨i, hi, rfl⟩ : ∃ i, i < 3 ∧ x = 2001 + i := ⟨x - 2001, by omega, by omega⟩
        rw [List.map_cons, zcv_r, show zad E (2001 + i) = E.2.2.2.1 (2001 + i) from if_neg (by omega)]
        exact va_tlen hx hb (hG.2.2.2.1 i hi).2 hS rfl hdg kk
      · split at hn
        · rename_i h1
          replace hn := Option.some.inj hn
          subst hn
          obtain ⟨i, hi, rfl⟩ : ∃ i, i < 8 ∧ x = 2020 + i := ⟨x - 2020, by omega, by omega⟩
          rw [List.map_cons, zcv_r, show zad E (2020 + i) = E.2.2.2.1 (2020 + i) from if_neg (by omega)]
          rw [show 2020 + i - 2020 = i by omega] at kk
          exact va_tlen hx hb (hG.2.2.2.2.2.2.1.1 i hi).2.2.2 hS rfl hdg kk
        · cases hn
theorem zs_iaload (F : zFx p R s m args meth c M E d) (hdg : decode M.2.1 pc = .ok (.iaload, 1)) (hI : zInv E ph M n0 s0 μ L s ls H locs cells slots) (h : zai ph call M .iaload pc L st μ = some (.inl q)) (kk : zKK p l e R s m args below meth c Q M E ph n0 s0 q) : W p l e R s m args below meth c H locs cells slots Q (F0 m pc ls (st.map (zcv E))) := by
  obtain ⟨hx, hb, hml, hown, hts, hG, hnm, hfr, hlo⟩ := F
  have hS := hI.2.2.2.1
  replace h := zir_some h
  obtain ⟨j, x, r, rfl, h⟩ := h
  replace h := Option.bind_eq_some_iff.mp h
  obtain ⟨v, hv, h⟩ := h
  cases znx_some h
  have kk : W p l e R s m args below meth c H locs cells slots Q (F0 m (pc + 1) ls (.int v :: r.map (zcv E))) := kk _ _ _ _ _ hI
  show W p l e R s m args below meth c H locs cells slots Q (F0 m pc ls (.int j :: zcv E (.ref x) :: r.map (zcv E)))
  unfold zrdi at hv
  split at hv
  · rename_i hob
    split at hv
    · rename_i hin
      cases hv
      obtain ⟨hsh, hsz⟩ := zob_spec hob
      have hg := zwl_get (E := E) hsz
      rw [zce_arr hsh (by omega) (by omega)] at hg
      rw [zcv_ref (by have := zsh_lt (c := x) (by omega); omega)]
      exact va_iald hx hb hG.1 hI.2.1 x 0 hg rfl (zin_spec hin) hdg kk
    · cases hv
  · split at hv
    · rename_i h1
      subst h1
      split at hv
      · rename_i hin
        cases hv
        obtain ⟨hl3, hin⟩ := hin
        have hin := zin_spec hin
        have hL := hG.2.2.2.2.2.2.2.2.2.2.1
        rw [hI.2.2.2.2.1.2, nI_clamp (by omega)] at hin hl3
        rw [hI.2.2.2.2.1.1 _ (Nat.not_le.mp fun q => hin (Or.inr q))] at kk
        rw [zcv_r, show zad E 2000 = E.2.2.2.1 2000 from if_neg (by omega)]
        exact va_sld hx hb (hG.2.2.2.2.2.2.2.2.1 hl3) (Nat.lt_of_lt_of_le hG.2.2.2.2.2.2.2.2.2.1 hG.2.1) (Nat.not_le.mpr hG.2.2.2.2.2.2.2.2.2.1) hS hin hdg kk
      · cases hv
    · split at hv
      · rename_i h1
        split at hv
        · rename_i hin
          cases hv
          obtain ⟨i, hi, rfl⟩ : ∃ i, i < 3 ∧ x = 2001 + i := ⟨x - 2001, by omega, by omega⟩
          rw [zcv_r, show zad E (2001 + i) = E.2.2.2.1 (2001 + i) from if_neg (by omega)]
          exact va_ti hx hb (hG.2.2.2.1 i hi).2 hS (zin_spec hin) rfl hdg kk
        · cases hv
      · cases hv
theorem zs_baload (F : zFx p R s m args meth c M E d) (hdg : decode M.2.1 pc = .ok (.baload, 1)) (hI : zInv E ph M n0 s0 μ L s ls H locs cells slots) (h : zai ph call M .baload pc L st μ = some (.inl q)) (kk : zKK p l e R s m args below meth c Q M E ph n0 s0 q) : W p l e R s m args below meth c H locs cells slots Q (F0 m pc ls (st.map (zcv E))) := by
  obtain ⟨hx, hb, hml, hown, hts, hG, hnm, hfr, hlo⟩ := F
  have hS := hI.2.2.2.1
  replace h := zir_some h
  obtain ⟨j, x, r, rfl, h⟩ := h
  replace h := Option.bind_eq_some_iff.mp h
  obtain ⟨v, hv, h⟩ := h
  cases znx_some h
  have kk : W p l e R s m args below meth c H locs cells slots Q (F0 m (pc + 1) ls (.int v :: r.map (zcv E))) := kk _ _ _ _ _ hI
  show W p l e R s m args below meth c H locs cells slots Q (F0 m pc ls (.int j :: zcv E (.ref x) :: r.map (zcv E)))
  unfold zrdb at hv
  split at hv
  · rename_i hob
    split at hv
    · rename_i hin
      cases hv
      rcases (Bool.or_eq_true _ _ ▸ hob) with hob | hob
      · obtain ⟨hsh, hsz⟩ := zob_spec hob
        have hg := zwl_get (E := E) hsz
        rw [zce_arr hsh (by omega) (by omega)] at hg
        rw [zcv_ref (by have := zsh_lt (c := x) (by omega); omega)]
        exact va_bald hx hb hG.1 hI.2.1 x 1 hg rfl (zin_spec hin) hdg kk
      · obtain ⟨hsh, hsz⟩ := zob_spec hob
        have hg := zwl_get (E := E) hsz
        rw [zce_arr hsh (by omega) (by omega)] at hg
        rw [zcv_ref (by have := zsh_lt (c := x) (by omega); omega)]
        exact va_zald hx hb hG.1 hI.2.1 x 2 hg rfl (zin_spec hin) hdg kk
    · cases hv
  · split at hv
    · rename_i h1
      split at hv
      · rename_i hin
        replace hv := Option.some.inj hv
        subst hv
        obtain ⟨i, hi, rfl⟩ : ∃ i, i < 8 ∧ x = 2020 + i := ⟨x - 2020, by omega, by omega⟩
        rw [show 2020 + i - 2020 = i by omega] at hin kk
        rw [zcv_r, show zad E (2020 + i) = E.2.2.2.1 (2020 + i) from if_neg (by omega)]
        exact va_tb hx hb (hG.2.2.2.2.2.2.1.1 i hi).2.2.2 hS (zin_spec hin) rfl hdg kk
      · cases hv
    · cases hv
theorem zs_aaload (F : zFx p R s m args meth c M E d) (hdg : decode M.2.1 pc = .ok (.aaload, 1)) (hI : zInv E ph M n0 s0 μ L s ls H locs cells slots) (h : zai ph call M .aaload pc L st μ = some (.inl q)) (kk : zKK p l e R s m args below meth c Q M E ph n0 s0 q) : W p l e R s m args below meth c H locs cells slots Q (F0 m pc ls (st.map (zcv E))) := by
  obtain ⟨hx, hb, hml, hown, hts, hG, hnm, hfr, hlo⟩ := F
  have hS := hI.2.2.2.1
  replace h := zir_some h
  obtain ⟨j, x, r, rfl, h⟩ := h
  split at h
  · rename_i hc
    cases znx_some h
    rw [Bool.and_eq_true, Bool.or_eq_true] at hc
    have hin := zin_spec hc.2
    have kk : W p l e R s m args below meth c H locs cells slots Q (F0 m (pc + 1) ls (zcv E (zrv (zrf ph μ (zsh x).1 x j.toNatClampNeg)) :: r.map (zcv E))) := kk _ _ _ _ _ hI
    show W p l e R s m args below meth c H locs cells slots Q (F0 m pc ls (.int j :: zcv E (.ref x) :: r.map (zcv E)))
    rcases hc.1 with hob | hob
    · obtain ⟨hsh, hsz⟩ := zob_spec hob
      have h74 := zsh_lt (c := x) (by omega)
      have hg := zwl_get (E := E) hsz
      rw [zce_ref hsh (by omega) (by omega)] at hg
      rw [zcv_ref (by omega)]
      have hlt : j.toNatClampNeg < (zsh x).2 := Nat.not_le.mp fun q => hin (Or.inr q)
      have h8 := (zsh_small h74).2.2.1 (by omega)
      rw [zcv_rv (ztg_lt h74 (by omega)), hsh] at kk
      exact va_aldq hx hb hG.1 hI.2.1 x 3 hg rfl hin hdg kk
    · obtain ⟨hsh, hsz⟩ := zob_spec hob
      have h74 := zsh_lt (c := x) (by omega)
      have hg := zwl_get (E := E) hsz
      rw [zce_ref hsh (by omega) (by omega)] at hg
      rw [zcv_ref (by omega)]
      have hlt : j.toNatClampNeg < (zsh x).2 := Nat.not_le.mp fun q => hin (Or.inr q)
      have h8 := (zsh_small h74).2.2.1 (by omega)
      rw [zcv_rv (ztg_lt h74 (by omega)), hsh] at kk
      exact va_aldq hx hb hG.1 hI.2.1 x 4 hg rfl hin hdg kk
  · cases h
end ZT
