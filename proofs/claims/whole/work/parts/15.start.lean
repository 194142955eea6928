/-! ===== the start: what the Statement gives of it, as a world of the abstract machine ===== -/
def zNW : List Jvm.Cond := flatC (Jvm.Cond.and given_1 narrow_1)
def ztm (i : Nat) : Term := .string "WoolTells$Reader" (zsx.getD i 0)
def zsta (i : Nat) : Term := .static "WoolTells" (["NEAREST", "SIZE_BODIES", "MARK_BODIES"].getD i "") "[I"
set_option maxRecDepth 100000 in
theorem zw_str : ((List.range 8).all fun i => decide (Cond.exactly (ztm i) "java/lang/String" ∈ zNW) && decide (Cond.eq (.field (ztm i) "java/lang/String" "coder" "B") (.int 0) ∈ zNW) && decide (Cond.arrayOf (.field (ztm i) "java/lang/String" "value" "[B") .byte ∈ zNW) && decide (Cond.eq (.length (.field (ztm i) "java/lang/String" "value" "[B")) (.int (Int32.ofNat (zsn.getD i 0))) ∈ zNW)
  && ((List.range (zsn.getD i 0)).all fun j => decide (Cond.eq (.elem (.field (ztm i) "java/lang/String" "value" "[B") (.int (Int32.ofNat j))) (.int ((zsb.getD i []).getD j 0)) ∈ zNW)) && decide (Cond.stringRef "WoolTells$Reader" (zsx.getD i 0) (ztx.getD i "") ∈ lw_tbl)) = true := by decide +kernel
set_option maxRecDepth 100000 in
theorem zw_apart : ((List.range 8).all fun i => (List.range 8).all fun j => if i = j then true else decide (Cond.not (Cond.eq (ztm i) (ztm j)) ∈ zNW) || decide (Cond.not (Cond.eq (ztm j) (ztm i)) ∈ zNW)) = true := by decide +kernel
set_option maxRecDepth 100000 in
theorem zw_sta : ((List.range 3).all fun i => decide (Cond.arrayOf (zsta i) .int ∈ zNW) && decide (Cond.eq (.length (zsta i)) (.int (Int32.ofNat 6)) ∈ zNW) && ((List.range 6).all fun j => decide (Cond.eq (.elem (zsta i) (.int (Int32.ofNat j))) (.int (zst (2001 + i) j)) ∈ zNW)) && decide (Cond.laysStatic "WoolTells" (["NEAREST", "SIZE_BODIES", "MARK_BODIES"].getD i "") "[I" ∈ lw_tbl)) = true := by decide +kernel
set_option maxRecDepth 100000 in
theorem zw_misc : Cond.eq (.static "java/lang/String" "COMPACT_STRINGS" "Z") (.int 1) ∈ zNW ∧ Cond.isRef (.static "jdk/internal/util/Preconditions" "SIOOBE_FORMATTER" "Ljava/util/function/BiFunction;") ∈ zNW ∧ Cond.laysStatic "java/lang/String" "COMPACT_STRINGS" "Z" ∈ lw_tbl ∧ Cond.laysStatic "jdk/internal/util/Preconditions" "SIOOBE_FORMATTER" "Ljava/util/function/BiFunction;" ∈ lw_tbl ∧ Cond.initialized "java/lang/String" ∈ lw_tbl ∧ Cond.initialized "jdk/internal/util/Preconditions" ∈ lw_tbl ∧ Cond.initialized "WoolTells" ∈ lw_tbl ∧ Cond.arrayOver (.object "WoolTells$Row") ∈ lw_tbl ∧ Cond.arrayOver (.object "WoolTells$Valley") ∈ lw_tbl := by
  refine ⟨by decide +kernel, by decide +kernel, List.mem_of_getElem? (i := 446) (by decide +kernel), List.mem_of_getElem? (i := 462) (by decide +kernel), List.mem_of_getElem? (i := 111) (by decide +kernel), List.mem_of_getElem? (i := 113) (by decide +kernel), List.mem_of_getElem? (i := 102) (by decide +kernel), List.mem_of_getElem? (i := 126) (by decide +kernel), List.mem_of_getElem? (i := 239) (by decide +kernel)⟩
theorem zw_inst : ((List.range 8).all fun t => (List.range 40).any fun n => decide (Cond.instantiable (zcl t).1 n ∈ lw_tbl)) = true := by decide +kernel
theorem zGs_start {p : Program} {s : State} {m : MethodId} {meth : Method} {c : Code} {b L : Nat} {xs : Nat → Int32} (C0 : lw_At p s m meth c b L xs) (hL : L ≤ 3072) :
    ∃ (D : va_G) (ca : Nat → ClassId) (oa : Nat → Nat) (fm : Value), oa 2000 = b ∧ zGs (D, ca, s.heap.size, oa, fm, 4000, fun _ => 0) s ∧ zGs (D, ca, s.heap.size, oa, fm, L, xs) s := by
  obtain ⟨hx, hb, hr, hml, hown, hts, hX, hbl, hlocks, hgv⟩ := C0
  have hnw : ∀ w ∈ zNW, w.before #[Value.ref b] s = true := flat_of_before _ hgv
  have hA : ∀ a : Nat, a < s.heap.size → ¬ (fun q => s.heap.size ≤ q) a := fun a h => Nat.not_le.mpr h
  -- classes
  have hcl : ∀ t : Nat, ∃ q : ClassId × (Nat → Nat), t < 8 → u_Kn s (zcl t).1 (zcl t).2.1 (zcl t).2.2 q.1 q.2 := by
    intro t
    by_cases ht : t < 8
    · have h1 := List.all_eq_true.mp zw_inst t (List.mem_range.mpr ht)
      obtain ⟨n, -, hn⟩ := List.any_eq_true.mp h1
      obtain ⟨cC, iS, h⟩ := u_known (n := n) (ws := zG) (fun w hw => hts w (List.mem_filter.mp hw).1) (zu_in ht) (hts _ (of_decide_eq_true hn))
      exact ⟨(cC, iS), fun _ => h⟩
    · exact ⟨(0, fun _ => 0), fun h => absurd h ht⟩
  obtain ⟨Df, hD⟩ := Classical.axiomOfChoice hcl
  -- arrays
  obtain ⟨aI, kI, coI, i1, i2, i3⟩ := Cond.arrayClass_spec (hts _ za_w.1)
  obtain ⟨aB, kB, coB, b1, b2, b3⟩ := Cond.arrayClass_spec (hts _ za_w.2.1)
  obtain ⟨aZ, kZ, coZ, z1, z2, z3⟩ := Cond.arrayClass_spec (hts _ za_w.2.2)
  have haoR : va_AO "WoolTells$Row" s := va_AO.of (hts _ zw_misc.2.2.2.2.2.2.2.1)
  have haoV : va_AO "WoolTells$Valley" s := va_AO.of (hts _ zw_misc.2.2.2.2.2.2.2.2)
  obtain ⟨coR, aR, kR, r1, -, r3, r4, r5⟩ := Cond.arrayOver_spec (hts _ zw_misc.2.2.2.2.2.2.2.1)
  obtain ⟨coV, aV, kV, v1, -, v3, v4, v5⟩ := Cond.arrayOver_spec (hts _ zw_misc.2.2.2.2.2.2.2.2)
  -- statics
  have hsta : ∀ i : Nat, ∃ t : Nat, i < 3 → (zsta i).eval #[Value.ref b] s none [] s = some (.ref t) ∧ va_T .int t 6 (fun j => .int (zst (2001 + i) j)) (fun q => s.heap.size ≤ q) s s.heap := by
    intro i
    by_cases hi : i < 3
    · have h1 := List.all_eq_true.mp zw_sta i (List.mem_range.mpr hi)
      simp only [Bool.and_eq_true, decide_eq_true_eq] at h1
      obtain ⟨⟨⟨h1, h2⟩, h3⟩, h4⟩ := h1
      obtain ⟨t, e, hT⟩ := va_Tof (f := fun j => .int (zst (2001 + i) j)) (by decide : 6 < 2 ^ 31) (hnw _ h1) (va_eqt (hnw _ h2)) (fun j hj => va_eqt (hnw _ (of_decide_eq_true (List.all_eq_true.mp h3 j (List.mem_range.mpr hj))))) hA
      exact ⟨t, fun _ => ⟨e, hT⟩⟩
    · exact ⟨0, fun h => absurd h hi⟩
  obtain ⟨sa, hsa⟩ := Classical.axiomOfChoice hsta
  have hfm : ∃ fm : Value, (fm = .null ∨ ∃ a, fm = .ref a) ∧ va_Z "jdk/internal/util/Preconditions" "SIOOBE_FORMATTER" "Ljava/util/function/BiFunction;" fm (fun q => s.heap.size ≤ q) s s.heap := by
    rcases va_Zqof (hts _ zw_misc.2.2.2.1) (hts _ zw_misc.2.2.2.2.2.1) (hnw _ zw_misc.2.1) hA with h | ⟨t, h⟩
    · exact ⟨.null, Or.inl rfl, h⟩
    · exact ⟨.ref t, Or.inr ⟨t, rfl⟩, h⟩
  obtain ⟨fm, hfm1, hfm2⟩ := hfm
  -- texts
  have hstr : ∀ i, i < 8 → Cond.exactly (ztm i) "java/lang/String" ∈ zNW ∧ Cond.eq (.field (ztm i) "java/lang/String" "coder" "B") (.int 0) ∈ zNW ∧ Cond.arrayOf (.field (ztm i) "java/lang/String" "value" "[B") .byte ∈ zNW ∧ Cond.eq (.length (.field (ztm i) "java/lang/String" "value" "[B")) (.int (Int32.ofNat (zsn.getD i 0))) ∈ zNW ∧ (∀ j, j < zsn.getD i 0 → Cond.eq (.elem (.field (ztm i) "java/lang/String" "value" "[B") (.int (Int32.ofNat j))) (.int ((zsb.getD i []).getD j 0)) ∈ zNW) ∧ Cond.stringRef "WoolTells$Reader" (zsx.getD i 0) (ztx.getD i "") ∈ lw_tbl := by
    intro i hi
    have h1 := List.all_eq_true.mp zw_str i (List.mem_range.mpr hi)
    simp only [Bool.and_eq_true, decide_eq_true_eq] at h1
    obtain ⟨⟨⟨⟨⟨h1, h2⟩, h3⟩, h4⟩, h5⟩, h6⟩ := h1
    exact ⟨h1, h2, h3, h4, fun j hj => of_decide_eq_true (List.all_eq_true.mp h5 j (List.mem_range.mpr hj)), h6⟩
  obtain ⟨adK, adV, hS, hK⟩ := vk_Sof (N := 8) (tm := ztm) (len := zsn) (byt := zsb) (A := fun q => s.heap.size ≤ q) (args := #[Value.ref b]) (s := s)
    (fun i hi => by
      match i, hi with
      | 0, _ => decide
      | 1, _ => decide
      | 2, _ => decide
      | 3, _ => decide
      | 4, _ => decide
      | 5, _ => decide
      | 6, _ => decide
      | 7, _ => decide)
    (fun i hi => hnw _ (hstr i hi).1) (fun i hi => hnw _ (hstr i hi).2.1) (fun i hi => hnw _ (hstr i hi).2.2.1) (fun i hi => hnw _ (hstr i hi).2.2.2.1) (fun i hi j hj => hnw _ ((hstr i hi).2.2.2.2.1 j hj))
    (fun i j hi hj hij => by
      have h1 := List.all_eq_true.mp (List.all_eq_true.mp zw_apart i (List.mem_range.mpr hi)) j (List.mem_range.mpr hj)
      rw [if_neg hij, Bool.or_eq_true, decide_eq_true_eq, decide_eq_true_eq] at h1
      rcases h1 with h | h
      · exact Or.inl (hnw _ h)
      · exact Or.inr (hnw _ h)) hA
  let ca : Nat → ClassId := fun t => if t = 10 then aI else if t = 11 then aB else if t = 12 then aZ else if t = 13 then aR else aV
  let oa : Nat → Nat := fun k => if k = 2000 then b else if k < 2010 then sa (k - 2001) else if k < 2020 then adK (k - 2010) else adV (k - 2020)
  have key : ∀ (Lx : Nat) (ys : Nat → Int32), Lx < 5000 → (Lx ≤ 3072 → va_X b Lx ys s s.heap) → zGs ((fun t => (Df t).1, fun t => (Df t).2), ca, s.heap.size, oa, fm, Lx, ys) s := by
    intro Lx ys hLx hX'
    refine ⟨⟨fun t q hq => ?_, fun k q hk => ?_⟩, Nat.le_refl _, hfm1, fun i hi => ?_, ?_, hfm2, ?_, fun i hi => ?_, hX', hbl, hLx, fun e he hn => ?_, fun e he hn => ?_, haoR, haoV⟩
    · have ht : t < 8 := by
        have := (List.getElem?_eq_some_iff.mp hq).1
        exact this
      rw [zcl_get ht] at hq
      cases hq
      exact hD t ht
    · match k, hk with
      | 0, hk => cases hk; exact ⟨fun n z => ⟨fun k h => (by cases h), kI, i2, coI, i3⟩, i1⟩
      | 1, hk => cases hk; exact ⟨fun n z => ⟨fun k h => (by cases h), kB, b2, coB, b3⟩, b1⟩
      | 2, hk => cases hk; exact ⟨fun n z => ⟨fun k h => (by cases h), kZ, z2, coZ, z3⟩, z1⟩
      | 3, hk => cases hk; exact ⟨fun n z => ⟨fun k h => (by cases h), kR, r3, coR, r4⟩, kR, coR, r3, r4, r1, r5⟩
      | 4, hk => cases hk; exact ⟨fun n z => ⟨fun k h => (by cases h), kV, v3, coV, v4⟩, kV, coV, v3, v4, v1, v5⟩
      | k + 5, hk => cases hk
    · have h1 := hsa i hi
      have h2 := List.all_eq_true.mp zw_sta i (List.mem_range.mpr hi)
      simp only [Bool.and_eq_true, decide_eq_true_eq] at h2
      have ho : oa (2001 + i) = sa i := by
        show (if 2001 + i = 2000 then b else if 2001 + i < 2010 then sa (2001 + i - 2001) else _) = sa i
        rw [if_neg (by omega), if_pos (by omega), show 2001 + i - 2001 = i by omega]
      rw [show ((fun t => (Df t).1, fun t => (Df t).2), ca, s.heap.size, oa, fm, Lx, ys).2.2.2.1 (2001 + i) = sa i from ho]
      exact ⟨va_Zof (hts _ h2.2) (hts _ zw_misc.2.2.2.2.2.2.1) h1.1 hA, h1.2⟩
    · exact va_Zof (hts _ zw_misc.2.2.1) (hts _ zw_misc.2.2.2.2.1) (va_eqi (hnw _ zw_misc.1)) hA
    · have e1 : (fun i => oa (2010 + i)) = fun i => if i < 10 then adK i else adV (2010 + i - 2020) := by
        funext i
        show (if 2010 + i = 2000 then b else if 2010 + i < 2010 then sa (2010 + i - 2001) else if 2010 + i < 2020 then adK (2010 + i - 2010) else adV (2010 + i - 2020)) = _
        rw [if_neg (by omega), if_neg (by omega), show 2010 + i - 2010 = i by omega]
        by_cases h : i < 10
        · rw [if_pos h, if_pos (by omega)]
        · rw [if_neg h, if_neg (by omega)]
      have e2 : (fun i => oa (2020 + i)) = adV := by
        funext i
        show (if 2020 + i = 2000 then b else if 2020 + i < 2010 then sa (2020 + i - 2001) else if 2020 + i < 2020 then adK (2020 + i - 2010) else adV (2020 + i - 2020)) = _
        rw [if_neg (by omega), if_neg (by omega), if_neg (by omega), show 2020 + i - 2020 = i by omega]
      show vk_S 8 zsn zsb (fun i => oa (2010 + i)) (fun i => oa (2020 + i)) (fun q => s.heap.size ≤ q) s s.heap
      rw [e1, e2]
      refine ⟨fun i hi => ?_, fun i j hi hj h => ?_⟩
      · have := hS.1 i hi
        dsimp only
        rw [if_pos (by omega)]
        exact this
      · dsimp only at h
        rw [if_pos (by omega), if_pos (by omega)] at h
        exact hS.2 i j hi hj h
    · have ho : oa (2010 + i) = adK i := by
        show (if 2010 + i = 2000 then b else if 2010 + i < 2010 then sa (2010 + i - 2001) else if 2010 + i < 2020 then adK (2010 + i - 2010) else _) = _
        rw [if_neg (by omega), if_neg (by omega), if_pos (by omega), show 2010 + i - 2010 = i by omega]
      rw [show ((fun t => (Df t).1, fun t => (Df t).2), ca, s.heap.size, oa, fm, Lx, ys).2.2.2.1 (2010 + i) = adK i from ho]
      have h1 := hts _ (hstr i hi).2.2.2.2.2
      have h2 := hK i hi
      exact vk_R.of h1 h2
    · have hw := zf_mem _ he _ List.mem_cons_self
      rw [if_neg hn] at hw
      exact va_Nw.of rfl (hts _ hw)
    · have hw := zc_mem _ he
      obtain ⟨o, idx, kind, M', n⟩ := e
      dsimp only at hn hw ⊢
      unfold zcw at hw
      dsimp only at hw
      rw [if_neg (by omega), if_neg (by omega), if_neg (by omega), if_neg (by omega), if_neg (by omega)] at hw
      exact va_Nw.of rfl (hts _ (hw _ List.mem_cons_self))
  exact ⟨_, ca, oa, fm, rfl, key 4000 _ (by omega) (fun h => absurd h (by omega)), key L xs (by omega) (fun _ => hX)⟩
