/-! ===== makings of arrays, calls ===== -/
theorem zb_w : Cond.instanceMethod Lib.objectInit ∈ lw_tbl ∧ Cond.code Lib.objectInit ⟨#[0xb1]⟩ 1 none ∈ lw_tbl ∧ Cond.native arraycopyName ∈ lw_tbl ∧ Cond.static arraycopyName ∈ lw_tbl ∧ Cond.initialized "java/lang/System" ∈ lw_tbl ∧ Cond.initialized "java/lang/Math" ∈ lw_tbl ∧ Cond.static Lib.Math.min.name ∈ lw_tbl ∧ Cond.static Lib.Math.max.name ∈ lw_tbl :=
  ⟨List.mem_of_getElem? (i := 123) (by decide +kernel), List.mem_of_getElem? (i := 124) (by decide +kernel), List.mem_of_getElem? (i := 385) (by decide +kernel), List.mem_of_getElem? (i := 384) (by decide +kernel), List.mem_of_getElem? (i := 110) (by decide +kernel), List.mem_of_getElem? (i := 115) (by decide +kernel), List.mem_of_getElem? (i := 570) (by decide +kernel), List.mem_of_getElem? (i := 725) (by decide +kernel)⟩
theorem zb_w2 : Cond.code Lib.Math.min.name Lib.Math.min.code 2 (some .int) ∈ lw_tbl ∧ Cond.code Lib.Math.max.name Lib.Math.max.code 2 (some .int) ∈ lw_tbl :=
  ⟨List.mem_of_getElem? (i := 571) (by decide +kernel), List.mem_of_getElem? (i := 726) (by decide +kernel)⟩
theorem zcat_sum (l : List Value) : (l.map fun v => v.category).sum ≤ 2 * l.length := by
  induction l with
  | nil => exact Nat.le_refl _
  | cons v l ih =>
    rw [List.map_cons, List.sum_cons, List.length_cons]
    have : v.category ≤ 2 := by cases v <;> simp [Value.category]
    omega
def zrm (d mc ms : Nat) : Room := { frames := d + 1, cells := mc, slots := ms, locals := 60 * (d + 1) }
def zPc (E : zE) (ph : Bool) (av : List Value) (μ : Zm) : Array Value → State → Prop := fun v U => v = (av.map (zcv E)).toArray ∧ zGs E U ∧ va_P E.1 vwCl (zwl E ph μ) U.heap ∧ (ph = false → U.heap.size = E.2.2.1 + zsz ph μ) ∧ zOld E μ
def zQc (E : zE) (ph : Bool) (r : Option Value × Zm) : Array Value → State → Outcome → State → Prop := fun _ st oc t => oc = .returned (r.1.map (zcv E)) ∧ va_P E.1 vwCl (zwl E ph r.2) t.heap ∧ (ph = false → t.heap.size = E.2.2.1 + zsz ph r.2) ∧ st.heap.size ≤ t.heap.size ∧ (∀ q, q < E.2.2.1 → t.heap[q]? = st.heap[q]?) ∧ zOld E r.2
theorem zPc_blind {E : zE} {ph : Bool} {av : List Value} {μ : Zm} : FrameBlind (zPc E ph av μ) := fun a U g mk h => ⟨h.1, zGs_same h.2.1 rfl rfl, h.2.2⟩
/-- what the soundness of the methods below gives -/
def zPl (M : ZI) : Prop := plainName M.1.cls = true ∧ zon M.2.2.2.2 = M.1.cls ∧ zcd M ∈ lw_tbl
def zSat (l : Launch) (E : zE) (ph : Bool) (d : Nat) : Prop := ∀ (M : ZI) (av : List Value) (μ : Zm) (r : Option Value × Zm), zPl M → zC ph d M av μ = some r → zsz ph μ ≤ zsz ph r.2 →
  Met l M.1 (zws M) (zrm d (zsz ph r.2 - zsz ph μ) (zsm (zsz ph r.2) - zsm (zsz ph μ))) (zPc E ph av μ) (zQc E ph r) (zsz ph r.2 - zsz ph μ) (zsm (zsz ph r.2) - zsm (zsz ph μ)) (zAA E)
theorem zws_good (M : ZI) (h : zcd M ∈ lw_tbl) : GoodIn zG (zws M) := by
  intro w hw
  rcases List.mem_cons.mp hw with rfl | hw
  · exact ⟨zG_mem h rfl, good_of_word rfl⟩
  · exact ⟨hw, good_of_word (zG_good w hw)⟩
section ZW
variable {p : Program} {l : Launch} {e : Env} {R : Room} {s : State} {m : MethodId} {args : Array Value} {below : List Frame} {meth : Method} {c : Code} {H : Heap} {locs : List Loc} {cells slots : Nat} {Q : State → Prop} {M : ZI} {E : zE} {d n0 s0 pc : Nat} {ph : Bool} {L st : List Value} {μ : Zm} {ls : Array Slot} {q : Nat × List Value × List Value × Zm} {call : ZI → List Value → Zm → Option (Option Value × Zm)}
theorem zs_newarray {ty : ArrayType} (F : zFx p R s m args meth c M E d) (hdg : decode M.2.1 pc = .ok (.newarray ty, 2)) (hI : zInv E ph M n0 s0 μ L s ls H locs cells slots) (h : zai ph call M (.newarray ty) pc L st μ = some (.inl q)) (hR : zsz ph q.2.2.2 ≤ R.cells + n0 ∧ zsm (zsz ph q.2.2.2) ≤ R.slots + s0) (kk : zKK p l e R s m args below meth c Q M E ph n0 s0 q) : W p l e R s m args below meth c H locs cells slots Q (F0 m pc ls (st.map (zcv E))) := by
  obtain ⟨hx, hb, hml, hown, hts, hG, hnm, hfr, hlo⟩ := F
  replace h : (if ph = true then none else z1i st fun n r => if zsz ph μ < 74 ∧ (zsh (zsz ph μ)).1 = zat ty ∧ ¬ n < 0 ∧ n.toNatClampNeg = (zsh (zsz ph μ)).2 then znx (pc + 2) L (.ref (zsz ph μ) :: r) (zal μ (zsz ph μ)) else none) = some (.inl q) := h
  cases ph with
  | true => cases h
  | false =>
    rw [if_neg (by decide)] at h
    replace h := z1i_some h
    obtain ⟨n, r, rfl, h⟩ := h
    split at h
    · rename_i hc
      cases znx_some h
      obtain ⟨hn, hsh, hn0, hlen⟩ := hc
      have hI2 := hI
      obtain ⟨i1, i2, i3, i4, i5, i6, i7⟩ := hI2
      dsimp only at hR
      rw [zsz_al hn, zsm_succ] at hR
      have hsm := zsh_small hn
      have fin : ∀ (t k : Nat) (fty : FieldType), newarray.typeOf ty = fty → (zsh (zsz false μ)).1 = t → ¬ t < 8 → t < 13 → (zty E)[k]? = some (E.2.1 t, fty) → Cond.arrayClass fty ∈ lw_tbl → componentBytes fty ≤ 8 → defaultValue fty = .int 0 → (∀ U cA, va_RA U cA fty → U.vm.findClass ("[" ++ fty.toString) = some cA) → W p l e R s m args below meth c H locs cells slots Q (F0 m pc ls (.int n :: r.map (zcv E))) := by
        intro t k fty hty ht h8 h13 hk hw hcb hdv hra
        subst hty
        refine va_newaK hx hb (hts _ (zG_mem hw rfl)) rfl hdg rfl hn0 hlen (by
          have h1 := Nat.mul_le_mul_left (zsh (zsz false μ)).2 hcb
          omega) (by omega) (by omega) rfl fun H1 cA e1 z1 o1 hAr hNm => ?_
        have hcA : cA = E.2.1 t := by
          have h2 := hra _ _ (hG.1.2 k _ hk).2
          exact Option.some.inj (hNm.symm.trans h2)
        have kk := kk ls H1 locs (cells + 1) (slots + (zsh (zsz false μ)).2) (zInv_al hI hn ?_ z1 o1)
        · have kk : W p l e R s m args below meth c H1 locs (cells + 1) (slots + (zsh (zsz false μ)).2) Q (F0 m (pc + 2) ls (zcv E (.ref (zsz false μ)) :: r.map (zcv E))) := kk
          rw [zcv_ref (by omega), ← i3 rfl] at kk
          exact kk
        · rw [zce_arr ht h8 h13]
          show H1[E.2.2.1 + zsz false μ]? = some (vp_cell _ _)
          rw [← i3 rfl, e1, hcA, hdv, vp_cell_i]
          congr 2
          funext k
          rw [zal_eq (by omega)]
      show W p l e R s m args below meth c H locs cells slots Q (F0 m pc ls (.int n :: r.map (zcv E)))
      cases ty with
      | int => exact fin 10 0 .int rfl hsh (by omega) (by omega) rfl za_w.1 (by decide) rfl (fun U cA h => h)
      | byte => exact fin 11 1 .byte rfl hsh (by omega) (by omega) rfl za_w.2.1 (by decide) rfl (fun U cA h => h)
      | boolean => exact fin 12 2 .boolean rfl hsh (by omega) (by omega) rfl za_w.2.2 (by decide) rfl (fun U cA h => h)
      | _ => exfalso; simp only [zat] at hsh; omega
    · cases h
theorem zs_anewarray {k : Nat} (F : zFx p R s m args meth c M E d) (hdg : decode M.2.1 pc = .ok (.anewarray k, 3)) (hI : zInv E ph M n0 s0 μ L s ls H locs cells slots) (h : zai ph call M (.anewarray k) pc L st μ = some (.inl q)) (hR : zsz ph q.2.2.2 ≤ R.cells + n0 ∧ zsm (zsz ph q.2.2.2) ≤ R.slots + s0) (kk : zKK p l e R s m args below meth c Q M E ph n0 s0 q) : W p l e R s m args below meth c H locs cells slots Q (F0 m pc ls (st.map (zcv E))) := by
  obtain ⟨hx, hb, hml, hown, hts, hG, hnm, hfr, hlo⟩ := F
  replace h : (if ph = true then none else z1i st fun n r => (zf2 znL M.2.2.2.2 k).bind fun t => if zsz ph μ < 74 ∧ ((t = 3 ∧ (zsh (zsz ph μ)).1 = 13) ∨ (t = 5 ∧ (zsh (zsz ph μ)).1 = 14)) ∧ ¬ n < 0 ∧ n.toNatClampNeg = (zsh (zsz ph μ)).2 then znx (pc + 3) L (.ref (zsz ph μ) :: r) (zal μ (zsz ph μ)) else none) = some (.inl q) := h
  cases ph with
  | true => cases h
  | false =>
    rw [if_neg (by decide)] at h
    replace h := z1i_some h
    obtain ⟨n, r, rfl, h⟩ := h
    replace h := Option.bind_eq_some_iff.mp h
    obtain ⟨t, hz, h⟩ := h
    split at h
    · rename_i hc
      cases znx_some h
      obtain ⟨hn, hsh, hn0, hlen⟩ := hc
      have hI2 := hI
      obtain ⟨i1, i2, i3, i4, i5, i6, i7⟩ := hI2
      dsimp only at hR
      rw [zsz_al hn, zsm_succ] at hR
      have hsm := zsh_small hn
      have hw := zn_mem _ (zf2_mem hz)
      have hcl := hts _ (zG_mem (hw (.classLink (zon M.2.2.2.2) k (zon t)) (by simp [znw])) rfl)
      have fin : ∀ (ta kt : Nat), (zsh (zsz false μ)).1 = ta → ¬ ta < 8 → ¬ ta < 13 → (zty E)[kt]? = some (E.2.1 ta, .object (zon t)) → va_AO (zon t) s → W p l e R s m args below meth c H locs cells slots Q (F0 m pc ls (.int n :: r.map (zcv E))) := by
        intro ta kt ht h8 h13 hkt hao
        refine W.anew hx hb hown hcl (va_AO.use hao) rfl hdg rfl hn0 (by omega) (by omega) (by omega) fun cA kA comp f1 f2 f3 f4 => ?_
        generalize hH1 : H.push ({ cls := cA, slots := Array.replicate n.toNatClampNeg .null, vm := .none } : Cell) = H1
        have z1 : H1.size = H.size + 1 := by rw [← hH1, Array.size_push]
        have e1 : H1[H.size]? = some (arrV cA n.toNatClampNeg (fun _ => .null)) := by rw [← hH1, Array.getElem?_push_size, ← arrV_new]
        have o1 : ∀ q : Nat, q < H.size → H1[q]? = H[q]? := fun q hq => by rw [← hH1, Array.getElem?_push, if_neg (Nat.ne_of_lt hq)]
        have hcA : cA = E.2.1 ta := by
          obtain ⟨_, _, _, _, _, h4⟩ := (hG.1.2 kt _ hkt).2
          exact Option.some.inj (f1.symm.trans h4)
        have kk := kk ls H1 locs (cells + 1) (slots + (zsh (zsz false μ)).2) (zInv_al hI hn ?_ z1 o1)
        · have kk : W p l e R s m args below meth c H1 locs (cells + 1) (slots + (zsh (zsz false μ)).2) Q (F0 m (pc + 3) ls (zcv E (.ref (zsz false μ)) :: r.map (zcv E))) := kk
          rw [zcv_ref (by omega), ← i3 rfl, ← hlen] at kk
          exact kk
        · rw [zce_ref ht h8 h13]
          show H1[E.2.2.1 + zsz false μ]? = some (vp_cell _ _)
          rw [← i3 rfl, e1, hcA, hlen, vp_cell_q]
          congr 2
          funext k
          unfold zrf
          rw [zal_eq (by omega)]
          rfl
      show W p l e R s m args below meth c H locs cells slots Q (F0 m pc ls (.int n :: r.map (zcv E)))
      rcases hsh with ⟨rfl, h1⟩ | ⟨rfl, h1⟩
      · exact fin 13 3 h1 (by omega) (by omega) rfl hG.2.2.2.2.2.2.2.2.2.2.2.2.2.1
      · exact fin 14 4 h1 (by omega) (by omega) rfl hG.2.2.2.2.2.2.2.2.2.2.2.2.2.2
    · cases h
/-- behind a call -/
theorem zback {r : Option Value × Zm} {st0 rest : List Value} {a : Array Value} (hr : va_Run p l e R s m args below meth c H locs cells slots (zsz ph r.2 - zsz ph μ) (zsm (zsz ph r.2) - zsm (zsz ph μ)) (F0 m pc ls st0) (rest.map (zcv E)) (zQc E ph r a) (zAA E)) (hG : zGs E s) (hI : zInv E ph M n0 s0 μ L s ls H locs cells slots) (hz : zsz ph μ ≤ zsz ph r.2)
    (kk : zKK p l e R s m args below meth c Q M E ph n0 s0 (pc + 3, L, zpush r.1 rest, r.2)) : W p l e R s m args below meth c H locs cells slots Q (F0 m pc ls st0) := by
  obtain ⟨i1, i2, i3, i4, i5, i6, i7⟩ := hI
  intro T hT X
  obtain ⟨v, st₀, t, T', L1, h0, X', hL, e1, e2, ⟨hv, hP, hsz, hle, hk, ho⟩, st⟩ := hr T hT X
  have hv := Outcome.returned.inj hv
  subst hv
  rw [h0] at hle hk
  have hm := zsm_mono hz
  have kk := kk ls T'.heap (locs ++ L1) _ _ ⟨i1, by rw [e1]; exact hP, fun hp => by rw [e1]; exact hsz hp, ⟨Nat.le_trans i4.1 (by rw [e1]; exact hle), fun q h1 h2 => by rw [e1, hk q (Nat.not_le.mp h2)]; exact i4.2.1 q h1 h2, fun q hq => by
    rcases List.mem_append.mp hq with h | h
    · exact i4.2.2 q h
    · exact hL q h⟩, ho, (by show (cells + (zsz ph r.2 - zsz ph μ)) + n0 = zsz ph r.2; omega), (by show (slots + (zsm (zsz ph r.2) - zsm (zsz ph μ))) + s0 = zsm (zsz ph r.2); omega)⟩
  obtain ⟨t2, a1, b1⟩ := kk T' rfl X'
  refine ⟨t2, st t2 ?_, b1⟩
  have hpush : (zpush r.1 rest).map (zcv E) = (r.1.map (zcv E)).toList ++ rest.map (zcv E) := by
    cases r.1 <;> rfl
  rw [hpush] at a1
  exact a1
end ZW
