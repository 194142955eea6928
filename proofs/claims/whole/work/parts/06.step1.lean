abbrev zKK (p : Program) (l : Launch) (e : Env) (R : Room) (s : State) (m : MethodId) (args : Array Value) (below : List Frame) (meth : Method) (c : Code) (Q : State → Prop) (M : ZI) (E : zE) (ph : Bool) (n0 s0 : Nat) (q : Nat × List Value × List Value × Zm) : Prop :=
  ∀ (ls' : Array Slot) (H' : Heap) (locs' : List Loc) (cells' slots' : Nat), zInv E ph M n0 s0 q.2.2.2 q.2.1 s ls' H' locs' cells' slots' → W p l e R s m args below meth c H' locs' cells' slots' Q (F0 m q.1 ls' (q.2.2.1.map (zcv E)))
section ZS
variable {p : Program} {l : Launch} {e : Env} {R : Room} {s : State} {m : MethodId} {args : Array Value} {below : List Frame} {meth : Method} {c : Code} {H : Heap} {locs : List Loc} {cells slots : Nat} {Q : State → Prop} {M : ZI} {E : zE} {d n0 s0 pc : Nat} {ph : Bool} {L st : List Value} {μ : Zm} {ls : Array Slot} {q : Nat × List Value × List Value × Zm} {call : ZI → List Value → Zm → Option (Option Value × Zm)}
theorem zs_iadd (F : zFx p R s m args meth c M E d) (hdg : decode M.2.1 pc = .ok (.iadd, 1)) (hI : zInv E ph M n0 s0 μ L s ls H locs cells slots) (h : zai ph call M (.iadd) pc L st μ = some (.inl q)) (kk : zKK p l e R s m args below meth c Q M E ph n0 s0 q) : W p l e R s m args below meth c H locs cells slots Q (F0 m pc ls (st.map (zcv E))) := by
  obtain ⟨hx, hb, hml, hown, hts, hG, hnm, hfr, hlo⟩ := F
  replace h := z2i_some h
  obtain ⟨a, b, r, rfl, h⟩ := h
  cases znx_some h
  exact lv_iadd hx hb hdg (kk _ _ _ _ _ hI)
theorem zs_isub (F : zFx p R s m args meth c M E d) (hdg : decode M.2.1 pc = .ok (.isub, 1)) (hI : zInv E ph M n0 s0 μ L s ls H locs cells slots) (h : zai ph call M (.isub) pc L st μ = some (.inl q)) (kk : zKK p l e R s m args below meth c Q M E ph n0 s0 q) : W p l e R s m args below meth c H locs cells slots Q (F0 m pc ls (st.map (zcv E))) := by
  obtain ⟨hx, hb, hml, hown, hts, hG, hnm, hfr, hlo⟩ := F
  replace h := z2i_some h
  obtain ⟨a, b, r, rfl, h⟩ := h
  cases znx_some h
  exact lv_isub hx hb hdg (kk _ _ _ _ _ hI)
theorem zs_imul (F : zFx p R s m args meth c M E d) (hdg : decode M.2.1 pc = .ok (.imul, 1)) (hI : zInv E ph M n0 s0 μ L s ls H locs cells slots) (h : zai ph call M (.imul) pc L st μ = some (.inl q)) (kk : zKK p l e R s m args below meth c Q M E ph n0 s0 q) : W p l e R s m args below meth c H locs cells slots Q (F0 m pc ls (st.map (zcv E))) := by
  obtain ⟨hx, hb, hml, hown, hts, hG, hnm, hfr, hlo⟩ := F
  replace h := z2i_some h
  obtain ⟨a, b, r, rfl, h⟩ := h
  cases znx_some h
  exact lv_imul hx hb hdg (kk _ _ _ _ _ hI)
theorem zs_iand (F : zFx p R s m args meth c M E d) (hdg : decode M.2.1 pc = .ok (.iand, 1)) (hI : zInv E ph M n0 s0 μ L s ls H locs cells slots) (h : zai ph call M (.iand) pc L st μ = some (.inl q)) (kk : zKK p l e R s m args below meth c Q M E ph n0 s0 q) : W p l e R s m args below meth c H locs cells slots Q (F0 m pc ls (st.map (zcv E))) := by
  obtain ⟨hx, hb, hml, hown, hts, hG, hnm, hfr, hlo⟩ := F
  replace h := z2i_some h
  obtain ⟨a, b, r, rfl, h⟩ := h
  cases znx_some h
  exact lv_iand hx hb hdg (kk _ _ _ _ _ hI)
theorem zs_ior (F : zFx p R s m args meth c M E d) (hdg : decode M.2.1 pc = .ok (.ior, 1)) (hI : zInv E ph M n0 s0 μ L s ls H locs cells slots) (h : zai ph call M (.ior) pc L st μ = some (.inl q)) (kk : zKK p l e R s m args below meth c Q M E ph n0 s0 q) : W p l e R s m args below meth c H locs cells slots Q (F0 m pc ls (st.map (zcv E))) := by
  obtain ⟨hx, hb, hml, hown, hts, hG, hnm, hfr, hlo⟩ := F
  replace h := z2i_some h
  obtain ⟨a, b, r, rfl, h⟩ := h
  cases znx_some h
  exact lv_ior hx hb hdg (kk _ _ _ _ _ hI)
theorem zs_ixor (F : zFx p R s m args meth c M E d) (hdg : decode M.2.1 pc = .ok (.ixor, 1)) (hI : zInv E ph M n0 s0 μ L s ls H locs cells slots) (h : zai ph call M (.ixor) pc L st μ = some (.inl q)) (kk : zKK p l e R s m args below meth c Q M E ph n0 s0 q) : W p l e R s m args below meth c H locs cells slots Q (F0 m pc ls (st.map (zcv E))) := by
  obtain ⟨hx, hb, hml, hown, hts, hG, hnm, hfr, hlo⟩ := F
  replace h := z2i_some h
  obtain ⟨a, b, r, rfl, h⟩ := h
  cases znx_some h
  exact lv_ixor hx hb hdg (kk _ _ _ _ _ hI)
theorem zs_ishl (F : zFx p R s m args meth c M E d) (hdg : decode M.2.1 pc = .ok (.ishl, 1)) (hI : zInv E ph M n0 s0 μ L s ls H locs cells slots) (h : zai ph call M (.ishl) pc L st μ = some (.inl q)) (kk : zKK p l e R s m args below meth c Q M E ph n0 s0 q) : W p l e R s m args below meth c H locs cells slots Q (F0 m pc ls (st.map (zcv E))) := by
  obtain ⟨hx, hb, hml, hown, hts, hG, hnm, hfr, hlo⟩ := F
  replace h := z2i_some h
  obtain ⟨a, b, r, rfl, h⟩ := h
  cases znx_some h
  exact lv_ishl hx hb hdg (kk _ _ _ _ _ hI)
theorem zs_ishr (F : zFx p R s m args meth c M E d) (hdg : decode M.2.1 pc = .ok (.ishr, 1)) (hI : zInv E ph M n0 s0 μ L s ls H locs cells slots) (h : zai ph call M (.ishr) pc L st μ = some (.inl q)) (kk : zKK p l e R s m args below meth c Q M E ph n0 s0 q) : W p l e R s m args below meth c H locs cells slots Q (F0 m pc ls (st.map (zcv E))) := by
  obtain ⟨hx, hb, hml, hown, hts, hG, hnm, hfr, hlo⟩ := F
  replace h := z2i_some h
  obtain ⟨a, b, r, rfl, h⟩ := h
  cases znx_some h
  exact lv_ishr hx hb hdg (kk _ _ _ _ _ hI)
theorem zs_iushr (F : zFx p R s m args meth c M E d) (hdg : decode M.2.1 pc = .ok (.iushr, 1)) (hI : zInv E ph M n0 s0 μ L s ls H locs cells slots) (h : zai ph call M (.iushr) pc L st μ = some (.inl q)) (kk : zKK p l e R s m args below meth c Q M E ph n0 s0 q) : W p l e R s m args below meth c H locs cells slots Q (F0 m pc ls (st.map (zcv E))) := by
  obtain ⟨hx, hb, hml, hown, hts, hG, hnm, hfr, hlo⟩ := F
  replace h := z2i_some h
  obtain ⟨a, b, r, rfl, h⟩ := h
  cases znx_some h
  exact lv_iushr hx hb hdg rfl (kk _ _ _ _ _ hI)
theorem zs_idiv (F : zFx p R s m args meth c M E d) (hdg : decode M.2.1 pc = .ok (.idiv, 1)) (hI : zInv E ph M n0 s0 μ L s ls H locs cells slots) (h : zai ph call M (.idiv) pc L st μ = some (.inl q)) (kk : zKK p l e R s m args below meth c Q M E ph n0 s0 q) : W p l e R s m args below meth c H locs cells slots Q (F0 m pc ls (st.map (zcv E))) := by
  obtain ⟨hx, hb, hml, hown, hts, hG, hnm, hfr, hlo⟩ := F
  replace h := z2i_some h
  obtain ⟨a, b, r, rfl, h⟩ := h
  split at h
  · cases h
  · rename_i hne
    cases znx_some h
    exact lv_idiv hx hb hdg hne (kk _ _ _ _ _ hI)
theorem zs_irem (F : zFx p R s m args meth c M E d) (hdg : decode M.2.1 pc = .ok (.irem, 1)) (hI : zInv E ph M n0 s0 μ L s ls H locs cells slots) (h : zai ph call M (.irem) pc L st μ = some (.inl q)) (kk : zKK p l e R s m args below meth c Q M E ph n0 s0 q) : W p l e R s m args below meth c H locs cells slots Q (F0 m pc ls (st.map (zcv E))) := by
  obtain ⟨hx, hb, hml, hown, hts, hG, hnm, hfr, hlo⟩ := F
  replace h := z2i_some h
  obtain ⟨a, b, r, rfl, h⟩ := h
  split at h
  · cases h
  · rename_i hne
    cases znx_some h
    exact lv_irem hx hb hdg hne (kk _ _ _ _ _ hI)
theorem zs_lrem (F : zFx p R s m args meth c M E d) (hdg : decode M.2.1 pc = .ok (.lrem, 1)) (hI : zInv E ph M n0 s0 μ L s ls H locs cells slots) (h : zai ph call M (.lrem) pc L st μ = some (.inl q)) (kk : zKK p l e R s m args below meth c Q M E ph n0 s0 q) : W p l e R s m args below meth c H locs cells slots Q (F0 m pc ls (st.map (zcv E))) := by
  obtain ⟨hx, hb, hml, hown, hts, hG, hnm, hfr, hlo⟩ := F
  replace h := z2l_some h
  obtain ⟨a, b, r, rfl, h⟩ := h
  split at h
  · cases h
  · rename_i hne
    cases znx_some h
    exact lv_lrem hx hb hdg hne (kk _ _ _ _ _ hI)
theorem zs_ladd (F : zFx p R s m args meth c M E d) (hdg : decode M.2.1 pc = .ok (.ladd, 1)) (hI : zInv E ph M n0 s0 μ L s ls H locs cells slots) (h : zai ph call M (.ladd) pc L st μ = some (.inl q)) (kk : zKK p l e R s m args below meth c Q M E ph n0 s0 q) : W p l e R s m args below meth c H locs cells slots Q (F0 m pc ls (st.map (zcv E))) := by
  obtain ⟨hx, hb, hml, hown, hts, hG, hnm, hfr, hlo⟩ := F
  replace h := z2l_some h
  obtain ⟨a, b, r, rfl, h⟩ := h
  cases znx_some h
  exact lv_ladd hx hb hdg (kk _ _ _ _ _ hI)
theorem zs_lmul (F : zFx p R s m args meth c M E d) (hdg : decode M.2.1 pc = .ok (.lmul, 1)) (hI : zInv E ph M n0 s0 μ L s ls H locs cells slots) (h : zai ph call M (.lmul) pc L st μ = some (.inl q)) (kk : zKK p l e R s m args below meth c Q M E ph n0 s0 q) : W p l e R s m args below meth c H locs cells slots Q (F0 m pc ls (st.map (zcv E))) := by
  obtain ⟨hx, hb, hml, hown, hts, hG, hnm, hfr, hlo⟩ := F
  replace h := z2l_some h
  obtain ⟨a, b, r, rfl, h⟩ := h
  cases znx_some h
  exact lv_lmul hx hb hdg (kk _ _ _ _ _ hI)
theorem zs_land (F : zFx p R s m args meth c M E d) (hdg : decode M.2.1 pc = .ok (.land, 1)) (hI : zInv E ph M n0 s0 μ L s ls H locs cells slots) (h : zai ph call M (.land) pc L st μ = some (.inl q)) (kk : zKK p l e R s m args below meth c Q M E ph n0 s0 q) : W p l e R s m args below meth c H locs cells slots Q (F0 m pc ls (st.map (zcv E))) := by
  obtain ⟨hx, hb, hml, hown, hts, hG, hnm, hfr, hlo⟩ := F
  replace h := z2l_some h
  obtain ⟨a, b, r, rfl, h⟩ := h
  cases znx_some h
  exact lv_land hx hb hdg (kk _ _ _ _ _ hI)
theorem zs_lor (F : zFx p R s m args meth c M E d) (hdg : decode M.2.1 pc = .ok (.lor, 1)) (hI : zInv E ph M n0 s0 μ L s ls H locs cells slots) (h : zai ph call M (.lor) pc L st μ = some (.inl q)) (kk : zKK p l e R s m args below meth c Q M E ph n0 s0 q) : W p l e R s m args below meth c H locs cells slots Q (F0 m pc ls (st.map (zcv E))) := by
  obtain ⟨hx, hb, hml, hown, hts, hG, hnm, hfr, hlo⟩ := F
  replace h := z2l_some h
  obtain ⟨a, b, r, rfl, h⟩ := h
  cases znx_some h
  exact lv_lor hx hb hdg (kk _ _ _ _ _ hI)
theorem zs_lcmp (F : zFx p R s m args meth c M E d) (hdg : decode M.2.1 pc = .ok (.lcmp, 1)) (hI : zInv E ph M n0 s0 μ L s ls H locs cells slots) (h : zai ph call M (.lcmp) pc L st μ = some (.inl q)) (kk : zKK p l e R s m args below meth c Q M E ph n0 s0 q) : W p l e R s m args below meth c H locs cells slots Q (F0 m pc ls (st.map (zcv E))) := by
  obtain ⟨hx, hb, hml, hown, hts, hG, hnm, hfr, hlo⟩ := F
  replace h := z2l_some h
  obtain ⟨a, b, r, rfl, h⟩ := h
  cases znx_some h
  exact W.lcmp hx hb hdg (kk _ _ _ _ _ hI)
theorem zs_lshl (F : zFx p R s m args meth c M E d) (hdg : decode M.2.1 pc = .ok (.lshl, 1)) (hI : zInv E ph M n0 s0 μ L s ls H locs cells slots) (h : zai ph call M (.lshl) pc L st μ = some (.inl q)) (kk : zKK p l e R s m args below meth c Q M E ph n0 s0 q) : W p l e R s m args below meth c H locs cells slots Q (F0 m pc ls (st.map (zcv E))) := by
  obtain ⟨hx, hb, hml, hown, hts, hG, hnm, hfr, hlo⟩ := F
  replace h := zli_some h
  obtain ⟨a, b, r, rfl, h⟩ := h
  cases znx_some h
  exact lv_lshl hx hb hdg rfl (kk _ _ _ _ _ hI)
theorem zs_lshr (F : zFx p R s m args meth c M E d) (hdg : decode M.2.1 pc = .ok (.lshr, 1)) (hI : zInv E ph M n0 s0 μ L s ls H locs cells slots) (h : zai ph call M (.lshr) pc L st μ = some (.inl q)) (kk : zKK p l e R s m args below meth c Q M E ph n0 s0 q) : W p l e R s m args below meth c H locs cells slots Q (F0 m pc ls (st.map (zcv E))) := by
  obtain ⟨hx, hb, hml, hown, hts, hG, hnm, hfr, hlo⟩ := F
  replace h := zli_some h
  obtain ⟨a, b, r, rfl, h⟩ := h
  cases znx_some h
  exact lv_lshr hx hb hdg rfl (kk _ _ _ _ _ hI)
theorem zs_ineg (F : zFx p R s m args meth c M E d) (hdg : decode M.2.1 pc = .ok (.ineg, 1)) (hI : zInv E ph M n0 s0 μ L s ls H locs cells slots) (h : zai ph call M (.ineg) pc L st μ = some (.inl q)) (kk : zKK p l e R s m args below meth c Q M E ph n0 s0 q) : W p l e R s m args below meth c H locs cells slots Q (F0 m pc ls (st.map (zcv E))) := by
  obtain ⟨hx, hb, hml, hown, hts, hG, hnm, hfr, hlo⟩ := F
  replace h := z1i_some h
  obtain ⟨a, r, rfl, h⟩ := h
  cases znx_some h
  exact lv_ineg hx hb hdg (kk _ _ _ _ _ hI)
theorem zs_i2l (F : zFx p R s m args meth c M E d) (hdg : decode M.2.1 pc = .ok (.i2l, 1)) (hI : zInv E ph M n0 s0 μ L s ls H locs cells slots) (h : zai ph call M (.i2l) pc L st μ = some (.inl q)) (kk : zKK p l e R s m args below meth c Q M E ph n0 s0 q) : W p l e R s m args below meth c H locs cells slots Q (F0 m pc ls (st.map (zcv E))) := by
  obtain ⟨hx, hb, hml, hown, hts, hG, hnm, hfr, hlo⟩ := F
  replace h := z1i_some h
  obtain ⟨a, r, rfl, h⟩ := h
  cases znx_some h
  exact lv_i2l hx hb hdg rfl (kk _ _ _ _ _ hI)
theorem zs_i2b (F : zFx p R s m args meth c M E d) (hdg : decode M.2.1 pc = .ok (.i2b, 1)) (hI : zInv E ph M n0 s0 μ L s ls H locs cells slots) (h : zai ph call M (.i2b) pc L st μ = some (.inl q)) (kk : zKK p l e R s m args below meth c Q M E ph n0 s0 q) : W p l e R s m args below meth c H locs cells slots Q (F0 m pc ls (st.map (zcv E))) := by
  obtain ⟨hx, hb, hml, hown, hts, hG, hnm, hfr, hlo⟩ := F
  replace h := z1i_some h
  obtain ⟨a, r, rfl, h⟩ := h
  cases znx_some h
  exact lv_i2b hx hb hdg rfl (kk _ _ _ _ _ hI)
theorem zs_i2s (F : zFx p R s m args meth c M E d) (hdg : decode M.2.1 pc = .ok (.i2s, 1)) (hI : zInv E ph M n0 s0 μ L s ls H locs cells slots) (h : zai ph call M (.i2s) pc L st μ = some (.inl q)) (kk : zKK p l e R s m args below meth c Q M E ph n0 s0 q) : W p l e R s m args below meth c H locs cells slots Q (F0 m pc ls (st.map (zcv E))) := by
  obtain ⟨hx, hb, hml, hown, hts, hG, hnm, hfr, hlo⟩ := F
  replace h := z1i_some h
  obtain ⟨a, r, rfl, h⟩ := h
  cases znx_some h
  exact lv_i2s hx hb hdg rfl (kk _ _ _ _ _ hI)
theorem zs_i2c (F : zFx p R s m args meth c M E d) (hdg : decode M.2.1 pc = .ok (.i2c, 1)) (hI : zInv E ph M n0 s0 μ L s ls H locs cells slots) (h : zai ph call M (.i2c) pc L st μ = some (.inl q)) (kk : zKK p l e R s m args below meth c Q M E ph n0 s0 q) : W p l e R s m args below meth c H locs cells slots Q (F0 m pc ls (st.map (zcv E))) := by
  obtain ⟨hx, hb, hml, hown, hts, hG, hnm, hfr, hlo⟩ := F
  replace h := z1i_some h
  obtain ⟨a, r, rfl, h⟩ := h
  cases znx_some h
  exact lv_i2c hx hb hdg rfl (kk _ _ _ _ _ hI)
theorem zs_l2i (F : zFx p R s m args meth c M E d) (hdg : decode M.2.1 pc = .ok (.l2i, 1)) (hI : zInv E ph M n0 s0 μ L s ls H locs cells slots) (h : zai ph call M (.l2i) pc L st μ = some (.inl q)) (kk : zKK p l e R s m args below meth c Q M E ph n0 s0 q) : W p l e R s m args below meth c H locs cells slots Q (F0 m pc ls (st.map (zcv E))) := by
  obtain ⟨hx, hb, hml, hown, hts, hG, hnm, hfr, hlo⟩ := F
  replace h := z1l_some h
  obtain ⟨a, r, rfl, h⟩ := h
  cases znx_some h
  exact lv_l2i hx hb hdg rfl (kk _ _ _ _ _ hI)
theorem zs_iconst (F : zFx p R s m args meth c M E d) {k : Int} (hdg : decode M.2.1 pc = .ok (.iconst k, 1)) (hI : zInv E ph M n0 s0 μ L s ls H locs cells slots) (h : zai ph call M (.iconst k) pc L st μ = some (.inl q)) (kk : zKK p l e R s m args below meth c Q M E ph n0 s0 q) : W p l e R s m args below meth c H locs cells slots Q (F0 m pc ls (st.map (zcv E))) := by
  obtain ⟨hx, hb, hml, hown, hts, hG, hnm, hfr, hlo⟩ := F
  cases znx_some h
  exact lv_iconst hx hb hdg rfl (kk _ _ _ _ _ hI)
theorem zs_bipush (F : zFx p R s m args meth c M E d) {k : Int} (hdg : decode M.2.1 pc = .ok (.bipush k, 2)) (hI : zInv E ph M n0 s0 μ L s ls H locs cells slots) (h : zai ph call M (.bipush k) pc L st μ = some (.inl q)) (kk : zKK p l e R s m args below meth c Q M E ph n0 s0 q) : W p l e R s m args below meth c H locs cells slots Q (F0 m pc ls (st.map (zcv E))) := by
  obtain ⟨hx, hb, hml, hown, hts, hG, hnm, hfr, hlo⟩ := F
  cases znx_some h
  exact lv_bipush hx hb hdg rfl (kk _ _ _ _ _ hI)
theorem zs_sipush (F : zFx p R s m args meth c M E d) {k : Int} (hdg : decode M.2.1 pc = .ok (.sipush k, 3)) (hI : zInv E ph M n0 s0 μ L s ls H locs cells slots) (h : zai ph call M (.sipush k) pc L st μ = some (.inl q)) (kk : zKK p l e R s m args below meth c Q M E ph n0 s0 q) : W p l e R s m args below meth c H locs cells slots Q (F0 m pc ls (st.map (zcv E))) := by
  obtain ⟨hx, hb, hml, hown, hts, hG, hnm, hfr, hlo⟩ := F
  cases znx_some h
  exact lv_sipush hx hb hdg rfl (kk _ _ _ _ _ hI)
theorem zs_lconst (F : zFx p R s m args meth c M E d) {k : Fin 2} (hdg : decode M.2.1 pc = .ok (.lconst k, 1)) (hI : zInv E ph M n0 s0 μ L s ls H locs cells slots) (h : zai ph call M (.lconst k) pc L st μ = some (.inl q)) (kk : zKK p l e R s m args below meth c Q M E ph n0 s0 q) : W p l e R s m args below meth c H locs cells slots Q (F0 m pc ls (st.map (zcv E))) := by
  obtain ⟨hx, hb, hml, hown, hts, hG, hnm, hfr, hlo⟩ := F
  cases znx_some h
  exact lv_lconst hx hb hdg rfl (kk _ _ _ _ _ hI)
theorem zs_iload_n (F : zFx p R s m args meth c M E d) {k : Fin 4} (hdg : decode M.2.1 pc = .ok (.iload_n k, 1)) (hI : zInv E ph M n0 s0 μ L s ls H locs cells slots) (h : zai ph call M (.iload_n k) pc L st μ = some (.inl q)) (kk : zKK p l e R s m args below meth c Q M E ph n0 s0 q) : W p l e R s m args below meth c H locs cells slots Q (F0 m pc ls (st.map (zcv E))) := by
  obtain ⟨hx, hb, hml, hown, hts, hG, hnm, hfr, hlo⟩ := F
  replace h := Option.bind_eq_some_iff.mp h
  obtain ⟨x, hL, h⟩ := h
  cases znx_some h
  exact lv_iload_n hx hb hdg rfl (zlv_i hI.1 (zldI_some hL)) (kk _ _ _ _ _ hI)
theorem zs_iload (F : zFx p R s m args meth c M E d) {k : Nat} (hdg : decode M.2.1 pc = .ok (.iload k, 2)) (hI : zInv E ph M n0 s0 μ L s ls H locs cells slots) (h : zai ph call M (.iload k) pc L st μ = some (.inl q)) (kk : zKK p l e R s m args below meth c Q M E ph n0 s0 q) : W p l e R s m args below meth c H locs cells slots Q (F0 m pc ls (st.map (zcv E))) := by
  obtain ⟨hx, hb, hml, hown, hts, hG, hnm, hfr, hlo⟩ := F
  replace h := Option.bind_eq_some_iff.mp h
  obtain ⟨x, hL, h⟩ := h
  cases znx_some h
  exact lv_iload hx hb hdg (zlv_i hI.1 (zldI_some hL)) (kk _ _ _ _ _ hI)
theorem zs_lload_n (F : zFx p R s m args meth c M E d) {k : Fin 4} (hdg : decode M.2.1 pc = .ok (.lload_n k, 1)) (hI : zInv E ph M n0 s0 μ L s ls H locs cells slots) (h : zai ph call M (.lload_n k) pc L st μ = some (.inl q)) (kk : zKK p l e R s m args below meth c Q M E ph n0 s0 q) : W p l e R s m args below meth c H locs cells slots Q (F0 m pc ls (st.map (zcv E))) := by
  obtain ⟨hx, hb, hml, hown, hts, hG, hnm, hfr, hlo⟩ := F
  replace h := Option.bind_eq_some_iff.mp h
  obtain ⟨x, hL, h⟩ := h
  cases znx_some h
  exact lv_lload_n hx hb hdg rfl (zlv_l hI.1 (zldL_some hL).1 (zldL_some hL).2) (kk _ _ _ _ _ hI)
theorem zs_lload (F : zFx p R s m args meth c M E d) {k : Nat} (hdg : decode M.2.1 pc = .ok (.lload k, 2)) (hI : zInv E ph M n0 s0 μ L s ls H locs cells slots) (h : zai ph call M (.lload k) pc L st μ = some (.inl q)) (kk : zKK p l e R s m args below meth c Q M E ph n0 s0 q) : W p l e R s m args below meth c H locs cells slots Q (F0 m pc ls (st.map (zcv E))) := by
  obtain ⟨hx, hb, hml, hown, hts, hG, hnm, hfr, hlo⟩ := F
  replace h := Option.bind_eq_some_iff.mp h
  obtain ⟨x, hL, h⟩ := h
  cases znx_some h
  exact lv_lload hx hb hdg (zlv_l hI.1 (zldL_some hL).1 (zldL_some hL).2) (kk _ _ _ _ _ hI)
theorem zs_aload_n (F : zFx p R s m args meth c M E d) {k : Fin 4} (hdg : decode M.2.1 pc = .ok (.aload_n k, 1)) (hI : zInv E ph M n0 s0 μ L s ls H locs cells slots) (h : zai ph call M (.aload_n k) pc L st μ = some (.inl q)) (kk : zKK p l e R s m args below meth c Q M E ph n0 s0 q) : W p l e R s m args below meth c H locs cells slots Q (F0 m pc ls (st.map (zcv E))) := by
  obtain ⟨hx, hb, hml, hown, hts, hG, hnm, hfr, hlo⟩ := F
  replace h := Option.bind_eq_some_iff.mp h
  obtain ⟨x, hL, h⟩ := h
  cases znx_some h
  replace hL := zldR_some hL
  have kk := kk _ _ _ _ _ hI
  replace kk : W p l e R s m args below meth c H locs cells slots Q (F0 m (pc + 1) ls (zcv E (.ref x) :: st.map (zcv E))) := kk
  rw [zcv_r] at kk
  exact lv_aload_n hx hb hdg rfl (zlv_r hI.1 hL) kk
theorem zs_aload (F : zFx p R s m args meth c M E d) {k : Nat} (hdg : decode M.2.1 pc = .ok (.aload k, 2)) (hI : zInv E ph M n0 s0 μ L s ls H locs cells slots) (h : zai ph call M (.aload k) pc L st μ = some (.inl q)) (kk : zKK p l e R s m args below meth c Q M E ph n0 s0 q) : W p l e R s m args below meth c H locs cells slots Q (F0 m pc ls (st.map (zcv E))) := by
  obtain ⟨hx, hb, hml, hown, hts, hG, hnm, hfr, hlo⟩ := F
  replace h := Option.bind_eq_some_iff.mp h
  obtain ⟨x, hL, h⟩ := h
  cases znx_some h
  replace hL := zldR_some hL
  have kk := kk _ _ _ _ _ hI
  replace kk : W p l e R s m args below meth c H locs cells slots Q (F0 m (pc + 2) ls (zcv E (.ref x) :: st.map (zcv E))) := kk
  rw [zcv_r] at kk
  exact lv_aload hx hb hdg (zlv_r hI.1 hL) kk
theorem zs_istore_n (F : zFx p R s m args meth c M E d) {k : Fin 4} (hdg : decode M.2.1 pc = .ok (.istore_n k, 1)) (hI : zInv E ph M n0 s0 μ L s ls H locs cells slots) (h : zai ph call M (.istore_n k) pc L st μ = some (.inl q)) (kk : zKK p l e R s m args below meth c Q M E ph n0 s0 q) : W p l e R s m args below meth c H locs cells slots Q (F0 m pc ls (st.map (zcv E))) := by
  obtain ⟨hx, hb, hml, hown, hts, hG, hnm, hfr, hlo⟩ := F
  replace h := z1i_some h
  obtain ⟨x, r, rfl, h⟩ := h
  replace h := Option.bind_eq_some_iff.mp h
  obtain ⟨L1, hL, h⟩ := h
  obtain ⟨hk, rfl⟩ := zst1_some hL
  cases znx_some h
  exact lv_istore_n hx hb hdg rfl hI.1 hk rfl (fun ls1 hl1 => kk _ _ _ _ _ ⟨lv_mono hl1 (zlv_set1 hG (fun q => by cases q) rfl), hI.2⟩)
theorem zs_istore (F : zFx p R s m args meth c M E d) {k : Nat} (hdg : decode M.2.1 pc = .ok (.istore k, 2)) (hI : zInv E ph M n0 s0 μ L s ls H locs cells slots) (h : zai ph call M (.istore k) pc L st μ = some (.inl q)) (kk : zKK p l e R s m args below meth c Q M E ph n0 s0 q) : W p l e R s m args below meth c H locs cells slots Q (F0 m pc ls (st.map (zcv E))) := by
  obtain ⟨hx, hb, hml, hown, hts, hG, hnm, hfr, hlo⟩ := F
  replace h := z1i_some h
  obtain ⟨x, r, rfl, h⟩ := h
  replace h := Option.bind_eq_some_iff.mp h
  obtain ⟨L1, hL, h⟩ := h
  obtain ⟨hk, rfl⟩ := zst1_some hL
  cases znx_some h
  exact lv_istore hx hb hdg hI.1 hk rfl (fun ls1 hl1 => kk _ _ _ _ _ ⟨lv_mono hl1 (zlv_set1 hG (fun q => by cases q) rfl), hI.2⟩)
theorem zs_lstore_n (F : zFx p R s m args meth c M E d) {k : Fin 4} (hdg : decode M.2.1 pc = .ok (.lstore_n k, 1)) (hI : zInv E ph M n0 s0 μ L s ls H locs cells slots) (h : zai ph call M (.lstore_n k) pc L st μ = some (.inl q)) (kk : zKK p l e R s m args below meth c Q M E ph n0 s0 q) : W p l e R s m args below meth c H locs cells slots Q (F0 m pc ls (st.map (zcv E))) := by
  obtain ⟨hx, hb, hml, hown, hts, hG, hnm, hfr, hlo⟩ := F
  replace h := z1l_some h
  obtain ⟨x, r, rfl, h⟩ := h
  replace h := Option.bind_eq_some_iff.mp h
  obtain ⟨L1, hL, h⟩ := h
  obtain ⟨hk, rfl⟩ := zst2_some hL
  cases znx_some h
  exact lv_lstore_n hx hb hdg rfl hI.1 hk rfl (fun ls1 hl1 => kk _ _ _ _ _ ⟨lv_mono hl1 (zlv_set2 hG (fun q => by cases q)), hI.2⟩)
theorem zs_lstore (F : zFx p R s m args meth c M E d) {k : Nat} (hdg : decode M.2.1 pc = .ok (.lstore k, 2)) (hI : zInv E ph M n0 s0 μ L s ls H locs cells slots) (h : zai ph call M (.lstore k) pc L st μ = some (.inl q)) (kk : zKK p l e R s m args below meth c Q M E ph n0 s0 q) : W p l e R s m args below meth c H locs cells slots Q (F0 m pc ls (st.map (zcv E))) := by
  obtain ⟨hx, hb, hml, hown, hts, hG, hnm, hfr, hlo⟩ := F
  replace h := z1l_some h
  obtain ⟨x, r, rfl, h⟩ := h
  replace h := Option.bind_eq_some_iff.mp h
  obtain ⟨L1, hL, h⟩ := h
  obtain ⟨hk, rfl⟩ := zst2_some hL
  cases znx_some h
  exact lv_lstore hx hb hdg hI.1 hk rfl (fun ls1 hl1 => kk _ _ _ _ _ ⟨lv_mono hl1 (zlv_set2 hG (fun q => by cases q)), hI.2⟩)
theorem zs_astore_n (F : zFx p R s m args meth c M E d) {k : Fin 4} (hdg : decode M.2.1 pc = .ok (.astore_n k, 1)) (hI : zInv E ph M n0 s0 μ L s ls H locs cells slots) (h : zai ph call M (.astore_n k) pc L st μ = some (.inl q)) (kk : zKK p l e R s m args below meth c Q M E ph n0 s0 q) : W p l e R s m args below meth c H locs cells slots Q (F0 m pc ls (st.map (zcv E))) := by
  obtain ⟨hx, hb, hml, hown, hts, hG, hnm, hfr, hlo⟩ := F
  replace h := z1r_some h
  obtain ⟨x, r, rfl, h⟩ := h
  replace h := Option.bind_eq_some_iff.mp h
  obtain ⟨L1, hL, h⟩ := h
  obtain ⟨hk, rfl⟩ := zst1_some hL
  cases znx_some h
  rw [List.map_cons, zcv_r]
  exact lv_astore_n hx hb hdg rfl hI.1 hk rfl (fun ls1 hl1 => kk _ _ _ _ _ ⟨lv_mono hl1 (zlv_set1 hG (fun q => by cases q) rfl), hI.2⟩)
theorem zs_astore (F : zFx p R s m args meth c M E d) {k : Nat} (hdg : decode M.2.1 pc = .ok (.astore k, 2)) (hI : zInv E ph M n0 s0 μ L s ls H locs cells slots) (h : zai ph call M (.astore k) pc L st μ = some (.inl q)) (kk : zKK p l e R s m args below meth c Q M E ph n0 s0 q) : W p l e R s m args below meth c H locs cells slots Q (F0 m pc ls (st.map (zcv E))) := by
  obtain ⟨hx, hb, hml, hown, hts, hG, hnm, hfr, hlo⟩ := F
  replace h := z1r_some h
  obtain ⟨x, r, rfl, h⟩ := h
  replace h := Option.bind_eq_some_iff.mp h
  obtain ⟨L1, hL, h⟩ := h
  obtain ⟨hk, rfl⟩ := zst1_some hL
  cases znx_some h
  rw [List.map_cons, zcv_r]
  exact lv_astore hx hb hdg hI.1 hk rfl (fun ls1 hl1 => kk _ _ _ _ _ ⟨lv_mono hl1 (zlv_set1 hG (fun q => by cases q) rfl), hI.2⟩)
theorem zs_iinc (F : zFx p R s m args meth c M E d) {k : Nat} {j : Int} (hdg : decode M.2.1 pc = .ok (.iinc k j, 3)) (hI : zInv E ph M n0 s0 μ L s ls H locs cells slots) (h : zai ph call M (.iinc k j) pc L st μ = some (.inl q)) (kk : zKK p l e R s m args below meth c Q M E ph n0 s0 q) : W p l e R s m args below meth c H locs cells slots Q (F0 m pc ls (st.map (zcv E))) := by
  obtain ⟨hx, hb, hml, hown, hts, hG, hnm, hfr, hlo⟩ := F
  replace h := Option.bind_eq_some_iff.mp h
  obtain ⟨x, hL0, h⟩ := h
  replace h := Option.bind_eq_some_iff.mp h
  obtain ⟨L1, hL, h⟩ := h
  obtain ⟨hk, rfl⟩ := zst1_some hL
  cases znx_some h
  have hm : (k, Value.int x) ∈ zlv E L := zlv_mem.mpr ⟨.int x, zldI_some hL0, (fun q => by cases q), (fun q => by cases q), rfl⟩
  obtain ⟨i, hi⟩ := List.getElem?_of_mem hm
  exact lv_iinc hx hb hdg hI.1 hi rfl hk rfl (fun ls1 hl1 => kk _ _ _ _ _ ⟨lv_mono hl1 (zlv_set1 hG (fun q => by cases q) rfl), hI.2⟩)
theorem zs_dup (F : zFx p R s m args meth c M E d) (hdg : decode M.2.1 pc = .ok (.dup, 1)) (hI : zInv E ph M n0 s0 μ L s ls H locs cells slots) (h : zai ph call M (.dup) pc L st μ = some (.inl q)) (kk : zKK p l e R s m args below meth c Q M E ph n0 s0 q) : W p l e R s m args below meth c H locs cells slots Q (F0 m pc ls (st.map (zcv E))) := by
  obtain ⟨hx, hb, hml, hown, hts, hG, hnm, hfr, hlo⟩ := F
  cases st with
  | nil => cases h
  | cons v r =>
    by_cases hc : v.category = 1
    · have h : znx (pc + 1) L (v :: v :: r) μ = some (.inl q) := by
        have h2 : (if v.category = 1 then znx (pc + 1) L (v :: v :: r) μ else none) = some (.inl q) := h
        rwa [if_pos hc] at h2
      cases znx_some h
      exact lv_dup hx hb hdg (by rw [zcv_cat hG, hc]) (kk _ _ _ _ _ hI)
    · have h2 : (if v.category = 1 then znx (pc + 1) L (v :: v :: r) μ else none) = some (.inl q) := h
      rw [if_neg hc] at h2
      cases h2
theorem zs_pop (F : zFx p R s m args meth c M E d) (hdg : decode M.2.1 pc = .ok (.pop, 1)) (hI : zInv E ph M n0 s0 μ L s ls H locs cells slots) (h : zai ph call M (.pop) pc L st μ = some (.inl q)) (kk : zKK p l e R s m args below meth c Q M E ph n0 s0 q) : W p l e R s m args below meth c H locs cells slots Q (F0 m pc ls (st.map (zcv E))) := by
  obtain ⟨hx, hb, hml, hown, hts, hG, hnm, hfr, hlo⟩ := F
  cases st with
  | nil => cases h
  | cons v r =>
    have h2 : (if v.category = 1 then znx (pc + 1) L r μ else none) = some (.inl q) := h
    by_cases hc : v.category = 1
    · rw [if_pos hc] at h2
      cases znx_some h2
      exact lv_pop hx hb hdg (by rw [zcv_cat hG, hc]) (kk _ _ _ _ _ hI)
    · rw [if_neg hc] at h2
      cases h2
theorem zs_dup2 (F : zFx p R s m args meth c M E d) (hdg : decode M.2.1 pc = .ok (.dup2, 1)) (hI : zInv E ph M n0 s0 μ L s ls H locs cells slots) (h : zai ph call M (.dup2) pc L st μ = some (.inl q)) (kk : zKK p l e R s m args below meth c Q M E ph n0 s0 q) : W p l e R s m args below meth c H locs cells slots Q (F0 m pc ls (st.map (zcv E))) := by
  obtain ⟨hx, hb, hml, hown, hts, hG, hnm, hfr, hlo⟩ := F
  match st, h with
  | v :: w :: r, h =>
    have h2 : (if v.category = 1 ∧ w.category = 1 then znx (pc + 1) L (v :: w :: v :: w :: r) μ else none) = some (.inl q) := h
    by_cases hc : v.category = 1 ∧ w.category = 1
    · rw [if_pos hc] at h2
      cases znx_some h2
      exact lv_dup2_11 hx hb hdg (by rw [zcv_cat hG, hc.1]) (by rw [zcv_cat hG, hc.2]) (kk _ _ _ _ _ hI)
    · rw [if_neg hc] at h2
      cases h2
theorem zs_ifCond (F : zFx p R s m args meth c M E d) {k : ClassFile.Cond} {off : Int} (hdg : decode M.2.1 pc = .ok (.ifCond k off, 3)) (hI : zInv E ph M n0 s0 μ L s ls H locs cells slots) (h : zai ph call M (.ifCond k off) pc L st μ = some (.inl q)) (kk : zKK p l e R s m args below meth c Q M E ph n0 s0 q) : W p l e R s m args below meth c H locs cells slots Q (F0 m pc ls (st.map (zcv E))) := by
  obtain ⟨hx, hb, hml, hown, hts, hG, hnm, hfr, hlo⟩ := F
  replace h := z1i_some h
  obtain ⟨a, r, rfl, h⟩ := h
  replace h := zjp_some h
  obtain ⟨t, ht, h⟩ := h
  cases k with
  | eq =>
    by_cases hc : a = 0
    · rw [if_pos (by simp [zcm, hc])] at h
      cases znx_some h
      exact lv_if_eq hx hb hdg ht (fun _ => kk _ _ _ _ _ hI) (fun h2 => absurd hc h2)
    · rw [if_neg (by simp [zcm] at hc ⊢; exact hc)] at h
      cases znx_some h
      exact lv_if_eq hx hb hdg ht (fun h2 => absurd h2 hc) (fun _ => kk _ _ _ _ _ hI)
  | ne =>
    by_cases hc : ¬ a = 0
    · rw [if_pos (by simp [zcm, hc])] at h
      cases znx_some h
      exact lv_if_ne hx hb hdg ht (fun _ => kk _ _ _ _ _ hI) (fun h2 => absurd h2 hc)
    · rw [if_neg (by simp [zcm] at hc ⊢; exact hc)] at h
      cases znx_some h
      exact lv_if_ne hx hb hdg ht (fun h2 => absurd h2 hc) (fun _ => kk _ _ _ _ _ hI)
  | lt =>
    by_cases hc : a < 0
    · rw [if_pos (by simp [zcm, hc])] at h
      cases znx_some h
      exact lv_if_lt hx hb hdg ht (fun _ => kk _ _ _ _ _ hI) (fun h2 => absurd hc h2)
    · rw [if_neg (by simp [zcm] at hc ⊢; exact hc)] at h
      cases znx_some h
      exact lv_if_lt hx hb hdg ht (fun h2 => absurd h2 hc) (fun _ => kk _ _ _ _ _ hI)
  | ge =>
    by_cases hc : 0 ≤ a
    · rw [if_pos (by simp [zcm, hc])] at h
      cases znx_some h
      exact lv_if_ge hx hb hdg ht (fun _ => kk _ _ _ _ _ hI) (fun h2 => absurd hc h2)
    · rw [if_neg (by simp [zcm] at hc ⊢; exact hc)] at h
      cases znx_some h
      exact lv_if_ge hx hb hdg ht (fun h2 => absurd h2 hc) (fun _ => kk _ _ _ _ _ hI)
  | gt =>
    by_cases hc : 0 < a
    · rw [if_pos (by simp [zcm, hc])] at h
      cases znx_some h
      exact lv_if_gt hx hb hdg ht (fun _ => kk _ _ _ _ _ hI) (fun h2 => absurd hc h2)
    · rw [if_neg (by simp [zcm] at hc ⊢; exact hc)] at h
      cases znx_some h
      exact lv_if_gt hx hb hdg ht (fun h2 => absurd h2 hc) (fun _ => kk _ _ _ _ _ hI)
  | le =>
    by_cases hc : a ≤ 0
    · rw [if_pos (by simp [zcm, hc])] at h
      cases znx_some h
      exact lv_if_le hx hb hdg ht (fun _ => kk _ _ _ _ _ hI) (fun h2 => absurd hc h2)
    · rw [if_neg (by simp [zcm] at hc ⊢; exact hc)] at h
      cases znx_some h
      exact lv_if_le hx hb hdg ht (fun h2 => absurd h2 hc) (fun _ => kk _ _ _ _ _ hI)
theorem zs_if_icmp (F : zFx p R s m args meth c M E d) {k : ClassFile.Cond} {off : Int} (hdg : decode M.2.1 pc = .ok (.if_icmp k off, 3)) (hI : zInv E ph M n0 s0 μ L s ls H locs cells slots) (h : zai ph call M (.if_icmp k off) pc L st μ = some (.inl q)) (kk : zKK p l e R s m args below meth c Q M E ph n0 s0 q) : W p l e R s m args below meth c H locs cells slots Q (F0 m pc ls (st.map (zcv E))) := by
  obtain ⟨hx, hb, hml, hown, hts, hG, hnm, hfr, hlo⟩ := F
  replace h := z2i_some h
  obtain ⟨a, b, r, rfl, h⟩ := h
  replace h := zjp_some h
  obtain ⟨t, ht, h⟩ := h
  cases k with
  | eq =>
    by_cases hc : a = b
    · rw [if_pos (by simp [zcm, hc])] at h
      cases znx_some h
      exact lv_icmp_eq hx hb hdg ht (fun _ => kk _ _ _ _ _ hI) (fun h2 => absurd hc h2)
    · rw [if_neg (by simp [zcm] at hc ⊢; exact hc)] at h
      cases znx_some h
      exact lv_icmp_eq hx hb hdg ht (fun h2 => absurd h2 hc) (fun _ => kk _ _ _ _ _ hI)
  | ne =>
    by_cases hc : ¬ a = b
    · rw [if_pos (by simp [zcm, hc])] at h
      cases znx_some h
      exact lv_icmp_ne hx hb hdg ht (fun _ => kk _ _ _ _ _ hI) (fun h2 => absurd h2 hc)
    · rw [if_neg (by simp [zcm] at hc ⊢; exact hc)] at h
      cases znx_some h
      exact lv_icmp_ne hx hb hdg ht (fun h2 => absurd h2 hc) (fun _ => kk _ _ _ _ _ hI)
  | lt =>
    by_cases hc : a < b
    · rw [if_pos (by simp [zcm, hc])] at h
      cases znx_some h
      exact lv_icmp_lt hx hb hdg ht (fun _ => kk _ _ _ _ _ hI) (fun h2 => absurd hc h2)
    · rw [if_neg (by simp [zcm] at hc ⊢; exact hc)] at h
      cases znx_some h
      exact lv_icmp_lt hx hb hdg ht (fun h2 => absurd h2 hc) (fun _ => kk _ _ _ _ _ hI)
  | ge =>
    by_cases hc : b ≤ a
    · rw [if_pos (by simp [zcm, hc])] at h
      cases znx_some h
      exact lv_icmp_ge hx hb hdg ht (fun _ => kk _ _ _ _ _ hI) (fun h2 => absurd hc h2)
    · rw [if_neg (by simp [zcm] at hc ⊢; exact hc)] at h
      cases znx_some h
      exact lv_icmp_ge hx hb hdg ht (fun h2 => absurd h2 hc) (fun _ => kk _ _ _ _ _ hI)
  | gt =>
    by_cases hc : b < a
    · rw [if_pos (by simp [zcm, hc])] at h
      cases znx_some h
      exact lv_icmp_gt hx hb hdg ht (fun _ => kk _ _ _ _ _ hI) (fun h2 => absurd hc h2)
    · rw [if_neg (by simp [zcm] at hc ⊢; exact hc)] at h
      cases znx_some h
      exact lv_icmp_gt hx hb hdg ht (fun h2 => absurd h2 hc) (fun _ => kk _ _ _ _ _ hI)
  | le =>
    by_cases hc : a ≤ b
    · rw [if_pos (by simp [zcm, hc])] at h
      cases znx_some h
      exact lv_icmp_le hx hb hdg ht (fun _ => kk _ _ _ _ _ hI) (fun h2 => absurd hc h2)
    · rw [if_neg (by simp [zcm] at hc ⊢; exact hc)] at h
      cases znx_some h
      exact lv_icmp_le hx hb hdg ht (fun h2 => absurd h2 hc) (fun _ => kk _ _ _ _ _ hI)
theorem zs_goto (F : zFx p R s m args meth c M E d) {off : Int} (hdg : decode M.2.1 pc = .ok (.goto off, 3)) (hI : zInv E ph M n0 s0 μ L s ls H locs cells slots) (h : zai ph call M (.goto off) pc L st μ = some (.inl q)) (kk : zKK p l e R s m args below meth c Q M E ph n0 s0 q) : W p l e R s m args below meth c H locs cells slots Q (F0 m pc ls (st.map (zcv E))) := by
  obtain ⟨hx, hb, hml, hown, hts, hG, hnm, hfr, hlo⟩ := F
  replace h : zjp pc off (fun t => znx t L st μ) = some (.inl q) := h
  replace h := zjp_some h
  obtain ⟨t, ht, h⟩ := h
  cases znx_some h
  exact lv_goto hx hb hdg ht (kk _ _ _ _ _ hI)
theorem zs_tableswitch (F : zFx p R s m args meth c M E d) {dd lo hi : Int} {offs : Array Int} {len : Nat} (hdg : decode M.2.1 pc = .ok (.tableswitch dd lo hi offs, len)) (hI : zInv E ph M n0 s0 μ L s ls H locs cells slots) (h : zai ph call M (.tableswitch dd lo hi offs) pc L st μ = some (.inl q)) (kk : zKK p l e R s m args below meth c Q M E ph n0 s0 q) : W p l e R s m args below meth c H locs cells slots Q (F0 m pc ls (st.map (zcv E))) := by
  obtain ⟨hx, hb, hml, hown, hts, hG, hnm, hfr, hlo⟩ := F
  replace h := z1i_some h
  obtain ⟨a, r, rfl, h⟩ := h
  split at h
  · rename_i hc
    replace h := zjp_some h
    obtain ⟨t, ht, h⟩ := h
    cases znx_some h
    exact lv_tableOut hx hb hdg hc ht (kk _ _ _ _ _ hI)
  · rename_i hc
    replace h := Option.bind_eq_some_iff.mp h
    obtain ⟨off, ho, h⟩ := h
    replace h := zjp_some h
    obtain ⟨t, ht, h⟩ := h
    cases znx_some h
    exact lv_tableIn hx hb hdg (fun z => hc (Or.inl z)) (fun z => hc (Or.inr z)) ho ht (kk _ _ _ _ _ hI)
end ZS
