/-! ===== the law's first steps; the memory behind the constructors; the walk of the law ===== -/
def zmS (m2 : Zm) (xs : Nat → Int32) (L : Nat) : Zm := fun c i => if c = 2000 then xs i else if c = 2100 ∧ i = 0 then nI L else m2 c i
theorem zr1_some : zr1 = some (none, zm1) := by
  have h := zr1_ok
  unfold zm1
  cases hz : zr1 with
  | none => rw [hz] at h; cases h
  | some r =>
    rw [hz] at h
    simp only [Option.map_some, Option.some.injEq, Prod.mk.injEq] at h
    obtain ⟨a, b⟩ := r
    dsimp only at h
    rw [h.1]
theorem zr2_some : zr2 = some (none, zm2) := by
  have h := zr2_ok
  unfold zm2
  cases hz : zr2 with
  | none => rw [hz] at h; cases h
  | some r =>
    rw [hz] at h
    simp only [Option.map_some, Option.some.injEq, Prod.mk.injEq] at h
    obtain ⟨a, b⟩ := r
    dsimp only at h
    rw [h.1]
theorem zsz1 : zsz false zm1 = 63 := by
  have h := zr1_ok
  rw [zr1_some] at h
  simpa using h
theorem zsz2 : zsz false zm2 = 74 := by
  have h := zr2_ok
  rw [zr2_some] at h
  simpa using h
theorem zc1 : zC false 4 mX6_init [.ref 0] (zal zm0 0) = some (none, zm1) := zF_C 4 _ _ _ _ zr1_some
theorem zc2 : zC false 4 mX7_init [.ref 63] (zal zm1 63) = some (none, zm2) := zF_C 4 _ _ _ _ zr2_some
/-- the same cells in both phases -/
theorem zwl_turn {zm2 : Zm} (zsz2 : zsz false zm2 = 74) (zm2_at : ∀ {c i : Nat}, c < 74 → i < (zsh c).2 → zm2 c i = zmE c i) {D : va_G} {ca : Nat → ClassId} {b0 : Nat} {oa : Nat → Nat} {fm : Value} {L : Nat} {xs : Nat → Int32} {H : Heap} (h : va_P D vwCl (zwl (D, ca, b0, oa, fm, 4000, fun _ => 0) false zm2) H) : va_P D vwCl (zwl (D, ca, b0, oa, fm, L, xs) true (zmS zm2 xs L)) H := by
  have hcv : ∀ v, zcv (D, ca, b0, oa, fm, L, xs) v = zcv (D, ca, b0, oa, fm, 4000, fun _ => 0) v := fun v => by cases v <;> rfl
  intro k q hk
  have hlen : k < 74 := by
    have := (List.getElem?_eq_some_iff.mp hk).1
    rw [zwl_len] at this
    exact this
  rw [zwl_get (show k < zsz true (zmS zm2 xs L) from hlen)] at hk
  cases hk
  have h1 := h k _ (zwl_get (by rw [zsz2]; exact hlen))
  have hs : ∀ i, zmS zm2 xs L k i = zm2 k i := fun i => by
    unfold zmS
    rw [if_neg (by omega), if_neg (by omega)]
  have hsm := zsh_small hlen
  have hrf : ∀ i, i < (zsh k).2 → ((zsh k).1 < 8 → zkd (zsh k).1 i = 1) → (12 < (zsh k).1 ∨ (zsh k).1 < 8) → zrf true (zmS zm2 xs L) (zsh k).1 k i = zrf false zm2 (zsh k).1 k i := by
    intro i hi hk1 ht
    have hz := zm2_at hlen hi
    unfold zrf
    rw [hs]
    unfold zmE at hz
    by_cases h2 : (zsh k).1 = 99
    · rw [h2]; rfl
    · have h1n : ¬ (1 : Int32) = 0 := by decide
      rcases ht with ht | ht
      · rw [if_neg (by omega), if_pos ht] at hz
        rw [hz]
        simp [zfg, h2, h1n]
      · rw [if_pos ht, if_pos ⟨hk1 ht, h2⟩] at hz
        rw [hz]
        simp [zfg, h2, h1n]
  by_cases h8 : (zsh k).1 < 8
  · have h1' : va_at D vwCl (b0 + k, .inr ((zsh k).1, (List.range (zcl (zsh k).1).2.2).map (fun i => zcv (D, ca, b0, oa, fm, 4000, fun _ => 0) (zsv false zm2 (zsh k).1 k i)))) H := by rw [← zce_obj rfl h8]; exact h1
    have hf : (List.range (zcl (zsh k).1).2.2).map (fun i => zcv (D, ca, b0, oa, fm, L, xs) (zsv true (zmS zm2 xs L) (zsh k).1 k i)) = (List.range (zcl (zsh k).1).2.2).map (fun i => zcv (D, ca, b0, oa, fm, 4000, fun _ => 0) (zsv false zm2 (zsh k).1 k i)) := by
      apply List.map_congr_left
      intro i hi
      have hi := List.mem_range.mp hi
      rw [hcv]
      refine congrArg (zcv (D, ca, b0, oa, fm, 4000, fun _ => 0)) ?_
      unfold zsv
      by_cases hk1 : zkd (zsh k).1 i = 1
      · rw [if_pos hk1, if_pos hk1]
        exact congrArg zrv (hrf i (by rw [zsh_obj rfl h8]; exact hi) (fun _ => hk1) (Or.inr h8))
      · rw [if_neg hk1, if_neg hk1, hs, hs]
    rw [zce_obj rfl h8, hf]
    exact h1'
  · by_cases h13 : (zsh k).1 < 13
    · have h1' : va_at D vwCl (b0 + k, .inl (ca (zsh k).1, (zsh k).2, .inl (fun i => zm2 k i))) H := by
        have := zce_arr (E := (D, ca, b0, oa, fm, 4000, fun _ => 0)) (ph := false) (μ := zm2) (c := k) rfl h8 h13
        rw [this] at h1
        exact h1
      have hf : (fun i => zmS zm2 xs L k i) = fun i => zm2 k i := funext hs
      rw [zce_arr rfl h8 h13, hf]
      exact h1'
    · have e1 := zce_ref (E := (D, ca, b0, oa, fm, 4000, fun _ => 0)) (ph := false) (μ := zm2) (c := k) rfl h8 h13
      rw [e1] at h1
      have h1 : H[b0 + k]? = some (vp_cell (ca (zsh k).1) ((zsh k).2, .inr (.inr (.inr (.inr (fun i => (zrf false zm2 (zsh k).1 k i).map (fun k => b0 + k))))))) := h1
      rw [zce_ref rfl h8 h13]
      show H[b0 + k]? = some (vp_cell (ca (zsh k).1) ((zsh k).2, .inr (.inr (.inr (.inr (fun i => (zrf true (zmS zm2 xs L) (zsh k).1 k i).map (fun k => b0 + k)))))))
      rw [h1, vp_cell_q, vp_cell_q]
      have ea : ∀ f g : Nat → Value, (∀ j, j < (zsh k).2 → f j = g j) → arrV (ca (zsh k).1) (zsh k).2 f = arrV (ca (zsh k).1) (zsh k).2 g := by
        intro f g hfg
        have : (Array.ofFn (n := (zsh k).2) fun j => f j.val) = Array.ofFn (n := (zsh k).2) fun j => g j.val := by
          apply Array.ext
          · simp
          · intro i h2 h3
            simp only [Array.getElem_ofFn]
            exact hfg i (by simpa using h2)
        unfold arrV
        rw [this]
      exact congrArg some (ea _ _ (fun j hj => by rw [hrf j hj (fun h => absurd h h8) (Or.inl (by omega))]))
/-- THE LAW, given that the abstract machine comes to 1 -/
theorem whole_open0 {zm1 zm2 : Zm} (zsz1 : zsz false zm1 = 63) (zsz2 : zsz false zm2 = 74) (zc1 : zC false 4 mX6_init [.ref 0] (zal zm0 0) = some (none, zm1)) (zc2 : zC false 4 mX7_init [.ref 63] (zal zm1 63) = some (none, zm2)) (zm2_at : ∀ {c i : Nat}, c < 74 → i < (zsh c).2 → zm2 c i = zmE c i) {p : Program} {e : Env} {s : State} {m : MethodId} {below : List Frame} {meth : Method} {c : Code} (l : Launch) {b L : Nat} {xs : Nat → Int32} (hL : L ≤ 3072) (C0 : lw_At p s m meth c b L xs)
    (hpure : ∃ μ', zA 60 mL_law 16 [.ref 2000, .ref 0, .ref 63, zjk] [] (zmS zm2 xs L) = some (some (.int 1), μ')) :
    W p l e room_1 s m #[Value.ref b] below meth c s.heap [] 0 0 (lw_Z below #[Value.ref b] s) (entryFrame m ([Value.ref b] : List Value).toArray 4) := by
  obtain ⟨D, ca, oa, fm, hob, G0, G1⟩ := zGs_start C0 hL
  obtain ⟨hx, hb, hr, hml, hown, hts, hX, hbl, hlocks, hgv⟩ := C0
  have F0' : ∀ (Lx : Nat) (ys : Nat → Int32) (d : Nat), d ≤ 60 → zGs (D, ca, s.heap.size, oa, fm, Lx, ys) s → zFx p room_1 s m #[Value.ref b] meth c mL_law (D, ca, s.heap.size, oa, fm, Lx, ys) d := by
    intro Lx ys d hd hG
    exact ⟨hx, hb, hml, hown, fun w hw => hts w (List.mem_filter.mp hw).1, hG, Or.inr (by decide), by show d + 2 ≤ 2048; omega, by show 60 * (d + 2) ≤ 84000; omega⟩
  have FA := F0' 4000 (fun _ => 0) 4 (by omega) G0
  have IH := zsound l (D, ca, s.heap.size, oa, fm, 4000, fun _ => 0) false 4
  rw [lg_entry_eq]
  have hl := lv_entry ([.ref b]) (n := 4) (Nat.le_of_ble_eq_true rfl)
  generalize (lg_sl ([.ref b]) ++ List.replicate (4 - (lg_sl ([.ref b])).length) Slot.unset).toArray = ls at hl ⊢
  have hI : zInv (D, ca, s.heap.size, oa, fm, 4000, fun _ => 0) false mL_law 0 0 zm0 [.ref 2000, zjk, zjk, zjk] s ls s.heap [] 0 0 := by
    refine ⟨lv_mono hl (fun q hq => ?_), fun k q hk => ?_, fun _ => rfl, va_S.rf, ⟨fun j hj => rfl, rfl⟩, rfl, rfl⟩
    · obtain ⟨v, h1, h2, h3, h4⟩ := zlv_mem.mp hq
      obtain ⟨i, w⟩ := q
      dsimp only at h1 h4
      match i, h1 with
      | 0, h1 =>
        cases h1
        rw [h4]
        show (0, Value.ref (oa 2000)) ∈ _
        rw [hob]
        exact List.mem_cons_self
      | 1, h1 => cases h1; exact absurd rfl h2
      | 2, h1 => cases h1; exact absurd rfl h2
      | 3, h1 => cases h1; exact absurd rfl h2
      | i + 4, h1 => cases h1
    · cases hk
  have room : ∀ n, n ≤ 74 → n ≤ room_1.cells + 0 ∧ zsm n ≤ room_1.slots + 0 := fun n hn => by
    refine ⟨by show n ≤ 600000 + 0; omega, ?_⟩
    have h1 := zsm_mono hn
    have h2 : zsm 74 ≤ 100000 := by decide +kernel
    show zsm n ≤ 7302250 + 0
    omega
  -- eight steps
  refine zstep (st := []) FA IH dL_law_0 (Or.inl rfl) hI (q := (3, [.ref 2000, zjk, zjk, zjk], [.ref 0], zal zm0 0)) (by rfl) (room 1 (by omega)) (fun ls H locs cells slots hI => ?_)
  refine zstep (st := [.ref 0]) FA IH dL_law_3 (Or.inl rfl) hI (q := (4, [.ref 2000, zjk, zjk, zjk], [.ref 0, .ref 0], zal zm0 0)) (by rfl) (room 1 (by omega)) (fun ls H locs cells slots hI => ?_)
  refine zstep (st := [.ref 0, .ref 0]) FA IH dL_law_4 (Or.inl rfl) hI (q := (7, [.ref 2000, zjk, zjk, zjk], [.ref 0], zm1)) ?_ (by rw [zsz1]; exact room 63 (by omega)) (fun ls H locs cells slots hI => ?_)
  · show (zf2 zcL 8 9).bind (fun q => if q.1 = 4 ∨ q.1 = 5 ∨ q.1 = 6 then zcall false (zC false 4) q.1 q.2.1 q.2.2 (([.ref 0, .ref 0] : List Value).take q.2.2).reverse (([.ref 0, .ref 0] : List Value).drop q.2.2) 4 [.ref 2000, zjk, zjk, zjk] (zal zm0 0) else none) = _
    rw [show zf2 zcL 8 9 = some (4, mX6_init, 1) from rfl]
    show zcall false (zC false 4) 4 mX6_init 1 [.ref 0] [.ref 0] 4 [.ref 2000, zjk, zjk, zjk] (zal zm0 0) = _
    unfold zcall
    rw [if_pos ⟨rfl, by simp⟩, if_neg (by omega), if_neg (by omega), if_neg (by omega), if_neg (by omega), if_pos ⟨by omega, Or.inr rfl⟩, zc1]
    show (if zsz false (zal zm0 0) ≤ zsz false zm1 then _ else none) = _
    rw [if_pos (by rw [zsz1, zsz_al (by omega)]; omega)]
    rfl
  refine zstep (st := [.ref 0]) FA IH dL_law_7 (Or.inl rfl) hI (q := (8, [.ref 2000, .ref 0, zjk, zjk], [], zm1)) (by rfl) (by rw [zsz1]; exact room 63 (by omega)) (fun ls H locs cells slots hI => ?_)
  refine zstep (st := []) FA IH dL_law_8 (Or.inl rfl) hI (q := (11, [.ref 2000, .ref 0, zjk, zjk], [.ref 63], zal zm1 63)) ?_ (by show zsz false (zal zm1 63) ≤ _ ∧ _; rw [zsz_al (by omega)]; exact room 64 (by omega)) (fun ls H locs cells slots hI => ?_)
  · show (if false = true then none else (zf2 znL 8 10).bind fun t => if zsz false zm1 < 74 ∧ (zsh (zsz false zm1)).1 = t then znx (8 + 3) [.ref 2000, .ref 0, zjk, zjk] [.ref (zsz false zm1)] (zal zm1 (zsz false zm1)) else none) = _
    rw [zsz1]
    rfl
  refine zstep (st := [.ref 63]) FA IH dL_law_11 (Or.inl rfl) hI (q := (12, [.ref 2000, .ref 0, zjk, zjk], [.ref 63, .ref 63], zal zm1 63)) (by rfl) (by show zsz false (zal zm1 63) ≤ _ ∧ _; rw [zsz_al (by omega)]; exact room 64 (by omega)) (fun ls H locs cells slots hI => ?_)
  refine zstep (st := [.ref 63, .ref 63]) FA IH dL_law_12 (Or.inl rfl) hI (q := (15, [.ref 2000, .ref 0, zjk, zjk], [.ref 63], zm2)) ?_ (by rw [zsz2]; exact room 74 (by omega)) (fun ls H locs cells slots hI => ?_)
  · show (zf2 zcL 8 12).bind (fun q => if q.1 = 4 ∨ q.1 = 5 ∨ q.1 = 6 then zcall false (zC false 4) q.1 q.2.1 q.2.2 (([.ref 63, .ref 63] : List Value).take q.2.2).reverse (([.ref 63, .ref 63] : List Value).drop q.2.2) 12 [.ref 2000, .ref 0, zjk, zjk] (zal zm1 63) else none) = _
    rw [show zf2 zcL 8 12 = some (4, mX7_init, 1) from rfl]
    show zcall false (zC false 4) 4 mX7_init 1 [.ref 63] [.ref 63] 12 [.ref 2000, .ref 0, zjk, zjk] (zal zm1 63) = _
    unfold zcall
    rw [if_pos ⟨rfl, by simp⟩, if_neg (by omega), if_neg (by omega), if_neg (by omega), if_neg (by omega), if_pos ⟨by omega, Or.inr (by
      show zrc2 false (zal zm1 63) 7 63 = true
      unfold zrc2 zob
      rw [zsz_al (by omega)]
      rfl)⟩, zc2]
    · show (if zsz false (zal zm1 63) ≤ zsz false zm2 then _ else none) = _
      rw [if_pos (by rw [zsz2, zsz_al (by omega)]; omega)]
      rfl
  refine zstep (st := [.ref 63]) FA IH dL_law_15 (Or.inl rfl) hI (q := (16, [.ref 2000, .ref 0, .ref 63, zjk], [], zm2)) (by rfl) (by rw [zsz2]; exact room 74 (by omega)) (fun ls H locs cells slots hI => ?_)
  -- the rest, over the finished objects
  obtain ⟨i1, i2, i3, i4, i5, i6, i7⟩ := hI
  obtain ⟨μ', hp⟩ := hpure
  obtain ⟨n, hn⟩ := zlim_some hp
  have FB := F0' L xs 60 (by omega) G1
  have IH2 := zsound l (D, ca, s.heap.size, oa, fm, L, xs) true 60
  have hI2 : zInv (D, ca, s.heap.size, oa, fm, L, xs) true mL_law 0 0 (zmS zm2 xs L) [.ref 2000, .ref 0, .ref 63, zjk] s ls H locs cells slots := by
    refine ⟨?_, zwl_turn zsz2 zm2_at i2, (fun h => by cases h), i4, ⟨fun j hj => ?_, ?_⟩, ?_, ?_⟩
    · exact i1
    · show zmS zm2 xs L 2000 j = xs j
      unfold zmS
      rw [if_pos rfl]
    · show zmS zm2 xs L 2100 0 = nI L
      unfold zmS
      rw [if_neg (by omega), if_pos ⟨rfl, rfl⟩]
    · rw [zsz2] at i6; exact i6
    · rw [zsz2] at i7; exact i7
  refine zwalk (r := (some (.int 1), μ')) FB IH2 (room 74 (by omega)) ?_ n 16 _ [] (zmS zm2 xs L) ls H locs cells slots hn hI2
  intro pc L1 ls1 H1 locs1 cells1 slots1 hI3
  refine ⟨?_, fun h => by cases h.1⟩
  rintro ⟨x, ty, hx1, hty, hok, hdg⟩
  obtain ⟨j1, j2, j3, j4, j5, j6, j7⟩ := hI3
  show W p l e room_1 s m #[Value.ref b] below meth c H1 locs1 cells1 slots1 (lw_Z below #[Value.ref b] s) (F0 m pc ls1 [.int 1])
  refine va_forget (fun q hq => j4.2.2 q hq) ?_
  have hr2 := room 74 (by omega)
  have hz74 : zsz true μ' = 74 := rfl
  rw [hz74] at j6 j7
  refine W.widen (k := 600000) (n := 7302250) (by omega) (by have h2 := hr2.2; have : room_1.slots = 7302250 := rfl; omega) ?_
  exact lw_ret hx hb hr hlocks hdg
theorem whole_open {p : Program} {e : Env} {s : State} {m : MethodId} {below : List Frame} {meth : Method} {c : Code} (l : Launch) {b L : Nat} {xs : Nat → Int32} (hL : L ≤ 3072) (C0 : lw_At p s m meth c b L xs)
    (hpure : ∀ m2 : Zm, (∀ c i : Nat, c < 74 → i < (zsh c).2 → m2 c i = zmE c i) → ∃ μ', zA 60 mL_law 16 [.ref 2000, .ref 0, .ref 63, zjk] [] (zmS m2 xs L) = some (some (.int 1), μ')) :
    W p l e room_1 s m #[Value.ref b] below meth c s.heap [] 0 0 (lw_Z below #[Value.ref b] s) (entryFrame m ([Value.ref b] : List Value).toArray 4) :=
  whole_open0 (zm1 := zm1) (zm2 := zm2) zsz1 zsz2 zc1 zc2 (fun hc hi => zm2_at hc hi) l hL C0 (hpure zm2 (fun c i hc hi => zm2_at hc hi))
