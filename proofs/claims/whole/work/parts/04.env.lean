/-! ===== the abstract memory as a world of the machine ===== -/
abbrev zE : Type := va_G × (Nat → ClassId) × Nat × (Nat → Nat) × Value × Nat × (Nat → Int32)
def zty (E : zE) : List (ClassId × FieldType) := [(E.2.1 10, .int), (E.2.1 11, .byte), (E.2.1 12, .boolean), (E.2.1 13, .object "WoolTells$Row"), (E.2.1 14, .object "WoolTells$Valley")]
def zAA (E : zE) : Nat → Prop := fun q => E.2.2.1 ≤ q
def zad (E : zE) (k : Nat) : Nat := if k < 1000 then E.2.2.1 + k else E.2.2.2.1 k
def zcv (E : zE) : Value → Value
  | .ref k => .ref (zad E k)
  | .float _ => E.2.2.2.2.1
  | v => v
def zsx : List Nat := [61, 40, 119, 121, 123, 125, 127, 49]
def ztx : List String := ["knitters", "wool", "jersey", "scarf", "cap", "stocking", "net", "saying"]
def zce (E : zE) (ph : Bool) (μ : Zm) (c : Nat) : va_E :=
  if (zsh c).1 < 8 then .inr ((zsh c).1, (List.range (zsh c).2).map (fun k => zcv E (zsv ph μ (zsh c).1 c k)))
  else if (zsh c).1 < 13 then .inl (E.2.1 (zsh c).1, (zsh c).2, .inl (fun i => μ c i))
  else .inl (E.2.1 (zsh c).1, (zsh c).2, .inr (.inr (.inr (.inr (fun i => (zrf ph μ (zsh c).1 c i).map (fun k => E.2.2.1 + k))))))
def zwl (E : zE) (ph : Bool) (μ : Zm) : va_W := (List.range (zsz ph μ)).map (fun c => (E.2.2.1 + c, zce E ph μ c))
/-- links to nest mates -/
def zNs (U : State) : Prop :=
  (∀ e ∈ zfL, ¬ e.2.2.2.2 = 0 → va_Nw (.fieldLinkNest (zon e.1) e.2.1 (zon e.2.2.1) ((zcl e.2.2.1).2.1 e.2.2.2.1).2.1 ((zcl e.2.2.1).2.1 e.2.2.2.1).2.2.1 "WoolTells") U)
  ∧ (∀ e ∈ zcL, (e.2.2.1 = 1 ∨ e.2.2.1 = 3 ∨ e.2.2.1 = 5) → va_Nw (.methodLinkNest (zon e.1) e.2.1 e.2.2.2.1.1 "WoolTells") U)
  ∧ va_AO "WoolTells$Row" U ∧ va_AO "WoolTells$Valley" U
def zGs (E : zE) (U : State) : Prop :=
  va_K E.1 vwCl (zty E) U ∧ E.2.2.1 ≤ U.heap.size ∧ (E.2.2.2.2.1 = .null ∨ ∃ a, E.2.2.2.2.1 = .ref a)
  ∧ (∀ i, i < 3 → va_Z "WoolTells" (["NEAREST", "SIZE_BODIES", "MARK_BODIES"].getD i "") "[I" (.ref (E.2.2.2.1 (2001 + i))) (zAA E) U U.heap ∧ va_T .int (E.2.2.2.1 (2001 + i)) 6 (fun j => .int (zst (2001 + i) j)) (zAA E) U U.heap)
  ∧ va_Z "java/lang/String" "COMPACT_STRINGS" "Z" (.int 1) (zAA E) U U.heap
  ∧ va_Z "jdk/internal/util/Preconditions" "SIOOBE_FORMATTER" "Ljava/util/function/BiFunction;" E.2.2.2.2.1 (zAA E) U U.heap
  ∧ vk_S 8 zsn zsb (fun i => E.2.2.2.1 (2010 + i)) (fun i => E.2.2.2.1 (2020 + i)) (zAA E) U U.heap
  ∧ (∀ i, i < 8 → vk_R "WoolTells$Reader" (zsx.getD i 0) (ztx.getD i "") (E.2.2.2.1 (2010 + i)) U)
  ∧ (E.2.2.2.2.2.1 ≤ 3072 → va_X (E.2.2.2.1 2000) E.2.2.2.2.2.1 E.2.2.2.2.2.2 U U.heap) ∧ E.2.2.2.1 2000 < E.2.2.1 ∧ E.2.2.2.2.2.1 < 5000 ∧ zNs U
theorem zGs_keep {E : zE} {s U : State} (h : zGs E s) (hW : s.WarmedH U.vm) (hq : ∀ q, q < E.2.2.1 → U.heap[q]? = s.heap[q]?) (hz : E.2.2.1 ≤ U.heap.size) : zGs E U := by
  obtain ⟨h1, h2, h3, h4, h5, h6, h7, h8, h9, h10, h11, h12⟩ := h
  have hA := hW.alike
  have hk : ∀ a : Nat, a < s.heap.size → ¬ zAA E a → U.heap[a]? = s.heap[a]? := fun a _ hn => hq a (Nat.not_le.mp hn)
  exact ⟨va_K.moved hA h1, hz, h3, fun i hi => ⟨((h4 i hi).1.kept hk).moved hA, ((h4 i hi).2.kept hk).moved hA⟩, (h5.kept hk).moved hA, (h6.kept hk).moved hA, (h7.kept hk).moved hA, fun i hi => (h8 i hi).warm hW, fun hl => ((h9 hl).kept (hq _ h10)).moved hA, h10, h11, fun e he hn => (h12.1 e he hn).warmF hW, fun e he hn => (h12.2.1 e he hn).warmM hW, h12.2.2.1.moved hA, h12.2.2.2.moved hA⟩
theorem zGs_same {E : zE} {s U : State} (h : zGs E s) (hv : U.vm = s.vm) (hh : U.heap = s.heap) : zGs E U := by
  obtain ⟨h1, h2, h3, h4, h5, h6, h7, h8, h9, h10, h11, h12⟩ := h
  have hA : s.vm.Alike U.vm := by rw [hv]; exact Vm.Alike.refl _
  rw [zGs, hh]
  exact ⟨va_K.moved hA h1, h2, h3, fun i hi => ⟨(h4 i hi).1.moved hA, (h4 i hi).2.moved hA⟩, h5.moved hA, h6.moved hA, h7.moved hA, fun i hi => (h8 i hi).same hv, fun hl => (h9 hl).moved hA, h10, h11, fun e he hn => (h12.1 e he hn).same rfl hv.symm, fun e he hn => (h12.2.1 e he hn).same rfl hv.symm, h12.2.2.1.moved hA, h12.2.2.2.moved hA⟩
/-- the script's ints stand in the memory, too -/
def zOld (E : zE) (μ : Zm) : Prop := (∀ j, j < E.2.2.2.2.2.1 → μ 2000 j = E.2.2.2.2.2.2 j) ∧ μ 2100 0 = nI E.2.2.2.2.2.1
theorem zcv_cat {E : zE} {U : State} (h : zGs E U) (v : Value) : (zcv E v).category = v.category := by
  cases v with
  | float b =>
    show E.2.2.2.2.1.category = 1
    rcases h.2.2.1 with h | ⟨a, h⟩ <;> rw [h] <;> rfl
  | _ => rfl
theorem zsh_lt {c : Nat} (h : (zsh c).1 < 99) : c < 74 := by
  by_cases hc : c < 74
  · exact hc
  · exfalso
    have : zshL.length ≤ c := by show 74 ≤ c; omega
    unfold zsh at h
    rw [List.getD_eq_getElem?_getD, List.getElem?_eq_none this] at h
    exact absurd h (by decide)
theorem zad_lt {E : zE} {c : Nat} (h : c < 1000) : zad E c = E.2.2.1 + c := if_pos h
theorem zcv_ref {E : zE} {c : Nat} (h : c < 1000) : zcv E (.ref c) = .ref (E.2.2.1 + c) := by
  show Value.ref (zad E c) = _
  rw [zad_lt h]
theorem zob_spec {ph : Bool} {μ : Zm} {c t : Nat} (h : zob ph μ c t = true) : (zsh c).1 = t ∧ c < zsz ph μ := by
  simpa [zob] using h
theorem zwl_get {E : zE} {ph : Bool} {μ : Zm} {c : Nat} (h : c < zsz ph μ) : (zwl E ph μ)[c]? = some (E.2.2.1 + c, zce E ph μ c) := by
  unfold zwl
  rw [List.getElem?_map, List.getElem?_range h]
  rfl
theorem zwl_len {E : zE} {ph : Bool} {μ : Zm} : (zwl E ph μ).length = zsz ph μ := by simp [zwl]
theorem zwl_D {E : zE} {ph : Bool} {μ : Zm} : va_D (zAA E) (zwl E ph μ) := by
  have key : ∀ (i : Nat) (p : Nat × va_E), (zwl E ph μ)[i]? = some p → p.1 = E.2.2.1 + i := by
    intro i p hp
    have hl : i < zsz ph μ := by rw [← zwl_len (E := E)]; exact (List.getElem?_eq_some_iff.mp hp).1
    rw [zwl_get hl] at hp
    cases hp
    rfl
  refine ⟨fun i j p q hp hq hpq => ?_, fun k q hk => ?_⟩
  · have h1 := key i p hp
    have h2 := key j q hq
    omega
  · show E.2.2.1 ≤ q.1
    rw [key k q hk]
    omega
theorem zce_congr {E : zE} {ph : Bool} {μ μ' : Zm} {c : Nat} (h : ∀ k, μ c k = μ' c k) : zce E ph μ c = zce E ph μ' c := by
  have h1 : μ c = μ' c := funext h
  unfold zce zsv zrf
  rw [h1]
theorem zwl_set {E : zE} {ph : Bool} {μ μ' : Zm} {c : Nat} (hz : zsz ph μ' = zsz ph μ) (hc : c < zsz ph μ) (h : ∀ c', c' ≠ c → c' < 74 ∨ c' < zsz ph μ → ∀ k, μ c' k = μ' c' k) : (zwl E ph μ).set c (E.2.2.1 + c, zce E ph μ' c) = zwl E ph μ' := by
  apply List.ext_getElem?
  intro i
  by_cases hi : i < zsz ph μ
  · rw [zwl_get (hz ▸ hi)]
    by_cases hic : i = c
    · subst hic
      rw [List.getElem?_set_self (by rw [zwl_len]; exact hc)]
    · rw [List.getElem?_set_ne (Ne.symm hic), zwl_get hi, zce_congr (h i hic (Or.inr hi))]
  · rw [List.getElem?_eq_none (by rw [List.length_set, zwl_len]; omega), List.getElem?_eq_none (by rw [zwl_len, hz]; omega)]
theorem zup_ne {μ : Zm} {c k : Nat} {x : Int32} {c' k' : Nat} (h : c' ≠ c ∨ k' ≠ k) : zup μ c k x c' k' = μ c' k' := if_neg (by omega)
theorem zup_eq {μ : Zm} {c k : Nat} {x : Int32} : zup μ c k x c k = x := if_pos ⟨rfl, rfl⟩
theorem zsz_up {ph : Bool} {μ : Zm} {c k : Nat} {x : Int32} (h : c ≠ 999) : zsz ph (zup μ c k x) = zsz ph μ := by
  unfold zsz
  rw [zup_ne (Or.inl (Ne.symm h))]
theorem zrange_set {α : Type} {N k : Nat} {f g : Nat → α} (hk : k < N) (h : ∀ j, j < N → j ≠ k → f j = g j) : ((List.range N).map f).set k (g k) = (List.range N).map g := by
  apply List.ext_getElem?
  intro i
  by_cases hi : i < N
  · rw [List.getElem?_map, List.getElem?_range hi]
    by_cases hik : i = k
    · subst hik
      rw [List.getElem?_set_self (by simpa using hi)]
      rfl
    · rw [List.getElem?_set_ne (Ne.symm hik), List.getElem?_map, List.getElem?_range hi]
      show some (f i) = some (g i)
      rw [h i hi hik]
  · rw [List.getElem?_eq_none (by simpa using hi), List.getElem?_eq_none (by simpa using hi)]
/-- tables of the classes -/
def zty0 (t : Nat) : Nat → FieldType := if t = 0 then tyX0 else if t = 1 then tyX1 else if t = 2 then tyX2 else if t = 3 then tyX3 else if t = 4 then tyX4 else if t = 5 then tyX5 else if t = 6 then tyX6 else tyX7
def zkc (t k : Nat) : Bool := (match zkd t k, zty0 t k with | 0, .int => true | 1, .object _ => true | 1, .array _ => true | 2, .long => true | 3, .boolean => true | _, _ => false) && ((zcl t).2.1 k).2.2.2 == zfn t k && ((zcl t).2.1 k).1 == zon t && decide (parseFieldDescriptor ((zcl t).2.1 k).2.2.1 = some (zty0 t k))
theorem zkd_all : ((List.range 8).all fun t => (List.range (zcl t).2.2).all fun k => zkc t k) = true := by decide +kernel
theorem zkc_of {t k : Nat} (ht : t < 8) (hk : k < (zcl t).2.2) : zkc t k = true := by
  have h := List.all_eq_true.mp zkd_all t (List.mem_range.mpr ht)
  exact List.all_eq_true.mp h k (List.mem_range.mpr hk)
theorem zcl_get {t : Nat} (ht : t < 8) : vwCl[t]? = some (zcl t) := by
  have : ∀ t : Nat, t < 8 → vwCl[t]? = some (zcl t) := by
    intro t ht
    match t, ht with
    | 0, _ => rfl
    | 1, _ => rfl
    | 2, _ => rfl
    | 3, _ => rfl
    | 4, _ => rfl
    | 5, _ => rfl
    | 6, _ => rfl
    | 7, _ => rfl
  exact this t ht
theorem zcl_on {t : Nat} (ht : t < 8) : (zcl t).1 = zon t := by
  match t, ht with
  | 0, _ => rfl
  | 1, _ => rfl
  | 2, _ => rfl
  | 3, _ => rfl
  | 4, _ => rfl
  | 5, _ => rfl
  | 6, _ => rfl
  | 7, _ => rfl
theorem znm {t : Nat} (ht : t < 8) : ∀ a, a < (zcl t).2.2 → ∀ b, b < (zcl t).2.2 → a ≠ b → ((zcl t).2.1 a).2.1 ≠ ((zcl t).2.1 b).2.1 := by
  match t, ht with
  | 0, _ => exact nmX0
  | 1, _ => exact nmX1
  | 2, _ => exact nmX2
  | 3, _ => exact nmX3
  | 4, _ => exact nmX4
  | 5, _ => exact nmX5
  | 6, _ => exact nmX6
  | 7, _ => exact nmX7
theorem zsh_N : ((List.range 74).all fun c => if (zsh c).1 < 8 then decide ((zsh c).2 = (zcl (zsh c).1).2.2) else true) = true := by decide +kernel
theorem zsh_obj {c t : Nat} (h : (zsh c).1 = t) (ht : t < 8) : (zsh c).2 = (zcl t).2.2 := by
  have hc : c < 74 := zsh_lt (by omega)
  have h1 := List.all_eq_true.mp zsh_N c (List.mem_range.mpr hc)
  rw [h, if_pos ht] at h1
  exact of_decide_eq_true h1
theorem zsh_sm : ((List.range 74).all fun c => decide ((zsh c).2 < 800) && decide ((zsh c).1 < 15) && (if 12 < (zsh c).1 then decide ((zsh c).2 ≤ 8) else true) && (if (zsh c).1 < 8 then decide ((zsh c).2 ≤ 25) else true)) = true := by decide +kernel
theorem zsh_small {c : Nat} (hc : c < 74) : (zsh c).2 < 800 ∧ (zsh c).1 < 15 ∧ (12 < (zsh c).1 → (zsh c).2 ≤ 8) ∧ ((zsh c).1 < 8 → (zsh c).2 ≤ 25) := by
  have h1 := List.all_eq_true.mp zsh_sm c (List.mem_range.mpr hc)
  simp only [Bool.and_eq_true, decide_eq_true_eq] at h1
  obtain ⟨⟨⟨h1, h2⟩, h3⟩, h4⟩ := h1
  refine ⟨h1, h2, fun h => ?_, fun h => ?_⟩
  · rw [if_pos h] at h3; exact of_decide_eq_true h3
  · rw [if_pos h] at h4; exact of_decide_eq_true h4
theorem ztg_lt {t c k : Nat} (hc : c < 74) (hk : k < 100) : ztg t c k < 1000 := by
  unfold ztg
  repeat' split
  all_goals omega
def zuP : List (List Nat) := [[251, 253, 255, 257], [275, 277, 279, 281, 283, 285, 287], [165, 167, 169], [303, 305, 307, 309], [147, 149, 151, 153, 155], [215, 217, 219, 221, 223, 225, 227, 229, 231, 233, 235], [323, 325, 327, 329, 331, 333, 335, 337, 339, 341, 343], [850, 852, 854, 856, 858, 860, 862, 864, 866, 868, 870, 872, 874, 876, 878, 880, 882, 884, 886, 888, 890, 892, 894, 896, 898]]
theorem zu_all : zal2 ((List.range 8).map (fun t => u_ws (zcl t).1 (zcl t).2.1 (zcl t).2.2)) zuP = true := by decide +kernel
theorem zu_in {t : Nat} (ht : t < 8) : ∀ w ∈ u_ws (zcl t).1 (zcl t).2.1 (zcl t).2.2, w ∈ zG := by
  intro w hw
  refine zG_mem (zal2_mem _ _ zu_all _ (List.mem_map.mpr ⟨t, List.mem_range.mpr ht, rfl⟩) w hw) ?_
  obtain ⟨k, -, rfl⟩ := List.mem_map.mp hw
  unfold u_lay
  split <;> rfl
