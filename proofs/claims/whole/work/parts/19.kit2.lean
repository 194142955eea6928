/-! ===== wider comparisons, fills, reads by cell ===== -/
theorem jLeT {α : Type} {a b : Nat} {x y : α} (h : a ≤ b ∧ b < 2147483648) : (if nI a ≤ nI b then x else y) = x := if_pos ((nI_leI (by omega) (by omega)).mpr h.1)
theorem jLeF {α : Type} {a b : Nat} {x y : α} (h : b < a ∧ a < 2147483648) : (if nI a ≤ nI b then x else y) = y := if_neg (fun q => by have := (nI_leI (by omega) (by omega)).mp q; omega)
theorem jLtT {α : Type} {a b : Nat} {x y : α} (h : a < b ∧ b < 2147483648) : (if nI a < nI b then x else y) = x := if_pos ((nI_ltI (by omega) (by omega)).mpr h.1)
theorem jLtF {α : Type} {a b : Nat} {x y : α} (h : b ≤ a ∧ a < 2147483648) : (if nI a < nI b then x else y) = y := if_neg (fun q => by have := (nI_ltI (by omega) (by omega)).mp q; omega)
theorem jEqF {α : Type} {a b : Nat} {x y : α} (h : a ≠ b ∧ a < 2147483648 ∧ b < 2147483648) : (if nI a = nI b then x else y) = y := if_neg (fun q => h.1 ((nI_eq (by omega) (by omega)).mp q))
theorem jNeT {α : Type} {a b : Nat} {x y : α} (h : a ≠ b ∧ a < 2147483648 ∧ b < 2147483648) : (if ¬ nI a = nI b then x else y) = x := if_pos (fun q => h.1 ((nI_eq (by omega) (by omega)).mp q))
theorem nI_sub2 {a b : Nat} (h : b ≤ a) : nI a - nI b = nI (a - b) := by
  have e : nI a = nI (a - b) + nI b := by rw [nI_add]; congr 1; omega
  rw [e]
  exact Int32.add_sub_cancel _ _
theorem nI_dec {a : Nat} (h : 0 < a) : nI a + (-1 : Int32) = nI (a - 1) := by
  have e : nI a = nI (a - 1) + nI 1 := by rw [nI_add]; congr 1; omega
  rw [e, Int32.add_assoc]
  have e2 : nI 1 + (-1 : Int32) = nI 0 := by decide
  rw [e2, nI_add, Nat.add_zero]
/-- one that is below 0, or a number -/
theorem i32c (x : Int32) : x.toInt < 0 ∨ ∃ n, n < 2147483648 ∧ x = nI n := by
  by_cases h : x < 0
  · left
    have := Int32.lt_iff_toInt_lt.mp h
    simpa using this
  · right
    obtain ⟨j, hj, e⟩ := nI_of h
    exact ⟨j, by omega, e⟩
theorem xlt {x : Int32} {n : Nat} (h : n < 2147483648) : x < nI n ↔ x.toInt < n := by
  rw [Int32.lt_iff_toInt_lt, nI_toInt (by omega)]
theorem xgt {x : Int32} {n : Nat} (h : n < 2147483648) : nI n < x ↔ (n : Int) < x.toInt := by
  rw [Int32.lt_iff_toInt_lt, nI_toInt (by omega)]
theorem xle {x : Int32} {n : Nat} (h : n < 2147483648) : x ≤ nI n ↔ x.toInt ≤ n := by
  rw [Int32.le_iff_toInt_le, nI_toInt (by omega)]
theorem xge {x : Int32} {n : Nat} (h : n < 2147483648) : nI n ≤ x ↔ (n : Int) ≤ x.toInt := by
  rw [Int32.le_iff_toInt_le, nI_toInt (by omega)]
theorem xeq {x : Int32} {n : Nat} (h : n < 2147483648) : x = nI n ↔ x.toInt = n := by
  rw [← Int32.toInt_inj, nI_toInt (by omega)]
theorem nLtT {α : Type} {x : Int32} {n : Nat} {p q : α} (h : x.toInt < 0 ∧ n < 2147483648) : (if x < nI n then p else q) = p := if_pos ((xlt h.2).mpr (by omega))
theorem nLtF {α : Type} {x : Int32} {n : Nat} {p q : α} (h : x.toInt < 0 ∧ n < 2147483648) : (if nI n < x then p else q) = q := if_neg (fun h2 => by have := (xgt h.2).mp h2; omega)
theorem nLeT {α : Type} {x : Int32} {n : Nat} {p q : α} (h : x.toInt < 0 ∧ n < 2147483648) : (if x ≤ nI n then p else q) = p := if_pos ((xle h.2).mpr (by omega))
theorem nLeF {α : Type} {x : Int32} {n : Nat} {p q : α} (h : x.toInt < 0 ∧ n < 2147483648) : (if nI n ≤ x then p else q) = q := if_neg (fun h2 => by have := (xge h.2).mp h2; omega)
theorem nEqF {α : Type} {x : Int32} {n : Nat} {p q : α} (h : x.toInt < 0 ∧ n < 2147483648) : (if x = nI n then p else q) = q := if_neg (fun h2 => by have := (xeq h.2).mp h2; omega)
theorem nNeT {α : Type} {x : Int32} {n : Nat} {p q : α} (h : x.toInt < 0 ∧ n < 2147483648) : (if ¬ x = nI n then p else q) = p := if_pos (fun h2 => by have := (xeq h.2).mp h2; omega)
/-- out of 0 .. n - 1 -/
def zout (x : Int32) (n : Nat) : Prop := x.toInt < 0 ∨ (n : Int) ≤ x.toInt
theorem zidx (x : Int32) (n : Nat) : zout x n ∨ ∃ w, w < n ∧ w < 2147483648 ∧ x = nI w := by
  rcases i32c x with h | ⟨j, hj, e⟩
  · exact Or.inl (Or.inl h)
  · by_cases h : j < n
    · exact Or.inr ⟨j, h, hj, e⟩
    · left; right
      rw [e, nI_toInt (by omega)]
      omega
theorem zout_c {x : Int32} {n : Nat} (h : zout x n) : x.toInt < 0 ∨ ∃ j, n ≤ j ∧ j < 2147483648 ∧ x = nI j := by
  rcases i32c x with h1 | ⟨j, hj, e⟩
  · exact Or.inl h1
  · right
    refine ⟨j, ?_, hj, e⟩
    unfold zout at h
    rw [e, nI_toInt (by omega)] at h
    omega
/-- some slots of a cell become what f says -/
def zfl (μ : Zm) (c lo hi : Nat) (f : Nat → Int32) : Zm := fun c' i => if c' = c ∧ lo ≤ i ∧ i < hi then f i else μ c' i
theorem zfl_o {μ : Zm} {c lo hi c' i : Nat} {f : Nat → Int32} (h : c' ≠ c ∨ i < lo ∨ hi ≤ i) : zfl μ c lo hi f c' i = μ c' i := if_neg (by omega)
theorem zfl_i {μ : Zm} {c lo hi c' i : Nat} {f : Nat → Int32} (h : c' = c ∧ lo ≤ i ∧ i < hi) : zfl μ c lo hi f c' i = f i := if_pos h
theorem zfl_0 {μ : Zm} {c lo : Nat} {f : Nat → Int32} : zfl μ c lo lo f = μ := funext fun c' => funext fun i => if_neg (by omega)
theorem zfl_s {μ : Zm} {c lo hi : Nat} {f : Nat → Int32} {x : Int32} (h : lo ≤ hi) (hx : x = f hi) : zup (zfl μ c lo hi f) c hi x = zfl μ c lo (hi + 1) f := by
  funext c' i
  unfold zup zfl
  by_cases e : c' = c ∧ i = hi
  · rw [if_pos e, if_pos (by omega), hx, e.2]
  · rw [if_neg e]
    by_cases e2 : c' = c ∧ lo ≤ i ∧ i < hi
    · rw [if_pos e2, if_pos (by omega)]
    · rw [if_neg e2, if_neg (by omega)]
/-- the same, downwards -/
theorem zfl_d {μ : Zm} {c lo hi : Nat} {f : Nat → Int32} {x : Int32} (h : lo < hi) (hx : x = f lo) : zup (zfl μ c (lo + 1) hi f) c lo x = zfl μ c lo hi f := by
  funext c' i
  unfold zup zfl
  by_cases e : c' = c ∧ i = lo
  · rw [if_pos e, if_pos (by omega), hx, e.2]
  · rw [if_neg e]
    by_cases e2 : c' = c ∧ lo + 1 ≤ i ∧ i < hi
    · rw [if_pos e2, if_pos (by omega)]
    · rw [if_neg e2, if_neg (by omega)]
theorem zcp_fl {μ : Zm} {a i b j n : Nat} : zcp μ a i b j n = zfl μ b j (j + n) (fun k => μ a (i + (k - j))) := by
  funext c k
  unfold zcp zfl
  rfl
theorem zac_n {μ : Zm} {a b i j n A B : Nat} (ha : zsh a = (10, A)) (hb : zsh b = (10, B)) (h : i + n ≤ A ∧ j + n ≤ B) : zac true μ a b (nI i) (nI j) (nI n) = some (zfl μ b j (j + n) (fun k => μ a (i + (k - j)))) := by
  have ha74 : a < 74 := zsh_lt (by rw [ha]; show 10 < 99; omega)
  have hb74 : b < 74 := zsh_lt (by rw [hb]; show 10 < 99; omega)
  have hs := (zsh_small ha74).1
  rw [ha] at hs
  have hs : A < 800 := hs
  have ht := (zsh_small hb74).1
  rw [hb] at ht
  have ht : B < 800 := ht
  unfold zac zob
  rw [ha, hb, nI_clamp (by omega), nI_clamp (by omega), nI_clamp (by omega), zsz_t]
  have n0 : ∀ {m : Nat}, m < 2 ^ 31 → decide (nI m < 0) = false := fun h => decide_eq_false (by have := nI_pos h; exact this)
  rw [n0 (by omega), n0 (by omega), n0 (by omega), decide_eq_true ha74, decide_eq_true hb74, decide_eq_true h.1, decide_eq_true h.2, zcp_fl]
  rfl
theorem ofNat_nI {n : Nat} : Int32.ofNat n = nI n := rfl
theorem ob5 {μ : Zm} : zob true μ 5 5 = true := rfl
theorem ob13 {μ : Zm} : zob true μ 13 5 = true := rfl
theorem obR {μ : Zm} {r : Nat} (h : r < 8) : zob true μ (31 + 2 * r) 3 = true := by
  have : ∀ r : Fin 8, zob true μ (31 + 2 * r.1) 3 = true := by intro r; match r with | 0 => rfl | 1 => rfl | 2 => rfl | 3 => rfl | 4 => rfl | 5 => rfl | 6 => rfl | 7 => rfl
  exact this ⟨r, h⟩
theorem shR {r : Nat} (h : r < 8) : zsh (31 + 2 * r + 1) = (10, 40) := by
  have : ∀ r : Fin 8, zsh (31 + 2 * r.1 + 1) = (10, 40) := by decide
  exact this ⟨r, h⟩
theorem rdR {μ : Zm} {r n : Nat} (h : r < 8 ∧ n < 40) : zrdi true μ (31 + 2 * r + 1) (nI n) = some (μ (31 + 2 * r + 1) n) := zrd_n (shR h.1) h.2
theorem wrR {μ : Zm} {r n : Nat} {x : Int32} (h : r < 8 ∧ n < 40) : zwri true μ (31 + 2 * r + 1) (nI n) x = some (zup μ (31 + 2 * r + 1) n x) := zwr_n (shR h.1) h.2
theorem zlen_n {μ : Zm} {c N : Nat} (hc : zsh c = (10, N)) : zlen true μ c = some N := by
  have h74 : c < 74 := zsh_lt (by rw [hc]; show 10 < 99; omega)
  unfold zlen
  rw [hc]
  rw [if_pos ⟨Nat.le_refl _, by rw [zsz_t]; exact h74, h74⟩]
theorem lenR {μ : Zm} {r : Nat} (h : r < 8) : zlen true μ (31 + 2 * r + 1) = some 40 := zlen_n (shR h)
theorem len1 {μ : Zm} : zlen true μ 1 = some 8 := rfl
theorem len21 {μ : Zm} : zlen true μ 21 = some 2 := rfl
theorem rowI {μ : Zm} {r : Nat} (h : r < 8) : ((zob true μ 1 13 || zob true μ 1 14) && zin (nI r) (zsh 1).2) = true := by
  have h1 : (zob true μ 1 13 || zob true μ 1 14) = true := rfl
  rw [h1]
  exact zin_n h (by omega)
theorem rowV {μ : Zm} {r : Nat} (h : r < 8) : zrv (zrf true μ (zsh 1).1 1 (nI r).toNatClampNeg) = .ref (31 + 2 * r) := by
  rw [nI_clamp (by omega)]
  rfl
theorem imI {μ : Zm} {r : Nat} (h : r < 2) : ((zob true μ 21 13 || zob true μ 21 14) && zin (nI r) (zsh 21).2) = true := by
  have h1 : (zob true μ 21 13 || zob true μ 21 14) = true := rfl
  rw [h1]
  exact zin_n h (by omega)
theorem imV {μ : Zm} {r : Nat} (h : r < 2) : zrv (zrf true μ (zsh 21).1 21 (nI r).toNatClampNeg) = .ref (47 + 8 * r) := by
  rw [nI_clamp (by omega)]
  rfl
theorem zVI {k : Nat} (h : k < 2) : zV (47 + 8 * k) := by
  have : k = 0 ∨ k = 1 := by omega
  rcases this with rfl | rfl
  · exact Or.inr (Or.inr (Or.inl rfl))
  · exact Or.inr (Or.inr (Or.inr rfl))
theorem zrdb_n {μ : Zm} {c N n : Nat} (hc : zsh c = (11, N) ∨ zsh c = (12, N)) (h : n < N) : zrdb true μ c (nI n) = some (μ c n) := by
  have h74 : c < 74 := zsh_lt (by rcases hc with hc | hc <;> rw [hc] <;> (first | (show 11 < 99; omega) | (show 12 < 99; omega)))
  have hs := (zsh_small h74).1
  have hs : N < 800 := by rcases hc with hc | hc <;> rw [hc] at hs <;> exact hs
  unfold zrdb zob
  have h1 : (((zsh c).1 == 11 && decide (c < zsz true μ)) || ((zsh c).1 == 12 && decide (c < zsz true μ))) = true := by
    rw [zsz_t, decide_eq_true h74]
    rcases hc with hc | hc <;> rw [hc] <;> rfl
  have h2 : (zsh c).2 = N := by rcases hc with hc | hc <;> rw [hc]
  rw [if_pos h1, h2, if_pos (zin_n h (by omega)), nI_clamp (by omega)]
theorem rb4 {μ : Zm} {n : Nat} (h : n < 400) : zrdb true μ 4 (nI n) = some (μ 4 n) := zrdb_n (Or.inl rfl) h
theorem rb66 {μ : Zm} {n : Nat} (h : n < 2) : zrdb true μ 66 (nI n) = some (μ 66 n) := zrdb_n (Or.inr rfl) h
theorem wb4 {μ : Zm} {n : Nat} {x : Int32} (h : n < 400) : zwrb true μ 4 (nI n) x = some (zup μ 4 n x.toInt8.toInt32) := by
  unfold zwrb
  have h1 : (true && zob true μ 4 11 && zin (nI n) (zsh 4).2) = true := by
    have h0 : (true && zob true μ 4 11) = true := rfl
    rw [h0]
    exact zin_n h (by omega)
  rw [if_pos h1, nI_clamp (by omega)]
theorem wb66 {μ : Zm} {n : Nat} {x : Int32} (h : n < 2) : zwrb true μ 66 (nI n) x = some (zup μ 66 n (x &&& 1)) := by
  unfold zwrb
  have h0 : ¬ (true && zob true μ 66 11 && zin (nI n) (zsh 66).2) = true := by
    have h0 : (true && zob true μ 66 11) = false := rfl
    rw [h0]
    exact fun q => by cases q
  have h1 : (true && zob true μ 66 12 && zin (nI n) (zsh 66).2) = true := by
    have h0 : (true && zob true μ 66 12) = true := rfl
    rw [h0]
    exact zin_n h (by omega)
  rw [if_neg h0, if_pos h1, nI_clamp (by omega)]
theorem nI1a : nI 1 &&& 1 = nI 1 := by decide
theorem jEqT {α : Type} {a b : Nat} {x y : α} (h : a = b) : (if nI a = nI b then x else y) = x := if_pos (by rw [h])
theorem jNeF {α : Type} {a b : Nat} {x y : α} (h : a = b) : (if ¬ nI a = nI b then x else y) = y := if_neg (fun q => q (by rw [h]))
theorem rd6 {μ : Zm} {n : Nat} (h : n < 7) : zrdi true μ 6 (nI n) = some (μ 6 n) := zrd_n rfl h
theorem wr6 {μ : Zm} {n : Nat} {x : Int32} (h : n < 7) : zwri true μ 6 (nI n) x = some (zup μ 6 n x) := zwr_n rfl h
theorem rd7 {μ : Zm} {n : Nat} (h : n < 7) : zrdi true μ 7 (nI n) = some (μ 7 n) := zrd_n rfl h
theorem wr7 {μ : Zm} {n : Nat} {x : Int32} (h : n < 7) : zwri true μ 7 (nI n) x = some (zup μ 7 n x) := zwr_n rfl h
theorem rd8 {μ : Zm} {n : Nat} (h : n < 7) : zrdi true μ 8 (nI n) = some (μ 8 n) := zrd_n rfl h
theorem wr8 {μ : Zm} {n : Nat} {x : Int32} (h : n < 7) : zwri true μ 8 (nI n) x = some (zup μ 8 n x) := zwr_n rfl h
theorem rd9 {μ : Zm} {n : Nat} (h : n < 12) : zrdi true μ 9 (nI n) = some (μ 9 n) := zrd_n rfl h
theorem wr9 {μ : Zm} {n : Nat} {x : Int32} (h : n < 12) : zwri true μ 9 (nI n) x = some (zup μ 9 n x) := zwr_n rfl h
theorem rd10 {μ : Zm} {n : Nat} (h : n < 12) : zrdi true μ 10 (nI n) = some (μ 10 n) := zrd_n rfl h
theorem wr10 {μ : Zm} {n : Nat} {x : Int32} (h : n < 12) : zwri true μ 10 (nI n) x = some (zup μ 10 n x) := zwr_n rfl h
theorem rd11 {μ : Zm} {n : Nat} (h : n < 12) : zrdi true μ 11 (nI n) = some (μ 11 n) := zrd_n rfl h
theorem wr11 {μ : Zm} {n : Nat} {x : Int32} (h : n < 12) : zwri true μ 11 (nI n) x = some (zup μ 11 n x) := zwr_n rfl h
theorem rd12 {μ : Zm} {n : Nat} (h : n < 12) : zrdi true μ 12 (nI n) = some (μ 12 n) := zrd_n rfl h
theorem wr12 {μ : Zm} {n : Nat} {x : Int32} (h : n < 12) : zwri true μ 12 (nI n) x = some (zup μ 12 n x) := zwr_n rfl h
theorem rd14 {μ : Zm} {n : Nat} (h : n < 7) : zrdi true μ 14 (nI n) = some (μ 14 n) := zrd_n rfl h
theorem wr14 {μ : Zm} {n : Nat} {x : Int32} (h : n < 7) : zwri true μ 14 (nI n) x = some (zup μ 14 n x) := zwr_n rfl h
theorem rd15 {μ : Zm} {n : Nat} (h : n < 7) : zrdi true μ 15 (nI n) = some (μ 15 n) := zrd_n rfl h
theorem wr15 {μ : Zm} {n : Nat} {x : Int32} (h : n < 7) : zwri true μ 15 (nI n) x = some (zup μ 15 n x) := zwr_n rfl h
theorem rd16 {μ : Zm} {n : Nat} (h : n < 7) : zrdi true μ 16 (nI n) = some (μ 16 n) := zrd_n rfl h
theorem wr16 {μ : Zm} {n : Nat} {x : Int32} (h : n < 7) : zwri true μ 16 (nI n) x = some (zup μ 16 n x) := zwr_n rfl h
theorem rd17 {μ : Zm} {n : Nat} (h : n < 12) : zrdi true μ 17 (nI n) = some (μ 17 n) := zrd_n rfl h
theorem wr17 {μ : Zm} {n : Nat} {x : Int32} (h : n < 12) : zwri true μ 17 (nI n) x = some (zup μ 17 n x) := zwr_n rfl h
theorem rd18 {μ : Zm} {n : Nat} (h : n < 12) : zrdi true μ 18 (nI n) = some (μ 18 n) := zrd_n rfl h
theorem wr18 {μ : Zm} {n : Nat} {x : Int32} (h : n < 12) : zwri true μ 18 (nI n) x = some (zup μ 18 n x) := zwr_n rfl h
theorem rd19 {μ : Zm} {n : Nat} (h : n < 12) : zrdi true μ 19 (nI n) = some (μ 19 n) := zrd_n rfl h
theorem wr19 {μ : Zm} {n : Nat} {x : Int32} (h : n < 12) : zwri true μ 19 (nI n) x = some (zup μ 19 n x) := zwr_n rfl h
theorem rd20 {μ : Zm} {n : Nat} (h : n < 12) : zrdi true μ 20 (nI n) = some (μ 20 n) := zrd_n rfl h
theorem wr20 {μ : Zm} {n : Nat} {x : Int32} (h : n < 12) : zwri true μ 20 (nI n) x = some (zup μ 20 n x) := zwr_n rfl h
theorem rd23 {μ : Zm} {n : Nat} (h : n < 168) : zrdi true μ 23 (nI n) = some (μ 23 n) := zrd_n rfl h
theorem wr23 {μ : Zm} {n : Nat} {x : Int32} (h : n < 168) : zwri true μ 23 (nI n) x = some (zup μ 23 n x) := zwr_n rfl h
theorem rd24 {μ : Zm} {n : Nat} (h : n < 168) : zrdi true μ 24 (nI n) = some (μ 24 n) := zrd_n rfl h
theorem wr24 {μ : Zm} {n : Nat} {x : Int32} (h : n < 168) : zwri true μ 24 (nI n) x = some (zup μ 24 n x) := zwr_n rfl h
theorem rd26 {μ : Zm} {n : Nat} (h : n < 7) : zrdi true μ 26 (nI n) = some (μ 26 n) := zrd_n rfl h
theorem wr26 {μ : Zm} {n : Nat} {x : Int32} (h : n < 7) : zwri true μ 26 (nI n) x = some (zup μ 26 n x) := zwr_n rfl h
theorem rd27 {μ : Zm} {n : Nat} (h : n < 5) : zrdi true μ 27 (nI n) = some (μ 27 n) := zrd_n rfl h
theorem wr27 {μ : Zm} {n : Nat} {x : Int32} (h : n < 5) : zwri true μ 27 (nI n) x = some (zup μ 27 n x) := zwr_n rfl h
theorem rd28 {μ : Zm} {n : Nat} (h : n < 768) : zrdi true μ 28 (nI n) = some (μ 28 n) := zrd_n rfl h
theorem wr28 {μ : Zm} {n : Nat} {x : Int32} (h : n < 768) : zwri true μ 28 (nI n) x = some (zup μ 28 n x) := zwr_n rfl h
theorem rd29 {μ : Zm} {n : Nat} (h : n < 5) : zrdi true μ 29 (nI n) = some (μ 29 n) := zrd_n rfl h
theorem wr29 {μ : Zm} {n : Nat} {x : Int32} (h : n < 5) : zwri true μ 29 (nI n) x = some (zup μ 29 n x) := zwr_n rfl h
theorem rd30 {μ : Zm} {n : Nat} (h : n < 16) : zrdi true μ 30 (nI n) = some (μ 30 n) := zrd_n rfl h
theorem wr30 {μ : Zm} {n : Nat} {x : Int32} (h : n < 16) : zwri true μ 30 (nI n) x = some (zup μ 30 n x) := zwr_n rfl h
theorem rd64 {μ : Zm} {n : Nat} (h : n < 74) : zrdi true μ 64 (nI n) = some (μ 64 n) := zrd_n rfl h
theorem wr64 {μ : Zm} {n : Nat} {x : Int32} (h : n < 74) : zwri true μ 64 (nI n) x = some (zup μ 64 n x) := zwr_n rfl h
theorem rd65 {μ : Zm} {n : Nat} (h : n < 148) : zrdi true μ 65 (nI n) = some (μ 65 n) := zrd_n rfl h
theorem wr65 {μ : Zm} {n : Nat} {x : Int32} (h : n < 148) : zwri true μ 65 (nI n) x = some (zup μ 65 n x) := zwr_n rfl h
theorem rd67 {μ : Zm} {n : Nat} (h : n < 336) : zrdi true μ 67 (nI n) = some (μ 67 n) := zrd_n rfl h
theorem wr67 {μ : Zm} {n : Nat} {x : Int32} (h : n < 336) : zwri true μ 67 (nI n) x = some (zup μ 67 n x) := zwr_n rfl h
theorem rd68 {μ : Zm} {n : Nat} (h : n < 8) : zrdi true μ 68 (nI n) = some (μ 68 n) := zrd_n rfl h
theorem wr68 {μ : Zm} {n : Nat} {x : Int32} (h : n < 8) : zwri true μ 68 (nI n) x = some (zup μ 68 n x) := zwr_n rfl h
theorem rd69 {μ : Zm} {n : Nat} (h : n < 8) : zrdi true μ 69 (nI n) = some (μ 69 n) := zrd_n rfl h
theorem wr69 {μ : Zm} {n : Nat} {x : Int32} (h : n < 8) : zwri true μ 69 (nI n) x = some (zup μ 69 n x) := zwr_n rfl h
theorem rd70 {μ : Zm} {n : Nat} (h : n < 320) : zrdi true μ 70 (nI n) = some (μ 70 n) := zrd_n rfl h
theorem wr70 {μ : Zm} {n : Nat} {x : Int32} (h : n < 320) : zwri true μ 70 (nI n) x = some (zup μ 70 n x) := zwr_n rfl h
theorem rd71 {μ : Zm} {n : Nat} (h : n < 400) : zrdi true μ 71 (nI n) = some (μ 71 n) := zrd_n rfl h
theorem wr71 {μ : Zm} {n : Nat} {x : Int32} (h : n < 400) : zwri true μ 71 (nI n) x = some (zup μ 71 n x) := zwr_n rfl h
theorem rd72 {μ : Zm} {n : Nat} (h : n < 74) : zrdi true μ 72 (nI n) = some (μ 72 n) := zrd_n rfl h
theorem wr72 {μ : Zm} {n : Nat} {x : Int32} (h : n < 74) : zwri true μ 72 (nI n) x = some (zup μ 72 n x) := zwr_n rfl h
theorem rd73 {μ : Zm} {n : Nat} (h : n < 16) : zrdi true μ 73 (nI n) = some (μ 73 n) := zrd_n rfl h
theorem wr73 {μ : Zm} {n : Nat} {x : Int32} (h : n < 16) : zwri true μ 73 (nI n) x = some (zup μ 73 n x) := zwr_n rfl h
