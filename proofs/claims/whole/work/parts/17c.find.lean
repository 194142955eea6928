/-! ===== the first of which a thing holds ===== -/
def nfst (P : Nat → Bool) : Nat → Nat
  | 0 => 999
  | n + 1 => if nfst P n = 999 ∧ P n = true then n else nfst P n
theorem nfst_n {P : Nat → Bool} : ∀ n, n < 900 → nfst P n = 999 → ∀ i, i < n → P i = false
  | 0, _, _ => fun i hi => by omega
  | n + 1, hn, h => by
    rw [nfst] at h
    split at h
    · omega
    · next q =>
      intro i hi
      by_cases e : i = n
      · subst e
        cases hp : P i
        · rfl
        · exact absurd ⟨h, hp⟩ q
      · exact nfst_n n (by omega) h i (by omega)
theorem nfst_s {P : Nat → Bool} : ∀ n, n < 900 → nfst P n ≠ 999 → nfst P n < n ∧ P (nfst P n) = true ∧ ∀ i, i < nfst P n → P i = false
  | 0, _, h => absurd rfl h
  | n + 1, hn, h => by
    rw [nfst] at h ⊢
    split
    · next q => exact ⟨by omega, q.2, nfst_n n (by omega) q.1⟩
    · next q =>
      rw [if_neg q] at h
      have ⟨h1, h2, h3⟩ := nfst_s n (by omega) h
      exact ⟨by omega, h2, h3⟩
theorem zfind {α : Type} (h r : Nat → α) (e : α) (P : Nat → Bool) (n : Nat) (hn : n < 900) (hs : ∀ i, i < n → P i = false → h i = h (i + 1)) (ht : ∀ i, i < n → P i = true → h i = r i) (hx : h n = e) : h 0 = if nfst P n = 999 then e else r (nfst P n) := by
  by_cases q : nfst P n = 999
  · rw [if_pos q]
    exact (zloop h n (fun i hi => hs i hi (nfst_n n hn q i hi))).trans hx
  · rw [if_neg q]
    have ⟨h1, h2, h3⟩ := nfst_s n hn q
    exact (zloop h (nfst P n) (fun i hi => hs i (by omega) (h3 i hi))).trans (ht _ h1 h2)
theorem nfst_congr {P Q : Nat → Bool} : ∀ n, (∀ i, i < n → P i = Q i) → nfst P n = nfst Q n
  | 0, _ => rfl
  | n + 1, h => by rw [nfst, nfst, nfst_congr n (fun i hi => h i (by omega)), h n (by omega)]
theorem nor_congr {P Q : Nat → Bool} : ∀ n, (∀ i, i < n → P i = Q i) → nor P n = nor Q n
  | 0, _ => rfl
  | n + 1, h => by rw [nor, nor, nor_congr n (fun i hi => h i (by omega)), h n (by omega)]
theorem nsum_congr {P Q : Nat → Nat} : ∀ n, (∀ i, i < n → P i = Q i) → nsum P n = nsum Q n
  | 0, _ => rfl
  | n + 1, h => by rw [nsum, nsum, nsum_congr n (fun i hi => h i (by omega)), h n (by omega)]
theorem nct_congr {P Q : Nat → Bool} : ∀ n, (∀ i, i < n → P i = Q i) → nct P n = nct Q n
  | 0, _ => rfl
  | n + 1, h => by rw [nct, nct, nct_congr n (fun i hi => h i (by omega)), h n (by omega)]
theorem iNM {α : Type} {n : Nat} {x y : α} (h : n < 1000000) : (if nI n = (-1000000 : Int32) then x else y) = y := if_neg (fun q => by
  have h1 := nI_toInt (n := n) (by omega)
  rw [q] at h1
  have h2 : (-1000000 : Int32).toInt = -1000000 := by decide
  omega)
theorem iNM' {α : Type} {n : Nat} {x y : α} (h : n < 1000000) : (if ¬ nI n = (-1000000 : Int32) then x else y) = x := if_pos (fun q => by
  have h1 := nI_toInt (n := n) (by omega)
  rw [q] at h1
  have h2 : (-1000000 : Int32).toInt = -1000000 := by decide
  omega)
theorem iN1 {α : Type} {n : Nat} {x y : α} (h : n < 1000000) : (if nI n = (-1 : Int32) then x else y) = y := if_neg (fun q => by rw [nI_m1 h] at q; exact q)
theorem iN1' {α : Type} {n : Nat} {x y : α} (h : n < 1000000) : (if ¬ nI n = (-1 : Int32) then x else y) = x := if_pos (fun q => by rw [nI_m1 h] at q; exact q)
/-- a number, or none (999) -/
def zno (n : Nat) : Int32 := if n = 999 then -1000000 else nI n
