/-! ===== the memory's reading and writing, for simp ===== -/
theorem zpush_s {v : Value} {st : List Value} : zpush (some v) st = v :: st := rfl
theorem zpush_n {st : List Value} : zpush none st = st := rfl
theorem ob0 {μ : Zm} : zob true μ 0 6 = true := rfl
theorem ob3 {μ : Zm} : zob true μ 3 4 = true := rfl
theorem ob2 {μ : Zm} : zob true μ 2 2 = true := rfl
theorem ob22 {μ : Zm} : zob true μ 22 0 = true := rfl
theorem ob25 {μ : Zm} : zob true μ 25 1 = true := rfl
theorem ob63 {μ : Zm} : zob true μ 63 7 = true := rfl
/-- the four valleys -/
def zV (v : Nat) : Prop := v = 5 ∨ v = 13 ∨ v = 47 ∨ v = 55
theorem obV {μ : Zm} {v : Nat} (h : zV v) : zob true μ v 5 = true := by rcases h with rfl | rfl | rfl | rfl <;> rfl
theorem zshV {v : Nat} (h : zV v) : zsh (v + 1) = (10, 7) ∧ zsh (v + 2) = (10, 7) ∧ zsh (v + 3) = (10, 7) ∧ zsh (v + 4) = (10, 12) ∧ zsh (v + 5) = (10, 12) ∧ zsh (v + 6) = (10, 12) ∧ zsh (v + 7) = (10, 12) := by rcases h with rfl | rfl | rfl | rfl <;> exact ⟨rfl, rfl, rfl, rfl, rfl, rfl, rfl⟩
theorem zin_n {n N : Nat} (h : n < N) (h2 : n < 2 ^ 31) : zin (nI n) N = true := by
  unfold zin
  rw [nI_clamp h2, decide_eq_true h, decide_eq_false (by have := nI_pos h2; exact this)]
  rfl
theorem zrd_n {μ : Zm} {c N n : Nat} (hc : zsh c = (10, N)) (h : n < N) : zrdi true μ c (nI n) = some (μ c n) := by
  have h74 : c < 74 := zsh_lt (by rw [hc]; show 10 < 99; omega)
  have hs := (zsh_small h74).1
  rw [hc] at hs
  have hs : N < 800 := hs
  unfold zrdi zob
  rw [hc]
  have h1 : ((10 : Nat) == 10 && decide (c < zsz true μ)) = true := by
    rw [zsz_t]
    simpa using h74
  rw [if_pos h1, if_pos (zin_n h (by omega)), nI_clamp (by omega)]
theorem zwr_n {μ : Zm} {c N n : Nat} {x : Int32} (hc : zsh c = (10, N)) (h : n < N) : zwri true μ c (nI n) x = some (zup μ c n x) := by
  have h74 : c < 74 := zsh_lt (by rw [hc]; show 10 < 99; omega)
  have hs := (zsh_small h74).1
  rw [hc] at hs
  have hs : N < 800 := hs
  unfold zwri zob
  rw [hc]
  have h1 : ((10 : Nat) == 10 && decide (c < zsz true μ)) = true := by
    rw [zsz_t]
    simpa using h74
  rw [h1, zin_n h (by omega), nI_clamp (by omega)]
  rfl
theorem zup_s {μ : Zm} {c k c' k' : Nat} {x : Int32} (h : c' = c) (h2 : k' = k) : zup μ c k x c' k' = x := if_pos ⟨h, h2⟩
theorem zup_o {μ : Zm} {c k c' k' : Nat} {x : Int32} (h : c' ≠ c ∨ k' ≠ k) : zup μ c k x c' k' = μ c' k' := zup_ne h
theorem zloop {α : Type} (h : Nat → α) : ∀ n, (∀ i, i < n → h i = h (i + 1)) → h 0 = h n
  | 0, _ => rfl
  | n + 1, hs => (zloop h n (fun i hi => hs i (by omega))).trans (hs n (by omega))
/-- a truth as an int -/
def zbt (b : Bool) : Int32 := if b then nI 1 else nI 0
theorem zbt_t : zbt true = nI 1 := rfl
theorem zbt_f : zbt false = nI 0 := rfl
theorem nI10 : (nI 1 = nI 0) = False := by decide
theorem nI01 : (nI 0 = nI 1) = False := by decide
theorem zokb {b : Bool} : zok .boolean (zbt b) = true := by cases b <;> decide
theorem zok1 : zok .boolean (nI 1) = true := by decide
theorem zok0 : zok .boolean (nI 0) = true := by decide
theorem zbt_0 {b : Bool} : (zbt b = nI 0) = (b = false) := by cases b <;> decide
theorem zbt_ite {c : Prop} [Decidable c] : (if c then nI 1 else nI 0) = zbt (decide c) := by
  unfold zbt
  by_cases h : c <;> simp [h]
theorem lt32 {n : Nat} (h : n < 1000000) : n < 2 ^ 31 := by omega
theorem cI_lt {a b : Nat} (ha : a < 1000000) (hb : b < 1000000) : (nI a < nI b) = (a < b) := propext (nI_ltI (lt32 ha) (lt32 hb))
theorem cI_le {a b : Nat} (ha : a < 1000000) (hb : b < 1000000) : (nI a ≤ nI b) = (a ≤ b) := propext (nI_leI (lt32 ha) (lt32 hb))
theorem cI_eq {a b : Nat} (ha : a < 1000000) (hb : b < 1000000) : (nI a = nI b) = (a = b) := propext (nI_eq (lt32 ha) (lt32 hb))
/-- a bit of a set -/
def zbit (s k : Int32) : Bool := decide ((s >>> (k &&& 31)) &&& nI 1 = nI 1)
theorem nI_m1 {n : Nat} (h : n < 1000000) : (nI n = -1) = False := by
  apply propext
  refine ⟨fun q => ?_, fun q => q.elim⟩
  have h1 := nI_toInt (n := n) (by omega)
  rw [q] at h1
  have h2 : (-1 : Int32).toInt = -1 := by decide
  omega
theorem nI_z {n : Nat} (h : 0 < n ∧ n < 1000000) : (nI n = 0) = False := by
  have e : (0 : Int32) = nI 0 := rfl
  rw [e, cI_eq (by omega) (by omega)]
  exact propext ⟨fun q => by omega, fun q => q.elim⟩
theorem zup_c {μ : Zm} {c k c' : Nat} {x : Int32} (h : c' ≠ c) : zup μ c k x c' = μ c' := funext fun _ => zup_ne (Or.inl h)
theorem iLeT {α : Type} {a b : Nat} {x y : α} (h : a ≤ b ∧ b < 1000000) : (if nI a ≤ nI b then x else y) = x := if_pos ((nI_leI (by omega) (by omega)).mpr h.1)
theorem iLeF {α : Type} {a b : Nat} {x y : α} (h : b < a ∧ a < 1000000) : (if nI a ≤ nI b then x else y) = y := if_neg (fun q => by have := (nI_leI (by omega) (by omega)).mp q; omega)
theorem iLtT {α : Type} {a b : Nat} {x y : α} (h : a < b ∧ b < 1000000) : (if nI a < nI b then x else y) = x := if_pos ((nI_ltI (by omega) (by omega)).mpr h.1)
theorem iLtF {α : Type} {a b : Nat} {x y : α} (h : b ≤ a ∧ a < 1000000) : (if nI a < nI b then x else y) = y := if_neg (fun q => by have := (nI_ltI (by omega) (by omega)).mp q; omega)
theorem iEqT {α : Type} {a b : Nat} {x y : α} (h : a = b) : (if nI a = nI b then x else y) = x := if_pos (by rw [h])
theorem iEqF {α : Type} {a b : Nat} {x y : α} (h : a ≠ b ∧ a < 1000000 ∧ b < 1000000) : (if nI a = nI b then x else y) = y := if_neg (fun q => h.1 ((nI_eq (by omega) (by omega)).mp q))
theorem iNeF {α : Type} {a b : Nat} {x y : α} (h : a = b) : (if ¬ nI a = nI b then x else y) = y := if_neg (fun q => q (by rw [h]))
theorem iNeT {α : Type} {a b : Nat} {x y : α} (h : a ≠ b ∧ a < 1000000 ∧ b < 1000000) : (if ¬ nI a = nI b then x else y) = x := if_pos (fun q => h.1 ((nI_eq (by omega) (by omega)).mp q))
theorem iZF {α : Type} {a : Nat} {x y : α} (h : a ≠ 0 ∧ a < 1000000) : (if nI a = 0 then x else y) = y := if_neg (fun q => by rw [nI_z (by omega)] at q; exact q)
theorem iZT {α : Type} {a : Nat} {x y : α} (h : a = 0) : (if nI a = 0 then x else y) = x := if_pos (by rw [h]; rfl)
theorem nI_sub' {a b : Nat} (h : b ≤ a ∧ a < 1000000) : nI a - nI b = nI (a - b) := by
  have e : nI a = nI (a - b) + nI b := by rw [nI_add]; congr 1; omega
  rw [e]
  exact Int32.add_sub_cancel _ _
theorem nI_div {a b : Nat} (ha : a < 2 ^ 31) (hb : b < 2 ^ 31) : nI a / nI b = nI (a / b) := by
  apply Int32.toInt_inj.mp
  have h1 : a / b ≤ a := Nat.div_le_self a b
  rw [Int32.toInt_div, nI_toInt ha, nI_toInt hb, nI_toInt (by omega)]
  have h2 : Int.tdiv (a : Int) (b : Int) = ((a / b : Nat) : Int) := rfl
  rw [h2]
  have h3 : ((a / b : Nat) : Int) ≤ a := by exact_mod_cast h1
  generalize ((a / b : Nat) : Int) = q at *
  have h4 : (0 : Int) ≤ q := by rw [← h2]; exact Int.tdiv_nonneg (by omega) (by omega)
  rw [Int.bmod_eq_of_le (by omega) (by omega)]
theorem nI_or (a b : Nat) : nI a ||| nI b = nI (a ||| b) := by
  apply Int32.toBitVec_inj.mp
  show (BitVec.ofNat 32 a) ||| (BitVec.ofNat 32 b) = BitVec.ofNat 32 (a ||| b)
  exact (BitVec.ofNat_or).symm
theorem nI_and (a b : Nat) : nI a &&& nI b = nI (a &&& b) := by
  apply Int32.toBitVec_inj.mp
  show (BitVec.ofNat 32 a) &&& (BitVec.ofNat 32 b) = BitVec.ofNat 32 (a &&& b)
  exact (BitVec.ofNat_and).symm
theorem nI_rem {a b : Nat} (h : a < 1000000 ∧ 0 < b ∧ b < 1000000) : nI a - nI a / nI b * nI b = nI (a % b) := by
  rw [nI_div (by omega) (by omega), pk_mul, nI_sub' ⟨Nat.div_mul_le_self a b, by omega⟩]
  congr 1
  have := Nat.div_add_mod a b
  rw [Nat.mul_comm] at this
  omega
