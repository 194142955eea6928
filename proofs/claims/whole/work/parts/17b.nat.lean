/-! ===== bits in Nat ===== -/
theorem nI_shl {k : Nat} (h : k < 31) : nI 1 <<< (nI k &&& 31) = nI (2 ^ k) := by
  have : ∀ k : Fin 31, nI 1 <<< (nI k.1 &&& 31) = nI (2 ^ k.1) := by decide +kernel
  exact this ⟨k, h⟩
theorem nI_bv (m : Nat) : (nI m).toBitVec = BitVec.ofNat 32 m := rfl
theorem nI_shr {m k : Nat} (hm : m < 2 ^ 31) (h : k < 31) : nI m >>> (nI k &&& 31) = nI (m >>> k) := by
  have e31 : nI k &&& 31 = nI k := by
    have : ∀ k : Fin 31, nI k.1 &&& 31 = nI k.1 := by decide +kernel
    exact this ⟨k, h⟩
  rw [e31]
  apply Int32.toBitVec_inj.mp
  have hk : ((nI k).toBitVec.smod 32) = BitVec.ofNat 32 k := by
    have : ∀ k : Fin 31, ((nI k.1).toBitVec.smod 32) = BitVec.ofNat 32 k.1 := by decide +kernel
    exact this ⟨k, h⟩
  have h0 : (nI m >>> nI k).toBitVec = BitVec.sshiftRight' (nI m).toBitVec ((nI k).toBitVec.smod 32) := rfl
  rw [h0, hk, nI_bv, nI_bv, BitVec.sshiftRight']
  have hms : (BitVec.ofNat 32 m).msb = false := by
    rw [BitVec.msb_eq_decide]
    simp
    omega
  rw [BitVec.sshiftRight_eq_of_msb_false hms]
  apply BitVec.eq_of_toNat_eq
  have h1 : (BitVec.ofNat 32 k).toNat = k := by simp; omega
  rw [BitVec.toNat_ushiftRight, h1]
  have h2 : (BitVec.ofNat 32 m).toNat = m := by simp; omega
  have h3 : m >>> k ≤ m := Nat.shiftRight_le m k
  rw [h2, BitVec.toNat_ofNat, Nat.mod_eq_of_lt (by omega)]
theorem zbit_n {m k : Nat} (hm : m < 2 ^ 31) (h : k < 31) : zbit (nI m) (nI k) = m.testBit k := by
  unfold zbit
  rw [nI_shr hm h, nI_and]
  have h3 : (m >>> k) &&& 1 ≤ 1 := Nat.and_le_right
  have h4 : (nI (m >>> k &&& 1) = nI 1) = (m >>> k &&& 1 = 1) := propext (nI_eq (by omega) (by omega))
  rw [Nat.testBit]
  simp only [h4]
  rw [Nat.and_comm 1]
  rcases (show m >>> k &&& 1 = 0 ∨ m >>> k &&& 1 = 1 by omega) with h5 | h5 <;> rw [h5] <;> decide
/-- the set of those below n of which P holds -/
def nor (P : Nat → Bool) : Nat → Nat
  | 0 => 0
  | n + 1 => if P n then nor P n ||| 2 ^ n else nor P n
def nsum (f : Nat → Nat) : Nat → Nat
  | 0 => 0
  | n + 1 => nsum f n + f n
/-- how many below n -/
def nct (P : Nat → Bool) : Nat → Nat
  | 0 => 0
  | n + 1 => if P n then nct P n + 1 else nct P n
theorem nor_lt {P : Nat → Bool} : ∀ n, nor P n < 2 ^ n
  | 0 => by show 0 < 2 ^ 0; decide
  | n + 1 => by
    unfold nor
    have h := nor_lt (P := P) n
    have h2 : 2 ^ n < 2 ^ (n + 1) := Nat.pow_lt_pow_right (by omega) (by omega)
    split
    · exact Nat.or_lt_two_pow (by omega) h2
    · omega
theorem nor_tb {P : Nat → Bool} {k : Nat} : ∀ n, (nor P n).testBit k = (decide (k < n) && P k)
  | 0 => by simp [nor]
  | n + 1 => by
    unfold nor
    have h := nor_tb (P := P) (k := k) n
    split
    · next hp =>
      rw [Nat.testBit_or, h, Nat.testBit_two_pow]
      by_cases e : n = k
      · subst e; simp [hp]
      · have : (k < n + 1) = (k < n) := propext ⟨fun _ => by omega, fun _ => by omega⟩
        simp [e, this]
    · next hp =>
      rw [h]
      by_cases e : n = k
      · subst e; simp [hp]
      · have : (k < n + 1) = (k < n) := propext ⟨fun _ => by omega, fun _ => by omega⟩
        simp [this]
theorem nsum_le {f : Nat → Nat} {b : Nat} : ∀ n, (∀ i, i < n → f i ≤ b) → nsum f n ≤ n * b
  | 0, _ => by simp [nsum]
  | n + 1, h => by
    have h1 := nsum_le n (fun i hi => h i (by omega))
    have h2 := h n (by omega)
    rw [nsum, Nat.succ_mul]
    omega
theorem nct_le {P : Nat → Bool} : ∀ n, nct P n ≤ n
  | 0 => Nat.le_refl 0
  | n + 1 => by
    have h1 := nct_le (P := P) n
    rw [nct]
    split <;> omega
