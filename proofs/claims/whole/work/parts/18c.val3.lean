/-! ===== Valley: knowledge, worlds ===== -/
def npop (m : Nat) : Nat := nct (fun k => m.testBit k) 7
def ush (a b : Int32) : Int32 := (a.toUInt32 >>> (b.toUInt32 &&& Int32.toUInt32 31)).toInt32
def pb1 (x : Int32) : Int32 := x - (ush x (nI 1) &&& nI 1431655765)
def pb2 (x : Int32) : Int32 := (x &&& nI 858993459) + (ush x (nI 2) &&& nI 858993459)
def pb3 (x : Int32) : Int32 := (x + ush x (nI 4)) &&& nI 252645135
def pb4 (x : Int32) : Int32 := x + ush x (nI 8)
def pb5 (x : Int32) : Int32 := (x + ush x (nI 16)) &&& nI 63
theorem pb_all : ∀ m : Fin 128, pb5 (pb4 (pb3 (pb2 (pb1 (nI m.1))))) = nI (npop m.1) := by decide +kernel
theorem sp_bitCount {d : Nat} {μ : Zm} {m : Nat} (hm : m < 128) : zC true (d + 1) mJ6_bitCount_0f7a4 [.int (nI m)] μ = some (some (.int (nI (npop m))), μ) := by
  rw [← pb_all ⟨m, hm⟩]
  simp only [nJ6_bitCount_0f7a4, eJ6_bitCount_0f7a4_0, eJ6_bitCount_0f7a4_1, eJ6_bitCount_0f7a4_2, eJ6_bitCount_0f7a4_3, eJ6_bitCount_0f7a4_4, eJ6_bitCount_0f7a4_7, eJ6_bitCount_0f7a4_8, eJ6_bitCount_0f7a4_9, eJ6_bitCount_0f7a4_10, eJ6_bitCount_0f7a4_11, eJ6_bitCount_0f7a4_14, eJ6_bitCount_0f7a4_15, eJ6_bitCount_0f7a4_16, eJ6_bitCount_0f7a4_17, eJ6_bitCount_0f7a4_18, eJ6_bitCount_0f7a4_21, eJ6_bitCount_0f7a4_22, eJ6_bitCount_0f7a4_23, eJ6_bitCount_0f7a4_24, eJ6_bitCount_0f7a4_25, eJ6_bitCount_0f7a4_26, eJ6_bitCount_0f7a4_27, eJ6_bitCount_0f7a4_28, eJ6_bitCount_0f7a4_29, eJ6_bitCount_0f7a4_32, eJ6_bitCount_0f7a4_33, eJ6_bitCount_0f7a4_34, eJ6_bitCount_0f7a4_35, eJ6_bitCount_0f7a4_36, eJ6_bitCount_0f7a4_38, eJ6_bitCount_0f7a4_39, eJ6_bitCount_0f7a4_40, eJ6_bitCount_0f7a4_41, eJ6_bitCount_0f7a4_42, eJ6_bitCount_0f7a4_43, eJ6_bitCount_0f7a4_45, eJ6_bitCount_0f7a4_46, eJ6_bitCount_0f7a4_47, eJ6_bitCount_0f7a4_48, eJ6_bitCount_0f7a4_49, eJ6_bitCount_0f7a4_51, eJ6_bitCount_0f7a4_52]
  rfl
def pkn (a : Nat → Nat) (u f : Nat) : Int32 := if (pfs a u 1 (a 4)).testBit f then (if (pfs a u 0 (a 4)).testBit f then -2 else nI 1) else if (pfs a u 0 (a 4)).testBit f then nI 0 else -1
/-- how many worlds can be -/
def pwo (a : Nat → Nat) (u : Nat) : Nat := if (pfs a u 1 (a 4)) &&& (pfs a u 0 (a 4)) ≠ 0 then 0 else 2 ^ (a 2 - npop ((pfs a u 1 (a 4)) ||| (pfs a u 0 (a 4))))
theorem sp_knowledge {d : Nat} {μ : Zm} {v f : Nat} {a : Nat → Nat} (hv : zV v) (hc : CV μ v a) (hf : WF a) (hk : f < a 2) : zC true (d + 5) mX5_knowledge [.ref v, .int (nI f)] μ = some (some (.int (pkn a 0 f)), μ) := by
  have h1 := pfs_lt (u := 0) (so := 1) hf _ (Nat.le_refl _)
  have h0 := pfs_lt (u := 0) (so := 0) hf _ (Nat.le_refl _)
  have h64 := pw64 hf
  have h2 := hf.2.1
  unfold pkn
  cases q1 : (pfs a 0 1 (a 4)).testBit f <;> cases q0 : (pfs a 0 0 (a 4)).testBit f <;>
  simp (disch := omega) only [nX5_knowledge, eX5_knowledge_0, eX5_knowledge_1, eX5_knowledge_2, eX5_knowledge_3, eX5_knowledge_6, eX5_knowledge_7, eX5_knowledge_10, eX5_knowledge_11, eX5_knowledge_12, eX5_knowledge_13, eX5_knowledge_14, eX5_knowledge_17, eX5_knowledge_18, eX5_knowledge_21, eX5_knowledge_22, eX5_knowledge_23, eX5_knowledge_26, eX5_knowledge_27, eX5_knowledge_30, eX5_knowledge_32, eX5_knowledge_35, eX5_knowledge_36, eX5_knowledge_37, eX5_knowledge_38, eX5_knowledge_41, eX5_knowledge_42, eX5_knowledge_45, eX5_knowledge_46, sp_factsSaid hv hc hf (by omega : 0 < 128), sp_isIn, obV hv, q1, q0, not_true_eq_false, not_false_eq_true, zok1, zok0, Bool.false_eq_true, zpush_s, zpush_n, Option.bind_some, Option.bind_none, ite_true, ite_false, if_true, if_false, reduceIte, nI_add, pk_mul, ob0, ob2, ob3, ob22, ob25, ob63, Nat.reduceEqDiff, Nat.reduceAdd, Nat.reduceMul, Nat.reduceSub, iLeT, iLeF, iLtT, iLtF, iEqT, iEqF, iNeT, iNeF, iZT, iZF, nI_sub', zbt_t, zbt_f]
theorem npop_F : ∀ F : Fin 7, ∀ m : Fin 64, m.1 < 2 ^ F.1 → npop m.1 ≤ F.1 := by decide +kernel
theorem sp_worlds {d : Nat} {μ : Zm} {v : Nat} {a : Nat → Nat} (hv : zV v) (hc : CV μ v a) (hf : WF a) : zC true (d + 5) mX5_possibleWorlds [.ref v] μ = some (some (.int (nI (pwo a 0))), μ) := by
  have h1 := pfs_lt (u := 0) (so := 1) hf _ (Nat.le_refl _)
  have h0 := pfs_lt (u := 0) (so := 0) hf _ (Nat.le_refl _)
  have h64 := pw64 hf
  have h2 := hf.2.1
  have hF := hc.2.1
  have ho : pfs a 0 1 (a 4) ||| pfs a 0 0 (a 4) < 2 ^ a 2 := Nat.or_lt_two_pow h1 h0
  have hp := npop_F ⟨a 2, by omega⟩ ⟨pfs a 0 1 (a 4) ||| pfs a 0 0 (a 4), by omega⟩ ho
  have ha : pfs a 0 1 (a 4) &&& pfs a 0 0 (a 4) ≤ pfs a 0 1 (a 4) := Nat.and_le_left
  simp only at hp
  unfold pwo
  by_cases q : pfs a 0 1 (a 4) &&& pfs a 0 0 (a 4) = 0 <;>
  simp (disch := omega) only [nX5_possibleWorlds, eX5_possibleWorlds_0, eX5_possibleWorlds_1, eX5_possibleWorlds_2, eX5_possibleWorlds_3, eX5_possibleWorlds_6, eX5_possibleWorlds_7, eX5_possibleWorlds_8, eX5_possibleWorlds_9, eX5_possibleWorlds_10, eX5_possibleWorlds_13, eX5_possibleWorlds_14, eX5_possibleWorlds_15, eX5_possibleWorlds_16, eX5_possibleWorlds_17, eX5_possibleWorlds_20, eX5_possibleWorlds_21, eX5_possibleWorlds_24, eX5_possibleWorlds_25, eX5_possibleWorlds_26, eX5_possibleWorlds_29, eX5_possibleWorlds_30, eX5_possibleWorlds_31, eX5_possibleWorlds_32, eX5_possibleWorlds_35, eX5_possibleWorlds_36, eX5_possibleWorlds_37, sp_factsSaid hv hc hf (by omega : 0 < 128), sp_bitCount, obV hv, hF, q, nI_and, nI_or, nI_shl, not_true_eq_false, not_false_eq_true, zok1, zok0, Bool.false_eq_true, zpush_s, zpush_n, Option.bind_some, Option.bind_none, ite_true, ite_false, if_true, if_false, reduceIte, nI_add, pk_mul, ob0, ob2, ob3, ob22, ob25, ob63, Nat.reduceEqDiff, Nat.reduceAdd, Nat.reduceMul, Nat.reduceSub, iLeT, iLeF, iLtT, iLtF, iEqT, iEqF, iNeT, iNeF, iZT, iZF, nI_sub', ne_eq]
