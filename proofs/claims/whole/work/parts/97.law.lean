theorem zlaw {m2 : Zm} (h : ∀ c i : Nat, c < 74 → i < (zsh c).2 → m2 c i = zmE c i) {xs : Nat → Int32} {L : Nat} (hL : L ≤ 3072) : ∃ μ', zA 60 mL_law 16 [.ref 2000, .ref 0, .ref 63, zjk] [] (zmS m2 xs L) = some (some (.int 1), μ') := by
  sorry
