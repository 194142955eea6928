/-! ===== a whole valley read ===== -/
abbrev zX : Type := (Nat × Nat) × (Nat → Nat)
def vw (a : Nat → Nat) (so li ma : Nat) : Nat → Nat := fun i => if i = 3 then a 3 + 1 else if i = 5 + a 3 then so else if i = 60 + a 3 then li else if i = 67 + a 3 then ma else a i
def vs (a : Nat → Nat) (who worn fact iss : Nat) : Nat → Nat := fun i => if i = 4 then a 4 + 1 else if i = 12 + 4 * a 4 then who else if i = 13 + 4 * a 4 then worn else if i = 14 + 4 * a 4 then fact else if i = 15 + 4 * a 4 then iss else a i
def plc (n : Nat) (b : Nat → Nat) (j : Nat) (X : zX) : Bool := decide (X.1.1 = 0) && pwd n b X.1.2 j
def pww (n : Nat) (b : Nat → Nat) (X : zX) : zX := if 7 ≤ X.2 3 then ((3, X.1.2), X.2) else (pwD n b (nI (X.2 1) - nI 1) (0, tE n b X.1.2), if (pwD n b (nI (X.2 1) - nI 1) (0, tE n b X.1.2)).1 = 0 then vw X.2 (psort n b (tE n b X.1.2)) (tV n b (pwB n b (nI (X.2 1) - nI 1) (0, tE n b X.1.2)).2) (2 ^ tV n b (pwA n b (0, tE n b X.1.2)).2) else X.2)
def pw9 (x : Nat) : Nat := if x = 9 then 99 else x
def pss (n : Nat) (b : Nat → Nat) (X : zX) : zX := if 12 ≤ X.2 4 then ((3, X.1.2), X.2) else (psE n b (nI (X.2 1) - nI 1) (X.2 3) (nI (X.2 2) - nI 1) (0, tE n b X.1.2), if (psE n b (nI (X.2 1) - nI 1) (X.2 3) (nI (X.2 2) - nI 1) (0, tE n b X.1.2)).1 = 0 then vs X.2 (tV n b (tE n b X.1.2)) (pw9 (tV n b (psA n b (nI (X.2 1) - nI 1) (0, tE n b X.1.2)).2)) (tV n b (psB n b (nI (X.2 1) - nI 1) (X.2 3) (0, tE n b X.1.2)).2) (tV n b (psC n b (nI (X.2 1) - nI 1) (X.2 3) (nI (X.2 2) - nI 1) (0, tE n b X.1.2)).2) else X.2)
def pit (f : zX → zX) (X : zX) : Nat → zX
  | 0 => X
  | i + 1 => f (pit f X i)
def WFr (a : Nat → Nat) : Prop := WF a ∧ 1 ≤ a 1
def IC (μ : Zm) (n : Nat) (b : Nat → Nat) (X : zX) : Prop := CT μ n b X.1 ∧ (X.1.1 = 0 → CV μ 13 X.2 ∧ WFr X.2)
def FrC (μ μ' : Zm) : Prop := ∀ c i, ¬ ((c = 3 ∧ 2 ≤ i ∧ i ≤ 4) ∨ (c = 2 ∧ i ≤ 2) ∨ (13 ≤ c ∧ c ≤ 20)) → μ' c i = μ c i
def MD (μ : Zm) (a : Nat → Nat) : Prop := μ 72 1 = nI (a 1) ∧ μ 72 2 = nI (a 2) ∧ μ 72 3 = nI (a 3) ∧ μ 72 4 = nI (a 4) ∧ (∀ w, w < a 3 → μ 72 (5 + w) = nI (a (5 + w)) ∧ μ 72 (60 + w) = nI (a (60 + w)) ∧ μ 72 (67 + w) = nI (a (67 + w))) ∧ (∀ s, s < a 4 → μ 72 (12 + 4 * s) = nI (a (12 + 4 * s)) ∧ μ 72 (12 + 4 * s + 1) = (if a (13 + 4 * s) = 99 then -1000000 else nI (a (13 + 4 * s))) ∧ μ 72 (12 + 4 * s + 2) = nI (a (14 + 4 * s)) ∧ μ 72 (12 + 4 * s + 3) = nI (a (15 + 4 * s)))
def IM (μ : Zm) (n : Nat) (b : Nat → Nat) (X : zX) : Prop := MT μ n b X.1 ∧ (X.1.1 = 0 → MD μ X.2 ∧ WFr X.2)
def FrX (μ μ' : Zm) : Prop := ∀ c i, ¬ ((c = 63 ∧ ((11 ≤ i ∧ i ≤ 16) ∨ i = 1015)) ∨ c = 72) → μ' c i = μ c i
theorem pwD_v {n : Nat} {b : Nat → Nat} {hi : Int32} {T : Nat × Nat} (h : (pwD n b hi T).1 = 0) : T.1 = 0 ∧ psort n b T.2 ≠ 0 ∧ (pwA n b T).1 = 0 ∧ (pwB n b hi T).1 = 0 ∧ (pwC n b hi T).1 = 0 ∧ tK n b (pwA n b T).2 = 2 ∧ rok (tV n b (pwA n b T).2) (nI 0) hi = true ∧ tK n b (pwB n b hi T).2 = 2 ∧ rok (tV n b (pwB n b hi T).2) (nI 1) (nI 30) = true := by
  have h1 := (pif_v h).1
  have h2 := prn_v h1
  have h3 := prn_v h2.1
  have h4 := pif_v h3.1
  exact ⟨h4.1, of_decide_eq_true h4.2.1, h3.1, h2.1, h1, h3.2.1, h3.2.2.1, h2.2.1, h2.2.2.1⟩
theorem psE_v {n W : Nat} {b : Nat → Nat} {hk hf : Int32} {T : Nat × Nat} (h : (psE n b hk W hf T).1 = 0) : T.1 = 0 ∧ (psA n b hk T).1 = 0 ∧ (psB n b hk W T).1 = 0 ∧ (psC n b hk W hf T).1 = 0 ∧ (psD n b hk W hf T).1 = 0 ∧ tK n b T.2 = 2 ∧ rok (tV n b T.2) (nI 0) hk = true ∧ tK n b (psA n b hk T).2 = 2 ∧ (tV n b (psA n b hk T).2 = 9 ∨ tV n b (psA n b hk T).2 < W) ∧ tK n b (psB n b hk W T).2 = 2 ∧ rok (tV n b (psB n b hk W T).2) (nI 0) hf = true ∧ tK n b (psC n b hk W hf T).2 = 2 ∧ rok (tV n b (psC n b hk W hf T).2) (nI 0) (nI 1) = true := by
  have h1 := (pif_v h).1
  have h2 := prn_v h1
  have h3 := prn_v h2.1
  have h4 := pwn_v h3.1
  have h5 := prn_v h4.1
  exact ⟨h5.1, h4.1, h3.1, h2.1, h1, h5.2.1, h5.2.2.1, h4.2.1, h4.2.2.1, h3.2.1, h3.2.2.1, h2.2.1, h2.2.2.1⟩
theorem pwD_n {n : Nat} {b : Nat → Nat} {hi : Int32} {T : Nat × Nat} (h : T.1 ≠ 0) : pwD n b hi T = T := by
  have h1 : pwA n b T = T := if_pos h
  have h2 : pwB n b hi T = T := by unfold pwB; rw [h1]; exact if_pos h
  have h3 : pwC n b hi T = T := by unfold pwC; rw [h2]; exact if_pos h
  unfold pwD
  rw [h3]
  exact if_pos h
theorem psE_n {n W : Nat} {b : Nat → Nat} {hk hf : Int32} {T : Nat × Nat} (h : T.1 ≠ 0) : psE n b hk W hf T = T := by
  have h1 : psA n b hk T = T := if_pos h
  have h2 : psB n b hk W T = T := by unfold psB; rw [h1]; exact if_pos h
  have h3 : psC n b hk W hf T = T := by unfold psC; rw [h2]; exact if_pos h
  have h4 : psD n b hk W hf T = T := by unfold psD; rw [h3]; exact if_pos h
  unfold psE
  rw [h4]
  exact if_pos h
theorem vw_lo {a : Nat → Nat} {so li ma i : Nat} (h : i ≠ 3 ∧ i ≠ 5 + a 3 ∧ i ≠ 60 + a 3 ∧ i ≠ 67 + a 3) : vw a so li ma i = a i := by
  unfold vw
  rw [if_neg h.1, if_neg h.2.1, if_neg h.2.2.1, if_neg h.2.2.2]
theorem vs_lo {a : Nat → Nat} {x y z u i : Nat} (h : i ≠ 4 ∧ (i < 12 + 4 * a 4 ∨ 15 + 4 * a 4 < i)) : vs a x y z u i = a i := by
  unfold vs
  rw [if_neg h.1, if_neg (by omega), if_neg (by omega), if_neg (by omega), if_neg (by omega)]
theorem vw_5 {a : Nat → Nat} {so li ma : Nat} (h : a 3 < 7) : vw a so li ma 3 = a 3 + 1 ∧ vw a so li ma (5 + a 3) = so ∧ vw a so li ma (60 + a 3) = li ∧ vw a so li ma (67 + a 3) = ma := by
  unfold vw
  refine ⟨if_pos rfl, ?_, ?_, ?_⟩
  · rw [if_neg (by omega), if_pos rfl]
  · rw [if_neg (by omega), if_neg (by omega), if_pos rfl]
  · rw [if_neg (by omega), if_neg (by omega), if_neg (by omega), if_pos rfl]
theorem vs_5 {a : Nat → Nat} {x y z u : Nat} : vs a x y z u 4 = a 4 + 1 ∧ vs a x y z u (12 + 4 * a 4) = x ∧ vs a x y z u (13 + 4 * a 4) = y ∧ vs a x y z u (14 + 4 * a 4) = z ∧ vs a x y z u (15 + 4 * a 4) = u := by
  unfold vs
  refine ⟨if_pos rfl, ?_, ?_, ?_, ?_⟩
  · rw [if_neg (by omega), if_pos rfl]
  · rw [if_neg (by omega), if_neg (by omega), if_pos rfl]
  · rw [if_neg (by omega), if_neg (by omega), if_neg (by omega), if_pos rfl]
  · rw [if_neg (by omega), if_neg (by omega), if_neg (by omega), if_neg (by omega), if_pos rfl]
theorem WFr_vw {a : Nat → Nat} {so li ma : Nat} (hf : WFr a) (h7 : a 3 < 7) (h1 : 1 ≤ so ∧ so ≤ 5) (h2 : li ≤ 99) (h3 : ma < 32) : WFr (vw a so li ma) := by
  obtain ⟨⟨f1, f2, f3, f4, f5, f6⟩, f7⟩ := hf
  have ⟨v3, v5, v60, v67⟩ := vw_5 (a := a) (so := so) (li := li) (ma := ma) h7
  have e1 : vw a so li ma 1 = a 1 := vw_lo (by omega)
  have e2 : vw a so li ma 2 = a 2 := vw_lo (by omega)
  have e4 : vw a so li ma 4 = a 4 := vw_lo (by omega)
  refine ⟨⟨by omega, by omega, by omega, by omega, fun w hw => ?_, fun s hs => ?_⟩, by omega⟩
  · by_cases e : w = a 3
    · subst e
      rw [v5, v60, v67]
      exact ⟨h1.1, h1.2, h2, h3⟩
    · have q := f5 w (by omega)
      rw [vw_lo (i := 5 + w) (by omega), vw_lo (i := 60 + w) (by omega), vw_lo (i := 67 + w) (by omega)]
      exact q
  · have q := f6 s (by omega)
    have e12 : vw a so li ma (12 + 4 * s) = a (12 + 4 * s) := vw_lo (by omega)
    have e13 : vw a so li ma (13 + 4 * s) = a (13 + 4 * s) := vw_lo (by omega)
    have e14 : vw a so li ma (14 + 4 * s) = a (14 + 4 * s) := vw_lo (by omega)
    have e15 : vw a so li ma (15 + 4 * s) = a (15 + 4 * s) := vw_lo (by omega)
    rw [e12, e13, e14, e15, e1, e2, v3]
    omega
theorem WFr_vs {a : Nat → Nat} {x y z u : Nat} (hf : WFr a) (h12 : a 4 < 12) (h1 : x < a 1) (h2 : y = 99 ∨ y < a 3) (h3 : z < a 2) (h4 : u ≤ 1) : WFr (vs a x y z u) := by
  obtain ⟨⟨f1, f2, f3, f4, f5, f6⟩, f7⟩ := hf
  have ⟨v4, v12, v13, v14, v15⟩ := vs_5 (a := a) (x := x) (y := y) (z := z) (u := u)
  have e1 : vs a x y z u 1 = a 1 := vs_lo (by omega)
  have e2 : vs a x y z u 2 = a 2 := vs_lo (by omega)
  have e3 : vs a x y z u 3 = a 3 := vs_lo (by omega)
  refine ⟨⟨by omega, by omega, by omega, by omega, fun w hw => ?_, fun s hs => ?_⟩, by omega⟩
  · have q := f5 w (by omega)
    rw [vs_lo (i := 5 + w) (by omega), vs_lo (i := 60 + w) (by omega), vs_lo (i := 67 + w) (by omega)]
    exact q
  · by_cases e : s = a 4
    · subst e
      rw [v12, v13, v14, v15, e1, e2, e3]
      exact ⟨h1, h2, h3, h4⟩
    · have q := f6 s (by omega)
      rw [vs_lo (i := 12 + 4 * s) (by omega), vs_lo (i := 13 + 4 * s) (by omega), vs_lo (i := 14 + 4 * s) (by omega), vs_lo (i := 15 + 4 * s) (by omega), e1, e2, e3]
      exact q
theorem CV_vw {μ μ' : Zm} {a : Nat → Nat} {so li ma : Nat} (hc : CV μ 13 a) (hf : WFr a) (h7 : a 3 < 7) (fr : ∀ c i, 13 ≤ c → c ≤ 20 → ¬ ((c = 13 ∧ i = 2) ∨ (14 ≤ c ∧ c ≤ 16 ∧ i = a 3)) → μ' c i = μ c i) (h1 : μ' 13 2 = nI (a 3 + 1)) (h2 : μ' 14 (a 3) = nI so) (h3 : μ' 15 (a 3) = nI li) (h4 : μ' 16 (a 3) = nI ma) : CV μ' 13 (vw a so li ma) := by
  obtain ⟨c0, c1, c2, c3, c4, c5⟩ := hc
  obtain ⟨⟨f1, f2, f3, f4, f5, f6⟩, f7⟩ := hf
  have ⟨v3, v5, v60, v67⟩ := vw_5 (a := a) (so := so) (li := li) (ma := ma) h7
  have e1 : vw a so li ma 1 = a 1 := vw_lo (by omega)
  have e2 : vw a so li ma 2 = a 2 := vw_lo (by omega)
  have e4 : vw a so li ma 4 = a 4 := vw_lo (by omega)
  refine ⟨?_, ?_, ?_, ?_, fun w hw => ?_, fun s hs => ?_⟩
  · rw [e1, fr 13 0 (by omega) (by omega) (by omega)]; exact c0
  · rw [e2, fr 13 1 (by omega) (by omega) (by omega)]; exact c1
  · rw [v3]; exact h1
  · rw [e4, fr 13 6 (by omega) (by omega) (by omega)]; exact c3
  · by_cases e : w = a 3
    · subst e
      rw [v5, v60, v67]
      exact ⟨h2, h3, h4⟩
    · have q := c4 w (by omega)
      rw [vw_lo (i := 5 + w) (by omega), vw_lo (i := 60 + w) (by omega), vw_lo (i := 67 + w) (by omega), fr (13 + 1) w (by omega) (by omega) (by omega), fr (13 + 2) w (by omega) (by omega) (by omega), fr (13 + 3) w (by omega) (by omega) (by omega)]
      exact q
  · have q := c5 s (by omega)
    rw [vw_lo (i := 12 + 4 * s) (by omega), vw_lo (i := 13 + 4 * s) (by omega), vw_lo (i := 14 + 4 * s) (by omega), vw_lo (i := 15 + 4 * s) (by omega), fr (13 + 4) s (by omega) (by omega) (by omega), fr (13 + 5) s (by omega) (by omega) (by omega), fr (13 + 6) s (by omega) (by omega) (by omega), fr (13 + 7) s (by omega) (by omega) (by omega)]
    exact q
theorem CV_vs {μ μ' : Zm} {a : Nat → Nat} {x y z u : Nat} (hc : CV μ 13 a) (hf : WFr a) (h12 : a 4 < 12) (fr : ∀ c i, 13 ≤ c → c ≤ 20 → ¬ ((c = 13 ∧ i = 6) ∨ (17 ≤ c ∧ c ≤ 20 ∧ i = a 4)) → μ' c i = μ c i) (h1 : μ' 13 6 = nI (a 4 + 1)) (h2 : μ' 17 (a 4) = nI x) (h3 : μ' 18 (a 4) = if y = 99 then -1 else nI y) (h4 : μ' 19 (a 4) = nI z) (h5 : μ' 20 (a 4) = nI u) : CV μ' 13 (vs a x y z u) := by
  obtain ⟨c0, c1, c2, c3, c4, c5⟩ := hc
  obtain ⟨⟨f1, f2, f3, f4, f5, f6⟩, f7⟩ := hf
  have ⟨v4, v12, v13, v14, v15⟩ := vs_5 (a := a) (x := x) (y := y) (z := z) (u := u)
  have e1 : vs a x y z u 1 = a 1 := vs_lo (by omega)
  have e2 : vs a x y z u 2 = a 2 := vs_lo (by omega)
  have e3 : vs a x y z u 3 = a 3 := vs_lo (by omega)
  refine ⟨?_, ?_, ?_, ?_, fun w hw => ?_, fun s hs => ?_⟩
  · rw [e1, fr 13 0 (by omega) (by omega) (by omega)]; exact c0
  · rw [e2, fr 13 1 (by omega) (by omega) (by omega)]; exact c1
  · rw [e3, fr 13 2 (by omega) (by omega) (by omega)]; exact c2
  · rw [v4]; exact h1
  · have q := c4 w (by omega)
    rw [vs_lo (i := 5 + w) (by omega), vs_lo (i := 60 + w) (by omega), vs_lo (i := 67 + w) (by omega), fr (13 + 1) w (by omega) (by omega) (by omega), fr (13 + 2) w (by omega) (by omega) (by omega), fr (13 + 3) w (by omega) (by omega) (by omega)]
    exact q
  · by_cases e : s = a 4
    · subst e
      rw [v12, v13, v14, v15]
      exact ⟨h2, h3, h4, h5⟩
    · have q := c5 s (by omega)
      rw [vs_lo (i := 12 + 4 * s) (by omega), vs_lo (i := 13 + 4 * s) (by omega), vs_lo (i := 14 + 4 * s) (by omega), vs_lo (i := 15 + 4 * s) (by omega), fr (13 + 4) s (by omega) (by omega) (by omega), fr (13 + 5) s (by omega) (by omega) (by omega), fr (13 + 6) s (by omega) (by omega) (by omega), fr (13 + 7) s (by omega) (by omega) (by omega)]
      exact q
theorem MD_vw {μ μ' : Zm} {a : Nat → Nat} {so li ma : Nat} (hc : MD μ a) (hf : WFr a) (h7 : a 3 < 7) (fr : ∀ i, ¬ (i = 3 ∨ i = 5 + a 3 ∨ i = 60 + a 3 ∨ i = 67 + a 3) → μ' 72 i = μ 72 i) (h1 : μ' 72 3 = nI (a 3 + 1)) (h2 : μ' 72 (5 + a 3) = nI so) (h3 : μ' 72 (60 + a 3) = nI li) (h4 : μ' 72 (67 + a 3) = nI ma) : MD μ' (vw a so li ma) := by
  obtain ⟨c0, c1, c2, c3, c4, c5⟩ := hc
  obtain ⟨⟨f1, f2, f3, f4, f5, f6⟩, f7⟩ := hf
  have ⟨v3, v5, v60, v67⟩ := vw_5 (a := a) (so := so) (li := li) (ma := ma) h7
  have e1 : vw a so li ma 1 = a 1 := vw_lo (by omega)
  have e2 : vw a so li ma 2 = a 2 := vw_lo (by omega)
  have e4 : vw a so li ma 4 = a 4 := vw_lo (by omega)
  refine ⟨?_, ?_, ?_, ?_, fun w hw => ?_, fun s hs => ?_⟩
  · rw [e1, fr 1 (by omega)]; exact c0
  · rw [e2, fr 2 (by omega)]; exact c1
  · rw [v3]; exact h1
  · rw [e4, fr 4 (by omega)]; exact c3
  · by_cases e : w = a 3
    · subst e
      rw [v5, v60, v67]
      exact ⟨h2, h3, h4⟩
    · have q := c4 w (by omega)
      rw [vw_lo (i := 5 + w) (by omega), vw_lo (i := 60 + w) (by omega), vw_lo (i := 67 + w) (by omega), fr (5 + w) (by omega), fr (60 + w) (by omega), fr (67 + w) (by omega)]
      exact q
  · have q := c5 s (by omega)
    rw [vw_lo (i := 12 + 4 * s) (by omega), vw_lo (i := 13 + 4 * s) (by omega), vw_lo (i := 14 + 4 * s) (by omega), vw_lo (i := 15 + 4 * s) (by omega), fr (12 + 4 * s) (by omega), fr (12 + 4 * s + 1) (by omega), fr (12 + 4 * s + 2) (by omega), fr (12 + 4 * s + 3) (by omega)]
    exact q
theorem MD_vs {μ μ' : Zm} {a : Nat → Nat} {x y z u : Nat} (hc : MD μ a) (hf : WFr a) (h12 : a 4 < 12) (fr : ∀ i, ¬ (i = 4 ∨ (12 + 4 * a 4 ≤ i ∧ i ≤ 15 + 4 * a 4)) → μ' 72 i = μ 72 i) (h1 : μ' 72 4 = nI (a 4 + 1)) (h2 : μ' 72 (12 + 4 * a 4) = nI x) (h3 : μ' 72 (12 + 4 * a 4 + 1) = if y = 99 then -1000000 else nI y) (h4 : μ' 72 (12 + 4 * a 4 + 2) = nI z) (h5 : μ' 72 (12 + 4 * a 4 + 3) = nI u) : MD μ' (vs a x y z u) := by
  obtain ⟨c0, c1, c2, c3, c4, c5⟩ := hc
  obtain ⟨⟨f1, f2, f3, f4, f5, f6⟩, f7⟩ := hf
  have ⟨v4, v12, v13, v14, v15⟩ := vs_5 (a := a) (x := x) (y := y) (z := z) (u := u)
  have e1 : vs a x y z u 1 = a 1 := vs_lo (by omega)
  have e2 : vs a x y z u 2 = a 2 := vs_lo (by omega)
  have e3 : vs a x y z u 3 = a 3 := vs_lo (by omega)
  refine ⟨?_, ?_, ?_, ?_, fun w hw => ?_, fun s hs => ?_⟩
  · rw [e1, fr 1 (by omega)]; exact c0
  · rw [e2, fr 2 (by omega)]; exact c1
  · rw [e3, fr 3 (by omega)]; exact c2
  · rw [v4]; exact h1
  · have q := c4 w (by omega)
    rw [vs_lo (i := 5 + w) (by omega), vs_lo (i := 60 + w) (by omega), vs_lo (i := 67 + w) (by omega), fr (5 + w) (by omega), fr (60 + w) (by omega), fr (67 + w) (by omega)]
    exact q
  · by_cases e : s = a 4
    · subst e
      rw [v12, v13, v14, v15]
      exact ⟨h2, h3, h4, h5⟩
    · have q := c5 s (by omega)
      rw [vs_lo (i := 12 + 4 * s) (by omega), vs_lo (i := 13 + 4 * s) (by omega), vs_lo (i := 14 + 4 * s) (by omega), vs_lo (i := 15 + 4 * s) (by omega), fr (12 + 4 * s) (by omega), fr (12 + 4 * s + 1) (by omega), fr (12 + 4 * s + 2) (by omega), fr (12 + 4 * s + 3) (by omega)]
      exact q
