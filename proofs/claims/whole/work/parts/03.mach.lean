/-! ===== the abstract machine: one memory of numbers; references are places of a fixed layout ===== -/
abbrev Zm : Type := Nat → Nat → Int32
abbrev ZI : Type := MethodName × ByteArray × Nat × Option FieldType × Nat
abbrev zR : Type := (Nat × List Value × List Value × Zm) ⊕ (Option Value × Zm)
def zup (μ : Zm) (c i : Nat) (x : Int32) : Zm := fun c' i' => if c' = c ∧ i' = i then x else μ c' i'
def zjk : Value := .retAddr 0
def zin (i : Int32) (n : Nat) : Bool := !decide (i < 0) && decide (i.toNatClampNeg < n)
/-- the layout: of each cell its class (0 .. 7) or array type (10 ints, 11 bytes, 12 booleans, 13 ROWS, 14 valleys), and how many slots -/
def zshL : List (Nat × Nat) := [(6, 11), (13, 8), (2, 3), (4, 5), (11, 400), (5, 11), (10, 7), (10, 7), (10, 7), (10, 12), (10, 12), (10, 12), (10, 12), (5, 11), (10, 7), (10, 7), (10, 7), (10, 12), (10, 12), (10, 12), (10, 12), (14, 2), (0, 4), (10, 168), (10, 168), (1, 7), (10, 7), (10, 5), (10, 768), (10, 5), (10, 16), (3, 4), (10, 40), (3, 4), (10, 40), (3, 4), (10, 40), (3, 4), (10, 40), (3, 4), (10, 40), (3, 4), (10, 40), (3, 4), (10, 40), (3, 4), (10, 40), (5, 11), (10, 7), (10, 7), (10, 7), (10, 12), (10, 12), (10, 12), (10, 12), (5, 11), (10, 7), (10, 7), (10, 7), (10, 12), (10, 12), (10, 12), (10, 12), (7, 25), (10, 74), (10, 148), (12, 2), (10, 336), (10, 8), (10, 8), (10, 320), (10, 400), (10, 74), (10, 16)]
def zsh (c : Nat) : Nat × Nat := zshL.getD c (99, 0)
/-- kinds of fields: 0 int, 1 reference, 2 long, 3 boolean -/
def zkd (t k : Nat) : Nat :=
  if t = 6 then (if k = 1 ∨ k = 3 ∨ k = 10 then 0 else 1)
  else if t = 4 then (if k = 0 then 1 else 0)
  else if t = 2 then (if k = 0 then 1 else 0)
  else if t = 5 then (if k = 3 ∨ k = 4 ∨ k = 5 ∨ k = 7 ∨ k = 8 ∨ k = 9 ∨ k = 10 then 1 else 0)
  else if t = 0 then (if k = 0 ∨ k = 1 then 1 else 0)
  else if t = 1 then (if k < 4 then 1 else 0)
  else if t = 3 then (if k = 0 then 1 else if k = 1 then 3 else 0)
  else if t = 7 then (if k = 0 ∨ k = 1 ∨ k = 2 ∨ k = 3 ∨ k = 5 ∨ k = 6 ∨ k = 7 ∨ k = 9 ∨ k = 18 ∨ k = 23 then 1 else if k = 15 then 2 else 0)
  else 0
/-- where the reference in a slot leads -/
def ztg (t c k : Nat) : Nat :=
  if t = 6 then (if k = 0 then 1 else if k = 2 then 2 else if k = 4 then 5 else if k = 5 then 13 else if k = 6 then 21 else if k = 7 then 22 else if k = 8 then 25 else 30)
  else if t = 13 then 31 + 2 * k
  else if t = 14 then 47 + 8 * k
  else if t = 2 then 3
  else if t = 5 then (if k < 6 then c + (k - 2) else c + (k - 3))
  else if t = 7 then (if k < 4 then 64 + k else if k < 8 then 63 + k else if k = 9 then 71 else if k = 18 then 72 else 73)
  else c + (k + 1)
/-- a slot of references that may be null: all while the objects are made (ph = false), then none (no class is 99) -/
def zfg (ph : Bool) (t : Nat) : Bool := !ph || t == 99
def zrf (ph : Bool) (μ : Zm) (t c k : Nat) : Option Nat := if zfg ph t && decide (μ c k = 0) then none else some (ztg t c k)
def zrv (r : Option Nat) : Value := match r with | none => .null | some a => .ref a
def zmk (a b : Int32) : Int64 := Int64.ofBitVec (a.toBitVec ++ b.toBitVec)
def zhi (x : Int64) : Int32 := Int32.ofBitVec (x.toBitVec.extractLsb' 32 32)
def zlo (x : Int64) : Int32 := Int32.ofBitVec (x.toBitVec.extractLsb' 0 32)
def zsv (ph : Bool) (μ : Zm) (t c k : Nat) : Value := if zkd t k = 1 then zrv (zrf ph μ t c k) else if zkd t k = 2 then .long (zmk (μ c k) (μ c (k + 1000))) else .int (μ c k)
def zsz (ph : Bool) (μ : Zm) : Nat := if ph then 74 else (μ 999 0).toNatClampNeg
/-- c is an object of class t (or an array of type t) that is there -/
def zob (ph : Bool) (μ : Zm) (c t : Nat) : Bool := (zsh c).1 == t && decide (c < zsz ph μ)
def zst (c j : Nat) : Int32 := if c = 2001 then [0, 0, 1, 1, 0, 4].getD j 0 else if c = 2002 then [10, 11, 12, 0, 13, 14].getD j 0 else [20, 21, 24, 22, 23, 0].getD j 0
def zsb : List (List Int32) := [[107, 110, 105, 116, 116, 101, 114, 115], [119, 111, 111, 108], [106, 101, 114, 115, 101, 121], [115, 99, 97, 114, 102], [99, 97, 112], [115, 116, 111, 99, 107, 105, 110, 103], [110, 101, 116], [115, 97, 121, 105, 110, 103]]
def zsn : List Nat := [8, 4, 6, 5, 3, 8, 3, 6]
def zlen (ph : Bool) (μ : Zm) (c : Nat) : Option Nat :=
  if 10 ≤ (zsh c).1 ∧ c < zsz ph μ ∧ c < 74 then some (zsh c).2
  else if c = 2000 then (if (μ 2100 0).toNatClampNeg ≤ 3072 then some (μ 2100 0).toNatClampNeg else none)
  else if c = 2001 ∨ c = 2002 ∨ c = 2003 then some 6
  else if 2020 ≤ c ∧ c < 2028 then some (zsn.getD (c - 2020) 0) else none
def zrdi (ph : Bool) (μ : Zm) (c : Nat) (i : Int32) : Option Int32 :=
  if zob ph μ c 10 then (if zin i (zsh c).2 then some (μ c i.toNatClampNeg) else none)
  else if c = 2000 then (if (μ 2100 0).toNatClampNeg ≤ 3072 ∧ zin i (μ 2100 0).toNatClampNeg = true then some (μ 2000 i.toNatClampNeg) else none)
  else if c = 2001 ∨ c = 2002 ∨ c = 2003 then (if zin i 6 then some (zst c i.toNatClampNeg) else none) else none
def zrdb (ph : Bool) (μ : Zm) (c : Nat) (i : Int32) : Option Int32 :=
  if zob ph μ c 11 || zob ph μ c 12 then (if zin i (zsh c).2 then some (μ c i.toNatClampNeg) else none)
  else if 2020 ≤ c ∧ c < 2028 then (if zin i (zsn.getD (c - 2020) 0) then some ((zsb.getD (c - 2020) []).getD i.toNatClampNeg 0) else none) else none
def zwri (ph : Bool) (μ : Zm) (c : Nat) (i x : Int32) : Option Zm := if zob ph μ c 10 && zin i (zsh c).2 then some (zup μ c i.toNatClampNeg x) else none
def zwrb (ph : Bool) (μ : Zm) (c : Nat) (i x : Int32) : Option Zm :=
  if ph && zob ph μ c 11 && zin i (zsh c).2 then some (zup μ c i.toNatClampNeg x.toInt8.toInt32)
  else if ph && zob ph μ c 12 && zin i (zsh c).2 then some (zup μ c i.toNatClampNeg (x &&& 1)) else none
def zal (μ : Zm) (n : Nat) : Zm := fun c i => if c = 999 then (if i = 0 then nI (n + 1) else μ 999 i) else if c = n then 0 else μ c i
/-- fields that are final -/
def zfn (t k : Nat) : Bool := zkd t k == 1 && !(t == 99)
/-- a field becomes v -/
def zpf (ph : Bool) (μ : Zm) (M : ZI) (t c k : Nat) (v : Value) : Option Zm :=
  if zob ph μ c t then
    (if zfn t k then (if M.1.name = "<init>" ∧ M.2.2.2.2 = t then (match v with | .ref r => if r = ztg t c k then some (zup μ c k 1) else none | _ => none) else none)
     else if ph = false then none
     else if zkd t k = 0 then (match v with | .int x => some (zup μ c k x) | _ => none)
     else if zkd t k = 3 then (match v with | .int x => if x = 0 ∨ x = 1 then some (zup μ c k x) else none | _ => none)
     else if zkd t k = 2 then (match v with | .long x => some (zup (zup μ c k (zhi x)) c (k + 1000) (zlo x)) | _ => none)
     else (match v with | .ref r => if r = ztg t c k ∧ zfg ph t = true then some (zup μ c k 1) else none | _ => none))
  else none
/-- ints of a, from i on, come to b from j on -/
def zcp (μ : Zm) (a i b j n : Nat) : Zm := fun c k => if c = b ∧ j ≤ k ∧ k < j + n then μ a (i + (k - j)) else μ c k
def zac (ph : Bool) (μ : Zm) (a b : Nat) (i j n : Int32) : Option Zm :=
  if ph && zob ph μ a 10 && zob ph μ b 10 && !decide (i < 0) && !decide (j < 0) && !decide (n < 0) && decide (i.toNatClampNeg + n.toNatClampNeg ≤ (zsh a).2) && decide (j.toNatClampNeg + n.toNatClampNeg ≤ (zsh b).2)
  then some (zcp μ a i.toNatClampNeg b j.toNatClampNeg n.toNatClampNeg) else none
def mJ0_charAt_5068e : ZI := (yJ0_charAt_5068e, cJ0_charAt_5068e, 2, (some .char), 11)
def mJ0_checkIndex_df160 : ZI := (yJ0_checkIndex_df160, cJ0_checkIndex_df160, 2, none, 11)
def mJ0_coder_7d493 : ZI := (yJ0_coder_7d493, cJ0_coder_7d493, 1, (some .byte), 11)
def mJ0_isLatin1_aae02 : ZI := (yJ0_isLatin1_aae02, cJ0_isLatin1_aae02, 1, (some .boolean), 11)
def mJ0_length_8abf5 : ZI := (yJ0_length_8abf5, cJ0_length_8abf5, 1, (some .int), 11)
def mJ1_charAt_3b067 : ZI := (yJ1_charAt_3b067, cJ1_charAt_3b067, 2, (some .char), 12)
def mJ3_checkIndex_8e157 : ZI := (yJ3_checkIndex_8e157, cJ3_checkIndex_8e157, 3, (some .int), 13)
def mJ6_bitCount_0f7a4 : ZI := (yJ6_bitCount_0f7a4, cJ6_bitCount_0f7a4, 1, (some .int), 9)
def mJ9_max_7cf53 : ZI := (yJ9_max_7cf53, cJ9_max_7cf53, 2, (some .int), 10)
def mJ9_min_7cf53 : ZI := (yJ9_min_7cf53, cJ9_min_7cf53, 2, (some .int), 10)
def mX0_forget : ZI := (yX0_forget, cX0_forget, 1, none, 0)
def mX0_init : ZI := (yX0_init, cX0_init, 1, none, 0)
def mX0_keep : ZI := (yX0_keep, cX0_keep, 2, none, 0)
def mX0_takeBack : ZI := (yX0_takeBack, cX0_takeBack, 2, none, 0)
def mX1_choiceOf : ZI := (yX1_choiceOf, cX1_choiceOf, 5, (some .int), 1)
def mX1_dress : ZI := (yX1_dress, cX1_dress, 5, none, 1)
def mX1_firstBest : ZI := (yX1_firstBest, cX1_firstBest, 5, (some .int), 1)
def mX1_init : ZI := (yX1_init, cX1_init, 1, none, 1)
def mX1_mostFrom : ZI := (yX1_mostFrom, cX1_mostFrom, 5, (some .int), 1)
def mX1_mostWith : ZI := (yX1_mostWith, cX1_mostWith, 5, (some .int), 1)
def mX1_open : ZI := (yX1_open, cX1_open, 4, none, 1)
def mX2_fail : ZI := (yX2_fail, cX2_fail, 2, none, 2)
def mX2_init : ZI := (yX2_init, cX2_init, 1, none, 2)
def mX2_isNext : ZI := (yX2_isNext, cX2_isNext, 2, (some .boolean), 2)
def mX2_read : ZI := (yX2_read, cX2_read, 3, none, 2)
def mX2_readKnitters : ZI := (yX2_readKnitters, cX2_readKnitters, 2, none, 2)
def mX2_readNumber : ZI := (yX2_readNumber, cX2_readNumber, 4, (some .int), 2)
def mX2_readSaying : ZI := (yX2_readSaying, cX2_readSaying, 3, none, 2)
def mX2_readSign : ZI := (yX2_readSign, cX2_readSign, 1, none, 2)
def mX2_readSort : ZI := (yX2_readSort, cX2_readSort, 2, (some .int), 2)
def mX2_readWool : ZI := (yX2_readWool, cX2_readWool, 3, none, 2)
def mX2_readWord : ZI := (yX2_readWord, cX2_readWord, 2, none, 2)
def mX2_readWorn : ZI := (yX2_readWorn, cX2_readWorn, 2, (some .int), 2)
def mX2_sortTold : ZI := (yX2_sortTold, cX2_sortTold, 1, (some .int), 2)
def mX2_stepIf : ZI := (yX2_stepIf, cX2_stepIf, 2, none, 2)
def mX3_holds : ZI := (yX3_holds, cX3_holds, 3, (some .boolean), 3)
def mX3_init : ZI := (yX3_init, cX3_init, 1, none, 3)
def mX3_liesWithin : ZI := (yX3_liesWithin, cX3_liesWithin, 5, (some .boolean), 3)
def mX3_narrowed : ZI := (yX3_narrowed, cX3_narrowed, 2, (some .int), 3)
def mX3_renew : ZI := (yX3_renew, cX3_renew, 4, none, 3)
def mX4_append : ZI := (yX4_append, cX4_append, 5, none, 4)
def mX4_init : ZI := (yX4_init, cX4_init, 1, none, 4)
def mX4_isBlank : ZI := (yX4_isBlank, cX4_isBlank, 1, (some .boolean), 4)
def mX4_isFigure : ZI := (yX4_isFigure, cX4_isFigure, 1, (some .boolean), 4)
def mX4_isLetter : ZI := (yX4_isLetter, cX4_isLetter, 1, (some .boolean), 4)
def mX4_isWord : ZI := (yX4_isWord, cX4_isWord, 3, (some .boolean), 4)
def mX4_rewind : ZI := (yX4_rewind, cX4_rewind, 1, none, 4)
def mX4_step : ZI := (yX4_step, cX4_step, 1, none, 4)
def mX4_value : ZI := (yX4_value, cX4_value, 3, (some .int), 4)
def mX5_become : ZI := (yX5_become, cX5_become, 2, none, 5)
def mX5_comesOut : ZI := (yX5_comesOut, cX5_comesOut, 5, (some .boolean), 5)
def mX5_countBound : ZI := (yX5_countBound, cX5_countBound, 3, (some .int), 5)
def mX5_factsSaid : ZI := (yX5_factsSaid, cX5_factsSaid, 5, (some .int), 5)
def mX5_fewestToUnpick : ZI := (yX5_fewestToUnpick, cX5_fewestToUnpick, 6, (some .int), 5)
def mX5_firstContradiction : ZI := (yX5_firstContradiction, cX5_firstContradiction, 4, (some .int), 5)
def mX5_init : ZI := (yX5_init, cX5_init, 1, none, 5)
def mX5_isBound : ZI := (yX5_isBound, cX5_isBound, 3, (some .boolean), 5)
def mX5_isGone : ZI := (yX5_isGone, cX5_isGone, 2, (some .boolean), 5)
def mX5_isIn : ZI := (yX5_isIn, cX5_isIn, 2, (some .boolean), 5)
def mX5_isThere : ZI := (yX5_isThere, cX5_isThere, 1, (some .boolean), 5)
def mX5_knowledge : ZI := (yX5_knowledge, cX5_knowledge, 4, (some .int), 5)
def mX5_liars : ZI := (yX5_liars, cX5_liars, 4, (some .int), 5)
def mX5_lies : ZI := (yX5_lies, cX5_lies, 5, (some .int), 5)
def mX5_linesOf : ZI := (yX5_linesOf, cX5_linesOf, 4, (some .int), 5)
def mX5_mayLie : ZI := (yX5_mayLie, cX5_mayLie, 5, (some .boolean), 5)
def mX5_possibleWorlds : ZI := (yX5_possibleWorlds, cX5_possibleWorlds, 3, (some .int), 5)
def mX5_shorten : ZI := (yX5_shorten, cX5_shorten, 4, (some .int), 5)
def mX5_warmth : ZI := (yX5_warmth, cX5_warmth, 2, (some .int), 5)
def mX6_answer : ZI := (yX6_answer, cX6_answer, 4, (some .int), 6)
def mX6_as : ZI := (yX6_as, cX6_as, 3, (some .int), 6)
def mX6_ask : ZI := (yX6_ask, cX6_ask, 3, (some .int), 6)
def mX6_begin : ZI := (yX6_begin, cX6_begin, 4, (some .int), 6)
def mX6_bids : ZI := (yX6_bids, cX6_bids, 5, (some .int), 6)
def mX6_copy : ZI := (yX6_copy, cX6_copy, 8, (some .int), 6)
def mX6_count : ZI := (yX6_count, cX6_count, 2, (some .int), 6)
def mX6_countRows : ZI := (yX6_countRows, cX6_countRows, 3, (some .int), 6)
def mX6_drop : ZI := (yX6_drop, cX6_drop, 2, (some .int), 6)
def mX6_fault : ZI := (yX6_fault, cX6_fault, 1, (some .int), 6)
def mX6_feed : ZI := (yX6_feed, cX6_feed, 4, (some .int), 6)
def mX6_firstFalse : ZI := (yX6_firstFalse, cX6_firstFalse, 1, (some .int), 6)
def mX6_found : ZI := (yX6_found, cX6_found, 2, (some .int), 6)
def mX6_image : ZI := (yX6_image, cX6_image, 2, (some .int), 6)
def mX6_init : ZI := (yX6_init, cX6_init, 2, none, 6)
def mX6_isFact : ZI := (yX6_isFact, cX6_isFact, 2, (some .boolean), 6)
def mX6_isImage : ZI := (yX6_isImage, cX6_isImage, 1, (some .boolean), 6)
def mX6_isOfKind : ZI := (yX6_isOfKind, cX6_isOfKind, 4, (some .boolean), 6)
def mX6_isRow : ZI := (yX6_isRow, cX6_isRow, 1, (some .boolean), 6)
def mX6_isWool : ZI := (yX6_isWool, cX6_isWool, 2, (some .boolean), 6)
def mX6_join : ZI := (yX6_join, cX6_join, 3, (some .int), 6)
def mX6_kind : ZI := (yX6_kind, cX6_kind, 2, (some .int), 6)
def mX6_knit : ZI := (yX6_knit, cX6_knit, 3, (some .int), 6)
def mX6_known : ZI := (yX6_known, cX6_known, 2, (some .int), 6)
def mX6_latestBid : ZI := (yX6_latestBid, cX6_latestBid, 9, (some .int), 6)
def mX6_leaveInTrace : ZI := (yX6_leaveInTrace, cX6_leaveInTrace, 2, none, 6)
def mX6_markBody : ZI := (yX6_markBody, cX6_markBody, 2, (some .int), 6)
def mX6_moths : ZI := (yX6_moths, cX6_moths, 6, (some .int), 6)
def mX6_nearestBody : ZI := (yX6_nearestBody, cX6_nearestBody, 4, (some .int), 6)
def mX6_out : ZI := (yX6_out, cX6_out, 4, (some .int), 6)
def mX6_restore : ZI := (yX6_restore, cX6_restore, 2, (some .int), 6)
def mX6_row : ZI := (yX6_row, cX6_row, 4, (some .int), 6)
def mX6_saying : ZI := (yX6_saying, cX6_saying, 3, (some .int), 6)
def mX6_set : ZI := (yX6_set, cX6_set, 5, (some .int), 6)
def mX6_sizeBody : ZI := (yX6_sizeBody, cX6_sizeBody, 2, (some .int), 6)
def mX6_status : ZI := (yX6_status, cX6_status, 1, (some .int), 6)
def mX6_trace : ZI := (yX6_trace, cX6_trace, 2, (some .int), 6)
def mX6_undo : ZI := (yX6_undo, cX6_undo, 1, (some .int), 6)
def mX6_unfound : ZI := (yX6_unfound, cX6_unfound, 2, (some .int), 6)
def mX6_unpick : ZI := (yX6_unpick, cX6_unpick, 3, (some .int), 6)
def mX6_valley : ZI := (yX6_valley, cX6_valley, 1, (some .int), 6)
def mX6_wear : ZI := (yX6_wear, cX6_wear, 3, (some .int), 6)
def mX6_wool : ZI := (yX6_wool, cX6_wool, 3, (some .int), 6)
def mX6_worlds : ZI := (yX6_worlds, cX6_worlds, 2, (some .int), 6)
def mX7_as : ZI := (yX7_as, cX7_as, 3, (some .int), 7)
def mX7_ask : ZI := (yX7_ask, cX7_ask, 3, (some .int), 7)
def mX7_begins : ZI := (yX7_begins, cX7_begins, 2, none, 7)
def mX7_bids : ZI := (yX7_bids, cX7_bids, 6, (some .int), 7)
def mX7_bound : ZI := (yX7_bound, cX7_bound, 3, (some .int), 7)
def mX7_byteAt : ZI := (yX7_byteAt, cX7_byteAt, 2, (some .int), 7)
def mX7_copy : ZI := (yX7_copy, cX7_copy, 8, (some .int), 7)
def mX7_count : ZI := (yX7_count, cX7_count, 4, (some .int), 7)
def mX7_drop : ZI := (yX7_drop, cX7_drop, 2, (some .int), 7)
def mX7_fault : ZI := (yX7_fault, cX7_fault, 1, (some .int), 7)
def mX7_feed : ZI := (yX7_feed, cX7_feed, 5, (some .int), 7)
def mX7_findBids : ZI := (yX7_findBids, cX7_findBids, 5, none, 7)
def mX7_findFacts : ZI := (yX7_findFacts, cX7_findFacts, 4, none, 7)
def mX7_firstFalse : ZI := (yX7_firstFalse, cX7_firstFalse, 5, (some .int), 7)
def mX7_found : ZI := (yX7_found, cX7_found, 2, (some .int), 7)
def mX7_goesOn : ZI := (yX7_goesOn, cX7_goesOn, 1, none, 7)
def mX7_has : ZI := (yX7_has, cX7_has, 2, (some .boolean), 7)
def mX7_image : ZI := (yX7_image, cX7_image, 3, (some .int), 7)
def mX7_in : ZI := (yX7_in, cX7_in, 3, (some .boolean), 7)
def mX7_init : ZI := (yX7_init, cX7_init, 2, none, 7)
def mX7_isA : ZI := (yX7_isA, cX7_isA, 2, (some .boolean), 7)
def mX7_isBound : ZI := (yX7_isBound, cX7_isBound, 4, (some .boolean), 7)
def mX7_isGone : ZI := (yX7_isGone, cX7_isGone, 2, (some .boolean), 7)
def mX7_isName : ZI := (yX7_isName, cX7_isName, 3, (some .boolean), 7)
def mX7_isRow : ZI := (yX7_isRow, cX7_isRow, 1, (some .boolean), 7)
def mX7_isSpan : ZI := (yX7_isSpan, cX7_isSpan, 4, (some .boolean), 7)
def mX7_isValley : ZI := (yX7_isValley, cX7_isValley, 1, (some .boolean), 7)
def mX7_isWool : ZI := (yX7_isWool, cX7_isWool, 2, (some .boolean), 7)
def mX7_jerseysMark : ZI := (yX7_jerseysMark, cX7_jerseysMark, 2, (some .int), 7)
def mX7_jerseysSize : ZI := (yX7_jerseysSize, cX7_jerseysSize, 3, (some .int), 7)
def mX7_join : ZI := (yX7_join, cX7_join, 3, (some .int), 7)
def mX7_kind : ZI := (yX7_kind, cX7_kind, 2, (some .int), 7)
def mX7_knit : ZI := (yX7_knit, cX7_knit, 3, (some .int), 7)
def mX7_known : ZI := (yX7_known, cX7_known, 2, (some .int), 7)
def mX7_knownOf : ZI := (yX7_knownOf, cX7_knownOf, 2, (some .int), 7)
def mX7_lentMark : ZI := (yX7_lentMark, cX7_lentMark, 2, (some .int), 7)
def mX7_lentSize : ZI := (yX7_lentSize, cX7_lentSize, 2, (some .int), 7)
def mX7_liars : ZI := (yX7_liars, cX7_liars, 4, (some .int), 7)
def mX7_lies : ZI := (yX7_lies, cX7_lies, 4, (some .int), 7)
def mX7_lines : ZI := (yX7_lines, cX7_lines, 3, (some .int), 7)
def mX7_markOf : ZI := (yX7_markOf, cX7_markOf, 3, (some .int), 7)
def mX7_markOfJerseys : ZI := (yX7_markOfJerseys, cX7_markOfJerseys, 3, (some .int), 7)
def mX7_mayLie : ZI := (yX7_mayLie, cX7_mayLie, 3, (some .boolean), 7)
def mX7_mayLieBy : ZI := (yX7_mayLieBy, cX7_mayLieBy, 6, (some .boolean), 7)
def mX7_moths : ZI := (yX7_moths, cX7_moths, 8, (some .int), 7)
def mX7_must : ZI := (yX7_must, cX7_must, 3, none, 7)
def mX7_next : ZI := (yX7_next, cX7_next, 2, none, 7)
def mX7_out : ZI := (yX7_out, cX7_out, 8, (some .int), 7)
def mX7_readKnitters : ZI := (yX7_readKnitters, cX7_readKnitters, 1, none, 7)
def mX7_readNumber : ZI := (yX7_readNumber, cX7_readNumber, 5, (some .int), 7)
def mX7_readSaying : ZI := (yX7_readSaying, cX7_readSaying, 6, none, 7)
def mX7_readStop : ZI := (yX7_readStop, cX7_readStop, 1, none, 7)
def mX7_readWool : ZI := (yX7_readWool, cX7_readWool, 4, none, 7)
def mX7_readWorn : ZI := (yX7_readWorn, cX7_readWorn, 2, (some .int), 7)
def mX7_remembers : ZI := (yX7_remembers, cX7_remembers, 2, none, 7)
def mX7_restore : ZI := (yX7_restore, cX7_restore, 3, (some .int), 7)
def mX7_row : ZI := (yX7_row, cX7_row, 5, (some .int), 7)
def mX7_said : ZI := (yX7_said, cX7_said, 3, (some .int), 7)
def mX7_saying : ZI := (yX7_saying, cX7_saying, 3, (some .int), 7)
def mX7_set : ZI := (yX7_set, cX7_set, 5, (some .int), 7)
def mX7_sizeOf : ZI := (yX7_sizeOf, cX7_sizeOf, 2, (some .int), 7)
def mX7_sizeOfStockings : ZI := (yX7_sizeOfStockings, cX7_sizeOfStockings, 2, (some .int), 7)
def mX7_sortNow : ZI := (yX7_sortNow, cX7_sortNow, 1, (some .int), 7)
def mX7_status : ZI := (yX7_status, cX7_status, 1, (some .int), 7)
def mX7_stockingsSize : ZI := (yX7_stockingsSize, cX7_stockingsSize, 2, (some .int), 7)
def mX7_trace : ZI := (yX7_trace, cX7_trace, 2, (some .int), 7)
def mX7_undo : ZI := (yX7_undo, cX7_undo, 2, (some .int), 7)
def mX7_unpick : ZI := (yX7_unpick, cX7_unpick, 4, (some .int), 7)
def mX7_valley : ZI := (yX7_valley, cX7_valley, 3, (some .int), 7)
def mX7_warmBy : ZI := (yX7_warmBy, cX7_warmBy, 10, (some .int), 7)
def mX7_warmOf : ZI := (yX7_warmOf, cX7_warmOf, 4, (some .int), 7)
def mX7_wear : ZI := (yX7_wear, cX7_wear, 9, (some .int), 7)
def mX7_well : ZI := (yX7_well, cX7_well, 2, (some .int), 7)
def mX7_wool : ZI := (yX7_wool, cX7_wool, 3, (some .int), 7)
def mX7_worlds : ZI := (yX7_worlds, cX7_worlds, 2, (some .int), 7)
def mX7_worldsOf : ZI := (yX7_worldsOf, cX7_worldsOf, 3, (some .int), 7)
def mL_law : ZI := (x, code, 4, (some .boolean), 8)
def zfL : List (Nat × Nat × Nat × Nat × Nat) := [(4, 9, 4, 0, 0), (4, 15, 4, 1, 0), (6, 106, 4, 1, 1), (2, 54, 4, 2, 1), (4, 32, 4, 2, 0), (4, 25, 4, 3, 0), (2, 135, 4, 3, 1), (4, 19, 4, 4, 0), (2, 12, 2, 0, 0), (6, 102, 2, 0, 1), (2, 18, 2, 1, 0), (6, 120, 2, 1, 1), (2, 22, 2, 2, 0), (6, 127, 2, 2, 1), (5, 33, 5, 0, 0), (1, 51, 5, 0, 1), (2, 71, 5, 0, 1), (6, 223, 5, 0, 1), (5, 37, 5, 1, 0), (2, 73, 5, 1, 1), (6, 247, 5, 1, 1), (2, 25, 5, 2, 1), (1, 54, 5, 2, 1), (5, 40, 5, 2, 0), (6, 136, 5, 2, 1), (5, 9, 5, 3, 0), (2, 79, 5, 3, 1), (6, 250, 5, 3, 1), (5, 15, 5, 4, 0), (0, 18, 5, 4, 1), (2, 90, 5, 4, 1), (6, 146, 5, 4, 1), (5, 18, 5, 5, 0), (0, 31, 5, 5, 1), (2, 87, 5, 5, 1), (6, 167, 5, 5, 1), (2, 30, 5, 6, 1), (5, 49, 5, 6, 0), (6, 182, 5, 6, 1), (5, 21, 5, 7, 0), (2, 93, 5, 7, 1), (6, 185, 5, 7, 1), (5, 24, 5, 8, 0), (2, 96, 5, 8, 1), (6, 188, 5, 8, 1), (5, 27, 5, 9, 0), (2, 103, 5, 9, 1), (6, 192, 5, 9, 1), (5, 30, 5, 10, 0), (2, 106, 5, 10, 1), (6, 195, 5, 10, 1), (0, 9, 0, 0, 0), (0, 15, 0, 1, 0), (0, 21, 0, 2, 0), (0, 32, 0, 3, 0), (6, 170, 0, 3, 1), (1, 9, 1, 0, 0), (1, 15, 1, 1, 0), (1, 18, 1, 2, 0), (1, 21, 1, 3, 0), (6, 233, 1, 3, 1), (1, 32, 1, 4, 0), (1, 28, 1, 5, 0), (1, 45, 1, 6, 0), (6, 230, 1, 6, 1), (3, 9, 3, 0, 0), (6, 79, 3, 0, 1), (3, 15, 3, 1, 0), (6, 71, 3, 1, 1), (3, 19, 3, 2, 0), (6, 85, 3, 2, 1), (3, 23, 3, 3, 0), (6, 95, 3, 3, 1), (6, 11, 6, 0, 0), (6, 98, 6, 1, 0), (6, 18, 6, 2, 0), (6, 123, 6, 3, 0), (6, 25, 6, 4, 0), (6, 29, 6, 5, 0), (6, 32, 6, 6, 0), (6, 39, 6, 7, 0), (6, 46, 6, 8, 0), (6, 50, 6, 9, 0), (6, 256, 6, 10, 0), (7, 7, 7, 0, 0), (7, 13, 7, 1, 0), (7, 16, 7, 2, 0), (7, 20, 7, 3, 0), (7, 151, 7, 4, 0), (7, 23, 7, 5, 0), (7, 26, 7, 6, 0), (7, 29, 7, 7, 0), (7, 42, 7, 8, 0), (7, 32, 7, 9, 0), (7, 66, 7, 10, 0), (7, 72, 7, 11, 0), (7, 78, 7, 12, 0), (7, 81, 7, 13, 0), (7, 88, 7, 14, 0), (7, 84, 7, 15, 0), (7, 91, 7, 16, 0), (7, 147, 7, 17, 0), (7, 35, 7, 18, 0), (7, 198, 7, 19, 0), (7, 201, 7, 20, 0), (7, 220, 7, 21, 0), (7, 223, 7, 22, 0), (7, 38, 7, 23, 0), (7, 233, 7, 24, 0)]
def zcL : List (Nat × Nat × Nat × ZI × Nat) := [(8, 9, 4, mX6_init, 1), (6, 3, 6, mX6_init, 1), (6, 17, 5, mX2_init, 1), (2, 3, 6, mX6_init, 1), (2, 11, 5, mX4_init, 1), (4, 3, 6, mX6_init, 1), (6, 24, 5, mX5_init, 1), (5, 3, 6, mX6_init, 1), (6, 38, 5, mX0_init, 1), (0, 3, 6, mX6_init, 1), (6, 45, 5, mX1_init, 1), (1, 3, 6, mX6_init, 1), (6, 54, 5, mX3_init, 1), (3, 3, 6, mX6_init, 1), (8, 13, 2, mX6_row, 4), (6, 55, 0, mX6_isRow, 1), (6, 60, 2, mX6_found, 2), (6, 64, 3, mX3_renew, 3), (6, 68, 2, mX6_unfound, 2), (8, 18, 2, mX6_set, 4), (6, 75, 3, mX3_holds, 3), (6, 82, 3, mX3_narrowed, 2), (8, 22, 2, mX6_copy, 6), (6, 89, 7, mX6_init, 5), (8, 27, 2, mX6_drop, 2), (8, 34, 2, mX6_feed, 3), (6, 112, 3, mX4_append, 3), (8, 39, 2, mX6_valley, 1), (6, 116, 3, mX2_read, 2), (2, 33, 3, mX4_rewind, 1), (4, 22, 2, mX4_step, 1), (4, 28, 0, mX4_isBlank, 1), (4, 35, 0, mX4_isLetter, 1), (4, 38, 0, mX4_isFigure, 1), (2, 36, 2, mX2_readKnitters, 2), (2, 63, 2, mX2_readWord, 2), (2, 109, 3, mX4_isWord, 2), (4, 41, 2, mJ0_length_8abf5, 1), (11, 335, 2, mJ0_coder_7d493, 1), (4, 46, 2, mJ0_charAt_5068e, 2), (11, 492, 2, mJ0_isLatin1_aae02, 1), (11, 495, 0, mJ1_charAt_3b067, 2), (12, 9, 0, mJ0_checkIndex_df160, 2), (11, 1059, 0, mJ3_checkIndex_8e157, 3), (14, 414, 0, mJ0_checkIndex_df160, 2), (2, 112, 2, mX2_stepIf, 2), (2, 132, 3, mX4_step, 1), (2, 57, 2, mX2_fail, 2), (2, 67, 2, mX2_readNumber, 3), (2, 129, 3, mX4_value, 1), (2, 76, 2, mX2_readSign, 1), (2, 42, 2, mX2_isNext, 2), (2, 46, 2, mX2_readWool, 2), (2, 83, 2, mX2_readSort, 1), (2, 116, 2, mX2_sortTold, 1), (2, 51, 2, mX2_readSaying, 2), (2, 99, 2, mX2_readWorn, 2), (6, 130, 3, mX5_become, 2), (5, 43, 7, mX6_init, 5), (6, 133, 3, mX0_forget, 1), (8, 44, 2, mX6_fault, 1), (8, 48, 2, mX6_knit, 3), (6, 139, 2, mX6_isWool, 2), (6, 142, 3, mX5_isGone, 2), (6, 149, 3, mX0_keep, 2), (0, 25, 7, mX6_init, 5), (0, 35, 8, mJ9_min_7cf53, 2), (8, 53, 2, mX6_unpick, 3), (6, 152, 3, mX5_shorten, 3), (5, 52, 8, mJ9_min_7cf53, 2), (8, 57, 2, mX6_moths, 2), (6, 156, 3, mX5_isThere, 1), (8, 61, 2, mX6_join, 3), (8, 65, 2, mX6_undo, 1), (6, 173, 3, mX0_takeBack, 2), (8, 69, 2, mX6_wool, 3), (6, 176, 3, mX5_warmth, 2), (5, 62, 2, mX5_isGone, 2), (6, 179, 3, mX5_liars, 2), (5, 66, 2, mX5_mayLie, 4), (5, 58, 0, mX5_isIn, 2), (8, 73, 2, mX6_saying, 3), (6, 198, 3, mX5_isBound, 3), (8, 77, 2, mX6_known, 2), (6, 201, 2, mX6_isFact, 2), (6, 204, 3, mX5_knowledge, 2), (5, 73, 2, mX5_factsSaid, 3), (5, 70, 2, mX5_isBound, 3), (8, 81, 2, mX6_worlds, 2), (6, 207, 3, mX5_possibleWorlds, 1), (5, 76, 0, mJ6_bitCount_0f7a4, 1), (6, 211, 3, mX5_lies, 1), (5, 82, 2, mX5_possibleWorlds, 1), (8, 85, 2, mX6_out, 3), (6, 214, 3, mX5_fewestToUnpick, 2), (5, 87, 2, mX5_linesOf, 2), (5, 90, 2, mX5_comesOut, 3), (6, 217, 3, mX5_linesOf, 2), (8, 89, 2, mX6_firstFalse, 1), (6, 220, 3, mX5_firstContradiction, 1), (8, 93, 2, mX6_wear, 3), (6, 226, 3, mX1_dress, 3), (1, 24, 2, mX1_open, 3), (1, 55, 3, mX5_warmth, 2), (1, 57, 1, mX5_isIn, 2), (1, 61, 0, mX1_choiceOf, 3), (1, 65, 3, mX5_isGone, 2), (1, 69, 3, mX5_mayLie, 4), (1, 35, 0, mJ6_bitCount_0f7a4, 1), (1, 41, 2, mX1_mostFrom, 3), (1, 73, 2, mX1_mostWith, 4), (1, 77, 9, mJ9_max_7cf53, 2), (1, 48, 2, mX1_firstBest, 3), (8, 97, 2, mX6_bids, 4), (6, 236, 3, mX3_liesWithin, 4), (6, 240, 2, mX6_latestBid, 4), (8, 101, 2, mX6_image, 2), (6, 244, 0, mX6_isImage, 1), (8, 105, 2, mX6_restore, 2), (8, 109, 2, mX6_kind, 2), (8, 113, 2, mX6_as, 3), (6, 253, 0, mX6_isOfKind, 2), (8, 117, 2, mX6_ask, 3), (6, 259, 2, mX6_sizeBody, 2), (6, 281, 0, mX6_nearestBody, 2), (6, 262, 2, mX6_markBody, 2), (6, 265, 2, mX6_begin, 4), (6, 288, 2, mX6_leaveInTrace, 2), (6, 292, 2, mX6_answer, 4), (8, 121, 2, mX6_trace, 2), (8, 125, 2, mX6_count, 2), (6, 269, 2, mX6_countRows, 1), (6, 272, 3, mX5_countBound, 1), (8, 129, 2, mX6_status, 1), (8, 12, 4, mX7_init, 1), (7, 1, 6, mX6_init, 1), (8, 17, 2, mX7_row, 4), (7, 51, 0, mX7_isRow, 1), (7, 47, 0, mX7_in, 3), (7, 56, 2, mX7_found, 2), (7, 60, 2, mX7_well, 2), (8, 21, 2, mX7_set, 4), (8, 26, 2, mX7_copy, 6), (7, 63, 2, mX7_isSpan, 4), (8, 31, 2, mX7_drop, 2), (8, 38, 2, mX7_feed, 3), (8, 43, 2, mX7_valley, 1), (7, 94, 2, mX7_next, 1), (7, 75, 2, mX7_byteAt, 2), (7, 134, 2, mX7_readKnitters, 1), (7, 106, 2, mX7_isName, 2), (7, 97, 2, mX7_must, 3), (7, 101, 2, mX7_goesOn, 1), (7, 120, 2, mX7_readNumber, 4), (7, 124, 2, mX7_readStop, 1), (7, 139, 2, mX7_readWool, 1), (7, 127, 2, mX7_sortNow, 1), (7, 144, 2, mX7_readSaying, 1), (7, 131, 2, mX7_readWorn, 1), (8, 47, 2, mX7_fault, 1), (8, 52, 2, mX7_knit, 3), (7, 161, 2, mX7_isWool, 2), (7, 164, 2, mX7_isGone, 2), (7, 168, 2, mX7_remembers, 1), (8, 56, 2, mX7_unpick, 3), (8, 60, 2, mX7_moths, 2), (7, 171, 2, mX7_isValley, 1), (8, 64, 2, mX7_join, 3), (8, 68, 2, mX7_undo, 1), (8, 72, 2, mX7_wool, 3), (7, 185, 2, mX7_warmOf, 2), (7, 188, 2, mX7_liars, 2), (7, 182, 2, mX7_mayLie, 3), (7, 158, 2, mX7_mayLieBy, 4), (7, 154, 0, mX7_has, 2), (8, 76, 2, mX7_saying, 3), (7, 191, 2, mX7_said, 3), (7, 195, 2, mX7_isBound, 3), (8, 80, 2, mX7_known, 2), (7, 204, 2, mX7_findFacts, 2), (7, 208, 2, mX7_knownOf, 2), (8, 84, 2, mX7_worlds, 2), (7, 211, 2, mX7_worldsOf, 1), (7, 214, 2, mX7_lies, 1), (8, 88, 2, mX7_out, 3), (8, 92, 2, mX7_firstFalse, 1), (8, 96, 2, mX7_wear, 3), (7, 217, 2, mX7_warmBy, 4), (8, 100, 2, mX7_bids, 4), (7, 226, 2, mX7_findBids, 3), (8, 104, 2, mX7_image, 2), (8, 108, 2, mX7_restore, 2), (8, 112, 2, mX7_kind, 2), (8, 116, 2, mX7_as, 3), (7, 230, 0, mX7_isA, 2), (8, 120, 2, mX7_ask, 3), (7, 260, 2, mX7_sizeOf, 2), (7, 254, 2, mX7_sizeOfStockings, 2), (7, 236, 2, mX7_begins, 2), (7, 251, 2, mX7_stockingsSize, 2), (7, 245, 2, mX7_lentSize, 2), (7, 257, 2, mX7_jerseysSize, 2), (7, 248, 2, mX7_markOfJerseys, 2), (7, 242, 2, mX7_jerseysMark, 2), (7, 239, 2, mX7_lentMark, 2), (7, 263, 2, mX7_markOf, 2), (8, 124, 2, mX7_trace, 2), (8, 128, 2, mX7_count, 2), (7, 266, 2, mX7_lines, 1), (7, 269, 2, mX7_bound, 1), (8, 132, 2, mX7_status, 1)]
def zkL : List (Nat × Nat × Int32) := [(6, 59, -1000001), (6, 101, -1000010), (6, 111, -1000003), (6, 126, -1000100), (6, 145, -1000002), (6, 160, 999999), (6, 191, -1000000), (9, 265, 1431655765), (9, 266, 858993459), (9, 267, 252645135), (5, 86, -1000000), (7, 41, -1000000), (7, 55, -1000001), (7, 46, -1000010), (7, 69, -1000003), (7, 150, -1000100), (7, 167, -1000002), (7, 175, 999999)]
def zlL : List (Nat × Nat × Int64) := [(6, 161, 16807), (6, 163, 2147483647), (6, 165, 3), (7, 70, 255), (7, 118, 7741240758386389619), (7, 137, 2003791724), (7, 104, 116983944406393), (7, 110, 495588569702), (7, 112, 6513008), (7, 114, 8319396884454665831), (7, 116, 7234932), (7, 142, 126862485974631), (7, 176, 16807), (7, 178, 2147483647), (7, 180, 3), (8, 32, 4294967295)]
def zsL : List (Nat × Nat × Nat) := [(2, 61, 0), (2, 40, 1), (2, 119, 2), (2, 121, 3), (2, 123, 4), (2, 125, 5), (2, 127, 6), (2, 49, 7)]
def znL : List (Nat × Nat × Nat) := [(8, 7, 6), (6, 9, 3), (6, 15, 2), (2, 9, 4), (6, 22, 5), (6, 36, 0), (6, 43, 1), (8, 10, 7)]
def znx (pc : Nat) (L st : List Value) (μ : Zm) : Option zR := some (.inl (pc, L, st, μ))
def z1i (st : List Value) (k : Int32 → List Value → Option zR) : Option zR := match st with | .int a :: r => k a r | _ => none
def z2i (st : List Value) (k : Int32 → Int32 → List Value → Option zR) : Option zR := match st with | .int b :: .int a :: r => k a b r | _ => none
def z1l (st : List Value) (k : Int64 → List Value → Option zR) : Option zR := match st with | .long a :: r => k a r | _ => none
def z2l (st : List Value) (k : Int64 → Int64 → List Value → Option zR) : Option zR := match st with | .long b :: .long a :: r => k a b r | _ => none
def zli (st : List Value) (k : Int64 → Int32 → List Value → Option zR) : Option zR := match st with | .int b :: .long a :: r => k a b r | _ => none
def z1r (st : List Value) (k : Nat → List Value → Option zR) : Option zR := match st with | .ref a :: r => k a r | _ => none
def zir (st : List Value) (k : Int32 → Nat → List Value → Option zR) : Option zR := match st with | .int j :: .ref c :: r => k j c r | _ => none
def ziir (st : List Value) (k : Int32 → Int32 → Nat → List Value → Option zR) : Option zR := match st with | .int x :: .int j :: .ref c :: r => k x j c r | _ => none
def zrir (st : List Value) (k : Nat → Int32 → Nat → List Value → Option zR) : Option zR := match st with | .ref v :: .int j :: .ref c :: r => k v j c r | _ => none
def zvr (st : List Value) (k : Value → Nat → List Value → Option zR) : Option zR := match st with | v :: .ref c :: r => k v c r | _ => none
def zjp (pc : Nat) (off : Int) (k : Nat → Option zR) : Option zR := if 0 ≤ (pc : Int) + off then k ((pc : Int) + off).toNat else none
def zil : Instr → Nat
  | .iload _ | .lload _ | .aload _ | .istore _ | .lstore _ | .astore _ | .bipush _ | .ldc _ | .newarray _ => 2
  | .sipush _ | .iinc _ _ | .getfield _ | .putfield _ | .getstatic _ | .ifCond _ _ | .if_icmp _ _ | .goto _ | .ldc_w _ | .ldc2_w _ | .new _ | .anewarray _ | .invokevirtual _ | .invokestatic _ | .invokespecial _ => 3
  | _ => 1
def zf2 {α : Type} (l : List (Nat × Nat × α)) (o i : Nat) : Option α := (l.find? (fun e => e.1 == o && e.2.1 == i)).map (fun e => e.2.2)
/-- fields of the JDK's texts: value, coder -/
def ztf (o idx : Nat) : Option Nat := if o = 11 then (if idx = 9 then some 0 else if idx = 15 then some 1 else none) else none
/-- statics -/
def zgs (o idx : Nat) : Option Value := if o = 11 then (if idx = 38 then some (.int 1) else if idx = 1053 then some (.float 0) else none) else if o = 6 then (if idx = 275 then some (.ref 2001) else if idx = 278 then some (.ref 2002) else if idx = 285 then some (.ref 2003) else none) else none
def zldI (L : List Value) (i : Nat) : Option Int32 := match L[i]? with | some (.int x) => some x | _ => none
def zldL (L : List Value) (i : Nat) : Option Int64 := match L[i]?, L[i + 1]? with | some (.long x), some (.retAddr 0) => some x | _, _ => none
def zldR (L : List Value) (i : Nat) : Option Nat := match L[i]? with | some (.ref x) => some x | _ => none
def zst1 (M : ZI) (L : List Value) (i : Nat) (v : Value) : Option (List Value) := if i < M.2.2.1 then some (L.set i v) else none
def zst2 (M : ZI) (L : List Value) (i : Nat) (v : Value) : Option (List Value) := if i + 1 < M.2.2.1 then some ((L.set i v).set (i + 1) zjk) else none
def zcm (c : ClassFile.Cond) (a b : Int32) : Bool := match c with | .eq => decide (a = b) | .ne => !decide (a = b) | .lt => decide (a < b) | .ge => decide (b ≤ a) | .gt => decide (b < a) | .le => decide (a ≤ b)
def zok (ty : FieldType) (x : Int32) : Bool := match ty with | .int => true | .boolean => decide (x &&& 1 = x) | .byte => decide (x.toInt8.toInt32 = x) | .char => decide (x.toUInt32.toUInt16.toUInt32.toInt32 = x) | _ => false
/-- the receiver of a call -/
def zrc2 (ph : Bool) (μ : Zm) (o c : Nat) : Bool := if o = 11 then decide (2010 ≤ c) && decide (c < 2018) else zob ph μ c o && decide (o < 8)
def zrc (ph : Bool) (μ : Zm) (o : Nat) (v : Option Value) : Bool := match v with | some (.ref c) => zrc2 ph μ o c | _ => false
def zpush (r : Option Value) (st : List Value) : List Value := match r with | some v => v :: st | none => st
def zcall (ph : Bool) (call : ZI → List Value → Zm → Option (Option Value × Zm)) (k : Nat) (M' : ZI) (n : Nat) (args rest : List Value) (pc : Nat) (L : List Value) (μ : Zm) : Option zR :=
  if args.length = n ∧ rest.length ≤ 4 then
    (if k = 6 then (match args with | [.ref _] => znx (pc + 3) L rest μ | _ => none)
     else if k = 7 then (match args with | [.ref a, .int i, .ref b, .int j, .int m] => (zac ph μ a b i j m).bind (fun μ' => znx (pc + 3) L rest μ') | _ => none)
     else if k = 8 then (match args with | [.int a, .int b] => znx (pc + 3) L (.int (if b < a then b else a) :: rest) μ | _ => none)
     else if k = 9 then (match args with | [.int a, .int b] => znx (pc + 3) L (.int (if a < b then b else a) :: rest) μ | _ => none)
     else if k ≤ 5 ∧ (k ≤ 1 ∨ zrc ph μ M'.2.2.2.2 args.head? = true) then (call M' args μ).bind (fun r => if zsz ph μ ≤ zsz ph r.2 then znx (pc + 3) L (zpush r.1 rest) r.2 else none)
     else none)
  else none
def zat (t : ArrayType) : Nat := match t with | .int => 10 | .byte => 11 | .boolean => 12 | _ => 98
def zai (ph : Bool) (call : ZI → List Value → Zm → Option (Option Value × Zm)) (M : ZI) (i : Instr) (pc : Nat) (L st : List Value) (μ : Zm) : Option zR :=
  match i with
  | .iconst n => znx (pc + 1) L (.int (Int32.ofInt n) :: st) μ
  | .bipush n => znx (pc + 2) L (.int (Int8.ofInt n).toInt32 :: st) μ
  | .sipush n => znx (pc + 3) L (.int (Int16.ofInt n).toInt32 :: st) μ
  | .lconst n => znx (pc + 1) L (.long (Int64.ofNat n) :: st) μ
  | .iload_n k => (zldI L k).bind fun x => znx (pc + 1) L (.int x :: st) μ
  | .iload k => (zldI L k).bind fun x => znx (pc + 2) L (.int x :: st) μ
  | .lload_n k => (zldL L k).bind fun x => znx (pc + 1) L (.long x :: st) μ
  | .lload k => (zldL L k).bind fun x => znx (pc + 2) L (.long x :: st) μ
  | .aload_n k => (zldR L k).bind fun x => znx (pc + 1) L (.ref x :: st) μ
  | .aload k => (zldR L k).bind fun x => znx (pc + 2) L (.ref x :: st) μ
  | .istore_n k => z1i st fun x r => (zst1 M L k (.int x)).bind fun L' => znx (pc + 1) L' r μ
  | .istore k => z1i st fun x r => (zst1 M L k (.int x)).bind fun L' => znx (pc + 2) L' r μ
  | .lstore_n k => z1l st fun x r => (zst2 M L k (.long x)).bind fun L' => znx (pc + 1) L' r μ
  | .lstore k => z1l st fun x r => (zst2 M L k (.long x)).bind fun L' => znx (pc + 2) L' r μ
  | .astore_n k => z1r st fun x r => (zst1 M L k (.ref x)).bind fun L' => znx (pc + 1) L' r μ
  | .astore k => z1r st fun x r => (zst1 M L k (.ref x)).bind fun L' => znx (pc + 2) L' r μ
  | .iinc k n => (zldI L k).bind fun x => (zst1 M L k (.int (x + Int32.ofInt n))).bind fun L' => znx (pc + 3) L' st μ
  | .iadd => z2i st fun a b r => znx (pc + 1) L (.int (a + b) :: r) μ
  | .isub => z2i st fun a b r => znx (pc + 1) L (.int (a - b) :: r) μ
  | .imul => z2i st fun a b r => znx (pc + 1) L (.int (a * b) :: r) μ
  | .idiv => z2i st fun a b r => if b = 0 then none else znx (pc + 1) L (.int (a / b) :: r) μ
  | .irem => z2i st fun a b r => if b = 0 then none else znx (pc + 1) L (.int (a - a / b * b) :: r) μ
  | .iand => z2i st fun a b r => znx (pc + 1) L (.int (a &&& b) :: r) μ
  | .ior => z2i st fun a b r => znx (pc + 1) L (.int (a ||| b) :: r) μ
  | .ixor => z2i st fun a b r => znx (pc + 1) L (.int (a ^^^ b) :: r) μ
  | .ishl => z2i st fun a b r => znx (pc + 1) L (.int (a <<< (b &&& 31)) :: r) μ
  | .ishr => z2i st fun a b r => znx (pc + 1) L (.int (a >>> (b &&& 31)) :: r) μ
  | .iushr => z2i st fun a b r => znx (pc + 1) L (.int (a.toUInt32 >>> (b.toUInt32 &&& Int32.toUInt32 31)).toInt32 :: r) μ
  | .ineg => z1i st fun a r => znx (pc + 1) L (.int (-a) :: r) μ
  | .i2l => z1i st fun a r => znx (pc + 1) L (.long a.toInt64 :: r) μ
  | .i2b => z1i st fun a r => znx (pc + 1) L (.int a.toInt8.toInt32 :: r) μ
  | .i2s => z1i st fun a r => znx (pc + 1) L (.int a.toInt16.toInt32 :: r) μ
  | .i2c => z1i st fun a r => znx (pc + 1) L (.int (a.toUInt32 % 65536).toInt32 :: r) μ
  | .l2i => z1l st fun a r => znx (pc + 1) L (.int a.toInt32 :: r) μ
  | .ladd => z2l st fun a b r => znx (pc + 1) L (.long (a + b) :: r) μ
  | .lmul => z2l st fun a b r => znx (pc + 1) L (.long (a * b) :: r) μ
  | .lrem => z2l st fun a b r => if b = 0 then none else znx (pc + 1) L (.long (a - a / b * b) :: r) μ
  | .land => z2l st fun a b r => znx (pc + 1) L (.long (a &&& b) :: r) μ
  | .lor => z2l st fun a b r => znx (pc + 1) L (.long (a ||| b) :: r) μ
  | .lcmp => z2l st fun a b r => znx (pc + 1) L (.int (lg_cmp a b) :: r) μ
  | .lshl => zli st fun a b r => znx (pc + 1) L (.long (a <<< (b.toInt64 &&& 63)) :: r) μ
  | .lshr => zli st fun a b r => znx (pc + 1) L (.long (a >>> (b.toInt64 &&& 63)) :: r) μ
  | .dup => match st with | v :: r => if v.category = 1 then znx (pc + 1) L (v :: v :: r) μ else none | _ => none
  | .dup2 => match st with | v :: w :: r => if v.category = 1 ∧ w.category = 1 then znx (pc + 1) L (v :: w :: v :: w :: r) μ else none | _ => none
  | .pop => match st with | v :: r => if v.category = 1 then znx (pc + 1) L r μ else none | _ => none
  | .ifCond c off => z1i st fun a r => zjp pc off fun t => if zcm c a 0 then znx t L r μ else znx (pc + 3) L r μ
  | .if_icmp c off => z2i st fun a b r => zjp pc off fun t => if zcm c a b then znx t L r μ else znx (pc + 3) L r μ
  | .goto off => zjp pc off fun t => znx t L st μ
  | .tableswitch d lo hi offs => z1i st fun a r => if a.toInt < lo ∨ hi < a.toInt then zjp pc d fun t => znx t L r μ else (offs[(a.toInt - lo).toNat]?).bind fun off => zjp pc off fun t => znx t L r μ
  | .ldc k => match zf2 zkL M.2.2.2.2 k with | some v => znx (pc + 2) L (.int v :: st) μ | none => (zf2 zsL M.2.2.2.2 k).bind fun j => znx (pc + 2) L (.ref (2010 + j) :: st) μ
  | .ldc_w k => (zf2 zkL M.2.2.2.2 k).bind fun v => znx (pc + 3) L (.int v :: st) μ
  | .ldc2_w k => (zf2 zlL M.2.2.2.2 k).bind fun v => znx (pc + 3) L (.long v :: st) μ
  | .getfield k => z1r st fun c r => match zf2 zfL M.2.2.2.2 k with
    | some (t, f, _) => if zob ph μ c t then znx (pc + 3) L (zsv ph μ t c f :: r) μ else none
    | none => (ztf M.2.2.2.2 k).bind fun f => if 2010 ≤ c ∧ c < 2018 then znx (pc + 3) L ((if f = 0 then .ref (c + 10) else .int 0) :: r) μ else none
  | .putfield k => zvr st fun v c r => (zf2 zfL M.2.2.2.2 k).bind fun q => (zpf ph μ M q.1 c q.2.1 v).bind fun μ' => znx (pc + 3) L r μ'
  | .getstatic k => (zgs M.2.2.2.2 k).bind fun v => znx (pc + 3) L (v :: st) μ
  | .iaload => zir st fun j c r => (zrdi ph μ c j).bind fun x => znx (pc + 1) L (.int x :: r) μ
  | .baload => zir st fun j c r => (zrdb ph μ c j).bind fun x => znx (pc + 1) L (.int x :: r) μ
  | .aaload => zir st fun j c r => if (zob ph μ c 13 || zob ph μ c 14) && zin j (zsh c).2 then znx (pc + 1) L (zrv (zrf ph μ (zsh c).1 c j.toNatClampNeg) :: r) μ else none
  | .iastore => ziir st fun x j c r => (zwri ph μ c j x).bind fun μ' => znx (pc + 1) L r μ'
  | .bastore => ziir st fun x j c r => (zwrb ph μ c j x).bind fun μ' => znx (pc + 1) L r μ'
  | .aastore => zrir st fun v j c r => if ((zob ph μ c 13 && zob ph μ v 3) || (zob ph μ c 14 && zob ph μ v 5)) && zin j (zsh c).2 && decide (v = ztg (zsh c).1 c j.toNatClampNeg) then znx (pc + 1) L r (zup μ c j.toNatClampNeg 1) else none
  | .arraylength => z1r st fun c r => (zlen ph μ c).bind fun n => znx (pc + 1) L (.int (Int32.ofNat n) :: r) μ
  | .new k => if ph then none else (zf2 znL M.2.2.2.2 k).bind fun t => if zsz ph μ < 74 ∧ (zsh (zsz ph μ)).1 = t then znx (pc + 3) L (.ref (zsz ph μ) :: st) (zal μ (zsz ph μ)) else none
  | .newarray ty => if ph then none else z1i st fun n r => if zsz ph μ < 74 ∧ (zsh (zsz ph μ)).1 = zat ty ∧ ¬ n < 0 ∧ n.toNatClampNeg = (zsh (zsz ph μ)).2 then znx (pc + 2) L (.ref (zsz ph μ) :: r) (zal μ (zsz ph μ)) else none
  | .anewarray k => if ph then none else z1i st fun n r => (zf2 znL M.2.2.2.2 k).bind fun t => if zsz ph μ < 74 ∧ ((t = 3 ∧ (zsh (zsz ph μ)).1 = 13) ∨ (t = 5 ∧ (zsh (zsz ph μ)).1 = 14)) ∧ ¬ n < 0 ∧ n.toNatClampNeg = (zsh (zsz ph μ)).2 then znx (pc + 3) L (.ref (zsz ph μ) :: r) (zal μ (zsz ph μ)) else none
  | .invokestatic k => (zf2 zcL M.2.2.2.2 k).bind fun q => if q.1 ≤ 1 ∨ 7 ≤ q.1 then zcall ph call q.1 q.2.1 q.2.2 (st.take q.2.2).reverse (st.drop q.2.2) pc L μ else none
  | .invokevirtual k => (zf2 zcL M.2.2.2.2 k).bind fun q => if q.1 = 2 ∨ q.1 = 3 then zcall ph call q.1 q.2.1 q.2.2 (st.take q.2.2).reverse (st.drop q.2.2) pc L μ else none
  | .invokespecial k => (zf2 zcL M.2.2.2.2 k).bind fun q => if q.1 = 4 ∨ q.1 = 5 ∨ q.1 = 6 then zcall ph call q.1 q.2.1 q.2.2 (st.take q.2.2).reverse (st.drop q.2.2) pc L μ else none
  | .ireturn => match st, M.2.2.2.1 with | [.int x], some ty => if zok ty x then some (.inr (some (.int x), μ)) else none | _, _ => none
  | .return_ => match st, M.2.2.2.1 with | [], none => some (.inr (none, μ)) | _, _ => none
  | _ => none
def zisT : Instr → Bool | .tableswitch .. => true | _ => false
def zs1 (ph : Bool) (call : ZI → List Value → Zm → Option (Option Value × Zm)) (M : ZI) (pc : Nat) (L st : List Value) (μ : Zm) : Option zR :=
  match decode M.2.1 pc with
  | .ok (i, n) => if n = zil i ∨ zisT i = true then zai ph call M i pc L st μ else none
  | .error _ => none
def zss (ph : Bool) (call : ZI → List Value → Zm → Option (Option Value × Zm)) (M : ZI) : Nat → Nat → List Value → List Value → Zm → Option (Option Value × Zm)
  | 0, _, _, _, _ => none
  | n + 1, pc, L, st, μ => match zs1 ph call M pc L st μ with
    | some (.inl q) => if zsz ph μ ≤ zsz ph q.2.2.2 then zss ph call M n q.1 q.2.1 q.2.2.1 q.2.2.2 else none
    | some (.inr r) => if zsz ph μ ≤ zsz ph r.2 then some r else none
    | none => none
def zen (n : Nat) (args : List Value) : List Value := let l := args.flatMap (fun v => if v.category = 2 then [v, zjk] else [v]); l ++ List.replicate (n - l.length) zjk
noncomputable def zlim {α : Type} (f : Nat → Option α) : Option α := @dite (Option α) (∃ r, ∃ n, f n = some r) (Classical.propDecidable _) (fun h => some (Classical.choose h)) (fun _ => none)
def zgd (M : ZI) (args : List Value) : Bool := decide ((args.flatMap (fun v => if v.category = 2 then [v, zjk] else [v])).length ≤ M.2.2.1) && args.all (fun v => decide (v ≠ zjk))
noncomputable def zC (ph : Bool) : Nat → ZI → List Value → Zm → Option (Option Value × Zm)
  | 0, _, _, _ => none
  | d + 1, M, args, μ => zlim (fun n => if zgd M args then zss ph (zC ph d) M n 0 (zen M.2.2.1 args) [] μ else none)
noncomputable def zA (d : Nat) (M : ZI) (pc : Nat) (L st : List Value) (μ : Zm) : Option (Option Value × Zm) := zlim (fun n => zss true (zC true d) M n pc L st μ)
