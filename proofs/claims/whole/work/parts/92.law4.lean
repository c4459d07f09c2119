/-! THE LAW: its loop and its start (by program gen89.py) -/
theorem aSw_all {k : Nat → aRs} {q : aRs → Prop} {v : Int32} {d : Nat} (hd : q (k d)) : ∀ (sw : List (Int32 × Nat)), (∀ e ∈ sw, q (k e.2)) → q (aSw sw d v k)
  | [], _ => hd
  | (c, t) :: r, h => by
    unfold aSw
    split
    · exact h (c, t) List.mem_cons_self
    · exact aSw_all hd r fun e he => h e (List.mem_cons_of_mem _ he)
/-- it ends with 1, in a heap of this shape -/
def lwEnds (r : aRs) : Prop := ∃ (I : Nat → Nat → Int32) (x y : Option Nat), r = some (some (.int 1), HH I x y)
section LAW4
variable {L i : Nat} {xs : Nat → Int32} {I : Nat → Nat → Int32} {x y : Option Nat}
theorem lw_case (hi : i + 6 ≤ L) (hL : L ≤ 3072) (hr : Rel I) (next : ∀ (I : Nat → Nat → Int32) (x y : Option Nat), Rel I → lwEnds (aGo (aCall aMt 400) (some (L, xs)) cd_law 1 1485 (lwLs i) [] (HH I x y))) : ∀ e ∈ lw_sw, lwEnds (aGo (aCall aMt 400) (some (L, xs)) cd_law 1 e.2 (lwLs i) [] (HH I x y)) := by
  intro e he
  simp only [lw_sw, List.mem_cons, List.not_mem_nil, or_false] at he
  rcases he with rfl | rfl | rfl | rfl | rfl | rfl | rfl | rfl | rfl | rfl | rfl | rfl | rfl | rfl | rfl | rfl | rfl | rfl | rfl | rfl | rfl | rfl | rfl | rfl | rfl | rfl | rfl | rfl | rfl | rfl | rfl | rfl | rfl | rfl | rfl | rfl | rfl | rfl | rfl | rfl | rfl
  · obtain ⟨v, I1, x1, y1, I2, h1, h2, h3⟩ := (pair_person (xs (i + 1))) 380 I x y hr; rw [lw_0 hi hL h1 h2]; exact next I2 x1 y1 h3
  · obtain ⟨v, I1, x1, y1, I2, h1, h2, h3⟩ := (pair_personIs (xs (i + 1)) (xs (i + 2))) 380 I x y hr; rw [lw_1 hi hL h1 h2]; exact next I2 x1 y1 h3
  · obtain ⟨v, I1, x1, y1, I2, h1, h2, h3⟩ := (pair_become (xs (i + 1)) (xs (i + 2))) 380 I x y hr; rw [lw_2 hi hL h1 h2]; exact next I2 x1 y1 h3
  · obtain ⟨v, I1, x1, y1, I2, h1, h2, h3⟩ := (pair_as (xs (i + 1)) (xs (i + 2))) 380 I x y hr; rw [lw_3 hi hL h1 h2]; exact next I2 x1 y1 h3
  · obtain ⟨v, I1, x1, y1, I2, h1, h2, h3⟩ := (pair_feel (xs (i + 1)) (xs (i + 2)) (xs (i + 3))) 380 I x y hr; rw [lw_4 hi hL h1 h2]; exact next I2 x1 y1 h3
  · obtain ⟨v, I1, x1, y1, I2, h1, h2, h3⟩ := (pair_thing (xs (i + 1)) (xs (i + 2)) (xs (i + 3)) (xs (i + 4))) 380 I x y hr; rw [lw_5 hi hL h1 h2]; exact next I2 x1 y1 h3
  · obtain ⟨v, I1, x1, y1, I2, h1, h2, h3⟩ := (pair_thingIs (xs (i + 1)) (xs (i + 2))) 380 I x y hr; rw [lw_6 hi hL h1 h2]; exact next I2 x1 y1 h3
  · obtain ⟨v, I1, x1, y1, I2, h1, h2, h3⟩ := (pair_mark (xs (i + 1)) (xs (i + 2)) (xs (i + 3))) 380 I x y hr; rw [lw_7 hi hL h1 h2]; exact next I2 x1 y1 h3
  · obtain ⟨v, I1, x1, y1, I2, h1, h2, h3⟩ := (pair_anew (xs (i + 1))) 380 I x y hr; rw [lw_8 hi hL h1 h2]; exact next I2 x1 y1 h3
  · obtain ⟨v, I1, x1, y1, I2, h1, h2, h3⟩ := (pair_feed (((xs (i + 1)).toInt64 <<< ((32 : Int32).toInt64 &&& 63)) ||| ((xs (i + 2)).toInt64 &&& Int64.ofNat 4294967295)) (xs (i + 3))) 380 I x y hr; rw [lw_9 hi hL h1 h2]; exact next I2 x1 y1 h3
  · obtain ⟨v, I1, x1, y1, I2, h1, h2, h3⟩ := (pair_text (xs (i + 1))) 300 I x y hr; rw [lw_10 hi hL h1 h2]; exact next I2 x1 y1 h3
  · obtain ⟨v, I1, x1, y1, I2, h1, h2, h3⟩ := (pair_untell (xs (i + 1))) 380 I x y hr; rw [lw_11 hi hL h1 h2]; exact next I2 x1 y1 h3
  · obtain ⟨v, I1, x1, y1, I2, h1, h2, h3⟩ := (pair_law (xs (i + 1)) (xs (i + 2)) (xs (i + 3)) (xs (i + 4))) 380 I x y hr; rw [lw_12 hi hL h1 h2]; exact next I2 x1 y1 h3
  · obtain ⟨v, I1, x1, y1, I2, h1, h2, h3⟩ := (pair_urge (xs (i + 1)) (xs (i + 2))) 380 I x y hr; rw [lw_13 hi hL h1 h2]; exact next I2 x1 y1 h3
  · obtain ⟨v, I1, x1, y1, I2, h1, h2, h3⟩ := (pair_guard (xs (i + 1)) (xs (i + 2))) 380 I x y hr; rw [lw_14 hi hL h1 h2]; exact next I2 x1 y1 h3
  · obtain ⟨v, I1, x1, y1, I2, h1, h2, h3⟩ := (pair_comes (xs (i + 1)) (xs (i + 2))) 380 I x y hr; rw [lw_15 hi hL h1 h2]; exact next I2 x1 y1 h3
  · obtain ⟨v, I1, x1, y1, I2, h1, h2, h3⟩ := (pair_hours (xs (i + 1))) 380 I x y hr; rw [lw_16 hi hL h1 h2]; exact next I2 x1 y1 h3
  · obtain ⟨v, I1, x1, y1, I2, h1, h2, h3⟩ := (pair_friday (xs (i + 1))) 380 I x y hr; rw [lw_17 hi hL h1 h2]; exact next I2 x1 y1 h3
  · obtain ⟨v, I1, x1, y1, I2, h1, h2, h3⟩ := (pair_seed (xs (i + 1))) 380 I x y hr; rw [lw_18 hi hL h1 h2]; exact next I2 x1 y1 h3
  · obtain ⟨v, I1, x1, y1, I2, h1, h2, h3⟩ := (pair_wants (xs (i + 1)) (xs (i + 2)) (xs (i + 3))) 380 I x y hr; rw [lw_19 hi hL h1 h2]; exact next I2 x1 y1 h3
  · obtain ⟨v, I1, x1, y1, I2, h1, h2, h3⟩ := (pair_trap (xs (i + 1)) (xs (i + 2))) 380 I x y hr; rw [lw_20 hi hL h1 h2]; exact next I2 x1 y1 h3
  · obtain ⟨v, I1, x1, y1, I2, h1, h2, h3⟩ := (pair_safest (xs (i + 1))) 380 I x y hr; rw [lw_21 hi hL h1 h2]; exact next I2 x1 y1 h3
  · obtain ⟨v, I1, x1, y1, I2, h1, h2, h3⟩ := (pair_lock (xs (i + 1))) 380 I x y hr; rw [lw_22 hi hL h1 h2]; exact next I2 x1 y1 h3
  · obtain ⟨v, I1, x1, y1, I2, h1, h2, h3⟩ := (pair_round (xs (i + 1)) (xs (i + 2))) 380 I x y hr; rw [lw_23 hi hL h1 h2]; exact next I2 x1 y1 h3
  · obtain ⟨v, I1, x1, y1, I2, h1, h2, h3⟩ := (pair_odds (xs (i + 1)) (xs (i + 2))) 380 I x y hr; rw [lw_24 hi hL h1 h2]; exact next I2 x1 y1 h3
  · obtain ⟨v, I1, x1, y1, I2, h1, h2, h3⟩ := (pair_who (xs (i + 1))) 380 I x y hr; rw [lw_25 hi hL h1 h2]; exact next I2 x1 y1 h3
  · obtain ⟨v, I1, x1, y1, I2, h1, h2, h3⟩ := (pair_lost (xs (i + 1)) (xs (i + 2))) 380 I x y hr; rw [lw_26 hi hL h1 h2]; exact next I2 x1 y1 h3
  · obtain ⟨v, I1, x1, y1, I2, h1, h2, h3⟩ := pair_oldest 380 I x y hr; rw [lw_27 hi hL h1 h2]; exact next I2 x1 y1 h3
  · obtain ⟨v, I1, x1, y1, I2, h1, h2, h3⟩ := (pair_voice (xs (i + 1)) (xs (i + 2)) (xs (i + 3))) 380 I x y hr; rw [lw_28 hi hL h1 h2]; exact next I2 x1 y1 h3
  · obtain ⟨v, I1, x1, y1, I2, h1, h2, h3⟩ := (pair_body (xs (i + 1))) 380 I x y hr; rw [lw_29 hi hL h1 h2]; exact next I2 x1 y1 h3
  · obtain ⟨v, I1, x1, y1, I2, h1, h2, h3⟩ := (pair_sheet (xs (i + 1)) (xs (i + 2)) (xs (i + 3))) 380 I x y hr; rw [lw_30 hi hL h1 h2]; exact next I2 x1 y1 h3
  · obtain ⟨v, I1, x1, y1, I2, h1, h2, h3⟩ := (pair_put (xs (i + 1)) (xs (i + 2)) (xs (i + 3))) 380 I x y hr; rw [lw_31 hi hL h1 h2]; exact next I2 x1 y1 h3
  · obtain ⟨v, I1, x1, y1, I2, h1, h2, h3⟩ := (pair_move (xs (i + 1)) (xs (i + 2)) (xs (i + 3)) (xs (i + 4)) (xs (i + 5))) 380 I x y hr; rw [lw_32 hi hL h1 h2]; exact next I2 x1 y1 h3
  · obtain ⟨v, I1, x1, y1, I2, h1, h2, h3⟩ := (pair_labels (xs (i + 1))) 380 I x y hr; rw [lw_33 hi hL h1 h2]; exact next I2 x1 y1 h3
  · obtain ⟨v, I1, x1, y1, I2, h1, h2, h3⟩ := (pair_judge (xs (i + 1))) 380 I x y hr; rw [lw_34 hi hL h1 h2]; exact next I2 x1 y1 h3
  · obtain ⟨v, I1, x1, y1, I2, h1, h2, h3⟩ := pair_image 380 I x y hr; rw [lw_35 hi hL h1 h2]; exact next I2 x1 y1 h3
  · obtain ⟨v, I1, x1, y1, I2, h1, h2, h3⟩ := pair_restore 380 I x y hr; rw [lw_36 hi hL h1 h2]; exact next I2 x1 y1 h3
  · obtain ⟨v, I1, x1, y1, I2, h1, h2, h3⟩ := (pair_tell (xs (i + 1))) 380 I x y hr; rw [lw_37 hi hL h1 h2]; exact next I2 x1 y1 h3
  · obtain ⟨v, I1, x1, y1, I2, h1, h2, h3⟩ := pair_check 380 I x y hr; rw [lw_38 hi hL h1 h2]; exact next I2 x1 y1 h3
  · obtain ⟨v, I1, x1, y1, I2, h1, h2, h3⟩ := (pair_count (xs (i + 1))) 380 I x y hr; rw [lw_39 hi hL h1 h2]; exact next I2 x1 y1 h3
  · obtain ⟨v, I1, x1, y1, I2, h1, h2, h3⟩ := (pair_told (xs (i + 1))) 380 I x y hr; rw [lw_40 hi hL h1 h2]; exact next I2 x1 y1 h3
theorem lw_cmp (hL : L ≤ 3072) (hi : i ≤ 3072) : (nI L - 6 < nI i) = (L < i + 6) := by
  apply propext
  have h2 : (nI L - 6).toInt = (L : Int) - 6 := by
    rw [Int32.toInt_sub, nI_toInt (show L < 2 ^ 31 by omega), show (6 : Int32).toInt = 6 from rfl]; exact Int.bmod_eq_of_le (by omega) (by omega)
  rw [Int32.lt_iff_toInt_lt, h2, nI_toInt (show i < 2 ^ 31 by omega)]
  omega
theorem lw_loop (hL : L ≤ 3072) : ∀ k i (I : Nat → Nat → Int32) (x y : Option Nat), i ≤ L → L - i ≤ k → Rel I → lwEnds (aGo (aCall aMt 400) (some (L, xs)) cd_law 1 18 (lwLs i) [] (HH I x y)) := by
  intro k
  have e : SH[2999]? = none := rfl
  have stop : ∀ i (I : Nat → Nat → Int32) (x y : Option Nat), i ≤ L → L < i + 6 → lwEnds (aGo (aCall aMt 400) (some (L, xs)) cd_law 1 18 (lwLs i) [] (HH I x y)) := fun i I x y hi h => by
    have g := lw_cmp (L := L) (i := i) hL (by omega)
    refine ⟨I, x, y, ?_⟩
    rw [w_h18]
    simp [w_head, w_next, aILoad, aRLoad, aLLoad, aIStore, aRStore, aPush, aBin, aBinL, aShL, aUn, aIf, aIc, aGet, aPut, aBald, aAald, aIast, aBast, aAast, aAlen, aCopy, aCallV, aCallC, aCallI, aRet, aCat, aMax, aMin, aDiv, aRem, aI2l, aL2i, aNul, aSwS, aSw, aInc, aDup, aDup2, aPop1, aIret, aAret, aVret, aLen, aFk, aFT, Value.category, aSt, e, show Int32.ofNat L = nI L from rfl, g, h]
  induction k with
  | zero => exact fun i I x y hi h hr => stop i I x y hi (by omega)
  | succ k ih =>
    intro i I x y hi h hr
    by_cases h6 : L < i + 6
    · exact stop i I x y hi h6
    have h6' : i + 6 ≤ L := by omega
    have g := lw_cmp (L := L) (i := i) hL (by omega)
    have next : ∀ (I : Nat → Nat → Int32) (x y : Option Nat), Rel I → lwEnds (aGo (aCall aMt 400) (some (L, xs)) cd_law 1 1485 (lwLs i) [] (HH I x y)) := fun I x y hr => by
      have q := ih (i + 6) I x y (by omega) (by omega) hr
      have e6 : nI i + 6 = nI (i + 6) := nI_add i 6
      have r : aGo (aCall aMt 400) (some (L, xs)) cd_law 1 1485 (lwLs i) [] (HH I x y) = aGo (aCall aMt 400) (some (L, xs)) cd_law 1 18 (lwLs (i + 6)) [] (HH I x y) := by
        simp [w_next, aILoad, aRLoad, aLLoad, aIStore, aRStore, aPush, aBin, aBinL, aShL, aUn, aIf, aIc, aGet, aPut, aBald, aAald, aIast, aBast, aAast, aAlen, aCopy, aCallV, aCallC, aCallI, aRet, aCat, aMax, aMin, aDiv, aRem, aI2l, aL2i, aNul, aSwS, aSw, aInc, aDup, aDup2, aPop1, aIret, aAret, aVret, aLen, aFk, aFT, Value.category, e6]
      rw [r]; exact q
    have r : aGo (aCall aMt 400) (some (L, xs)) cd_law 1 18 (lwLs i) [] (HH I x y) = aSw lw_sw 1485 (xs i &&& 63) (fun p => aGo (aCall aMt 400) (some (L, xs)) cd_law 1 p (lwLs i) [] (HH I x y)) := by
      have l0 : ∀ (k : List Value → aRs) (st : List Value), aIald k (some (L, xs)) (SH, I, PP x y) (.int (nI i) :: .ref 2999 :: st) = k (.int (xs i) :: st) := fun k st => by
        simp [aIald, e, aSt, toNat_nI (show i < 2 ^ 31 by omega), nI_lt0 (show i < 2 ^ 31 by omega), show ¬ L ≤ i by omega]
      rw [w_h18]
      simp [w_head, w_sw, aILoad, aRLoad, aBin, aIc, aAlen, aSwS, aSt, e, show Int32.ofNat L = nI L from rfl, g, h6, l0]
    rw [r]
    exact aSw_all (next I x y hr) lw_sw (lw_case h6' hL hr next)
end LAW4
