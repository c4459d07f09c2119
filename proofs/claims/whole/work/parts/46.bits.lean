/-! sets as bits -/
def bS (g : Nat → Bool) : Nat → Nat
  | 0 => 0
  | n + 1 => bS g n + (if g n then 2 ^ n else 0)
theorem bS_lt (g : Nat → Bool) : ∀ n, bS g n < 2 ^ n
  | 0 => by rw [bS]; decide
  | n + 1 => by
    have := bS_lt g n
    rw [bS, Nat.pow_succ]; split <;> omega
theorem bS_congr {f g : Nat → Bool} : ∀ {n : Nat}, (∀ k, k < n → f k = g k) → bS f n = bS g n
  | 0, _ => rfl
  | n + 1, h => by rw [bS, bS, bS_congr (fun k hk => h k (by omega)), h n (by omega)]
theorem nI_or (a b : Nat) : nI a ||| nI b = nI (a ||| b) := by
  apply Int32.toBitVec_inj.1
  show BitVec.ofNat 32 a ||| BitVec.ofNat 32 b = BitVec.ofNat 32 (a ||| b)
  apply BitVec.eq_of_getLsbD_eq
  intro i hi
  simp [hi]
theorem nI_and (a b : Nat) : nI a &&& nI b = nI (a &&& b) := by
  apply Int32.toBitVec_inj.1
  show BitVec.ofNat 32 a &&& BitVec.ofNat 32 b = BitVec.ofNat 32 (a &&& b)
  apply BitVec.eq_of_getLsbD_eq
  intro i hi
  simp [hi]
theorem nI_bit {n : Nat} (h : n < 16) : (1 : Int32) <<< (nI n &&& 31) = nI (2 ^ n) := by
  revert h; revert n; decide
theorem or_bit {a n : Nat} (h : n < 16) (ha : a < 2 ^ n) : nI a ||| (1 : Int32) <<< (nI n &&& 31) = nI (a + 2 ^ n) := by
  rw [nI_bit h, nI_or]
  have := Nat.two_pow_add_eq_or_of_lt ha 1
  rw [Nat.mul_one] at this
  rw [Nat.or_comm, ← this, Nat.add_comm]
def popF : Nat → Nat → Nat
  | 0, _ => 0
  | f + 1, v => v % 2 + popF f (v / 2)
def pop (v : Nat) : Nat := popF 12 v
theorem pop_add {n a : Nat} (hn : n < 10) (ha : a < 2 ^ n) : pop (a + 2 ^ n) = pop a + 1 := by
  have h : ∀ n, n < 10 → ∀ a, a < 2 ^ n → pop (a + 2 ^ n) = pop a + 1 := by decide +kernel
  exact h n hn a ha
theorem pop_bS (g : Nat → Bool) : ∀ {n : Nat}, n ≤ 10 → pop (bS g n) = cnt g n
  | 0, _ => by rw [bS, cnt]; decide
  | n + 1, h => by
    rw [bS, cnt]
    by_cases hg : g n
    · rw [if_pos hg, if_pos hg, pop_add (by omega) (bS_lt g n), pop_bS g (by omega)]
    · rw [if_neg hg, if_neg hg, Nat.add_zero, Nat.add_zero, pop_bS g (by omega)]
section BITS
variable {d : Nat}
theorem k_bits {v : Nat} {H : aH} (hv : v < 1024) : aCall aMt (d + 1) 219 [.int (nI v)] H = some (some (.int (nI (pop v))), H) := by
  rw [e_219]
  simp [s_219, aILoad, aRLoad, aLLoad, aIStore, aRStore, aPush, aBin, aBinL, aShL, aUn, aIf, aIc, aGet, aPut, aIald, aBald, aAald, aIast, aBast, aAast, aAlen, aCopy, aCallV, aCallC, aCallI, aRet, aCat, aMax, aMin, aDiv, aRem, aI2l, aL2i, aNul, aSwS, aSw, aInc, aDup, aDup2, aPop1, aIret, aAret, aVret, aLen, aFk, aFT, Value.category]
  revert hv; revert v; decide +kernel
theorem r_bits_loop {v : Nat} {H : aH} (hv : v < 1024) : ∀ k w c, w ≤ k → w ≤ v → c + pop w = pop v → aGo (aCall aMt d) none cd_187 0 4 [some (.int (nI v)), some (.int (nI c)), some (.int (nI w))] [] H = some (some (.int (nI (pop v))), H) := by
  intro k
  induction k with
  | zero =>
    intro w c hw _ hp
    obtain rfl : w = 0 := by omega
    have e : pop 0 = 0 := rfl
    rw [e] at hp
    rw [s_187_4]
    simp [s_187, aILoad, aRLoad, aLLoad, aIStore, aRStore, aPush, aBin, aBinL, aShL, aUn, aIf, aIc, aGet, aPut, aIald, aBald, aAald, aIast, aBast, aAast, aAlen, aCopy, aCallV, aCallC, aCallI, aRet, aCat, aMax, aMin, aDiv, aRem, aI2l, aL2i, aNul, aSwS, aSw, aInc, aDup, aDup2, aPop1, aIret, aAret, aVret, aLen, aFk, aFT, Value.category, nI_lit0, show c = pop v by omega]
  | succ k ih =>
    intro w c hw hwv hp
    by_cases h0 : w = 0
    · subst h0
      have e : pop 0 = 0 := rfl
      rw [e] at hp
      rw [s_187_4]
      simp [s_187, aILoad, aRLoad, aLLoad, aIStore, aRStore, aPush, aBin, aBinL, aShL, aUn, aIf, aIc, aGet, aPut, aIald, aBald, aAald, aIast, aBast, aAast, aAlen, aCopy, aCallV, aCallC, aCallI, aRet, aCat, aMax, aMin, aDiv, aRem, aI2l, aL2i, aNul, aSwS, aSw, aInc, aDup, aDup2, aPop1, aIret, aAret, aVret, aLen, aFk, aFT, Value.category, nI_lit0, show c = pop v by omega]
    · have hs : ∀ u, u < 1023 → (u + 1) &&& u < u + 1 ∧ pop ((u + 1) &&& u) + 1 = pop (u + 1) := by decide +kernel
      obtain ⟨u, rfl⟩ : ∃ u, w = u + 1 := ⟨w - 1, by omega⟩
      have h1 := hs u (by omega)
      have g := ih ((u + 1) &&& u) (c + 1) (by omega) (by omega) (by omega)
      rw [s_187_4]
      simpa [s_187, aILoad, aRLoad, aLLoad, aIStore, aRStore, aPush, aBin, aBinL, aShL, aUn, aIf, aIc, aGet, aPut, aIald, aBald, aAald, aIast, aBast, aAast, aAlen, aCopy, aCallV, aCallC, aCallI, aRet, aCat, aMax, aMin, aDiv, aRem, aI2l, aL2i, aNul, aSwS, aSw, aInc, aDup, aDup2, aPop1, aIret, aAret, aVret, aLen, aFk, aFT, Value.category, nI_ne0 (show 0 < u + 1 by omega) (by omega), nI_s, nI_and, nI_1] using g
theorem r_bits {v : Nat} {H : aH} (hv : v < 1024) : aCall aMt (d + 1) 187 [.int (nI v)] H = some (some (.int (nI (pop v))), H) := by
  have g := r_bits_loop (d := d) (H := H) hv v v 0 (by omega) (by omega) (by omega)
  rw [e_187]
  rw [nI_lit0] at g
  simpa [s_187, aILoad, aRLoad, aLLoad, aIStore, aRStore, aPush, aBin, aBinL, aShL, aUn, aIf, aIc, aGet, aPut, aIald, aBald, aAald, aIast, aBast, aAast, aAlen, aCopy, aCallV, aCallC, aCallI, aRet, aCat, aMax, aMin, aDiv, aRem, aI2l, aL2i, aNul, aSwS, aSw, aInc, aDup, aDup2, aPop1, aIret, aAret, aVret, aLen, aFk, aFT, Value.category] using g
end BITS
