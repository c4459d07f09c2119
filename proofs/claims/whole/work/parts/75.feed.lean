/-! the calls in pairs: feed, untell -/
def sK (i : Nat) : Int32 := nI (8 * i)
def cB (w : Int64) (i : Nat) : Int32 := ((w.toUInt64 >>> ((sK i).toInt64.toUInt64 &&& Int64.toUInt64 63)).toInt64.toInt32.toInt8.toInt32).toInt8.toInt32
def rB (w : Int64) (i : Nat) : Int32 := ((w >>> ((sK i).toInt64 &&& 63)) &&& 255).toInt32
theorem feed_bit {w : Int64} {k p : Nat} {S : UInt64} {S' : Int64} (hk : k = 0 ∧ p = 1 ∨ k = 8 ∧ p = 256 ∨ k = 16 ∧ p = 65536 ∨ k = 24 ∧ p = 16777216 ∨ k = 32 ∧ p = 4294967296 ∨ k = 40 ∧ p = 1099511627776 ∨ k = 48 ∧ p = 281474976710656 ∨ k = 56 ∧ p = 72057594037927936) (hS : (S.toBitVec % 64).toNat = k) (hS' : (S'.toBitVec.smod 64).toNat = k) :
    bRel (((w.toUInt64 >>> S).toInt64.toInt32.toInt8.toInt32).toInt8.toInt32) (((w >>> S') &&& 255).toInt32) := by
  have hp : 2 ^ k = p := by rcases hk with ⟨rfl, rfl⟩ | ⟨rfl, rfl⟩ | ⟨rfl, rfl⟩ | ⟨rfl, rfl⟩ | ⟨rfl, rfl⟩ | ⟨rfl, rfl⟩ | ⟨rfl, rfl⟩ | ⟨rfl, rfl⟩ <;> rfl
  have hN := w.toBitVec.isLt
  have u1 : ((w.toUInt64 >>> S).toInt64).toInt = Int.bmod ((w.toBitVec.toNat / p : Nat) : Int) (2 ^ 64) := by
    have e : ((w.toUInt64 >>> S).toInt64).toBitVec.toNat = w.toBitVec.toNat / p := by
      show ((w.toUInt64 >>> S).toBitVec).toNat = _
      rw [UInt64.toBitVec_shiftRight, BitVec.ushiftRight_eq', BitVec.toNat_ushiftRight, hS, Nat.shiftRight_eq_div_pow, hp]; rfl
    rw [← e]; exact BitVec.toInt_eq_toNat_bmod _
  have v1 : (w >>> S').toBitVec.toInt = w.toBitVec.toInt / (p : Int) := by
    rw [Int64.toBitVec_shiftRight, BitVec.sshiftRight_eq', BitVec.toInt_sshiftRight, hS', Int.shiftRight_eq_div_pow, hp]
  have v2 : ((w >>> S') &&& 255).toBitVec.toNat = (w >>> S').toBitVec.toNat % 256 := by
    rw [Int64.toBitVec_and, BitVec.toNat_and]
    exact Nat.and_two_pow_sub_one_eq_mod _ 8
  have v3 : (w >>> S').toBitVec.toInt = Int.bmod (((w >>> S').toBitVec.toNat : Nat) : Int) (2 ^ 64) := BitVec.toInt_eq_toNat_bmod _
  have v4 : w.toBitVec.toInt = Int.bmod ((w.toBitVec.toNat : Nat) : Int) (2 ^ 64) := BitVec.toInt_eq_toNat_bmod _
  have v5 := (w >>> S').toBitVec.isLt
  have c1 : (((w.toUInt64 >>> S).toInt64.toInt32.toInt8.toInt32).toInt8.toInt32).toInt = Int.bmod ((w.toBitVec.toNat / p : Nat) : Int) 256 := by
    rw [Int8.toInt_toInt32, Int32.toInt_toInt8, Int8.toInt_toInt32, Int32.toInt_toInt8, Int64.toInt_toInt32, u1]
    generalize ((w.toBitVec.toNat / p : Nat) : Int) = m
    simp only [Int.bmod]
    split <;> split <;> split <;> split <;> split <;> omega
  have r1 : (((w >>> S') &&& 255).toInt32).toInt = ((w.toBitVec.toNat / p % 256 : Nat) : Int) := by
    have e1 : ((w >>> S') &&& 255).toInt = Int.bmod ((((w >>> S') &&& 255).toBitVec.toNat : Nat) : Int) (2 ^ 64) := BitVec.toInt_eq_toNat_bmod _
    have e2 : (w >>> S').toBitVec.toNat % 256 = w.toBitVec.toNat / p % 256 := by
      rw [v1, v4] at v3
      generalize (w >>> S').toBitVec.toNat = a at *
      generalize w.toBitVec.toNat = b at *
      simp only [Int.bmod] at v3
      rcases hk with ⟨rfl, rfl⟩ | ⟨rfl, rfl⟩ | ⟨rfl, rfl⟩ | ⟨rfl, rfl⟩ | ⟨rfl, rfl⟩ | ⟨rfl, rfl⟩ | ⟨rfl, rfl⟩ | ⟨rfl, rfl⟩ <;> (split at v3 <;> split at v3 <;> omega)
    rw [Int64.toInt_toInt32, e1, v2, e2]
    generalize w.toBitVec.toNat / p = m
    simp only [Int.bmod]
    split <;> split <;> omega
  have hlt : w.toBitVec.toNat / p % 256 < 256 := Nat.mod_lt _ (by decide)
  have hr : (((w >>> S') &&& 255).toInt32) = nI (w.toBitVec.toNat / p % 256) := by
    apply Int32.toInt_inj.mp; rw [r1, nI_toInt (by omega)]
  by_cases h : w.toBitVec.toNat / p % 256 < 128
  · refine Or.inl ⟨_, h, hr, ?_⟩
    apply Int32.toInt_inj.mp
    rw [c1, nI_toInt (by omega)]
    generalize w.toBitVec.toNat / p = m at *
    simp only [Int.bmod]
    split <;> omega
  · refine Or.inr ⟨?_, _, by omega, hlt, hr⟩
    apply Int32.lt_iff_toInt_lt.mpr
    rw [c1, show (0 : Int32).toInt = 0 from rfl]
    generalize w.toBitVec.toNat / p = m at *
    simp only [Int.bmod]
    split <;> omega
theorem feed_rel (w : Int64) {i : Nat} (hi : i < 8) : bRel (cB w i) (rB w i) := by
  have : i = 0 ∨ i = 1 ∨ i = 2 ∨ i = 3 ∨ i = 4 ∨ i = 5 ∨ i = 6 ∨ i = 7 := by omega
  rcases this with rfl | rfl | rfl | rfl | rfl | rfl | rfl | rfl
  · exact feed_bit (k := 0) (p := 1) (by omega) (by decide) (by decide)
  · exact feed_bit (k := 8) (p := 256) (by omega) (by decide) (by decide)
  · exact feed_bit (k := 16) (p := 65536) (by omega) (by decide) (by decide)
  · exact feed_bit (k := 24) (p := 16777216) (by omega) (by decide) (by decide)
  · exact feed_bit (k := 32) (p := 4294967296) (by omega) (by decide) (by decide)
  · exact feed_bit (k := 40) (p := 1099511627776) (by omega) (by decide) (by decide)
  · exact feed_bit (k := 48) (p := 281474976710656) (by omega) (by decide) (by decide)
  · exact feed_bit (k := 56) (p := 72057594037927936) (by omega) (by decide) (by decide)
