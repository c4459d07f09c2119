/-! LOCKS: the class's, step by step -/
section LOCK2
variable {d : Nat} {I : Nat → Nat → Int32} {x y : Option Nat}
theorem or_bit2 {m t : Nat} (ht : t < 10) : nI m ||| (1 : Int32) <<< (nI t &&& 31) = nI (m ||| 2 ^ t) := by rw [nI_bit (by omega), nI_or]
theorem or_bit3 {m t i : Nat} : (m ||| 2 ^ t).testBit i = (m.testBit i || decide (t = i)) := by rw [Nat.testBit_or, Nat.testBit_two_pow]
theorem lkd.set {σ σ' : Nat → Int32} {m T t : Nat} (h : lkd σ m T σ') (hT : T ≤ 10) (ht : t < T) : lkd σ (m ||| 2 ^ t) T (upd σ' (54 + 7 * t) 1) := by
  refine ⟨fun k hk => by rw [upd_ne (hk t ht)]; exact h.1 k hk, fun u hu => ?_⟩
  rw [or_bit3]
  by_cases e : u = t
  · subst e; rw [upd_eq]; simp
  · rw [upd_ne (by omega), h.2 u hu]; simp [show ¬ t = u from fun z => e z.symm]
theorem k_lock_loop {g P T : Nat} {I0 : Nat → Nat → Int32} {σ : Nat → Int32} (hg1 : g = 63) (hg : isF g) (hP : P ≤ 8) (hT : T ≤ 10) : ∀ k i m (σ' : Nat → Int32) (I : Nat → Nat → Int32) (l3 : Option Value), i + k = 10 → m < 2 ^ T → cnt m.testBit T = i → lkd σ m T σ' → relF g I σ' P T → wfS σ' P T → (∀ M, sPe σ P T M → ∀ t, m.testBit t = true → M.testBit t = true) → (∀ t, m.testBit t = true → sCan σ t = true) → KG g I0 I →
    ∃ I1 S, aGo (aCall aMt (d + 6)) none cd_112 0 15 [some (.ref 0), some (.int (nI m)), some (.int (nI i)), l3] [] (HH I x y) = some (some (.int (nI S)), HH I1 x y) ∧ kF g I1 ∧ KG g I0 I1 ∧ S < 2 ^ T ∧ sPe σ P T S ∧ (∀ M, sPe σ P T M → ∀ t, S.testBit t = true → M.testBit t = true) ∧ (∀ t, S.testBit t = true → sCan σ t = true) := by
  intro k
  induction k with
  | zero =>
    intro i m σ' I l3 hi hm hc hl hr hw hM hs hk
    obtain rfl : i = 10 := by omega
    have hT10 : T = 10 := by have := cnt_le m.testBit T; omega
    have g1 : (10 : Int32) ≤ nI 10 := by decide
    refine ⟨I, m, ?_, hr.k, hk, hm, fun p hp t ht e => ?_, hM, hs⟩
    · rw [s_112_15]
      simp [s_112, aILoad, aRLoad, aLLoad, aIStore, aRStore, aPush, aBin, aBinL, aShL, aUn, aIf, aIc, aGet, aPut, aIald, aBald, aAald, aIast, aBast, aAast, aAlen, aCopy, aCallV, aCallC, aCallI, aRet, aCat, aMax, aMin, aDiv, aRem, aI2l, aL2i, aNul, aSwS, aSw, aInc, aDup, aDup2, aPop1, aIret, aAret, aVret, aLen, aFk, aFT, Value.category, g1]
    · have h1 := (sBm_not hT ht e).1
      have h2 := cnt_all (show cnt m.testBit T = T by omega) t ht
      rw [h1] at h2; cases h2
  | succ k ih =>
    intro i m σ' I l3 hi hm hc hl hr hw hM hs hk
    have g1 : ¬ (10 : Int32) ≤ nI i := nI_ge (b := 10) (by omega) (by omega)
    have e8 : σ' 8 = nI T := hr.fi.2.2.2.1
    have hwant : ∀ q, q < P → sWant σ' q 0 = (sBm σ q m T).1 := fun q hq => by
      unfold sWant
      rw [e8, toNat_nI (by omega), sBest_m hT (by omega) hl T (Nat.le_refl T)]
    have ho : ∀ t, t < T → σ' (50 + 7 * t) = σ (50 + 7 * t) := fun t ht => hl.1 _ (fun u hu => by omega)
    obtain ⟨I2, r, p1, p2, p3⟩ := k_first (d := d) (x := x) (y := y) hg hr hw.ok hw.th
    rcases p3 with ⟨rfl, hn⟩ | ⟨q, t, hq, ht, rfl, hwt, hne⟩
    · refine ⟨I2, m, ?_, (hr.kf p2).k, hk.trans p2.g, hm, fun p hp t ht e => ?_, hM, hs⟩
      · rw [s_112_15]
        simp [s_112, aILoad, aRLoad, aLLoad, aIStore, aRStore, aPush, aBin, aBinL, aShL, aUn, aIf, aIc, aGet, aPut, aIald, aBald, aAald, aIast, aBast, aAast, aAlen, aCopy, aCallV, aCallC, aCallI, aRet, aCat, aMax, aMin, aDiv, aRem, aI2l, aL2i, aNul, aSwS, aSw, aInc, aDup, aDup2, aPop1, aIret, aAret, aVret, aLen, aFk, aFT, Value.category, c_sh, c_h hg1, f_sh hg, g1, p1]
      · have := hn p hp t ht ((hwant p hp).trans e)
        rwa [ho t ht] at this
    · have hb : (sBm σ q m T).1 = nI t := (hwant q hq).symm.trans hwt
      obtain ⟨b1, b2⟩ := sBm_not hT ht hb
      have hr2 : relF g (aUpd I2 (g + 21 + t) 4 1) (upd σ' (54 + 7 * t) 1) P T := (hr.kf p2).setT' (j := 4) ht (by omega) (by omega)
      have hw2 : wfS (upd σ' (54 + 7 * t) 1) P T := hw.set (fun q _ z => by omega) (fun q _ z => by omega) (fun q _ z => by omega) (fun q _ z => by omega) (fun q _ z => by omega) (fun q _ z => by omega) (fun q _ z => by omega) (by omega) (fun _ _ => by omega)
      have h2t : 2 ^ t < 2 ^ T := Nat.pow_lt_pow_right (by decide) ht
      have hM2 : ∀ M, sPe σ P T M → ∀ u, (m ||| 2 ^ t).testBit u = true → M.testBit u = true := fun M hp u hu => by
        rw [or_bit3] at hu
        by_cases e : t = u
        · subst e
          cases hMt : M.testBit t with
          | true => rfl
          | false =>
            have e3 := (sBm_mono (σ := σ) (p := q) (hM M hp) T hT).2 t ht hb hMt
            have := hp q hq t ht (by rw [e3]; exact hb)
            rw [← ho t ht] at this
            exact absurd this hne
        · exact hM M hp u (by simpa [e] using hu)
      have hs2 : ∀ u, (m ||| 2 ^ t).testBit u = true → sCan σ u = true := fun u hu => by
        rw [or_bit3] at hu
        by_cases e : t = u
        · subst e; exact b2
        · exact hs u (by simpa [e] using hu)
      obtain ⟨I1, S, r1, r2⟩ := ih (i + 1) (m ||| 2 ^ t) (upd σ' (54 + 7 * t) 1) (aUpd I2 (g + 21 + t) 4 1) (some (.int (nI t))) (by omega) (Nat.or_lt_two_pow hm h2t) (by
        rw [cnt_set (g := m.testBit) (g' := (m ||| 2 ^ t).testBit) (q := t) b1 (by rw [or_bit3]; simp) (fun j hj => by rw [or_bit3]; simp [show ¬ t = j from fun z => hj z.symm]) ht, hc]) (hl.set hT ht) hr2 hw2 hM2 hs2 ((hk.trans p2.g).upd (by omega) (by omega))
      refine ⟨I1, S, ?_, r2⟩
      rw [s_112_15, ← r1, ← or_bit2 (show t < 10 by omega)]
      simp [s_112, aILoad, aRLoad, aLLoad, aIStore, aRStore, aPush, aBin, aBinL, aShL, aUn, aIf, aIc, aGet, aPut, aIald, aBald, aAald, aIast, aBast, aAast, aAlen, aCopy, aCallV, aCallC, aCallI, aRet, aCat, aMax, aMin, aDiv, aRem, aI2l, aL2i, aNul, aSwS, aSw, aInc, aDup, aDup2, aPop1, aIret, aAret, aVret, aLen, aFk, aFT, Value.category, c_sh, c_h hg1, f_sh hg, f_p hg, f_tp hg (show t < 10 by omega), f_th hg (show t < 10 by omega), g1, p1, nI_m1 (n := t) (by omega), toNat_nI (show t < 2 ^ 31 by omega), nI_lt0 (show t < 2 ^ 31 by omega), show ¬ 10 ≤ t by omega, nI_1]
theorem k_locks {f g P T : Nat} {σ : Nat → Int32} (h1 : f = 1) (hg1 : g = 63) (hf : isF f) (hg : isF g) (hA : relA f I σ P T) (hk : kF g I) : ∃ I1 S, aCall aMt (d + 7) 112 [.ref 0] (HH I x y) = some (some (.int (nI S)), HH I1 x y) ∧ kF g I1 ∧ KG g I I1 ∧ S < 2 ^ T ∧ sPe σ P T S ∧ (∀ M, sPe σ P T M → ∀ t, S.testBit t = true → M.testBit t = true) ∧ (∀ t, S.testBit t = true → sCan σ t = true) := by
  have hP := hA.1.1
  obtain ⟨I1, c1, c2, c3⟩ := hA.cp (d := d + 4) (x := x) (y := y) hg hf (by omega) hk
  have z0 : ∀ t, (0 : Nat).testBit t = false := fun t => by simp
  have c0 : cnt (Nat.testBit 0) T = 0 := by
    have : ∀ n, cnt (Nat.testBit 0) n = 0 := fun n => by
      induction n with
      | zero => rfl
      | succ n ih => rw [cnt, ih, z0 n]; rfl
    exact this T
  obtain ⟨I2, S, k1, k2, k3, k4⟩ := k_lock_loop (d := d) (x := x) (y := y) (P := P) (T := T) (I0 := I1) (σ := σ) hg1 hg hP.1 hP.2 10 0 0 σ I1 none (by omega) (Nat.two_pow_pos T) c0 ⟨fun _ _ => rfl, fun t _ => by rw [z0 t]; rfl⟩ c2.1 hA.2.2 (fun M _ t e => by rw [z0 t] at e; cases e) (fun t e => by rw [z0 t] at e; cases e) KG.rf
  rw [nI_lit0] at k1
  refine ⟨I2, S, ?_, k2, c3.trans k3, k4⟩
  rw [e_112, ← k1]
  simp [s_112, aILoad, aRLoad, aLLoad, aIStore, aRStore, aPush, aBin, aBinL, aShL, aUn, aIf, aIc, aGet, aPut, aIald, aBald, aAald, aIast, aBast, aAast, aAlen, aCopy, aCallV, aCallC, aCallI, aRet, aCat, aMax, aMin, aDiv, aRem, aI2l, aL2i, aNul, aSwS, aSw, aInc, aDup, aDup2, aPop1, aIret, aAret, aVret, aLen, aFk, aFT, Value.category, c_sh, c_f h1, c_h hg1, f_sh hf, f_sh hg, c1]
end LOCK2
