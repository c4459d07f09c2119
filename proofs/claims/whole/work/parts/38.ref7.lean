/-! the reference: an HOUR goes, by draws -/
def sHun (σ : Nat → Int32) : Nat → (Nat → Int32)
  | 0 => σ
  | p + 1 => upd (sHun σ p) (12 + 5 * p) (sHeld (sHun σ p (12 + 5 * p) + 4) 0 99)
def sAge (σ : Nat → Int32) : Nat → (Nat → Int32)
  | 0 => σ
  | t + 1 => upd (sAge σ t) (53 + 7 * t) (if sAge σ t (55 + 7 * t) = 1 then sHeld (sAge σ t (53 + 7 * t) + 1) 0 9 else sAge σ t (53 + 7 * t))
theorem sHun_ne {σ : Nat → Int32} {k : Nat} : ∀ {n : Nat}, (∀ p, p < n → k ≠ 12 + 5 * p) → sHun σ n k = σ k
  | 0, _ => rfl
  | n + 1, h => by rw [sHun, upd_ne (h n (by omega)), sHun_ne (fun p hp => h p (by omega))]
theorem sAge_ne {σ : Nat → Int32} {k : Nat} : ∀ {n : Nat}, (∀ p, p < n → k ≠ 53 + 7 * p) → sAge σ n k = σ k
  | 0, _ => rfl
  | n + 1, h => by rw [sAge, upd_ne (h n (by omega)), sAge_ne (fun p hp => h p (by omega))]
theorem sHun_eq {σ : Nat → Int32} {p : Nat} : ∀ {n : Nat}, p < n → sHun σ n (12 + 5 * p) = sHeld (σ (12 + 5 * p) + 4) 0 99
  | 0, h => by omega
  | n + 1, h => by
    by_cases e : p = n
    · subst e; rw [sHun, upd_eq, sHun_ne (fun q hq => by omega)]
    · rw [sHun, upd_ne (by omega), sHun_eq (by omega)]
theorem sAge_eq {σ : Nat → Int32} {p : Nat} : ∀ {n : Nat}, p < n → sAge σ n (53 + 7 * p) = if σ (55 + 7 * p) = 1 then sHeld (σ (53 + 7 * p) + 1) 0 9 else σ (53 + 7 * p)
  | 0, h => by omega
  | n + 1, h => by
    by_cases e : p = n
    · subst e; rw [sAge, upd_eq, sAge_ne (fun q hq => by omega), sAge_ne (fun q hq => by omega)]
    · rw [sAge, upd_ne (by omega), sAge_eq (by omega)]
def sHour (σ : Nat → Int32) : Nat → Int32 :=
  let σ2 := sHun (upd σ 0 (σ 0 + 1)) (σ 7).toNatClampNeg
  if σ2 0 - σ2 0 / 8 * 8 = 0 then sAge σ2 (σ 8).toNatClampNeg else σ2
def sDraw (σ : Nat → Int32) : Nat → Int32 := upd σ 4 (σ 4 * 1103515245 + 12345)
/-- what a draw gives -/
def sDr (z : Int32) : Nat := (z.toBitVec.toNat) / 2 ^ 8
theorem sDr_lt (z : Int32) : sDr z < 2 ^ 24 := by unfold sDr; have := z.toBitVec.isLt; omega
theorem sDr_eq (z : Int32) : (z.toUInt32 >>> ((8 : Int32).toUInt32 &&& Int32.toUInt32 31)).toInt32 = nI (sDr z) := by
  have h := pk_ushr z 8 8 (by decide)
  have h2 := sDr_lt z
  apply Int32.toBitVec_inj.mp
  apply BitVec.eq_of_toNat_eq
  rw [h, pk_tn (by omega)]; rfl
def sDrawn (σ : Nat → Int32) : Int32 × (Nat → Int32) :=
  if σ 7 = 0 then (-1, sHour σ) else
    let σ1 := sDraw σ
    let σ2 := sDraw σ1
    let c := sComes σ2 (sDr (σ1 4) % (σ 7).toNatClampNeg) (nI (sDr (σ2 4) % 2))
    (c.1, sHour c.2)
theorem sTaken_lo {σ : Nat → Int32} {p t k : Nat} (hk : k = 0 ∨ 4 ≤ k ∧ k ≤ 11) : sTaken σ p t k = σ k := by
  unfold sTaken sMore
  split
  · rw [upd_ne (by omega), upd_ne (by omega), upd_ne (by omega)]
  · split
    · rw [upd_ne (by omega), upd_ne (by omega), upd_ne (by omega), upd_ne (by omega)]
    · rw [upd_ne (by omega), upd_ne (by omega), upd_ne (by omega), upd_ne (by omega), upd_ne (by omega)]
theorem sComes_lo {σ : Nat → Int32} {p k : Nat} {s : Int32} (hk : k = 0 ∨ 4 ≤ k ∧ k ≤ 11) : (sComes σ p s).2 k = σ k := by
  unfold sComes
  split
  · rfl
  · exact sTaken_lo hk
theorem dep_congr {T T' : Nat → Int32} : ∀ n, (∀ k, k < 2 * n → T' k = T k) → dep T' n = dep T n
  | 0, _ => rfl
  | n + 1, h => by rw [dep, dep, dep_congr n (fun k hk => h k (by omega)), h (2 * n) (by omega)]
theorem wfT_congr {names : Int32 → Prop} {T T' : Nat → Int32} {n : Nat} (h : ∀ k, k < 2 * n → T' k = T k) (hw : wfT names T n) : wfT names T' n := by
  refine ⟨fun k hk => ?_, by rw [dep_congr n h]; exact hw.2.1, hw.2.2⟩
  have := hw.1 k hk
  unfold okS at this ⊢
  rw [h (2 * k) (by omega), h (2 * k + 1) (by omega), dep_congr k (fun j hj => h j (by omega))]
  exact this
theorem okTx_congr {σ σ' : Nat → Int32} {u : Nat} {names : Int32 → Prop} (h : ∀ k, 120 + 125 * u ≤ k → k < 245 + 125 * u → σ' k = σ k) (ho : okTx σ u names) : okTx σ' u names := by
  obtain ⟨n, h1, h2⟩ := ho
  refine ⟨n, by rw [h _ (by omega) (by omega)]; exact h1, h2.imp id fun hw => wfT_congr (fun k hk => ?_) hw⟩
  have h60 := hw.2.2
  unfold sTx; exact h _ (by omega) (by omega)
theorem okT_congr {σ σ' : Nat → Int32} (h : ∀ k, 120 ≤ k → k < 370 → σ' k = σ k) (ho : okT σ) : okT σ' := ⟨okTx_congr (fun k h1 h2 => h k (by omega) (by omega)) ho.1, okTx_congr (fun k h1 h2 => h k (by omega) (by omega)) ho.2⟩
section REF8
variable {d : Nat} {I : Nat → Nat → Int32} {x y : Option Nat}
theorem r_hun_loop {P : Nat} {I0 : Nat → Nat → Int32} (hP : P ≤ 8) (h7 : I0 114 7 = nI P) : ∀ k p (I : Nat → Nat → Int32), p + k = P → I 114 = sHun (I0 114) p → (∀ j, j ≠ 114 → I j = I0 j) →
    ∃ I1, aGo (aCall aMt (d + 1)) none cd_160 3 12 [some (.ref 113), some (.int (nI p))] [] (HH I x y) = aGo (aCall aMt (d + 1)) none cd_160 3 51 [some (.ref 113), some (.int 0)] [] (HH I1 x y) ∧ I1 114 = sHun (I0 114) P ∧ (∀ j, j ≠ 114 → I1 j = I0 j) := by
  intro k
  induction k with
  | zero =>
    intro p I hp hI hf
    obtain rfl : p = P := by omega
    refine ⟨I, ?_, hI, hf⟩
    have e7 : I 114 7 = nI p := by rw [hI, sHun_ne (fun q hq => by omega)]; exact h7
    rw [s_160_12]
    simp [s_160, aILoad, aRLoad, aLLoad, aIStore, aRStore, aPush, aBin, aBinL, aShL, aUn, aIf, aIc, aGet, aPut, aIald, aBald, aAald, aIast, aBast, aAast, aAlen, aCopy, aCallV, aCallC, aCallI, aRet, aCat, aMax, aMin, aDiv, aRem, aI2l, aL2i, aNul, aSwS, aSw, aInc, aDup, aDup2, aPop1, aIret, aAret, aVret, aLen, aFk, aFT, Value.category, m_sh, m_p, e7]
  | succ k ih =>
    intro p I hp hI hf
    have e7 : I 114 7 = nI P := by rw [hI, sHun_ne (fun q hq => by omega)]; exact h7
    have h1 : ¬ nI P ≤ nI p := nI_ge (by omega) (by omega)
    have a2 : 10 + 5 * p + 2 = 12 + 5 * p := by omega
    obtain ⟨I1, g1, g2, g3⟩ := ih (p + 1) (aUpd I 114 (12 + 5 * p) (sHeld (I 114 (12 + 5 * p) + 4) 0 99)) (by omega) (by rw [aUpd_row, sHun, hI]) (fun j hj => by rw [aUpd_ne hj, hf j hj])
    refine ⟨I1, ?_, g2, g3⟩
    rw [← g1, s_160_12]
    simp [s_160, aILoad, aRLoad, aLLoad, aIStore, aRStore, aPush, aBin, aBinL, aShL, aUn, aIf, aIc, aGet, aPut, aIald, aBald, aAald, aIast, aBast, aAast, aAlen, aCopy, aCallV, aCallC, aCallI, aRet, aCat, aMax, aMin, aDiv, aRem, aI2l, aL2i, aNul, aSwS, aSw, aInc, aDup, aDup2, aPop1, aIret, aAret, aVret, aLen, aFk, aFT, Value.category, m_sh, m_p, e7, h1, r_its (show p < 8 by omega), r_lays1 (show p < 8 by omega), r_held, a2, nI_1, sHeld]
theorem r_age_loop {T : Nat} {I0 : Nat → Nat → Int32} (hT : T ≤ 10) (h8 : I0 114 8 = nI T) : ∀ k t (I : Nat → Nat → Int32), t + k = T → I 114 = (if I0 114 0 - I0 114 0 / 8 * 8 = 0 then sAge (I0 114) t else I0 114) → (∀ j, j ≠ 114 → I j = I0 j) → (t = 0 ∨ I0 114 0 - I0 114 0 / 8 * 8 = 0) →
    ∃ I1, aGo (aCall aMt (d + 2)) none cd_160 3 51 [some (.ref 113), some (.int (nI t))] [] (HH I x y) = some (none, HH I1 x y) ∧ I1 114 = (if I0 114 0 - I0 114 0 / 8 * 8 = 0 then sAge (I0 114) T else I0 114) ∧ (∀ j, j ≠ 114 → I1 j = I0 j) := by
  intro k
  induction k with
  | zero =>
    intro t I ht hI hf h0
    obtain rfl : t = T := by omega
    refine ⟨I, ?_, hI, hf⟩
    have e8 : I 114 8 = nI t := by rw [hI]; split; · rw [sAge_ne (fun q hq => by omega)]; exact h8
                                   · exact h8
    rw [s_160_51]
    simp [s_160, aILoad, aRLoad, aLLoad, aIStore, aRStore, aPush, aBin, aBinL, aShL, aUn, aIf, aIc, aGet, aPut, aIald, aBald, aAald, aIast, aBast, aAast, aAlen, aCopy, aCallV, aCallC, aCallI, aRet, aCat, aMax, aMin, aDiv, aRem, aI2l, aL2i, aNul, aSwS, aSw, aInc, aDup, aDup2, aPop1, aIret, aAret, aVret, aLen, aFk, aFT, Value.category, m_sh, m_p, e8]
  | succ k ih =>
    intro t I ht hI hf h0
    have e8 : I 114 8 = nI T := by rw [hI]; split; · rw [sAge_ne (fun q hq => by omega)]; exact h8
                                   · exact h8
    have e0 : I 114 0 = I0 114 0 := by rw [hI]; split; · rw [sAge_ne (fun q hq => by omega)]
                                       · rfl
    have h1 : ¬ nI T ≤ nI t := nI_ge (by omega) (by omega)
    rw [s_160_51]
    by_cases hc : I0 114 0 - I0 114 0 / 8 * 8 = 0
    · have a3 : 50 + 7 * t + 3 = 53 + 7 * t := by omega
      have hI' : I 114 = sAge (I0 114) t := by rw [hI, if_pos hc]
      obtain ⟨I1, g1, g2, g3⟩ := ih (t + 1) (aUpd I 114 (53 + 7 * t) (if I 114 (55 + 7 * t) = 1 then sHeld (I 114 (53 + 7 * t) + 1) 0 9 else I 114 (53 + 7 * t))) (by omega) (by rw [aUpd_row, if_pos hc, sAge, hI']) (fun j hj => by rw [aUpd_ne hj, hf j hj]) (Or.inr hc)
      refine ⟨I1, ?_, g2, g3⟩
      rw [← g1]
      by_cases hth : I 114 (55 + 7 * t) = 1
      · simp [s_160, aILoad, aRLoad, aLLoad, aIStore, aRStore, aPush, aBin, aBinL, aShL, aUn, aIf, aIc, aGet, aPut, aIald, aBald, aAald, aIast, aBast, aAast, aAlen, aCopy, aCallV, aCallC, aCallI, aRet, aCat, aMax, aMin, aDiv, aRem, aI2l, aL2i, aNul, aSwS, aSw, aInc, aDup, aDup2, aPop1, aIret, aAret, aVret, aLen, aFk, aFT, Value.category, m_sh, m_p, e8, e0, h1, hc, hth, r_isThere (show t < 10 by omega), r_of (show t < 10 by omega), r_lays2 (show t < 10 by omega), r_held, a3, nI_1, sHeld]
      · simp [s_160, aILoad, aRLoad, aLLoad, aIStore, aRStore, aPush, aBin, aBinL, aShL, aUn, aIf, aIc, aGet, aPut, aIald, aBald, aAald, aIast, aBast, aAast, aAlen, aCopy, aCallV, aCallC, aCallI, aRet, aCat, aMax, aMin, aDiv, aRem, aI2l, aL2i, aNul, aSwS, aSw, aInc, aDup, aDup2, aPop1, aIret, aAret, aVret, aLen, aFk, aFT, Value.category, m_sh, m_p, e8, e0, h1, hc, hth, r_isThere (show t < 10 by omega), r_of (show t < 10 by omega), r_lays2 (show t < 10 by omega), a3, nI_1]
    · refine ⟨I, ?_, by rw [hI, if_neg hc, if_neg hc], hf⟩
      simp [s_160, aILoad, aRLoad, aLLoad, aIStore, aRStore, aPush, aBin, aBinL, aShL, aUn, aIf, aIc, aGet, aPut, aIald, aBald, aAald, aIast, aBast, aAast, aAlen, aCopy, aCallV, aCallC, aCallI, aRet, aCat, aMax, aMin, aDiv, aRem, aI2l, aL2i, aNul, aSwS, aSw, aInc, aDup, aDup2, aPop1, aIret, aAret, aVret, aLen, aFk, aFT, Value.category, m_sh, m_p, e8, e0, h1, hc]
theorem r_hour {P T : Nat} (hP : P ≤ 8) (hT : T ≤ 10) (h7 : I 114 7 = nI P) (h8 : I 114 8 = nI T) : ∃ I1, aCall aMt (d + 3) 160 [.ref 113] (HH I x y) = some (none, HH I1 x y) ∧ I1 114 = sHour (I 114) ∧ (∀ j, j ≠ 114 → I1 j = I j) := by
  obtain ⟨I1, g1, g2, g3⟩ := r_hun_loop (d := d + 1) (x := x) (y := y) (I0 := aUpd I 114 0 (I 114 0 + 1)) hP (by rw [aUpd_row]; exact h7) P 0 (aUpd I 114 0 (I 114 0 + 1)) (by omega) rfl (fun j _ => rfl)
  rw [aUpd_row] at g2
  have e8 : I1 114 8 = nI T := by rw [g2, sHun_ne (fun q hq => by omega)]; exact h8
  obtain ⟨I2, k1, k2, k3⟩ := r_age_loop (d := d) (x := x) (y := y) (I0 := I1) hT e8 T 0 I1 (by omega) (by split <;> rfl) (fun j _ => rfl) (Or.inl rfl)
  refine ⟨I2, ?_, ?_, fun j hj => by rw [k3 j hj, g3 j hj, aUpd_ne hj]⟩
  · rw [nI_lit0] at g1 k1
    rw [e_160, ← k1, ← g1]
    simp [s_160, aILoad, aRLoad, aLLoad, aIStore, aRStore, aPush, aBin, aBinL, aShL, aUn, aIf, aIc, aGet, aPut, aIald, aBald, aAald, aIast, aBast, aAast, aAlen, aCopy, aCallV, aCallC, aCallI, aRet, aCat, aMax, aMin, aDiv, aRem, aI2l, aL2i, aNul, aSwS, aSw, aInc, aDup, aDup2, aPop1, aIret, aAret, aVret, aLen, aFk, aFT, Value.category, m_sh, m_p]
  · rw [k2, g2]
    unfold sHour
    simp only [h7, h8, toNat_nI (show P < 2 ^ 31 by omega), toNat_nI (show T < 2 ^ 31 by omega)]
theorem r_draw : aCall aMt (d + 1) 161 [.ref 113] (HH I x y) = some (some (.int (nI (sDr (sDraw (I 114) 4)))), HH (aUpd I 114 4 (sDraw (I 114) 4)) x y) := by
  rw [e_161, ← sDr_eq]
  simp [s_161, aILoad, aRLoad, aLLoad, aIStore, aRStore, aPush, aBin, aBinL, aShL, aUn, aIf, aIc, aGet, aPut, aIald, aBald, aAald, aIast, aBast, aAast, aAlen, aCopy, aCallV, aCallC, aCallI, aRet, aCat, aMax, aMin, aDiv, aRem, aI2l, aL2i, aNul, aSwS, aSw, aInc, aDup, aDup2, aPop1, aIret, aAret, aVret, aLen, aFk, aFT, Value.category, m_sh, m_p, sDraw, upd_eq, aUpd_row]
theorem r_drawnHour {P T : Nat} (hP : P ≤ 8) (hT : T ≤ 10) (h7 : I 114 7 = nI P) (h8 : I 114 8 = nI T) (hok : okT (I 114)) (hown : ∀ t, t < T → ∃ q, q < 8 ∧ I 114 (50 + 7 * t) = nI q) : ∃ I1, aCall aMt (d + 10) 162 [.ref 113] (HH I x y) = some (some (.int (sDrawn (I 114)).1), HH I1 x y) ∧ I1 114 = (sDrawn (I 114)).2 ∧ RG I I1 := by
  rw [e_162]
  by_cases h0 : P = 0
  · subst h0
    obtain ⟨I1, g1, g2, g3⟩ := r_hour (d := d + 6) (x := x) (y := y) (by omega) hT h7 h8
    have e7 : I 114 7 = 0 := h7
    refine ⟨I1, ?_, by unfold sDrawn; rw [if_pos e7]; exact g2, fun j a b c => g3 j a⟩
    simp [s_162, aILoad, aRLoad, aLLoad, aIStore, aRStore, aPush, aBin, aBinL, aShL, aUn, aIf, aIc, aGet, aPut, aIald, aBald, aAald, aIast, aBast, aAast, aAlen, aCopy, aCallV, aCallC, aCallI, aRet, aCat, aMax, aMin, aDiv, aRem, aI2l, aL2i, aNul, aSwS, aSw, aInc, aDup, aDup2, aPop1, aIret, aAret, aVret, aLen, aFk, aFT, Value.category, m_sh, m_p, e7, g1, sDrawn]
  · have hz : ¬ nI P ≤ 0 := nI_nle (by omega) (by omega)
    have hne : ¬ nI P = 0 := nI_ne0 (by omega) (by omega)
    have hd1 := r_draw (d := d + 8) (I := I) (x := x) (y := y)
    have hd2 := r_draw (d := d + 8) (I := aUpd I 114 4 (sDraw (I 114) 4)) (x := x) (y := y)
    have eσ1 : aUpd I 114 4 (sDraw (I 114) 4) 114 = sDraw (I 114) := by rw [aUpd_row]; unfold sDraw; rw [upd_eq]
    rw [eσ1] at hd2
    generalize hI2 : aUpd (aUpd I 114 4 (sDraw (I 114) 4)) 114 4 (sDraw (sDraw (I 114)) 4) = I2 at hd2
    have eσ2 : I2 114 = sDraw (sDraw (I 114)) := by
      rw [← hI2, aUpd_row, eσ1]; unfold sDraw; rw [upd_eq]
    have hfr : ∀ k, k ≠ 4 → I2 114 k = I 114 k := fun k hk => by rw [eσ2]; unfold sDraw; rw [upd_ne hk, upd_ne hk]
    have l1 := sDr_lt (sDraw (I 114) 4)
    have l2 := sDr_lt (sDraw (sDraw (I 114)) 4)
    have m1 := pk_rem (a := sDr (sDraw (I 114) 4)) (d := P) (by omega) (by omega) (by omega)
    have m2 := pk_rem (a := sDr (sDraw (sDraw (I 114)) 4)) (d := 2) (by omega) (by omega) (by omega)
    rw [show nI 2 = (2 : Int32) from rfl] at m2
    have hp' : sDr (sDraw (I 114) 4) % P < 8 := Nat.lt_of_lt_of_le (Nat.mod_lt _ (by omega)) hP
    obtain ⟨I3, g1, g2, g3⟩ := r_comes (d := d) (x := x) (y := y) (I := I2) (p := sDr (sDraw (I 114) 4) % P) (s := nI (sDr (sDraw (sDraw (I 114)) 4) % 2)) hp' hT (by rw [hfr 8 (by decide)]; exact h8) (okT_congr (fun k hk _ => hfr k (by omega)) hok) (fun t ht => by rw [hfr _ (by omega)]; exact hown t ht)
    have e37 : I3 114 7 = nI P := by rw [g2, sComes_lo (by omega), hfr 7 (by decide)]; exact h7
    have e38 : I3 114 8 = nI T := by rw [g2, sComes_lo (by omega), hfr 8 (by decide)]; exact h8
    obtain ⟨I4, k1, k2, k3⟩ := r_hour (d := d + 6) (x := x) (y := y) (I := I3) hP hT e37 e38
    have e17 : (sDraw (I 114)) 7 = nI P := by unfold sDraw; rw [upd_ne (by decide)]; exact h7
    refine ⟨I4, ?_, ?_, fun j a b c => by rw [k3 j a, g3 j a b c, ← hI2, aUpd_ne a, aUpd_ne a]⟩
    · have hs : (sDrawn (I 114)).1 = (sComes (I2 114) (sDr (sDraw (I 114) 4) % P) (nI (sDr (sDraw (sDraw (I 114)) 4) % 2))).1 := by
        unfold sDrawn; rw [h7, if_neg hne, toNat_nI (by omega), eσ2]
      rw [hs]
      simp [s_162, aILoad, aRLoad, aLLoad, aIStore, aRStore, aPush, aBin, aBinL, aShL, aUn, aIf, aIc, aGet, aPut, aIald, aBald, aAald, aIast, aBast, aAast, aAlen, aCopy, aCallV, aCallC, aCallI, aRet, aCat, aMax, aMin, aDiv, aRem, aI2l, aL2i, aNul, aSwS, aSw, aInc, aDup, aDup2, aPop1, aIret, aAret, aVret, aLen, aFk, aFT, Value.category, m_sh, m_p, h7, hz, hne, hd1, eσ1, e17, m1, hd2, m2, g1, k1]
    · rw [k2, g2, eσ2]
      unfold sDrawn; rw [h7, if_neg hne, toNat_nI (by omega)]
end REF8
