/-! the class: a Fridge and the reference's row -/
def isF (f : Nat) : Prop := f = 1 ∨ f = 32 ∨ f = 63
theorem f_sh {f : Nat} (h : isF f) : SH[f]? = some (0, 15) ∧ SH[f + 1]? = some (22, 8) ∧ SH[f + 2]? = some (23, 10) ∧ SH[f + 11]? = some (21, 60) ∧ SH[f + 12]? = some (20, 24) ∧ SH[f + 3]? = some (1, 5) ∧ SH[f + 7]? = some (1, 5) := by
  rcases h with rfl | rfl | rfl <;> decide
theorem f_p {f : Nat} {x y : Option Nat} (h : isF f) : aP (PP x y) f 0 = some (f + 1) ∧ aP (PP x y) f 1 = some (f + 2) ∧ aP (PP x y) f 2 = some (f + 3) ∧ aP (PP x y) f 3 = some (f + 7) ∧ aP (PP x y) f 4 = some (f + 11) ∧ aP (PP x y) f 5 = some (f + 12) := by
  rcases h with rfl | rfl | rfl <;> exact ⟨rfl, rfl, rfl, rfl, rfl, rfl⟩
theorem f_l3 {f : Nat} (h : isF f) : isL (f + 3) := by rcases h with rfl | rfl | rfl <;> simp [isL]
theorem f_l7 {f : Nat} (h : isF f) : isL (f + 7) := by rcases h with rfl | rfl | rfl <;> simp [isL]
theorem f_pe {f p : Nat} (h : isF f) (hp : p < 8) : SH[f + 13 + p]? = some (2, 6) := by
  have : p = 0 ∨ p = 1 ∨ p = 2 ∨ p = 3 ∨ p = 4 ∨ p = 5 ∨ p = 6 ∨ p = 7 := by omega
  rcases h with rfl | rfl | rfl <;> rcases this with rfl | rfl | rfl | rfl | rfl | rfl | rfl | rfl <;> rfl
theorem f_pp {f p : Nat} {x y : Option Nat} (h : isF f) (hp : p < 8) : aP (PP x y) (f + 1) p = some (f + 13 + p) := by
  have : p = 0 ∨ p = 1 ∨ p = 2 ∨ p = 3 ∨ p = 4 ∨ p = 5 ∨ p = 6 ∨ p = 7 := by omega
  rcases h with rfl | rfl | rfl <;> rcases this with rfl | rfl | rfl | rfl | rfl | rfl | rfl | rfl <;> exact rfl
theorem f_th {f t : Nat} (h : isF f) (ht : t < 10) : SH[f + 21 + t]? = some (5, 7) := by
  have : t = 0 ∨ t = 1 ∨ t = 2 ∨ t = 3 ∨ t = 4 ∨ t = 5 ∨ t = 6 ∨ t = 7 ∨ t = 8 ∨ t = 9 := by omega
  rcases h with rfl | rfl | rfl <;> rcases this with rfl | rfl | rfl | rfl | rfl | rfl | rfl | rfl | rfl | rfl <;> rfl
theorem f_tp {f t : Nat} {x y : Option Nat} (h : isF f) (ht : t < 10) : aP (PP x y) (f + 2) t = some (f + 21 + t) := by
  have : t = 0 ∨ t = 1 ∨ t = 2 ∨ t = 3 ∨ t = 4 ∨ t = 5 ∨ t = 6 ∨ t = 7 ∨ t = 8 ∨ t = 9 := by omega
  rcases h with rfl | rfl | rfl <;> rcases this with rfl | rfl | rfl | rfl | rfl | rfl | rfl | rfl | rfl | rfl <;> exact rfl
def relF (f : Nat) (I : Nat → Nat → Int32) (σ : Nat → Int32) (P T : Nat) : Prop :=
  (P ≤ 8 ∧ T ≤ 10) ∧ (I f 6 = nI P ∧ I f 7 = nI T) ∧ (σ 7 = nI P ∧ σ 8 = nI T) ∧ (∀ p, p < 8 → I (f + 13 + p) 0 = nI p) ∧ (∀ p, p < P → ∀ j, j < 5 → I (f + 13 + p) (j + 1) = σ (10 + 5 * p + j)) ∧ (∀ t, t < T → ∀ j, j < 7 → I (f + 21 + t) j = σ (50 + 7 * t + j)) ∧ (∀ k, k < 5 → I f (10 + k) = σ k) ∧ relL I (f + 3) σ 0 ∧ relL I (f + 7) σ 1
def KF (f : Nat) (I I1 : Nat → Nat → Int32) : Prop := ∀ j, j ≠ f + 6 → j ≠ f + 10 → I1 j = I j
def KG (f : Nat) (I I1 : Nat → Nat → Int32) : Prop := ∀ j, j < f ∨ f + 30 < j → I1 j = I j
theorem KF.rf {f : Nat} {I : Nat → Nat → Int32} : KF f I I := fun _ _ _ => rfl
theorem KF.trans {f : Nat} {I I1 I2 : Nat → Nat → Int32} (h1 : KF f I I1) (h2 : KF f I1 I2) : KF f I I2 := fun j a b => (h2 j a b).trans (h1 j a b)
theorem KF.g {f : Nat} {I I1 : Nat → Nat → Int32} (h : KF f I I1) : KG f I I1 := fun j hj => h j (by omega) (by omega)
theorem KG.rf {f : Nat} {I : Nat → Nat → Int32} : KG f I I := fun _ _ => rfl
theorem KG.trans {f : Nat} {I I1 I2 : Nat → Nat → Int32} (h1 : KG f I I1) (h2 : KG f I1 I2) : KG f I I2 := fun j a => (h2 j a).trans (h1 j a)
theorem KG.upd {f a k : Nat} {v : Int32} {I I1 : Nat → Nat → Int32} (h : KG f I I1) (h1 : f ≤ a) (h2 : a ≤ f + 30) : KG f I (aUpd I1 a k v) := fun j hj => by rw [aUpd_ne (by omega), h j hj]
def KH (f : Nat) (I I1 : Nat → Nat → Int32) : Prop := KG f I I1 ∧ I1 f 8 = I f 8 ∧ I1 f 9 = I f 9 ∧ I1 (f + 11) = I (f + 11) ∧ I1 (f + 12) = I (f + 12)
theorem KH.g {f : Nat} {I I1 : Nat → Nat → Int32} (h : KH f I I1) : KG f I I1 := h.1
theorem KH.rf {f : Nat} {I : Nat → Nat → Int32} : KH f I I := ⟨KG.rf, rfl, rfl, rfl, rfl⟩
theorem KH.trans {f : Nat} {I I1 I2 : Nat → Nat → Int32} (h1 : KH f I I1) (h2 : KH f I1 I2) : KH f I I2 := ⟨h1.1.trans h2.1, h2.2.1.trans h1.2.1, h2.2.2.1.trans h1.2.2.1, h2.2.2.2.1.trans h1.2.2.2.1, h2.2.2.2.2.trans h1.2.2.2.2⟩
theorem KF.h {f : Nat} {I I1 : Nat → Nat → Int32} (h : KF f I I1) : KH f I I1 := ⟨h.g, by rw [h f (by omega) (by omega)], by rw [h f (by omega) (by omega)], h _ (by omega) (by omega), h _ (by omega) (by omega)⟩
theorem KH.upd {f a k : Nat} {v : Int32} {I I1 : Nat → Nat → Int32} (h : KH f I I1) (h1 : f ≤ a ∧ a ≤ f + 30 ∧ a ≠ f + 11 ∧ a ≠ f + 12) (h2 : a ≠ f ∨ k ≠ 8 ∧ k ≠ 9) : KH f I (aUpd I1 a k v) := by
  refine ⟨h.1.upd h1.1 h1.2.1, ?_, ?_, by rw [aUpd_ne (by omega)]; exact h.2.2.2.1, by rw [aUpd_ne (by omega)]; exact h.2.2.2.2⟩
  · by_cases e : a = f
    · subst e; rw [aUpd_row, upd_ne (by omega)]; exact h.2.1
    · rw [aUpd_ne (by omega)]; exact h.2.1
  · by_cases e : a = f
    · subst e; rw [aUpd_row, upd_ne (by omega)]; exact h.2.2.1
    · rw [aUpd_ne (by omega)]; exact h.2.2.1
theorem relL_congr {I I1 : Nat → Nat → Int32} {la u : Nat} {σ σ1 : Nat → Int32} (h : relL I la σ u) (h0 : I1 la = I la) (h1 : I1 (la + 1) = I (la + 1)) (h2 : I1 (la + 2) = I (la + 2)) (hs : ∀ k, 120 + 125 * u ≤ k → k < 245 + 125 * u → σ1 k = σ k) : relL I1 la σ1 u := by
  obtain ⟨n, a, b, c, e, g⟩ := h
  refine ⟨n, a, by rw [h0]; exact b, by rw [hs _ (by omega) (by omega)]; exact c, by rw [h0]; exact e, fun i hi => ?_⟩
  have := g i hi
  unfold sTx at this ⊢
  rw [h1, h2, hs _ (by omega) (by omega), hs _ (by omega) (by omega)]; exact this
theorem relF.kf {f P T : Nat} {I I1 : Nat → Nat → Int32} {σ : Nat → Int32} (h : relF f I σ P T) (hk : KF f I I1) : relF f I1 σ P T := by
  obtain ⟨h1, h2, h3, h4, h5, h6, h7, h8, h9⟩ := h
  refine ⟨h1, by rw [hk f (by omega) (by omega)]; exact h2, h3, fun p hp => by rw [hk _ (by omega) (by omega)]; exact h4 p hp, fun p hp j hj => by rw [hk _ (by omega) (by omega)]; exact h5 p hp j hj, fun t ht j hj => by rw [hk _ (by omega) (by omega)]; exact h6 t ht j hj, fun k hj => by rw [hk f (by omega) (by omega)]; exact h7 k hj, relL_congr h8 (hk _ (by omega) (by omega)) (hk _ (by omega) (by omega)) (hk _ (by omega) (by omega)) (fun _ _ _ => rfl), relL_congr h9 (hk _ (by omega) (by omega)) (hk _ (by omega) (by omega)) (hk _ (by omega) (by omega)) (fun _ _ _ => rfl)⟩
theorem relF.setP {f P T p j : Nat} {I : Nat → Nat → Int32} {σ : Nat → Int32} {v : Int32} (h : relF f I σ P T) (hp : p < P) (hj : j < 5) : relF f (aUpd I (f + 13 + p) (j + 1) v) (upd σ (10 + 5 * p + j) v) P T := by
  obtain ⟨h1, h2, h3, h4, h5, h6, h7, h8, h9⟩ := h
  refine ⟨h1, by rw [aUpd_ne (by omega)]; exact h2, by rw [upd_ne (by omega), upd_ne (by omega)]; exact h3, fun q hq => ?_, fun q hq i hi => ?_, fun t ht i hi => by rw [aUpd_ne (by omega), upd_ne (by omega)]; exact h6 t ht i hi, fun k hk => by rw [aUpd_ne (by omega), upd_ne (by omega)]; exact h7 k hk, relL_congr h8 (aUpd_ne (by omega)) (aUpd_ne (by omega)) (aUpd_ne (by omega)) (fun _ _ _ => upd_ne (by omega)), relL_congr h9 (aUpd_ne (by omega)) (aUpd_ne (by omega)) (aUpd_ne (by omega)) (fun _ _ _ => upd_ne (by omega))⟩
  · by_cases e : q = p
    · subst e; rw [aUpd_row, upd_ne (by omega)]; exact h4 q hq
    · rw [aUpd_ne (by omega)]; exact h4 q hq
  · by_cases e : q = p
    · subst e; rw [aUpd_row]
      by_cases e2 : i = j
      · subst e2; rw [upd_eq, upd_eq]
      · rw [upd_ne (by omega), upd_ne (by omega)]; exact h5 q hq i hi
    · rw [aUpd_ne (by omega), upd_ne (by omega)]; exact h5 q hq i hi
theorem relF.setT {f P T t j : Nat} {I : Nat → Nat → Int32} {σ : Nat → Int32} {v : Int32} (h : relF f I σ P T) (ht : t < T) (hj : j < 7) : relF f (aUpd I (f + 21 + t) j v) (upd σ (50 + 7 * t + j) v) P T := by
  obtain ⟨h1, h2, h3, h4, h5, h6, h7, h8, h9⟩ := h
  refine ⟨h1, by rw [aUpd_ne (by omega)]; exact h2, by rw [upd_ne (by omega), upd_ne (by omega)]; exact h3, fun q hq => by rw [aUpd_ne (by omega)]; exact h4 q hq, fun q hq i hi => by rw [aUpd_ne (by omega), upd_ne (by omega)]; exact h5 q hq i hi, fun q hq i hi => ?_, fun k hk => by rw [aUpd_ne (by omega), upd_ne (by omega)]; exact h7 k hk, relL_congr h8 (aUpd_ne (by omega)) (aUpd_ne (by omega)) (aUpd_ne (by omega)) (fun _ _ _ => upd_ne (by omega)), relL_congr h9 (aUpd_ne (by omega)) (aUpd_ne (by omega)) (aUpd_ne (by omega)) (fun _ _ _ => upd_ne (by omega))⟩
  by_cases e : q = t
  · subst e; rw [aUpd_row]
    by_cases e2 : i = j
    · subst e2; rw [upd_eq, upd_eq]
    · rw [upd_ne (by omega), upd_ne (by omega)]; exact h6 q hq i hi
  · rw [aUpd_ne (by omega), upd_ne (by omega)]; exact h6 q hq i hi
theorem relF.setS {f P T k : Nat} {I : Nat → Nat → Int32} {σ : Nat → Int32} {v : Int32} (h : relF f I σ P T) (hk : k < 5) : relF f (aUpd I f (10 + k) v) (upd σ k v) P T := by
  obtain ⟨h1, h2, h3, h4, h5, h6, h7, h8, h9⟩ := h
  refine ⟨h1, by rw [aUpd_row, upd_ne (by omega), upd_ne (by omega)]; exact h2, by rw [upd_ne (by omega), upd_ne (by omega)]; exact h3, fun q hq => by rw [aUpd_ne (by omega)]; exact h4 q hq, fun q hq i hi => by rw [aUpd_ne (by omega), upd_ne (by omega)]; exact h5 q hq i hi, fun q hq i hi => by rw [aUpd_ne (by omega), upd_ne (by omega)]; exact h6 q hq i hi, fun i hi => ?_, relL_congr h8 (aUpd_ne (by omega)) (aUpd_ne (by omega)) (aUpd_ne (by omega)) (fun _ _ _ => upd_ne (by omega)), relL_congr h9 (aUpd_ne (by omega)) (aUpd_ne (by omega)) (aUpd_ne (by omega)) (fun _ _ _ => upd_ne (by omega))⟩
  rw [aUpd_row]
  by_cases e : i = k
  · subst e; rw [upd_eq, upd_eq]
  · rw [upd_ne (by omega), upd_ne (by omega)]; exact h7 i hi
section CLS3
variable {d f P T : Nat} {I : Nat → Nat → Int32} {σ : Nat → Int32} {x y : Option Nat}
/-- the fields of one of the PEOPLE, of one of the THINGS -/
theorem relF.pe {p : Nat} (h : relF f I σ P T) (hp : p < P) : I (f + 13 + p) 0 = nI p ∧ I (f + 13 + p) 1 = σ (10 + 5 * p) ∧ I (f + 13 + p) 2 = σ (11 + 5 * p) ∧ I (f + 13 + p) 3 = σ (12 + 5 * p) ∧ I (f + 13 + p) 4 = σ (13 + 5 * p) ∧ I (f + 13 + p) 5 = σ (14 + 5 * p) := by
  obtain ⟨h1, h2, h3, h4, h5, h6, h7, h8, h9⟩ := h
  refine ⟨h4 p (by omega), h5 p hp 0 (by omega), ?_, ?_, ?_, ?_⟩
  · rw [h5 p hp 1 (by omega)]; congr 1; omega
  · rw [h5 p hp 2 (by omega)]; congr 1; omega
  · rw [h5 p hp 3 (by omega)]; congr 1; omega
  · rw [h5 p hp 4 (by omega)]; congr 1; omega
theorem relF.th {t : Nat} (h : relF f I σ P T) (ht : t < T) : I (f + 21 + t) 0 = σ (50 + 7 * t) ∧ I (f + 21 + t) 1 = σ (51 + 7 * t) ∧ I (f + 21 + t) 2 = σ (52 + 7 * t) ∧ I (f + 21 + t) 3 = σ (53 + 7 * t) ∧ I (f + 21 + t) 4 = σ (54 + 7 * t) ∧ I (f + 21 + t) 5 = σ (55 + 7 * t) ∧ I (f + 21 + t) 6 = σ (56 + 7 * t) := by
  obtain ⟨h1, h2, h3, h4, h5, h6, h7, h8, h9⟩ := h
  refine ⟨h6 t ht 0 (by omega), ?_, ?_, ?_, ?_, ?_, ?_⟩
  · rw [h6 t ht 1 (by omega)]; congr 1; omega
  · rw [h6 t ht 2 (by omega)]; congr 1; omega
  · rw [h6 t ht 3 (by omega)]; congr 1; omega
  · rw [h6 t ht 4 (by omega)]; congr 1; omega
  · rw [h6 t ht 5 (by omega)]; congr 1; omega
  · rw [h6 t ht 6 (by omega)]; congr 1; omega
theorem relF.fi (h : relF f I σ P T) : I f 6 = nI P ∧ I f 7 = nI T ∧ σ 7 = nI P ∧ σ 8 = nI T ∧ I f 10 = σ 0 ∧ I f 11 = σ 1 ∧ I f 12 = σ 2 ∧ I f 13 = σ 3 ∧ I f 14 = σ 4 := by
  obtain ⟨h1, h2, h3, h4, h5, h6, h7, h8, h9⟩ := h
  exact ⟨h2.1, h2.2, h3.1, h3.2, h7 0 (by omega), h7 1 (by omega), h7 2 (by omega), h7 3 (by omega), h7 4 (by omega)⟩
theorem k_personAt {p : Nat} (hf : isF f) (h : relF f I σ P T) (hp : p < P) : aCall aMt (d + 2) 2 [.ref f, .int (nI p)] (HH I x y) = some (some (.ref (f + 13 + p)), HH I x y) := by
  have hP := h.1.1
  rw [e_2]
  have hb : 0 ≤ nI p ∧ nI p ≤ nI P - 1 := (isIx (by omega)).mpr ⟨p, hp, rfl⟩
  simp [s_2, aILoad, aRLoad, aLLoad, aIStore, aRStore, aPush, aBin, aBinL, aShL, aUn, aIf, aIc, aGet, aPut, aIald, aBald, aAald, aIast, aBast, aAast, aAlen, aCopy, aCallV, aCallC, aCallI, aRet, aCat, aMax, aMin, aDiv, aRem, aI2l, aL2i, aNul, aSwS, aSw, aInc, aDup, aDup2, aPop1, aIret, aAret, aVret, aLen, aFk, aFT, Value.category, f_sh hf, f_p hf, h.fi, k_isIn, hb, f_pp hf (show p < 8 by omega), toNat_nI (show p < 2 ^ 31 by omega), show p < 8 by omega]
theorem k_personNo {v : Int32} (hf : isF f) (h : relF f I σ P T) (hp : ¬ (0 ≤ v ∧ v ≤ nI P - 1)) : aCall aMt (d + 2) 2 [.ref f, .int v] (HH I x y) = some (some .null, HH I x y) := by
  rw [e_2]
  simp [s_2, aILoad, aRLoad, aLLoad, aIStore, aRStore, aPush, aBin, aBinL, aShL, aUn, aIf, aIc, aGet, aPut, aIald, aBald, aAald, aIast, aBast, aAast, aAlen, aCopy, aCallV, aCallC, aCallI, aRet, aCat, aMax, aMin, aDiv, aRem, aI2l, aL2i, aNul, aSwS, aSw, aInc, aDup, aDup2, aPop1, aIret, aAret, aVret, aLen, aFk, aFT, Value.category, f_sh hf, f_p hf, h.fi, k_isIn, hp]
theorem k_thingAt {t : Nat} (hf : isF f) (h : relF f I σ P T) (ht : t < T) : aCall aMt (d + 2) 3 [.ref f, .int (nI t)] (HH I x y) = some (some (.ref (f + 21 + t)), HH I x y) := by
  have hT := h.1.2
  rw [e_3]
  have hb : 0 ≤ nI t ∧ nI t ≤ nI T - 1 := (isIx (by omega)).mpr ⟨t, ht, rfl⟩
  simp [s_3, aILoad, aRLoad, aLLoad, aIStore, aRStore, aPush, aBin, aBinL, aShL, aUn, aIf, aIc, aGet, aPut, aIald, aBald, aAald, aIast, aBast, aAast, aAlen, aCopy, aCallV, aCallC, aCallI, aRet, aCat, aMax, aMin, aDiv, aRem, aI2l, aL2i, aNul, aSwS, aSw, aInc, aDup, aDup2, aPop1, aIret, aAret, aVret, aLen, aFk, aFT, Value.category, f_sh hf, f_p hf, h.fi, k_isIn, hb, f_tp hf (show t < 10 by omega), toNat_nI (show t < 2 ^ 31 by omega), show t < 10 by omega]
theorem k_thingNo {v : Int32} (hf : isF f) (h : relF f I σ P T) (hp : ¬ (0 ≤ v ∧ v ≤ nI T - 1)) : aCall aMt (d + 2) 3 [.ref f, .int v] (HH I x y) = some (some .null, HH I x y) := by
  rw [e_3]
  simp [s_3, aILoad, aRLoad, aLLoad, aIStore, aRStore, aPush, aBin, aBinL, aShL, aUn, aIf, aIc, aGet, aPut, aIald, aBald, aAald, aIast, aBast, aAast, aAlen, aCopy, aCallV, aCallC, aCallI, aRet, aCat, aMax, aMin, aDiv, aRem, aI2l, aL2i, aNul, aSwS, aSw, aInc, aDup, aDup2, aPop1, aIret, aAret, aVret, aLen, aFk, aFT, Value.category, f_sh hf, f_p hf, h.fi, k_isIn, hp]
theorem k_owns {p t : Nat} (hf : isF f) (h : relF f I σ P T) (hp : p < P) (ht : t < T) : aCall aMt (d + 1) 33 [.ref (f + 13 + p), .ref (f + 21 + t)] (HH I x y) = some (some (.int (if σ (50 + 7 * t) = nI p then 1 else 0)), HH I x y) := by
  have hP := h.1
  rw [e_33]
  by_cases hc : σ (50 + 7 * t) = nI p <;> simp [s_33, aILoad, aRLoad, aLLoad, aIStore, aRStore, aPush, aBin, aBinL, aShL, aUn, aIf, aIc, aGet, aPut, aIald, aBald, aAald, aIast, aBast, aAast, aAlen, aCopy, aCallV, aCallC, aCallI, aRet, aCat, aMax, aMin, aDiv, aRem, aI2l, aL2i, aNul, aSwS, aSw, aInc, aDup, aDup2, aPop1, aIret, aAret, aVret, aLen, aFk, aFT, Value.category, f_th hf (show t < 10 by omega), f_pe hf (show p < 8 by omega), h.pe hp, h.th ht, hc]
theorem k_lawOf0 (hf : isF f) : aCall aMt (d + 1) 4 [.ref f, .int 0] (HH I x y) = some (some (.ref (f + 3)), HH I x y) := by
  rw [e_4]
  simp [s_4, aILoad, aRLoad, aLLoad, aIStore, aRStore, aPush, aBin, aBinL, aShL, aUn, aIf, aIc, aGet, aPut, aIald, aBald, aAald, aIast, aBast, aAast, aAlen, aCopy, aCallV, aCallC, aCallI, aRet, aCat, aMax, aMin, aDiv, aRem, aI2l, aL2i, aNul, aSwS, aSw, aInc, aDup, aDup2, aPop1, aIret, aAret, aVret, aLen, aFk, aFT, Value.category, f_sh hf, f_p hf]
theorem k_lawOf1 (hf : isF f) : aCall aMt (d + 1) 4 [.ref f, .int 1] (HH I x y) = some (some (.ref (f + 7)), HH I x y) := by
  rw [e_4]
  simp [s_4, aILoad, aRLoad, aLLoad, aIStore, aRStore, aPush, aBin, aBinL, aShL, aUn, aIf, aIc, aGet, aPut, aIald, aBald, aAald, aIast, aBast, aAast, aAlen, aCopy, aCallV, aCallC, aCallI, aRet, aCat, aMax, aMin, aDiv, aRem, aI2l, aL2i, aNul, aSwS, aSw, aInc, aDup, aDup2, aPop1, aIret, aAret, aVret, aLen, aFk, aFT, Value.category, f_sh hf, f_p hf]
theorem k_can {t : Nat} (hf : isF f) (h : relF f I σ P T) (ht : t < T) (h01 : σ (55 + 7 * t) = 0 ∨ σ (55 + 7 * t) = 1) : aCall aMt (d + 1) 53 [.ref (f + 21 + t)] (HH I x y) = some (some (.int (if sCan σ t then 1 else 0)), HH I x y) := by
  have hP := h.1
  rw [e_53]
  rcases h01 with hc | hc
  · simp [s_53, aILoad, aRLoad, aLLoad, aIStore, aRStore, aPush, aBin, aBinL, aShL, aUn, aIf, aIc, aGet, aPut, aIald, aBald, aAald, aIast, aBast, aAast, aAlen, aCopy, aCallV, aCallC, aCallI, aRet, aCat, aMax, aMin, aDiv, aRem, aI2l, aL2i, aNul, aSwS, aSw, aInc, aDup, aDup2, aPop1, aIret, aAret, aVret, aLen, aFk, aFT, Value.category, f_th hf (show t < 10 by omega), h.th ht, hc, sCan, sTh]
  · by_cases hl : σ (54 + 7 * t) = 0 <;> simp [s_53, aILoad, aRLoad, aLLoad, aIStore, aRStore, aPush, aBin, aBinL, aShL, aUn, aIf, aIc, aGet, aPut, aIald, aBald, aAald, aIast, aBast, aAast, aAlen, aCopy, aCallV, aCallC, aCallI, aRet, aCat, aMax, aMin, aDiv, aRem, aI2l, aL2i, aNul, aSwS, aSw, aInc, aDup, aDup2, aPop1, aIret, aAret, aVret, aLen, aFk, aFT, Value.category, f_th hf (show t < 10 by omega), h.th ht, hc, sCan, sTh, hl]
theorem k_leave {t : Nat} {v : Int32} (hf : isF f) (ht : t < 10) : aCall aMt (d + 1) 54 [.ref (f + 21 + t), .int v] (HH I x y) = some (none, HH (aUpd (aUpd I (f + 21 + t) 5 0) (f + 21 + t) 6 v) x y) := by
  rw [e_54]
  simp [s_54, aILoad, aRLoad, aLLoad, aIStore, aRStore, aPush, aBin, aBinL, aShL, aUn, aIf, aIc, aGet, aPut, aIald, aBald, aAald, aIast, aBast, aAast, aAlen, aCopy, aCallV, aCallC, aCallI, aRet, aCat, aMax, aMin, aDiv, aRem, aI2l, aL2i, aNul, aSwS, aSw, aInc, aDup, aDup2, aPop1, aIret, aAret, aVret, aLen, aFk, aFT, Value.category, f_th hf ht]
end CLS3
