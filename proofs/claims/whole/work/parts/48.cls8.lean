/-! the class: a Fridge copied -/
theorem isL_dis {la lb : Nat} (ha : isL la) (hb : isL lb) (h : la ≠ lb) : la + 3 < lb ∨ lb + 3 < la := by
  unfold isL at ha hb; omega
theorem isF_dis {f g : Nat} (ha : isF f) (hb : isF g) (h : f ≠ g) : f + 30 < g ∨ g + 30 < f := by
  unfold isF at ha hb; omega
theorem cpy_row {I : Nat → Nat → Int32} {a b n j : Nat} (h : j < n) : aCpy I a b 0 0 n b j = I a j := by
  unfold aCpy; rw [if_pos rfl, va_cpy, if_pos ⟨Nat.zero_le _, by omega⟩]; congr 1; omega
theorem cpy_ne {I : Nat → Nat → Int32} {a b c sp dp n : Nat} (h : c ≠ b) : aCpy I a b sp dp n c = I c := by
  funext j; unfold aCpy; rw [if_neg h]
section CLS8
variable {d : Nat} {I : Nat → Nat → Int32} {x y : Option Nat}
def lawCp (la lb : Nat) (I I1 : Nat → Nat → Int32) : Prop := I1 la 4 = I lb 4 ∧ I1 la 0 = I la 0 ∧ (∀ i, i < 60 → I1 (la + 1) i = I (lb + 1) i ∧ I1 (la + 2) i = I (lb + 2) i) ∧ ∀ r, r ≠ la → r ≠ la + 1 → r ≠ la + 2 → I1 r = I r
theorem k_lawCopy {la lb : Nat} (ha : isL la) (hb : isL lb) (h : la ≠ lb) : ∃ I1, aCall aMt (d + 1) 22 [.ref la, .ref lb] (HH I x y) = some (none, HH I1 x y) ∧ lawCp la lb I I1 := by
  have hd := isL_dis ha hb h
  refine ⟨aCpy (aCpy (aUpd I la 4 (I lb 4)) (lb + 1) (la + 1) 0 0 60) (lb + 2) (la + 2) 0 0 60, ?_, ?_, ?_, fun i hi => ⟨?_, ?_⟩, fun r h0 h1 h2 => ?_⟩
  · rw [e_22]
    simp [s_22, aILoad, aRLoad, aLLoad, aIStore, aRStore, aPush, aBin, aBinL, aShL, aUn, aIf, aIc, aGet, aPut, aIald, aBald, aAald, aIast, aBast, aAast, aAlen, aCopy, aCallV, aCallC, aCallI, aRet, aCat, aMax, aMin, aDiv, aRem, aI2l, aL2i, aNul, aSwS, aSw, aInc, aDup, aDup2, aPop1, aIret, aAret, aVret, aLen, aFk, aFT, Value.category, la_sh ha, la_sh hb, la_p ha, la_p hb]
  · rw [cpy_ne (by omega), cpy_ne (by omega), aUpd_row, upd_eq]
  · rw [cpy_ne (by omega), cpy_ne (by omega), aUpd_row, upd_ne (by omega)]
  · rw [cpy_ne (by omega), cpy_row hi, aUpd_ne (by omega)]
  · rw [cpy_row hi, cpy_ne (by omega), aUpd_ne (by omega)]
  · rw [cpy_ne h2, cpy_ne h1, aUpd_ne h0]
theorem k_pcopy {a b : Nat} (ha : SH[a]? = some (2, 6)) (hb : SH[b]? = some (2, 6)) (h : b ≠ a) : ∃ I1, aCall aMt (d + 1) 31 [.ref a, .ref b] (HH I x y) = some (none, HH I1 x y) ∧ (∀ j, 1 ≤ j → j ≤ 5 → I1 a j = I b j) ∧ I1 a 0 = I a 0 ∧ ∀ r, r ≠ a → I1 r = I r := by
  have hn : ∀ (J : Nat → Nat → Int32) k v, aUpd J a k v b = J b := fun J k v => aUpd_ne h
  refine ⟨aUpd (aUpd (aUpd (aUpd (aUpd I a 1 (I b 1)) a 2 (I b 2)) a 3 (I b 3)) a 4 (I b 4)) a 5 (I b 5), ?_, fun j h1 h5 => ?_, ?_, fun r hr => ?_⟩
  · rw [e_31]
    simp [s_31, aILoad, aRLoad, aLLoad, aIStore, aRStore, aPush, aBin, aBinL, aShL, aUn, aIf, aIc, aGet, aPut, aIald, aBald, aAald, aIast, aBast, aAast, aAlen, aCopy, aCallV, aCallC, aCallI, aRet, aCat, aMax, aMin, aDiv, aRem, aI2l, aL2i, aNul, aSwS, aSw, aInc, aDup, aDup2, aPop1, aIret, aAret, aVret, aLen, aFk, aFT, Value.category, ha, hb, hn]
  · have : j = 1 ∨ j = 2 ∨ j = 3 ∨ j = 4 ∨ j = 5 := by omega
    rcases this with rfl | rfl | rfl | rfl | rfl <;> simp [aUpd_row, upd]
  · simp [aUpd_row, upd]
  · simp only [aUpd_ne hr]
theorem k_tcopy {a b : Nat} (ha : SH[a]? = some (5, 7)) (hb : SH[b]? = some (5, 7)) (h : b ≠ a) (h01 : I b 5 = 0 ∨ I b 5 = 1) : ∃ I1, aCall aMt (d + 1) 52 [.ref a, .ref b] (HH I x y) = some (none, HH I1 x y) ∧ (∀ j, j < 7 → I1 a j = I b j) ∧ ∀ r, r ≠ a → I1 r = I r := by
  have hn : ∀ (J : Nat → Nat → Int32) k v, aUpd J a k v b = J b := fun J k v => aUpd_ne h
  refine ⟨aUpd (aUpd (aUpd (aUpd (aUpd (aUpd (aUpd I a 0 (I b 0)) a 1 (I b 1)) a 2 (I b 2)) a 3 (I b 3)) a 4 (I b 4)) a 5 (I b 5)) a 6 (I b 6), ?_, fun j h7 => ?_, fun r hr => ?_⟩
  · rw [e_52]
    rcases h01 with h01 | h01 <;> simp [s_52, aILoad, aRLoad, aLLoad, aIStore, aRStore, aPush, aBin, aBinL, aShL, aUn, aIf, aIc, aGet, aPut, aIald, aBald, aAald, aIast, aBast, aAast, aAlen, aCopy, aCallV, aCallC, aCallI, aRet, aCat, aMax, aMin, aDiv, aRem, aI2l, aL2i, aNul, aSwS, aSw, aInc, aDup, aDup2, aPop1, aIret, aAret, aVret, aLen, aFk, aFT, Value.category, ha, hb, hn, h01]
  · have : j = 0 ∨ j = 1 ∨ j = 2 ∨ j = 3 ∨ j = 4 ∨ j = 5 ∨ j = 6 := by omega
    rcases this with rfl | rfl | rfl | rfl | rfl | rfl | rfl <;> simp [aUpd_row, upd]
  · simp only [aUpd_ne hr]
def cpy (f g P T : Nat) (I0 I1 : Nat → Nat → Int32) : Prop :=
  KG f I0 I1 ∧ (∀ k, 6 ≤ k → k < 15 → I1 f k = I0 g k) ∧ (∀ p, p < 8 → I1 (f + 13 + p) 0 = I0 (f + 13 + p) 0) ∧ (∀ p, p < P → ∀ j, 1 ≤ j → j ≤ 5 → I1 (f + 13 + p) j = I0 (g + 13 + p) j) ∧ (∀ t, t < T → ∀ j, j < 7 → I1 (f + 21 + t) j = I0 (g + 21 + t) j) ∧
  (∀ a, a = 3 ∨ a = 7 → I1 (f + a) 0 = I0 (f + a) 0 ∧ I1 (f + a) 4 = I0 (g + a) 4 ∧ ∀ i, i < 60 → I1 (f + a + 1) i = I0 (g + a + 1) i ∧ I1 (f + a + 2) i = I0 (g + a + 2) i) ∧ (∀ i, i < 60 → I1 (f + 11) i = I0 (g + 11) i) ∧ (∀ i, i < 24 → I1 (f + 12) i = I0 (g + 12) i)
variable {f g P T : Nat}
/-- the rows and fields that stand when the first t THINGS are copied -/
def cpTh (f g P t : Nat) (I0 I : Nat → Nat → Int32) : Prop :=
  (∀ k, 6 ≤ k → k < 15 → I f k = I0 g k) ∧ (∀ p, p < 8 → I (f + 13 + p) 0 = I0 (f + 13 + p) 0) ∧ (∀ p, p < P → ∀ j, 1 ≤ j → j ≤ 5 → I (f + 13 + p) j = I0 (g + 13 + p) j) ∧ (∀ u, u < t → ∀ j, j < 7 → I (f + 21 + u) j = I0 (g + 21 + u) j) ∧ (∀ r, r ≠ f → (r < f + 13 ∨ f + 31 ≤ r) → I r = I0 r)
theorem k_cpTail {I0 : Nat → Nat → Int32} (hf : isF f) (hg : isF g) (h : f ≠ g) (hT : I0 g 7 = nI T) (hb : ∀ i, i < 60 → fits .byte (.int (I0 (g + 11) i)) = true) (hc : cpTh f g P T I0 I) :
    ∃ I1, aGo (aCall aMt (d + 1)) none cd_1 3 105 [some (.ref f), some (.ref g), some (.int (nI T))] [] (HH I x y) = some (none, HH I1 x y) ∧ cpy f g P T I0 I1 := by
  have hd := isF_dis hf hg h
  obtain ⟨c1, c2, c3, c4, c5⟩ := hc
  obtain ⟨I2, a1, a2, a3, a4, a5⟩ := k_lawCopy (d := d) (x := x) (y := y) (I := I) (f_l3 hf) (f_l3 hg) (by omega)
  obtain ⟨I3, b1, b2, b3, b4, b5⟩ := k_lawCopy (d := d) (x := x) (y := y) (I := I2) (f_l7 hf) (f_l7 hg) (by omega)
  have e7 : I f 7 = nI T := by rw [c1 7 (by omega) (by omega)]; exact hT
  have e11 : I3 (g + 11) = I0 (g + 11) := by rw [b5 _ (by omega) (by omega) (by omega), a5 _ (by omega) (by omega) (by omega), c5 _ (by omega) (by omega)]
  have fb : ∀ i, i < 60 → fits .byte (.int (I3 (g + 11) i)) = true := fun i hi => by rw [e11]; exact hb i hi
  refine ⟨aCpy (aCpy I3 (g + 11) (f + 11) 0 0 60) (g + 12) (f + 12) 0 0 24, ?_, fun r hr => ?_, fun k h1 h2 => ?_, fun p hp => ?_, fun p hp j h1 h2 => ?_, fun t ht j hj => ?_, fun a ha => ?_, fun i hi => ?_, fun i hi => ?_⟩
  · rw [s_1_105]
    have fb' : ∀ i, i < 60 → fits .byte (.int (I3 (g + 11) (0 + i))) = true := fun i hi => by rw [Nat.zero_add]; exact fb i hi
    simp [s_1, aILoad, aRLoad, aLLoad, aIStore, aRStore, aPush, aBin, aBinL, aShL, aUn, aIf, aIc, aGet, aPut, aIald, aBald, aAald, aIast, aBast, aAast, aAlen, aCopy, aCallV, aCallC, aCallI, aRet, aCat, aMax, aMin, aDiv, aRem, aI2l, aL2i, aNul, aSwS, aSw, aInc, aDup, aDup2, aPop1, aIret, aAret, aVret, aLen, aFk, aFT, Value.category, f_sh hf, f_sh hg, f_p hf, f_p hg, e7, a1, b1]
    exact fun i hi => fb i hi
  · rw [cpy_ne (by omega), cpy_ne (by omega), b5 _ (by omega) (by omega) (by omega), a5 _ (by omega) (by omega) (by omega), c5 _ (by omega) (by omega)]
  · rw [cpy_ne (by omega), cpy_ne (by omega), b5 _ (by omega) (by omega) (by omega), a5 _ (by omega) (by omega) (by omega)]; exact c1 k h1 h2
  · rw [cpy_ne (by omega), cpy_ne (by omega), b5 _ (by omega) (by omega) (by omega), a5 _ (by omega) (by omega) (by omega)]; exact c2 p hp
  · rw [cpy_ne (by omega), cpy_ne (by omega), b5 _ (by omega) (by omega) (by omega), a5 _ (by omega) (by omega) (by omega)]; exact c3 p hp j h1 h2
  · rw [cpy_ne (by omega), cpy_ne (by omega), b5 _ (by omega) (by omega) (by omega), a5 _ (by omega) (by omega) (by omega)]; exact c4 t ht j hj
  · rcases ha with rfl | rfl
    · refine ⟨?_, ?_, fun i hi => ⟨?_, ?_⟩⟩
      · rw [cpy_ne (by omega), cpy_ne (by omega), b5 _ (by omega) (by omega) (by omega), a3, c5 _ (by omega) (by omega)]
      · rw [cpy_ne (by omega), cpy_ne (by omega), b5 _ (by omega) (by omega) (by omega), a2, c5 _ (by omega) (by omega)]
      · rw [cpy_ne (by omega), cpy_ne (by omega), b5 _ (by omega) (by omega) (by omega), (a4 i hi).1, c5 _ (by omega) (by omega)]
      · rw [cpy_ne (by omega), cpy_ne (by omega), b5 _ (by omega) (by omega) (by omega), (a4 i hi).2, c5 _ (by omega) (by omega)]
    · refine ⟨?_, ?_, fun i hi => ⟨?_, ?_⟩⟩
      · rw [cpy_ne (by omega), cpy_ne (by omega), b3, a5 _ (by omega) (by omega) (by omega), c5 _ (by omega) (by omega)]
      · rw [cpy_ne (by omega), cpy_ne (by omega), b2, a5 _ (by omega) (by omega) (by omega), c5 _ (by omega) (by omega)]
      · rw [cpy_ne (by omega), cpy_ne (by omega), (b4 i hi).1, a5 _ (by omega) (by omega) (by omega), c5 _ (by omega) (by omega)]
      · rw [cpy_ne (by omega), cpy_ne (by omega), (b4 i hi).2, a5 _ (by omega) (by omega) (by omega), c5 _ (by omega) (by omega)]
  · rw [cpy_ne (by omega), cpy_row hi, e11]
  · rw [cpy_row hi, cpy_ne (by omega), b5 _ (by omega) (by omega) (by omega), a5 _ (by omega) (by omega) (by omega), c5 _ (by omega) (by omega)]
theorem k_cpTh_loop {I0 : Nat → Nat → Int32} (hf : isF f) (hg : isF g) (h : f ≠ g) (hT : I0 g 7 = nI T) (hT10 : T ≤ 10) (hb : ∀ i, i < 60 → fits .byte (.int (I0 (g + 11) i)) = true) (h01 : ∀ t, t < T → I0 (g + 21 + t) 5 = 0 ∨ I0 (g + 21 + t) 5 = 1) : ∀ k t (I : Nat → Nat → Int32), t + k = T → cpTh f g P t I0 I →
    ∃ I1, aGo (aCall aMt (d + 1)) none cd_1 3 105 [some (.ref f), some (.ref g), some (.int (nI t))] [] (HH I x y) = some (none, HH I1 x y) ∧ cpy f g P T I0 I1 := by
  have hd := isF_dis hf hg h
  intro k
  induction k with
  | zero =>
    intro t I ht hc
    obtain rfl : t = T := by omega
    exact k_cpTail hf hg h hT hb hc
  | succ k ih =>
    intro t I ht hc
    obtain ⟨c1, c2, c3, c4, c5⟩ := hc
    obtain ⟨I2, a1, a2, a3⟩ := k_tcopy (d := d) (x := x) (y := y) (I := I) (f_th hf (show t < 10 by omega)) (f_th hg (show t < 10 by omega)) (by omega) (by rw [c5 _ (by omega) (by omega)]; exact h01 t (by omega))
    obtain ⟨I1, b1, b2⟩ := ih (t + 1) I2 (by omega) ⟨fun k h1 h2 => by rw [a3 _ (by omega)]; exact c1 k h1 h2, fun p hp => by rw [a3 _ (by omega)]; exact c2 p hp, fun p hp j h1 h2 => by
        by_cases hp8 : p < 8
        · rw [a3 _ (by omega)]; exact c3 p hp j h1 h2
        · by_cases e : f + 13 + p = f + 21 + t
          · rw [e, a2 j (by omega), c5 _ (by omega) (by omega)]; congr 1; omega
          · rw [a3 _ e]; exact c3 p hp j h1 h2, fun u hu j hj => by
        by_cases e : u = t
        · subst e; rw [a2 j hj, c5 _ (by omega) (by omega)]
        · rw [a3 _ (by omega)]; exact c4 u (by omega) j hj, fun r h1 h2 => by rw [a3 _ (by omega)]; exact c5 r h1 h2⟩
    refine ⟨I1, ?_, b2⟩
    have e7 : I f 7 = nI T := by rw [c1 7 (by omega) (by omega)]; exact hT
    have h1 : ¬ nI T ≤ nI t := nI_ge (by omega) (by omega)
    rw [← b1, s_1_105]
    simp [s_1, aILoad, aRLoad, aLLoad, aIStore, aRStore, aPush, aBin, aBinL, aShL, aUn, aIf, aIc, aGet, aPut, aIald, aBald, aAald, aIast, aBast, aAast, aAlen, aCopy, aCallV, aCallC, aCallI, aRet, aCat, aMax, aMin, aDiv, aRem, aI2l, aL2i, aNul, aSwS, aSw, aInc, aDup, aDup2, aPop1, aIret, aAret, aVret, aLen, aFk, aFT, Value.category, f_sh hf, f_sh hg, f_p hf, f_p hg, f_tp hf (show t < 10 by omega), f_tp hg (show t < 10 by omega), f_th hf (show t < 10 by omega), e7, h1, a1, nI_1, toNat_nI (show t < 2 ^ 31 by omega), nI_lt0 (show t < 2 ^ 31 by omega), show ¬ 10 ≤ t by omega]
def cpPe (f g p : Nat) (I0 I : Nat → Nat → Int32) : Prop :=
  (∀ k, 6 ≤ k → k < 15 → I f k = I0 g k) ∧ (∀ p, p < 8 → I (f + 13 + p) 0 = I0 (f + 13 + p) 0) ∧ (∀ q, q < p → ∀ j, 1 ≤ j → j ≤ 5 → I (f + 13 + q) j = I0 (g + 13 + q) j) ∧ (∀ r, r ≠ f → (r < f + 13 ∨ f + 21 ≤ r) → I r = I0 r)
theorem k_cpPe_loop {I0 : Nat → Nat → Int32} (hf : isF f) (hg : isF g) (h : f ≠ g) (hP : I0 g 6 = nI P) (hP8 : P ≤ 8) (hT : I0 g 7 = nI T) (hT10 : T ≤ 10) (hb : ∀ i, i < 60 → fits .byte (.int (I0 (g + 11) i)) = true) (h01 : ∀ t, t < T → I0 (g + 21 + t) 5 = 0 ∨ I0 (g + 21 + t) 5 = 1) : ∀ k p (I : Nat → Nat → Int32), p + k = P → cpPe f g p I0 I →
    ∃ I1, aGo (aCall aMt (d + 1)) none cd_1 3 74 [some (.ref f), some (.ref g), some (.int (nI p))] [] (HH I x y) = some (none, HH I1 x y) ∧ cpy f g P T I0 I1 := by
  have hd := isF_dis hf hg h
  intro k
  induction k with
  | zero =>
    intro p I hp hc
    obtain rfl : p = P := by omega
    obtain ⟨c1, c2, c3, c5⟩ := hc
    obtain ⟨I1, b1, b2⟩ := k_cpTh_loop (d := d) (x := x) (y := y) (P := p) hf hg h hT hT10 hb h01 T 0 I (by omega) ⟨c1, c2, c3, fun u hu => by omega, fun r h1 h2 => c5 r h1 (by omega)⟩
    refine ⟨I1, ?_, b2⟩
    have e6 : I f 6 = nI p := by rw [c1 6 (by omega) (by omega)]; exact hP
    rw [← b1, s_1_74, nI_lit0]
    simp [s_1, aILoad, aRLoad, aLLoad, aIStore, aRStore, aPush, aBin, aBinL, aShL, aUn, aIf, aIc, aGet, aPut, aIald, aBald, aAald, aIast, aBast, aAast, aAlen, aCopy, aCallV, aCallC, aCallI, aRet, aCat, aMax, aMin, aDiv, aRem, aI2l, aL2i, aNul, aSwS, aSw, aInc, aDup, aDup2, aPop1, aIret, aAret, aVret, aLen, aFk, aFT, Value.category, f_sh hf, e6]
  | succ k ih =>
    intro p I hp hc
    obtain ⟨c1, c2, c3, c5⟩ := hc
    obtain ⟨I2, a1, a2, a4, a3⟩ := k_pcopy (d := d) (x := x) (y := y) (I := I) (f_pe hf (show p < 8 by omega)) (f_pe hg (show p < 8 by omega)) (by omega)
    have hgr : I (g + 13 + p) = I0 (g + 13 + p) := c5 _ (by omega) (by omega)
    obtain ⟨I1, b1, b2⟩ := ih (p + 1) I2 (by omega) ⟨fun k h1 h2 => by rw [a3 _ (by omega)]; exact c1 k h1 h2, fun q hq => by
        by_cases e : q = p
        · subst e; rw [a4]; exact c2 q hq
        · rw [a3 _ (by omega)]; exact c2 q hq, fun q hq j h1 h2 => by
        by_cases e : q = p
        · subst e; rw [a2 j h1 h2, hgr]
        · rw [a3 _ (by omega)]; exact c3 q (by omega) j h1 h2, fun r h1 h2 => by rw [a3 _ (by omega)]; exact c5 r h1 h2⟩
    refine ⟨I1, ?_, b2⟩
    have e6 : I f 6 = nI P := by rw [c1 6 (by omega) (by omega)]; exact hP
    have h1 : ¬ nI P ≤ nI p := nI_ge (by omega) (by omega)
    rw [← b1, s_1_74]
    simp [s_1, aILoad, aRLoad, aLLoad, aIStore, aRStore, aPush, aBin, aBinL, aShL, aUn, aIf, aIc, aGet, aPut, aIald, aBald, aAald, aIast, aBast, aAast, aAlen, aCopy, aCallV, aCallC, aCallI, aRet, aCat, aMax, aMin, aDiv, aRem, aI2l, aL2i, aNul, aSwS, aSw, aInc, aDup, aDup2, aPop1, aIret, aAret, aVret, aLen, aFk, aFT, Value.category, f_sh hf, f_sh hg, f_p hf, f_p hg, f_pp hf (show p < 8 by omega), f_pp hg (show p < 8 by omega), f_pe hf (show p < 8 by omega), e6, h1, a1, nI_1, toNat_nI (show p < 2 ^ 31 by omega), nI_lt0 (show p < 2 ^ 31 by omega), show ¬ 8 ≤ p by omega]
theorem k_copy (hf : isF f) (hg : isF g) (h : f ≠ g) (hP : I g 6 = nI P) (hP8 : P ≤ 8) (hT : I g 7 = nI T) (hT10 : T ≤ 10) (hb : ∀ i, i < 60 → fits .byte (.int (I (g + 11) i)) = true) (h01 : ∀ t, t < T → I (g + 21 + t) 5 = 0 ∨ I (g + 21 + t) 5 = 1) :
    ∃ I1, aCall aMt (d + 2) 1 [.ref f, .ref g] (HH I x y) = some (none, HH I1 x y) ∧ cpy f g P T I I1 := by
  have hd := isF_dis hf hg h
  have hn : ∀ (J : Nat → Nat → Int32) k v, aUpd J f k v g = J g := fun J k v => aUpd_ne (by omega)
  obtain ⟨I1, b1, b2⟩ := k_cpPe_loop (d := d) (x := x) (y := y) (I0 := I) hf hg h hP hP8 hT hT10 hb h01 P 0 (aUpd (aUpd (aUpd (aUpd (aUpd (aUpd (aUpd (aUpd (aUpd I f 6 (I g 6)) f 7 (I g 7)) f 8 (I g 8)) f 9 (I g 9)) f 10 (I g 10)) f 11 (I g 11)) f 12 (I g 12)) f 13 (I g 13)) f 14 (I g 14)) (by omega)
    ⟨fun k h1 h2 => by
      have : k = 6 ∨ k = 7 ∨ k = 8 ∨ k = 9 ∨ k = 10 ∨ k = 11 ∨ k = 12 ∨ k = 13 ∨ k = 14 := by omega
      rcases this with rfl | rfl | rfl | rfl | rfl | rfl | rfl | rfl | rfl <;> simp [aUpd_row, upd], fun p hp => by simp only [aUpd_ne (show f + 13 + p ≠ f by omega)], fun q hq => by omega, fun r hr _ => by simp only [aUpd_ne hr]⟩
  refine ⟨I1, ?_, b2⟩
  rw [e_1, ← b1, nI_lit0]
  simp [s_1, aILoad, aRLoad, aLLoad, aIStore, aRStore, aPush, aBin, aBinL, aShL, aUn, aIf, aIc, aGet, aPut, aIald, aBald, aAald, aIast, aBast, aAast, aAlen, aCopy, aCallV, aCallC, aCallI, aRet, aCat, aMax, aMin, aDiv, aRem, aI2l, aL2i, aNul, aSwS, aSw, aInc, aDup, aDup2, aPop1, aIret, aAret, aVret, aLen, aFk, aFT, Value.category, f_sh hf, f_sh hg, hn]
end CLS8
