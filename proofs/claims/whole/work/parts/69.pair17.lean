/-! the calls in pairs: who -/
def sSeq (σ : Nat → Int32) (p : Nat) : Nat → (Nat → Int32)
  | 0 => σ
  | n + 1 => (sComes (sSeq σ p n) p 0).2
theorem sSeq_ok {σ : Nat → Int32} {P T p : Nat} (hw : wfS σ P T) (h7 : σ 7 = nI P) (h8 : σ 8 = nI T) (hP : P ≤ 8) (hT : T ≤ 10) (hp : p < P) : ∀ n, wfS (sSeq σ p n) P T ∧ sSeq σ p n 7 = nI P ∧ sSeq σ p n 8 = nI T ∧ ∀ k, 5 ≤ k ∧ k ≤ 8 ∨ 120 ≤ k → sSeq σ p n k = σ k
  | 0 => ⟨hw, h7, h8, fun _ _ => rfl⟩
  | n + 1 => by
    obtain ⟨a, b, c, e⟩ := sSeq_ok hw h7 h8 hP hT hp n
    refine ⟨a.comes c hP hT hp, ?_, ?_, fun k hk => ?_⟩
    · show (sComes (sSeq σ p n) p 0).2 7 = _
      rw [sComes_lo (by omega)]; exact b
    · show (sComes (sSeq σ p n) p 0).2 8 = _
      rw [sComes_lo (by omega)]; exact c
    · show (sComes (sSeq σ p n) p 0).2 k = _
      rcases hk with hk | hk
      · rw [sComes_lo (by omega)]; exact e k (by omega)
      · rw [sComes_hi a c hP hT hp hk]; exact e k (by omega)
def sWho (σ N : Nat → Int32) (p : Nat) : Nat → Bool
  | 0 => true
  | i + 1 => sWho σ N p i && (decide (¬ (sComes (sSeq σ p i) p 0).1 = -1) && decide ((sComes (sSeq σ p i) p 0).1 = N i))
theorem sWho_no {σ N : Nat → Int32} {p i : Nat} (h : sWho σ N p i = false) : ∀ k, sWho σ N p (i + k) = false
  | 0 => h
  | k + 1 => by rw [← Nat.add_assoc, sWho, sWho_no h k]; rfl
section PAIR17
variable {d : Nat} {I : Nat → Nat → Int32} {x y : Option Nat}
theorem k_would_loop {f P T a s p : Nat} {I0 : Nat → Nat → Int32} {σ N : Nat → Int32} (h1 : f = 63) (hf : isF f) (hs : s < 4) (ha : a ≤ 24) (q3 : I0 (105 + 2 * s) 2 = nI a) (q5 : ∀ j, j < 24 → I0 (106 + 2 * s) j = N j) (hp : p < P) (hw : ∀ n, wfS (sSeq σ p n) P T) : ∀ k i (I : Nat → Nat → Int32) (l : Option Value), i + k = a → sWho σ N p i = true → relF f I (sSeq σ p i) P T → KG f I0 I →
    ∃ I1, aGo (aCall aMt (d + 6)) none cd_114 1 13 [some (.ref 0), some (.int (nI p)), some (.ref (105 + 2 * s)), some (.int (nI i)), l] [] (HH I x y) = some (some (.int (if sWho σ N p a then 1 else 0)), HH I1 x y) ∧ kF f I1 ∧ KG f I0 I1 := by
  intro k
  induction k with
  | zero =>
    intro i I l hi hb hr hk
    obtain rfl : i = a := by omega
    have e5 : I (105 + 2 * s) = I0 (105 + 2 * s) := hk _ (by omega)
    refine ⟨I, ?_, hr.k, hk⟩
    rw [s_114_13, hb]
    simp [s_114, aILoad, aRLoad, aLLoad, aIStore, aRStore, aPush, aBin, aBinL, aShL, aUn, aIf, aIc, aGet, aPut, aIald, aBald, aAald, aIast, aBast, aAast, aAlen, aCopy, aCallV, aCallC, aCallI, aRet, aCat, aMax, aMin, aDiv, aRem, aI2l, aL2i, aNul, aSwS, aSw, aInc, aDup, aDup2, aPop1, aIret, aAret, aVret, aLen, aFk, aFT, Value.category, sh_sh hs, e5, q3]
  | succ k ih =>
    intro i I l hi hb hr hk
    have hP := hr.1
    have e5 : I (105 + 2 * s) = I0 (105 + 2 * s) := hk _ (by omega)
    have g1 : ¬ nI a ≤ nI i := nI_ge (by omega) (by omega)
    obtain ⟨I2, p1, p2, p3⟩ := k_taken (d := d) (x := x) (y := y) (s := 0) hf hr (hw i) hp
    have hk2 := hk.trans p3.1
    have e6 : I2 (106 + 2 * s) = I0 (106 + 2 * s) := hk2 _ (by omega)
    have e7 : I2 (105 + 2 * s) = I0 (105 + 2 * s) := hk2 _ (by omega)
    have tp := toNat_nI (show p < 2 ^ 31 by omega)
    have np := nI_lt0 (show p < 2 ^ 31 by omega)
    have lp : ¬ 8 ≤ p := by omega
    have ti := toNat_nI (show i < 2 ^ 31 by omega)
    have ni := nI_lt0 (show i < 2 ^ 31 by omega)
    have li : ¬ 24 ≤ i := by omega
    rw [s_114_13]
    by_cases c1 : (sComes (sSeq σ p i) p 0).1 = -1
    · have hn : sWho σ N p (i + 1) = false := by rw [sWho, hb]; simp [c1]
      have hn2 : sWho σ N p a = false := by have := sWho_no hn k; rwa [show i + 1 + k = a by omega] at this
      refine ⟨I2, ?_, p2.k, hk2⟩
      rw [hn2]
      rw [c1] at p1
      simp [s_114, aILoad, aRLoad, aLLoad, aIStore, aRStore, aPush, aBin, aBinL, aShL, aUn, aIf, aIc, aGet, aPut, aIald, aBald, aAald, aIast, aBast, aAast, aAlen, aCopy, aCallV, aCallC, aCallI, aRet, aCat, aMax, aMin, aDiv, aRem, aI2l, aL2i, aNul, aSwS, aSw, aInc, aDup, aDup2, aPop1, aIret, aAret, aVret, aLen, aFk, aFT, Value.category, c_sh, c_h h1, f_sh hf, f_p hf, f_pp hf (show p < 8 by omega), sh_sh hs, e5, q3, g1, tp, np, lp, p1]
    · by_cases c2 : (sComes (sSeq σ p i) p 0).1 = N i
      · have hn : sWho σ N p (i + 1) = true := by rw [sWho, hb]; simp [c1, c2]; exact fun z => c1 (c2.trans z)
        obtain ⟨I1, r1, r2⟩ := ih (i + 1) I2 (some (.int (sComes (sSeq σ p i) p 0).1)) (by omega) hn p2 hk2
        refine ⟨I1, ?_, r2⟩
        have c3 : ¬ N i = -1 := fun z => c1 (c2.trans z)
        rw [← r1]
        rw [c2] at p1 ⊢
        simp [s_114, aILoad, aRLoad, aLLoad, aIStore, aRStore, aPush, aBin, aBinL, aShL, aUn, aIf, aIc, aGet, aPut, aIald, aBald, aAald, aIast, aBast, aAast, aAlen, aCopy, aCallV, aCallC, aCallI, aRet, aCat, aMax, aMin, aDiv, aRem, aI2l, aL2i, aNul, aSwS, aSw, aInc, aDup, aDup2, aPop1, aIret, aAret, aVret, aLen, aFk, aFT, Value.category, c_sh, c_h h1, f_sh hf, f_p hf, f_pp hf (show p < 8 by omega), sh_sh hs, sh_p hs, e5, e6, e7, q3, g1, tp, np, lp, ti, ni, li, p1, c3, q5 i (by omega), nI_1]
      · have hn : sWho σ N p (i + 1) = false := by rw [sWho, hb]; simp [c2]
        have hn2 : sWho σ N p a = false := by have := sWho_no hn k; rwa [show i + 1 + k = a by omega] at this
        refine ⟨I2, ?_, p2.k, hk2⟩
        rw [hn2]
        simp [s_114, aILoad, aRLoad, aLLoad, aIStore, aRStore, aPush, aBin, aBinL, aShL, aUn, aIf, aIc, aGet, aPut, aIald, aBald, aAald, aIast, aBast, aAast, aAlen, aCopy, aCallV, aCallC, aCallI, aRet, aCat, aMax, aMin, aDiv, aRem, aI2l, aL2i, aNul, aSwS, aSw, aInc, aDup, aDup2, aPop1, aIret, aAret, aVret, aLen, aFk, aFT, Value.category, c_sh, c_h h1, f_sh hf, f_p hf, f_pp hf (show p < 8 by omega), sh_sh hs, sh_p hs, e5, e6, e7, q3, g1, tp, np, lp, ti, ni, li, p1, c1, c2, q5 i (by omega)]
theorem k_would {f g P T a s p : Nat} {σ N : Nat → Int32} (h1 : f = 1) (hg1 : g = 63) (hf : isF f) (hg : isF g) (hA : relA f I σ P T) (hk : kF g I) (hs : s < 4) (ha : a ≤ 24) (q3 : I (105 + 2 * s) 2 = nI a) (q5 : ∀ j, j < 24 → I (106 + 2 * s) j = N j) (hp : p < P) : ∃ I1, aCall aMt (d + 7) 114 [.ref 0, .int (nI p), .ref (105 + 2 * s)] (HH I x y) = some (some (.int (if sWho σ N p a then 1 else 0)), HH I1 x y) ∧ kF g I1 ∧ KG g I I1 := by
  have hP := hA.1.1
  have ok := sSeq_ok hA.2.2 hA.1.fi.2.2.1 hA.1.fi.2.2.2.1 hP.1 hP.2 hp
  obtain ⟨I1, c1, c2, c3⟩ := hA.cp (d := d + 4) (x := x) (y := y) hg hf (by omega) hk
  obtain ⟨I2, k1, k2, k3⟩ := k_would_loop (d := d) (x := x) (y := y) (P := P) (T := T) (a := a) (s := s) (p := p) (I0 := I1) (σ := σ) (N := N) hg1 hg hs ha (by rw [c3 _ (by omega)]; exact q3) (fun j hj => by rw [c3 _ (by omega)]; exact q5 j hj) hp (fun n => (ok n).1) a 0 I1 none (by omega) rfl c2.1 KG.rf
  rw [nI_lit0] at k1
  refine ⟨I2, ?_, k2, c3.trans k3⟩
  rw [e_114, ← k1]
  simp [s_114, aILoad, aRLoad, aLLoad, aIStore, aRStore, aPush, aBin, aBinL, aShL, aUn, aIf, aIc, aGet, aPut, aIald, aBald, aAald, aIast, aBast, aAast, aAlen, aCopy, aCallV, aCallC, aCallI, aRet, aCat, aMax, aMin, aDiv, aRem, aI2l, aL2i, aNul, aSwS, aSw, aInc, aDup, aDup2, aPop1, aIret, aAret, aVret, aLen, aFk, aFT, Value.category, c_sh, c_f h1, c_h hg1, f_sh hf, f_sh hg, c1]
theorem k_who_loop {f g P T a s : Nat} {v : Int32} {I0 : Nat → Nat → Int32} {σ N : Nat → Int32} (h1 : f = 1) (hg1 : g = 63) (hf : isF f) (hg : isF g) (hA : relA f I0 σ P T) (hs : s < 4) (ha : a ≤ 24) (q3 : I0 (105 + 2 * s) 2 = nI a) (q5 : ∀ j, j < 24 → I0 (106 + 2 * s) j = N j) : ∀ k p (I : Nat → Nat → Int32), p + k = P → kF g I → KG g I0 I →
    ∃ I1, aGo (aCall aMt (d + 7)) none cd_89 0 37 [some (.ref 0), some (.int v), some (.ref (105 + 2 * s)), some (.int (nI (bS (fun p => sWho σ N p a) p))), some (.int (nI p))] [] (HH I x y) = some (some (.int (nI (bS (fun p => sWho σ N p a) P))), HH I1 x y) ∧ kF g I1 ∧ KG g I0 I1 := by
  have hP := hA.1.1
  intro k
  induction k with
  | zero =>
    intro p I hp hkF hk
    obtain rfl : p = P := by omega
    have hA' := hA.rows (I1 := I) fun r _ _ => hk r (by omega)
    refine ⟨I, ?_, hkF, hk⟩
    rw [s_89_37]
    simp [s_89, aILoad, aRLoad, aLLoad, aIStore, aRStore, aPush, aBin, aBinL, aShL, aUn, aIf, aIc, aGet, aPut, aIald, aBald, aAald, aIast, aBast, aAast, aAlen, aCopy, aCallV, aCallC, aCallI, aRet, aCat, aMax, aMin, aDiv, aRem, aI2l, aL2i, aNul, aSwS, aSw, aInc, aDup, aDup2, aPop1, aIret, aAret, aVret, aLen, aFk, aFT, Value.category, c_sh, c_f h1, f_sh hf, hA'.1.fi]
  | succ k ih =>
    intro p I hp hkF hk
    have hA' := hA.rows (I1 := I) fun r _ _ => hk r (by omega)
    have g1 : ¬ nI P ≤ nI p := nI_ge (by omega) (by omega)
    obtain ⟨I2, p1, p2, p3⟩ := k_would (d := d) (x := x) (y := y) (p := p) (N := N) h1 hg1 hf hg hA' hkF hs ha (by rw [hk _ (by omega)]; exact q3) (fun j hj => by rw [hk _ (by omega)]; exact q5 j hj) (by omega)
    obtain ⟨I1, r1, r2⟩ := ih (p + 1) I2 (by omega) p2 (hk.trans p3)
    refine ⟨I1, ?_, r2⟩
    rw [s_89_37, ← r1]
    by_cases c : sWho σ N p a = true
    · have e : bS (fun p => sWho σ N p a) (p + 1) = bS (fun p => sWho σ N p a) p + 2 ^ p := by rw [bS, if_pos c]
      rw [e, ← or_bit (show p < 16 by omega) (bS_lt _ p)]
      rw [c] at p1
      simp [s_89, aILoad, aRLoad, aLLoad, aIStore, aRStore, aPush, aBin, aBinL, aShL, aUn, aIf, aIc, aGet, aPut, aIald, aBald, aAald, aIast, aBast, aAast, aAlen, aCopy, aCallV, aCallC, aCallI, aRet, aCat, aMax, aMin, aDiv, aRem, aI2l, aL2i, aNul, aSwS, aSw, aInc, aDup, aDup2, aPop1, aIret, aAret, aVret, aLen, aFk, aFT, Value.category, c_sh, c_f h1, f_sh hf, sh_sh hs, hA'.1.fi, g1, p1, nI_1]
    · have c' : sWho σ N p a = false := by simpa using c
      have e : bS (fun p => sWho σ N p a) (p + 1) = bS (fun p => sWho σ N p a) p := by rw [bS, if_neg c]; rfl
      rw [e]
      rw [c'] at p1
      simp [s_89, aILoad, aRLoad, aLLoad, aIStore, aRStore, aPush, aBin, aBinL, aShL, aUn, aIf, aIc, aGet, aPut, aIald, aBald, aAald, aIast, aBast, aAast, aAlen, aCopy, aCallV, aCallC, aCallI, aRet, aCat, aMax, aMin, aDiv, aRem, aI2l, aL2i, aNul, aSwS, aSw, aInc, aDup, aDup2, aPop1, aIret, aAret, aVret, aLen, aFk, aFT, Value.category, c_sh, c_f h1, f_sh hf, sh_sh hs, hA'.1.fi, g1, p1, nI_1]
theorem r_who_in {P T a s p : Nat} {w b : Int32} {I0 : Nat → Nat → Int32} {σ N : Nat → Int32} (hs : s < 4) (ha : a ≤ 24) (hP : P ≤ 8) (hT : T ≤ 10) (hp : p < P) (q4 : I0 125 s = nI a) (q5 : ∀ j, j < 24 → I0 126 (24 * s + j) = N j) (hw : ∀ n, wfS (sSeq σ p n) P T) (h8 : ∀ n, sSeq σ p n 8 = nI T) (hhi : ∀ n j, 120 ≤ j → sSeq σ p n j = σ j) : ∀ k i (I : Nat → Nat → Int32) (l7 : Option Value), i + k = a → sWho σ N p i = true → I 114 = sSeq σ p i → RG I0 I →
    ∃ I1 l6 l7', aGo (aCall aMt (d + 9)) none cd_193 0 43 [some (.ref 113), some (.int (nI s)), some (.int w), some (.int b), some (.int (nI p)), some (.int 1), some (.int (nI i)), l7] [] (HH I x y) = aGo (aCall aMt (d + 9)) none cd_193 0 104 [some (.ref 113), some (.int (nI s)), some (.int w), some (.int b), some (.int (nI p)), some (.int (if sWho σ N p a then 1 else 0)), l6, l7'] [] (HH I1 x y) ∧ RG I0 I1 ∧ ∀ j, 120 ≤ j → I1 114 j = σ j := by
  have ix : ∀ m, (24 : Int32) * nI s + nI m = nI (24 * s + m) := fun m => by rw [show (24 : Int32) = nI 24 from rfl, pk_mul, nI_add]
  have ts := toNat_nI (show s < 2 ^ 31 by omega)
  have ns := nI_lt0 (show s < 2 ^ 31 by omega)
  have l4 : ¬ 4 ≤ s := by omega
  intro k
  induction k with
  | zero =>
    intro i I l7 hi hb hr hk
    obtain rfl : i = a := by omega
    have e5 : I 125 = I0 125 := hk _ (by omega) (by omega) (by omega)
    refine ⟨I, some (.int (nI i)), l7, ?_, hk, fun j hj => by rw [hr]; exact hhi _ j hj⟩
    rw [s_193_43, hb]
    simp [s_193, aILoad, aRLoad, aLLoad, aIStore, aRStore, aPush, aBin, aBinL, aShL, aUn, aIf, aIc, aGet, aPut, aIald, aBald, aAald, aIast, aBast, aAast, aAlen, aCopy, aCallV, aCallC, aCallI, aRet, aCat, aMax, aMin, aDiv, aRem, aI2l, aL2i, aNul, aSwS, aSw, aInc, aDup, aDup2, aPop1, aIret, aAret, aVret, aLen, aFk, aFT, Value.category, m_sh, m_p, e5, q4, ts, ns, l4]
  | succ k ih =>
    intro i I l7 hi hb hr hk
    have e5 : I 125 = I0 125 := hk _ (by omega) (by omega) (by omega)
    have g1 : ¬ nI a ≤ nI i := nI_ge (by omega) (by omega)
    obtain ⟨I2, p1, p2, p3⟩ := r_comes (d := d) (x := x) (y := y) (I := I) (p := p) (s := 0) (by omega) hT (by rw [hr]; exact h8 i) (by rw [hr]; exact (hw i).ok) (by rw [hr]; exact (hw i).own hP)
    have hk2 := hk.trans p3
    have e5' : I2 125 = I0 125 := hk2 _ (by omega) (by omega) (by omega)
    have e6 : I2 126 = I0 126 := hk2 _ (by omega) (by omega) (by omega)
    rw [hr] at p1 p2
    have t2 := toNat_nI (show 24 * s + i < 2 ^ 31 by omega)
    have n2 := nI_lt0 (show 24 * s + i < 2 ^ 31 by omega)
    have l2 : ¬ 96 ≤ 24 * s + i := by omega
    by_cases c : ¬ (sComes (sSeq σ p i) p 0).1 = -1 ∧ (sComes (sSeq σ p i) p 0).1 = N i
    · obtain ⟨c1, c2⟩ := c
      have hn : sWho σ N p (i + 1) = true := by rw [sWho, hb]; simp [c1, c2]; exact fun z => c1 (c2.trans z)
      obtain ⟨I1, l6, l7', r1, r2⟩ := ih (i + 1) I2 (some (.int (sComes (sSeq σ p i) p 0).1)) (by omega) hn p2 hk2
      refine ⟨I1, l6, l7', ?_, r2⟩
      have c3 : ¬ N i = -1 := fun z => c1 (c2.trans z)
      rw [s_193_43, ← r1]
      rw [c2] at p1 ⊢
      simp [s_193, aILoad, aRLoad, aLLoad, aIStore, aRStore, aPush, aBin, aBinL, aShL, aUn, aIf, aIc, aGet, aPut, aIald, aBald, aAald, aIast, aBast, aAast, aAlen, aCopy, aCallV, aCallC, aCallI, aRet, aCat, aMax, aMin, aDiv, aRem, aI2l, aL2i, aNul, aSwS, aSw, aInc, aDup, aDup2, aPop1, aIret, aAret, aVret, aLen, aFk, aFT, Value.category, m_sh, m_p, e5, q4, ts, ns, l4, g1, p1, e6, ix, q5 i (by omega), c3, t2, n2, l2, nI_1]
    · have hn : sWho σ N p (i + 1) = false := by
        rw [sWho, hb]
        by_cases c1 : (sComes (sSeq σ p i) p 0).1 = -1
        · simp [c1]
        · have c2 : ¬ (sComes (sSeq σ p i) p 0).1 = N i := fun z => c ⟨c1, z⟩
          simp [c2]
      have hn2 : sWho σ N p a = false := by have := sWho_no hn k; rwa [show i + 1 + k = a by omega] at this
      refine ⟨I2, some (.int (nI (i + 1))), some (.int (sComes (sSeq σ p i) p 0).1), ?_, hk2, fun j hj => by rw [p2]; exact hhi (i + 1) j hj⟩
      rw [s_193_43, hn2]
      by_cases c1 : (sComes (sSeq σ p i) p 0).1 = -1
      · rw [c1] at p1 ⊢
        by_cases c3 : i + 1 < a
        · have g2 : ¬ nI a ≤ nI (i + 1) := nI_ge c3 (by omega)
          simp [s_193, s_193_43, aILoad, aRLoad, aLLoad, aIStore, aRStore, aPush, aBin, aBinL, aShL, aUn, aIf, aIc, aGet, aPut, aIald, aBald, aAald, aIast, aBast, aAast, aAlen, aCopy, aCallV, aCallC, aCallI, aRet, aCat, aMax, aMin, aDiv, aRem, aI2l, aL2i, aNul, aSwS, aSw, aInc, aDup, aDup2, aPop1, aIret, aAret, aVret, aLen, aFk, aFT, Value.category, m_sh, m_p, e5, e5', q4, ts, ns, l4, g1, g2, p1, nI_1]
        · have g2 : nI a ≤ nI (i + 1) := nI_le (by omega) (by omega)
          simp [s_193, s_193_43, aILoad, aRLoad, aLLoad, aIStore, aRStore, aPush, aBin, aBinL, aShL, aUn, aIf, aIc, aGet, aPut, aIald, aBald, aAald, aIast, aBast, aAast, aAlen, aCopy, aCallV, aCallC, aCallI, aRet, aCat, aMax, aMin, aDiv, aRem, aI2l, aL2i, aNul, aSwS, aSw, aInc, aDup, aDup2, aPop1, aIret, aAret, aVret, aLen, aFk, aFT, Value.category, m_sh, m_p, e5, e5', q4, ts, ns, l4, g1, g2, p1, nI_1]
      · have c2 : ¬ (sComes (sSeq σ p i) p 0).1 = N i := fun z => c ⟨c1, z⟩
        by_cases c3 : i + 1 < a
        · have g2 : ¬ nI a ≤ nI (i + 1) := nI_ge c3 (by omega)
          simp [s_193, s_193_43, aILoad, aRLoad, aLLoad, aIStore, aRStore, aPush, aBin, aBinL, aShL, aUn, aIf, aIc, aGet, aPut, aIald, aBald, aAald, aIast, aBast, aAast, aAlen, aCopy, aCallV, aCallC, aCallI, aRet, aCat, aMax, aMin, aDiv, aRem, aI2l, aL2i, aNul, aSwS, aSw, aInc, aDup, aDup2, aPop1, aIret, aAret, aVret, aLen, aFk, aFT, Value.category, m_sh, m_p, e5, e5', q4, ts, ns, l4, g1, g2, p1, c1, c2, e6, ix, q5 i (by omega), t2, n2, l2, nI_1]
        · have g2 : nI a ≤ nI (i + 1) := nI_le (by omega) (by omega)
          simp [s_193, s_193_43, aILoad, aRLoad, aLLoad, aIStore, aRStore, aPush, aBin, aBinL, aShL, aUn, aIf, aIc, aGet, aPut, aIald, aBald, aAald, aIast, aBast, aAast, aAlen, aCopy, aCallV, aCallC, aCallI, aRet, aCat, aMax, aMin, aDiv, aRem, aI2l, aL2i, aNul, aSwS, aSw, aInc, aDup, aDup2, aPop1, aIret, aAret, aVret, aLen, aFk, aFT, Value.category, m_sh, m_p, e5, e5', q4, ts, ns, l4, g1, g2, p1, c1, c2, e6, ix, q5 i (by omega), t2, n2, l2, nI_1]
theorem r_who_loop {P T a s : Nat} {w : Int32} {I0 : Nat → Nat → Int32} {σ N : Nat → Int32} (hs : s < 4) (ha : a ≤ 24) (hP : P ≤ 8) (hT : T ≤ 10) (q4 : I0 125 s = nI a) (q5 : ∀ j, j < 24 → I0 126 (24 * s + j) = N j) (hw : wfS σ P T) (h7 : σ 7 = nI P) (h8 : σ 8 = nI T) (hl : ∀ j, j < 120 → I0 116 j = σ j) : ∀ k p (I : Nat → Nat → Int32) (l5 l6 l7 : Option Value), p + k = P → I 114 = σ → RG I0 I →
    ∃ I1, aGo (aCall aMt (d + 9)) none cd_193 0 25 [some (.ref 113), some (.int (nI s)), some (.int w), some (.int (nI (bS (fun p => sWho σ N p a) p))), some (.int (nI p)), l5, l6, l7] [] (HH I x y) = some (some (.int (nI (bS (fun p => sWho σ N p a) P))), HH I1 x y) ∧ I1 114 = σ ∧ RG I0 I1 := by
  intro k
  induction k with
  | zero =>
    intro p I l5 l6 l7 hp hr hk
    obtain rfl : p = P := by omega
    refine ⟨I, ?_, hr, hk⟩
    rw [s_193_25]
    simp [s_193, aILoad, aRLoad, aLLoad, aIStore, aRStore, aPush, aBin, aBinL, aShL, aUn, aIf, aIc, aGet, aPut, aIald, aBald, aAald, aIast, aBast, aAast, aAlen, aCopy, aCallV, aCallC, aCallI, aRet, aCat, aMax, aMin, aDiv, aRem, aI2l, aL2i, aNul, aSwS, aSw, aInc, aDup, aDup2, aPop1, aIret, aAret, aVret, aLen, aFk, aFT, Value.category, m_sh, m_p, hr, h7]
  | succ k ih =>
    intro p I l5 l6 l7 hp hr hk
    have g1 : ¬ nI P ≤ nI p := nI_ge (by omega) (by omega)
    have ok := sSeq_ok hw h7 h8 hP hT (show p < P by omega)
    obtain ⟨I2, m6, m7, p1, p2, p3⟩ := r_who_in (d := d) (x := x) (y := y) (P := P) (T := T) (a := a) (s := s) (p := p) (w := w) (b := nI (bS (fun p => sWho σ N p a) p)) (I0 := I0) (σ := σ) (N := N) hs ha hP hT (by omega) q4 q5 (fun n => (ok n).1) (fun n => (ok n).2.2.1) (fun n j hj => (ok n).2.2.2 j (by omega)) a 0 I l7 (by omega) rfl hr hk
    have lb : aCpy I2 116 114 0 0 120 114 = σ := lay_back (fun j hj => by rw [p2 116 (by omega) (by omega) (by omega)]; exact hl j hj) p3
    rw [nI_lit0] at p1
    obtain ⟨I1, r1, r2⟩ := ih (p + 1) (aCpy I2 116 114 0 0 120) (some (.int (if sWho σ N p a then 1 else 0))) m6 m7 (by omega) lb (fun j a1 b1 c1 => by rw [cpy_ne a1, p2 j a1 b1 c1])
    refine ⟨I1, ?_, r2⟩
    rw [s_193_25, ← r1]
    by_cases c : sWho σ N p a = true
    · have e : bS (fun p => sWho σ N p a) (p + 1) = bS (fun p => sWho σ N p a) p + 2 ^ p := by rw [bS, if_pos c]
      rw [e, ← or_bit (show p < 16 by omega) (bS_lt _ p)]
      rw [c] at p1
      simp [s_193, aILoad, aRLoad, aLLoad, aIStore, aRStore, aPush, aBin, aBinL, aShL, aUn, aIf, aIc, aGet, aPut, aIald, aBald, aAald, aIast, aBast, aAast, aAlen, aCopy, aCallV, aCallC, aCallI, aRet, aCat, aMax, aMin, aDiv, aRem, aI2l, aL2i, aNul, aSwS, aSw, aInc, aDup, aDup2, aPop1, aIret, aAret, aVret, aLen, aFk, aFT, Value.category, m_sh, m_p, hr, h7, g1, p1, c, r_layBack, nI_1]
    · have c' : sWho σ N p a = false := by simpa using c
      have e : bS (fun p => sWho σ N p a) (p + 1) = bS (fun p => sWho σ N p a) p := by rw [bS, if_neg c]; rfl
      rw [e]
      rw [c'] at p1
      simp [s_193, aILoad, aRLoad, aLLoad, aIStore, aRStore, aPush, aBin, aBinL, aShL, aUn, aIf, aIc, aGet, aPut, aIald, aBald, aAald, aIast, aBast, aAast, aAlen, aCopy, aCallV, aCallC, aCallI, aRet, aCat, aMax, aMin, aDiv, aRem, aI2l, aL2i, aNul, aSwS, aSw, aInc, aDup, aDup2, aPop1, aIret, aAret, aVret, aLen, aFk, aFT, Value.category, m_sh, m_p, hr, h7, g1, p1, c', r_layBack, nI_1]
theorem pair_who (v : Int32) : Pair 89 193 [.int v] := by
  intro d I x y h
  obtain ⟨f, P, T, h1, hf, hA⟩ := h.f
  obtain ⟨g, hg1⟩ : ∃ g, g = 63 := ⟨63, rfl⟩
  have hg := isF_63 hg1
  have hP := hA.1.1
  have e7 := hA.1.fi.2.2.1
  have e8 := hA.1.fi.2.2.2.1
  have hS := h.2.2.2.2.1
  by_cases hv : 0 ≤ v ∧ v ≤ 3
  · obtain ⟨s, hs3, rfl⟩ := in_0n (n := 3) rfl (by omega) hv
    have hs : s < 4 := by omega
    have sa := k_sheetAt (d := d + 17) (x := x) (y := y) (I := I) hs
    have km := k_missing (d := d + 18) (x := x) (y := y) (I := I) hs
    have ts := toNat_nI (show s < 2 ^ 31 by omega)
    obtain ⟨q1, q2, ⟨a, ha, q3, q4⟩, q5⟩ := hS s hs
    by_cases h0 : I 124 s = 0
    · have c0 : I (105 + 2 * s) 1 = 0 := q1.trans h0
      refine Pair.ref 2 (-1000000002) h ?_ (fun I' hI => ?_)
      · rw [e_89]; simp [s_89, aILoad, aRLoad, aLLoad, aIStore, aRStore, aPush, aBin, aBinL, aShL, aUn, aIf, aIc, aGet, aPut, aIald, aBald, aAald, aIast, aBast, aAast, aAlen, aCopy, aCallV, aCallC, aCallI, aRet, aCat, aMax, aMin, aDiv, aRem, aI2l, aL2i, aNul, aSwS, aSw, aInc, aDup, aDup2, aPop1, aIret, aAret, aVret, aLen, aFk, aFT, Value.category, c_sh, sa, sh_sh hs, km, c0, rf_2]
      · have h0' : I' 124 s = 0 := by rw [hI 124 (by decide)]; exact h0
        rw [e_193]; simp [s_193, aILoad, aRLoad, aLLoad, aIStore, aRStore, aPush, aBin, aBinL, aShL, aUn, aIf, aIc, aGet, aPut, aIald, aBald, aAald, aIast, aBast, aAast, aAlen, aCopy, aCallV, aCallC, aCallI, aRet, aCat, aMax, aMin, aDiv, aRem, aI2l, aL2i, aNul, aSwS, aSw, aInc, aDup, aDup2, aPop1, aIret, aAret, aVret, aLen, aFk, aFT, Value.category, m_sh, m_p, r_lacks, hv, ts, h0', re_2]
    · have c0 : ¬ I (105 + 2 * s) 1 = 0 := fun z => h0 (q1.symm.trans z)
      obtain ⟨I2, k1, k2, k3⟩ := k_who_loop (d := d + 12) (x := x) (y := y) (P := P) (T := T) (a := a) (s := s) (v := nI s) (I0 := I) (σ := I 114) (N := fun j => I 126 (24 * s + j)) h1 hg1 hf hg hA hs ha q3 q5 P 0 I (by omega) (by rw [hg1]; exact h.2.2.1) KG.rf
      have er : ∀ r, r < 63 ∨ 93 < r → I2 r = I r := fun r hr => k3 r (by omega)
      have el : ∀ r, r ≠ 116 → 93 < r → aCpy I2 114 116 0 0 120 r = I r := fun r a b => by rw [cpy_ne a, er r (by omega)]
      obtain ⟨I3, r1, r2, r3⟩ := r_who_loop (d := d + 10) (x := x) (y := y) (P := P) (T := T) (a := a) (s := s) (w := 0) (I0 := aCpy I2 114 116 0 0 120) (σ := I 114) (N := fun j => I 126 (24 * s + j)) hs ha hP.1 hP.2 (by rw [el 125 (by omega) (by omega)]; exact q4) (fun j hj => by rw [el 126 (by omega) (by omega)]) hA.2.2 e7 e8 (fun j hj => by rw [cpy_row hj, er 114 (by omega)]) P 0 _ none none none (by omega) (el 114 (by omega) (by omega)) RG.rf
      rw [bS, nI_lit0] at k1 r1
      have hj : ∀ r, r ≠ 114 → r ≠ 116 → r ≠ 119 → r ≠ 120 → I3 r = I2 r := fun r a b c e => by rw [r3 r a c e, cpy_ne b]
      refine Pair.tho (v := nI (bS (fun p => sWho (I 114) (fun j => I 126 (24 * s + j)) p a) P)) h ?_ ?_ er (by rwa [hg1] at k2) r2 hj
      · rw [e_89, ← k1]; simp [s_89, aILoad, aRLoad, aLLoad, aIStore, aRStore, aPush, aBin, aBinL, aShL, aUn, aIf, aIc, aGet, aPut, aIald, aBald, aAald, aIast, aBast, aAast, aAlen, aCopy, aCallV, aCallC, aCallI, aRet, aCat, aMax, aMin, aDiv, aRem, aI2l, aL2i, aNul, aSwS, aSw, aInc, aDup, aDup2, aPop1, aIret, aAret, aVret, aLen, aFk, aFT, Value.category, c_sh, sa, sh_sh hs, km, c0]
      · have h0' : ¬ I2 124 s = 0 := by rw [er 124 (by omega)]; exact h0
        rw [e_193, ← r1]; simp [s_193, aILoad, aRLoad, aLLoad, aIStore, aRStore, aPush, aBin, aBinL, aShL, aUn, aIf, aIc, aGet, aPut, aIald, aBald, aAald, aIast, aBast, aAast, aAlen, aCopy, aCallV, aCallC, aCallI, aRet, aCat, aMax, aMin, aDiv, aRem, aI2l, aL2i, aNul, aSwS, aSw, aInc, aDup, aDup2, aPop1, aIret, aAret, aVret, aLen, aFk, aFT, Value.category, m_sh, m_p, r_lacks, hv, ts, h0', r_layDown]
  · have sa := k_sheetNo (d := d + 17) (x := x) (y := y) (I := I) hv
    refine Pair.ref 1 (-1000000001) h ?_ (fun I' hI => ?_)
    · rw [e_89]; simp [s_89, aILoad, aRLoad, aLLoad, aIStore, aRStore, aPush, aBin, aBinL, aShL, aUn, aIf, aIc, aGet, aPut, aIald, aBald, aAald, aIast, aBast, aAast, aAlen, aCopy, aCallV, aCallC, aCallI, aRet, aCat, aMax, aMin, aDiv, aRem, aI2l, aL2i, aNul, aSwS, aSw, aInc, aDup, aDup2, aPop1, aIret, aAret, aVret, aLen, aFk, aFT, Value.category, c_sh, sa, rf_1]
    · rw [e_193]; simp [s_193, aILoad, aRLoad, aLLoad, aIStore, aRStore, aPush, aBin, aBinL, aShL, aUn, aIf, aIc, aGet, aPut, aIald, aBald, aAald, aIast, aBast, aAast, aAlen, aCopy, aCallV, aCallC, aCallI, aRet, aCat, aMax, aMin, aDiv, aRem, aI2l, aL2i, aNul, aSwS, aSw, aInc, aDup, aDup2, aPop1, aIret, aAret, aVret, aLen, aFk, aFT, Value.category, m_sh, m_p, r_lacks, hv, re_1]
end PAIR17
