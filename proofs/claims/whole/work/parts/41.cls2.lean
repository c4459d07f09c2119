/-! the class: what a TEXT gives -/
def idx (u : Nat) (v : Int32) : Int32 := if v = 108 then 0 else if u = 0 then (if v = 111 then 1 else 2) else (if v = 115 then 1 else 2)
/-- a step of the reference's row and a step of the class's two rows -/
def eRel (u : Nat) (w v s z : Int32) : Prop := (w = 0 ∧ s = 110 ∧ z = v) ∨ (w = 1 ∧ s = 118 ∧ z = idx u v) ∨ (w = 2 ∧ s = 33) ∨ (w = 3 ∧ s = v)
def relL (I : Nat → Nat → Int32) (la : Nat) (σ : Nat → Int32) (u : Nat) : Prop := ∃ n, n ≤ 60 ∧ I la 4 = nI n ∧ σ (120 + 125 * u) = nI n ∧ I la 0 = nI u ∧ ∀ i, i < n → eRel u (sTx σ u (2 * i)) (sTx σ u (2 * i + 1)) (I (la + 1) i) (I (la + 2) i)
theorem isSign_ne {v : Int32} (h : isSign v) : ¬ v = 110 ∧ ¬ v = 118 ∧ ¬ v = 33 := by
  rcases h with rfl | rfl | rfl | rfl | rfl | rfl | rfl | rfl | rfl | rfl <;> decide
section CLS2
variable {d : Nat} {I : Nat → Nat → Int32} {x y : Option Nat}
theorem k_worked_loop {la n u : Nat} (hL : isL la) {names : Int32 → Prop} {nm : Int32 → Int32} {T : Nat → Int32} {a b c : Int32} {I0 : Nat → Nat → Int32} (hn : I0 la 4 = nI n) (hw : wfT names T n)
    (hE : ∀ i, i < n → eRel u (T (2 * i)) (T (2 * i + 1)) (I0 (la + 1) i) (I0 (la + 2) i)) (hnm : ∀ v, names v → (if idx u v = 0 then a else if idx u v = 1 then b else c) = nm v) :
    ∀ k i (I : Nat → Nat → Int32) (l6 : Option Value), i + k = n → Pl (I (la + 3)) (ev nm T i) → (∀ j, j ≠ la + 3 → I j = I0 j) →
    ∃ I1, aGo (aCall aMt (d + 1)) none cd_25 0 6 [some (.ref la), some (.int a), some (.int b), some (.int c), some (.int (nI (dep T i) - 1)), some (.int (nI i)), l6] [] (HH I x y) = some (some (.int ((ev nm T n).getD 0 0)), HH I1 x y) ∧ ∀ j, j ≠ la + 3 → I1 j = I0 j := by
  intro k
  have s1 := la_sh hL
  have p1 := la_p (x := x) (y := y) hL
  induction k with
  | zero =>
    intro i I l6 hi hp hI
    obtain rfl : i = n := by omega
    have hlen := ev_len (nm := nm) hw.1
    rw [hw.2.1] at hlen
    refine ⟨I, ?_, hI⟩
    have h0 := hp 0 (by omega)
    rw [hlen] at h0
    have e1 : I la = I0 la := hI la (by omega)
    rw [s_25_6]
    simp [s_25, aILoad, aRLoad, aLLoad, aIStore, aRStore, aPush, aBin, aBinL, aShL, aUn, aIf, aIc, aGet, aPut, aIald, aBald, aAald, aIast, aBast, aAast, aAlen, aCopy, aCallV, aCallC, aCallI, aRet, aCat, aMax, aMin, aDiv, aRem, aI2l, aL2i, aNul, aSwS, aSw, aInc, aDup, aDup2, aPop1, aIret, aAret, aVret, aLen, aFk, aFT, Value.category, s1, p1, e1, hn, h0]
  | succ k ih =>
    intro i I l6 hi hp hI
    have h2 := hw.2.2
    have e0 : I la = I0 la := hI la (by omega)
    have e1 : I (la + 1) = I0 (la + 1) := hI _ (by omega)
    have e2 : I (la + 2) = I0 (la + 2) := hI _ (by omega)
    have hlen := ev_len (nm := nm) (fun j hj => hw.1 j (show j < n by omega)) (k := i)
    have hdl := dep_le T i
    have hok := hw.1 i (by omega)
    have h1 : ¬ nI n ≤ nI i := nI_ge (by omega) (by omega)
    have he := hE i (by omega)
    have i1 := nI_pos' (n := i) (by omega)
    have i2 := toNat_nI (show i < 2 ^ 31 by omega)
    have i3 : i < 60 := by omega
    have step : ∀ (I2 : Nat → Nat → Int32), Pl (I2 (la + 3)) (ev nm T (i + 1)) → (∀ j, j ≠ la + 3 → I2 j = I0 j) → ∀ l6, ∃ I1, aGo (aCall aMt (d + 1)) none cd_25 0 6 [some (.ref la), some (.int a), some (.int b), some (.int c), some (.int (nI (dep T (i + 1)) - 1)), some (.int (nI (i + 1))), l6] [] (HH I2 x y) = some (some (.int ((ev nm T n).getD 0 0)), HH I1 x y) ∧ ∀ j, j ≠ la + 3 → I1 j = I0 j := fun I2 g1 g2 l6 => ih (i + 1) I2 l6 (by omega) g1 g2
    have hq : ∀ v j, j ≠ la + 3 → aUpd I (la + 3) (dep T i) v j = I0 j := fun v j hj => by rw [aUpd_ne hj, hI j hj]
    rw [s_25_6]
    rcases hok with hk | ⟨hk, hv⟩ | ⟨hk, hd⟩ | ⟨hk, hd, hs⟩
    · obtain ⟨hs1, hz1⟩ : I0 (la + 1) i = 110 ∧ I0 (la + 2) i = T (2 * i + 1) := by
        rcases he with ⟨_, z⟩ | ⟨z, _⟩ | ⟨z, _⟩ | ⟨z, _⟩
        · exact z
        all_goals exact absurd (hk.symm.trans z) (by decide)
      have g := step (aUpd I (la + 3) (dep T i) (T (2 * i + 1))) (by rw [ev, hk, aUpd_row, ← hlen]; simpa [evS] using hp.push) (hq _)
      have hde : dep T (i + 1) = dep T i + 1 := by rw [dep, if_pos (Or.inl hk)]
      rw [hde, nI_s] at g
      have c1 : nI (dep T i) ≤ (59 : Int32) := by rw [show (59 : Int32) = nI 59 from rfl]; exact nI_le (by omega) (by omega)
      simpa [s_25, aILoad, aRLoad, aLLoad, aIStore, aRStore, aPush, aBin, aBinL, aShL, aUn, aIf, aIc, aGet, aPut, aIald, aBald, aAald, aIast, aBast, aAast, aAlen, aCopy, aCallV, aCallC, aCallI, aRet, aCat, aMax, aMin, aDiv, aRem, aI2l, aL2i, aNul, aSwS, aSw, aInc, aDup, aDup2, aPop1, aIret, aAret, aVret, aLen, aFk, aFT, Value.category, s1, p1, e0, e1, e2, hn, h1, nI_1, i1, i2, i3, hs1, hz1, k_isIn, c1, nI_pos' (n := dep T i) (by omega), toNat_nI (show dep T i < 2 ^ 31 by omega), show dep T i < 60 by omega] using g (some (.int 110))
    · obtain ⟨hs1, hz1⟩ : I0 (la + 1) i = 118 ∧ I0 (la + 2) i = idx u (T (2 * i + 1)) := by
        rcases he with ⟨z, _⟩ | ⟨_, z⟩ | ⟨z, _⟩ | ⟨z, _⟩
        · exact absurd (hk.symm.trans z) (by decide)
        · exact z
        all_goals exact absurd (hk.symm.trans z) (by decide)
      have g := step (aUpd I (la + 3) (dep T i) (nm (T (2 * i + 1)))) (by rw [ev, hk, aUpd_row, ← hlen]; simpa [evS] using hp.push) (hq _)
      have hde : dep T (i + 1) = dep T i + 1 := by rw [dep, if_pos (Or.inr hk)]
      rw [hde, nI_s] at g
      have c1 : nI (dep T i) ≤ (59 : Int32) := by rw [show (59 : Int32) = nI 59 from rfl]; exact nI_le (by omega) (by omega)
      simpa [s_25, aILoad, aRLoad, aLLoad, aIStore, aRStore, aPush, aBin, aBinL, aShL, aUn, aIf, aIc, aGet, aPut, aIald, aBald, aAald, aIast, aBast, aAast, aAlen, aCopy, aCallV, aCallC, aCallI, aRet, aCat, aMax, aMin, aDiv, aRem, aI2l, aL2i, aNul, aSwS, aSw, aInc, aDup, aDup2, aPop1, aIret, aAret, aVret, aLen, aFk, aFT, Value.category, s1, p1, e0, e1, e2, hn, h1, nI_1, i1, i2, i3, hs1, hz1, k_isIn, c1, k_named, hnm _ hv, nI_pos' (n := dep T i) (by omega), toNat_nI (show dep T i < 2 ^ 31 by omega), show dep T i < 60 by omega] using g (some (.int 118))
    · have hs1 : I0 (la + 1) i = 33 := by
        rcases he with ⟨z, _⟩ | ⟨z, _⟩ | ⟨_, z⟩ | ⟨z, _⟩
        · exact absurd (hk.symm.trans z) (by decide)
        · exact absurd (hk.symm.trans z) (by decide)
        · exact z
        · exact absurd (hk.symm.trans z) (by decide)
      obtain ⟨D, hD⟩ : ∃ D, dep T i = D + 1 := ⟨dep T i - 1, by omega⟩
      have hde : dep T (i + 1) = D + 1 := by rw [dep, if_neg (by rw [hk]; decide), if_pos hk, hD]
      cases hev : ev nm T i with
      | nil => rw [hev] at hlen; simp at hlen; omega
      | cons v r =>
        rw [hev] at hlen hp
        have hr : r.length = D := by simp at hlen; omega
        have htop := hp.top
        rw [hr] at htop
        have g := step (aUpd I (la + 3) D (if v = 0 then 1 else 0)) (by rw [ev, hk, aUpd_row, hev, ← hr]; simpa [evS] using hp.pop.push) (fun j hj => by rw [aUpd_ne hj, hI j hj])
        rw [hde, nI_s] at g
        rw [hD, nI_s]
        have c0 := nI_pos' (n := D) (by omega)
        have c1 : nI D ≤ (59 : Int32) := by rw [show (59 : Int32) = nI 59 from rfl]; exact nI_le (by omega) (by omega)
        have c2 := toNat_nI (show D < 2 ^ 31 by omega)
        have c3 : D < 60 := by omega
        by_cases ha : v = 0
        · simp only [ha, if_true] at g htop
          simpa [s_25, aILoad, aRLoad, aLLoad, aIStore, aRStore, aPush, aBin, aBinL, aShL, aUn, aIf, aIc, aGet, aPut, aIald, aBald, aAald, aIast, aBast, aAast, aAlen, aCopy, aCallV, aCallC, aCallI, aRet, aCat, aMax, aMin, aDiv, aRem, aI2l, aL2i, aNul, aSwS, aSw, aInc, aDup, aDup2, aPop1, aIret, aAret, aVret, aLen, aFk, aFT, Value.category, s1, p1, e0, e1, e2, hn, h1, nI_1, i1, i2, i3, hs1, k_isIn, c0, c1, c2, c3, htop] using g (some (.int 33))
        · simp only [ha, if_false] at g
          simpa [s_25, aILoad, aRLoad, aLLoad, aIStore, aRStore, aPush, aBin, aBinL, aShL, aUn, aIf, aIc, aGet, aPut, aIald, aBald, aAald, aIast, aBast, aAast, aAlen, aCopy, aCallV, aCallC, aCallI, aRet, aCat, aMax, aMin, aDiv, aRem, aI2l, aL2i, aNul, aSwS, aSw, aInc, aDup, aDup2, aPop1, aIret, aAret, aVret, aLen, aFk, aFT, Value.category, s1, p1, e0, e1, e2, hn, h1, nI_1, i1, i2, i3, hs1, k_isIn, c0, c1, c2, c3, htop, ha] using g (some (.int 33))
    · have hs1 : I0 (la + 1) i = T (2 * i + 1) := by
        rcases he with ⟨z, _⟩ | ⟨z, _⟩ | ⟨z, _⟩ | ⟨_, z⟩
        · exact absurd (hk.symm.trans z) (by decide)
        · exact absurd (hk.symm.trans z) (by decide)
        · exact absurd (hk.symm.trans z) (by decide)
        · exact z
      obtain ⟨q1, q2, q3⟩ := isSign_ne hs
      obtain ⟨D, hD⟩ : ∃ D, dep T i = D + 2 := ⟨dep T i - 2, by omega⟩
      have hde : dep T (i + 1) = D + 1 := by rw [dep, if_neg (by rw [hk]; decide), if_neg (by rw [hk]; decide), hD]; omega
      cases hev : ev nm T i with
      | nil => rw [hev] at hlen; simp at hlen; omega
      | cons w r =>
        cases r with
        | nil => rw [hev] at hlen; simp at hlen; omega
        | cons v r =>
          rw [hev] at hlen hp
          have hr : r.length = D := by simp at hlen; omega
          have ht1 := hp.top
          have ht2 := hp.pop.top
          rw [List.length_cons, hr] at ht1
          rw [hr] at ht2
          have g := step (aUpd I (la + 3) D (sJoin (T (2 * i + 1)) v w)) (by rw [ev, hk, aUpd_row, hev, ← hr]; simpa [evS] using hp.pop.pop.push) (fun j hj => by rw [aUpd_ne hj, hI j hj])
          rw [hde, nI_s] at g
          rw [hD, show nI (D + 2) = nI (D + 1 + 1) from rfl, nI_s]
          have c0 := nI_pos' (n := D) (by omega)
          have c1 : nI D ≤ (58 : Int32) := by rw [show (58 : Int32) = nI 58 from rfl]; exact nI_le (by omega) (by omega)
          have c2 := toNat_nI (show D < 2 ^ 31 by omega)
          have c3 : D < 60 := by omega
          simpa [s_25, aILoad, aRLoad, aLLoad, aIStore, aRStore, aPush, aBin, aBinL, aShL, aUn, aIf, aIc, aGet, aPut, aIald, aBald, aAald, aIast, aBast, aAast, aAlen, aCopy, aCallV, aCallC, aCallI, aRet, aCat, aMax, aMin, aDiv, aRem, aI2l, aL2i, aNul, aSwS, aSw, aInc, aDup, aDup2, aPop1, aIret, aAret, aVret, aLen, aFk, aFT, Value.category, s1, p1, e0, e1, e2, hn, h1, nI_1, nI_p, i1, i2, i3, hs1, q1, q2, q3, k_isIn, k_joined hs, c0, c1, c2, c3, ht1, ht2, nI_pos' (n := D + 1) (by omega), toNat_nI (show D + 1 < 2 ^ 31 by omega), show D + 1 < 60 by omega, show D < 59 by omega] using g (some (.int (T (2 * i + 1))))
theorem k_worked {la n u : Nat} (hL : isL la) {names : Int32 → Prop} {nm : Int32 → Int32} {T : Nat → Int32} {a b c : Int32} (hn : I la 4 = nI n) (hw : wfT names T n)
    (hE : ∀ i, i < n → eRel u (T (2 * i)) (T (2 * i + 1)) (I (la + 1) i) (I (la + 2) i)) (hnm : ∀ v, names v → (if idx u v = 0 then a else if idx u v = 1 then b else c) = nm v) :
    ∃ I1, aCall aMt (d + 2) 25 [.ref la, .int a, .int b, .int c] (HH I x y) = some (some (.int ((ev nm T n).getD 0 0)), HH I1 x y) ∧ ∀ j, j ≠ la + 3 → I1 j = I j := by
  obtain ⟨I1, h1, h2⟩ := k_worked_loop (d := d) (x := x) (y := y) hL hn hw hE hnm n 0 I none (by omega) (fun j hj => by simp [ev] at hj) (fun j _ => rfl)
  refine ⟨I1, ?_, h2⟩
  rw [e_25, ← h1]
  simp [s_25, aILoad, aRLoad, aLLoad, aIStore, aRStore, aPush, aBin, aBinL, aShL, aUn, aIf, aIc, aGet, aPut, aIald, aBald, aAald, aIast, aBast, aAast, aAlen, aCopy, aCallV, aCallC, aCallI, aRet, aCat, aMax, aMin, aDiv, aRem, aI2l, aL2i, aNul, aSwS, aSw, aInc, aDup, aDup2, aPop1, aIret, aAret, aVret, aLen, aFk, aFT, Value.category, dep, nI_lit0]
theorem sMM {m : Int32} (hm : 0 ≤ m) (v : Int32) : sHeld v 0 m = if 0 < (if v < m then v else m) then (if v < m then v else m) else 0 := by
  unfold sHeld
  by_cases h1 : v < m
  · rw [if_pos h1, if_pos (Int32.le_of_lt h1)]
    by_cases h2 : 0 < v
    · rw [if_pos h2, if_pos (Int32.le_of_lt h2)]
    · rw [if_neg h2]
      by_cases h3 : 0 ≤ v
      · rw [if_pos h3]; exact Int32.le_antisymm (Int32.not_lt.mp h2) h3
      · rw [if_neg h3]
  · rw [if_neg h1]
    have h2 := Int32.not_lt.mp h1
    rw [if_pos (Int32.le_trans hm h2)]
    by_cases h3 : v ≤ m
    · rw [if_pos h3]
      have e := Int32.le_antisymm h3 h2
      by_cases h4 : 0 < m
      · rw [if_pos h4, e]
      · rw [if_neg h4, e]; exact Int32.le_antisymm (Int32.not_lt.mp h4) hm
    · rw [if_neg h3]
      by_cases h4 : 0 < m
      · rw [if_pos h4]
      · rw [if_neg h4]; exact Int32.le_antisymm (Int32.not_lt.mp h4) hm
theorem k_gives0 {la : Nat} {σ : Nat → Int32} {a b c : Int32} (hL : isL la) (hR : relL I la σ 0) (hT : okTx σ 0 names0) : ∃ I1, aCall aMt (d + 3) 24 [.ref la, .int a, .int b, .int c] (HH I x y) = some (some (.int (sAppT σ a b c)), HH I1 x y) ∧ ∀ j, j ≠ la + 3 → I1 j = I j := by
  obtain ⟨n, h60, hn, hs, hu, hE⟩ := hR
  have s1 := la_sh hL
  have hh := k_hasText (d := d + 1) (x := x) (y := y) hL hn (by omega)
  have hs' : σ 120 = nI n := hs
  rw [e_24]
  by_cases h0 : n = 0
  · subst h0
    rw [nI_lit0] at hs' hu
    simp only [if_true] at hh
    refine ⟨I, ?_, fun _ _ => rfl⟩
    have hv := sMM (m := 99) (by decide) (20 + 10 * b - 3 * c)
    simp [s_24, aILoad, aRLoad, aLLoad, aIStore, aRStore, aPush, aBin, aBinL, aShL, aUn, aIf, aIc, aGet, aPut, aIald, aBald, aAald, aIast, aBast, aAast, aAlen, aCopy, aCallV, aCallC, aCallI, aRet, aCat, aMax, aMin, aDiv, aRem, aI2l, aL2i, aNul, aSwS, aSw, aInc, aDup, aDup2, aPop1, aIret, aAret, aVret, aLen, aFk, aFT, Value.category, s1, hh, hu, sAppT, hs', hv]
  · have hw : wfT names0 (sTx σ 0) n := by
      obtain ⟨m, hm, hw⟩ := hT
      have h61 := okTx_lt hw
      have e : m = n := (nI_eq (by omega) (by omega)).mp (hm.symm.trans hs)
      subst e; exact hw.resolve_left h0
    obtain ⟨I1, g1, g2⟩ := k_worked (d := d) (x := x) (y := y) (nm := nmA a b c) (a := a) (b := b) (c := c) hL hn hw hE (fun v hv => by
      rcases hv with rfl | rfl | rfl <;> simp [idx, nmA])
    refine ⟨I1, ?_, g2⟩
    have hz : ¬ nI n = 0 := nI_ne0 (by omega) (by omega)
    have hv := sMM (m := 99) (by decide) ((ev (nmA a b c) (sTx σ 0) n).getD 0 0)
    generalize hV : (ev (nmA a b c) (sTx σ 0) n).getD 0 0 = V at *
    simp only [h0, if_false] at hh
    have hA : sAppT σ a b c = sHeld V 0 99 := by unfold sAppT; rw [hs', if_neg hz, toNat_nI (by omega), hV]
    simp [s_24, aILoad, aRLoad, aLLoad, aIStore, aRStore, aPush, aBin, aBinL, aShL, aUn, aIf, aIc, aGet, aPut, aIald, aBald, aAald, aIast, aBast, aAast, aAlen, aCopy, aCallV, aCallC, aCallI, aRet, aCat, aMax, aMin, aDiv, aRem, aI2l, aL2i, aNul, aSwS, aSw, aInc, aDup, aDup2, aPop1, aIret, aAret, aVret, aLen, aFk, aFT, Value.category, s1, hh, g1, hA, hv]
theorem k_gives1 {la : Nat} {σ : Nat → Int32} {a b c : Int32} (hL : isL la) (hR : relL I la σ 1) (hT : okTx σ 1 names1) : ∃ I1, aCall aMt (d + 3) 24 [.ref la, .int a, .int b, .int c] (HH I x y) = some (some (.int (sGuaT σ a b c)), HH I1 x y) ∧ ∀ j, j ≠ la + 3 → I1 j = I j := by
  obtain ⟨n, h60, hn, hs, hu, hE⟩ := hR
  have s1 := la_sh hL
  have hh := k_hasText (d := d + 1) (x := x) (y := y) hL hn (by omega)
  have hs' : σ 245 = nI n := hs
  rw [e_24]
  by_cases h0 : n = 0
  · subst h0
    rw [nI_lit0] at hs'
    rw [nI_lit1] at hu
    simp only [if_true] at hh
    refine ⟨I, ?_, fun _ _ => rfl⟩
    have hv := sMM (m := 99) (by decide) (10 * a + 20 * b)
    simp [s_24, aILoad, aRLoad, aLLoad, aIStore, aRStore, aPush, aBin, aBinL, aShL, aUn, aIf, aIc, aGet, aPut, aIald, aBald, aAald, aIast, aBast, aAast, aAlen, aCopy, aCallV, aCallC, aCallI, aRet, aCat, aMax, aMin, aDiv, aRem, aI2l, aL2i, aNul, aSwS, aSw, aInc, aDup, aDup2, aPop1, aIret, aAret, aVret, aLen, aFk, aFT, Value.category, s1, hh, hu, sGuaT, hs', hv]
  · have hw : wfT names1 (sTx σ 1) n := by
      obtain ⟨m, hm, hw⟩ := hT
      have h61 := okTx_lt hw
      have e : m = n := (nI_eq (by omega) (by omega)).mp (hm.symm.trans hs)
      subst e; exact hw.resolve_left h0
    obtain ⟨I1, g1, g2⟩ := k_worked (d := d) (x := x) (y := y) (nm := nmG a b c) (a := a) (b := b) (c := c) hL hn hw hE (fun v hv => by
      rcases hv with rfl | rfl | rfl <;> simp [idx, nmG])
    refine ⟨I1, ?_, g2⟩
    have hz : ¬ nI n = 0 := nI_ne0 (by omega) (by omega)
    have hv := sMM (m := 99) (by decide) ((ev (nmG a b c) (sTx σ 1) n).getD 0 0)
    generalize hV : (ev (nmG a b c) (sTx σ 1) n).getD 0 0 = V at *
    simp only [h0, if_false] at hh
    have hA : sGuaT σ a b c = sHeld V 0 99 := by unfold sGuaT; rw [hs', if_neg hz, toNat_nI (by omega), hV]
    simp [s_24, aILoad, aRLoad, aLLoad, aIStore, aRStore, aPush, aBin, aBinL, aShL, aUn, aIf, aIc, aGet, aPut, aIald, aBald, aAald, aIast, aBast, aAast, aAlen, aCopy, aCallV, aCallC, aCallI, aRet, aCat, aMax, aMin, aDiv, aRem, aI2l, aL2i, aNul, aSwS, aSw, aInc, aDup, aDup2, aPop1, aIret, aAret, aVret, aLen, aFk, aFT, Value.category, s1, hh, g1, hA, hv]
end CLS2
