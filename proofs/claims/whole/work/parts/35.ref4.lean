/-! the reference: APPEAL, GUARD, URGE, what one WANTS -/
def sHeld (v l m : Int32) : Int32 := if l ≤ v then (if v ≤ m then v else m) else l
def nmA (l o a : Int32) (v : Int32) : Int32 := if v = 97 then a else if v = 111 then o else l
def nmG (l s o : Int32) (v : Int32) : Int32 := if v = 111 then o else if v = 115 then s else l
def names0 (v : Int32) : Prop := v = 108 ∨ v = 111 ∨ v = 97
def names1 (v : Int32) : Prop := v = 108 ∨ v = 115 ∨ v = 111
def okTx (σ : Nat → Int32) (u : Nat) (names : Int32 → Prop) : Prop := ∃ n, σ (120 + 125 * u) = nI n ∧ (n = 0 ∨ wfT names (sTx σ u) n)
def sAppT (σ : Nat → Int32) (l o a : Int32) : Int32 := sHeld (if σ 120 = 0 then 20 + 10 * o - 3 * a else (ev (nmA l o a) (sTx σ 0) (σ 120).toNatClampNeg).getD 0 0) 0 99
def sGuaT (σ : Nat → Int32) (l s o : Int32) : Int32 := sHeld (if σ 245 = 0 then 10 * l + 20 * s else (ev (nmG l s o) (sTx σ 1) (σ 245).toNatClampNeg).getD 0 0) 0 99
def sApp (σ : Nat → Int32) (t : Nat) : Int32 := sAppT σ (σ (51 + 7 * t)) (σ (52 + 7 * t)) (σ (53 + 7 * t))
def sGua (σ : Nat → Int32) (t : Nat) (s : Int32) : Int32 := sGuaT σ (σ (51 + 7 * t)) s (σ (52 + 7 * t))
def sUrg (kind m hunger robbed suspect owner age ap : Int32) (own : Bool) : Int32 :=
  let asP := if own then 50 + hunger else 0
  let asT := if own then asP else (if 0 < ap + hunger / 2 - 20 then ap + hunger / 2 - 20 else 0)
  let asA := if own ∨ robbed = 0 then asP else 15 * robbed + ap / 2
  if kind = 1 then asT else if kind = 2 then asA else if kind = 3 then ap else if kind = 4 then asT + m else if kind = 5 then (if own ∨ owner = suspect then asA else 0) else if kind = 6 then (if m ≤ age then 30 else 0) else asP
def sUrge (σ : Nat → Int32) (p t : Nat) : Int32 := sUrg (σ (10 + 5 * p)) (σ (11 + 5 * p)) (σ (12 + 5 * p)) (σ (13 + 5 * p)) (σ (14 + 5 * p)) (σ (50 + 7 * t)) (σ (53 + 7 * t)) (sApp σ t) (decide (σ (50 + 7 * t) = nI p))
def sPull (σ : Nat → Int32) (p t : Nat) (s : Int32) : Int32 := sUrge σ p t - (if σ (50 + 7 * t) = nI p then 0 else sGua σ t s)
def sCan (σ : Nat → Int32) (t : Nat) : Bool := sTh σ t && decide (σ (54 + 7 * t) = 0)
/-- the best so far, and how much -/
def sBest (σ : Nat → Int32) (p : Nat) (s : Int32) : Nat → Int32 × Int32
  | 0 => (-1, 0)
  | t + 1 => let b := sBest σ p s t; let v := if sCan σ t then sPull σ p t s else 0; if b.2 < v then (nI t, v) else b
def sWant (σ : Nat → Int32) (p : Nat) (s : Int32) : Int32 := (sBest σ p s (σ 8).toNatClampNeg).1
def RF (I I1 : Nat → Nat → Int32) : Prop := ∀ j, j ≠ 119 → j ≠ 120 → I1 j = I j
theorem RF.rf {I : Nat → Nat → Int32} : RF I I := fun _ _ _ => rfl
theorem RF.trans {I I1 I2 : Nat → Nat → Int32} (h1 : RF I I1) (h2 : RF I1 I2) : RF I I2 := fun j a b => (h2 j a b).trans (h1 j a b)
def okT (σ : Nat → Int32) : Prop := okTx σ 0 names0 ∧ okTx σ 1 names1
section REF5
variable {d : Nat} {I : Nat → Nat → Int32} {x y : Option Nat}
theorem r_hasText {u n : Nat} (hu : u < 2) (hn : I 114 (120 + 125 * u) = nI n) (h60 : n < 2 ^ 31) : aCall aMt (d + 1) 142 [.ref 113, .int (nI u)] (HH I x y) = some (some (.int (if n = 0 then 0 else 1)), HH I x y) := by
  rw [e_142]
  have e : (120 : Int32) + 125 * nI u = nI (120 + 125 * u) := by rw [show (120 : Int32) = nI 120 from rfl, show (125 : Int32) = nI 125 from rfl, pk_mul, nI_add]
  by_cases h0 : n = 0
  · subst h0
    simp [s_142, aILoad, aRLoad, aLLoad, aIStore, aRStore, aPush, aBin, aBinL, aShL, aUn, aIf, aIc, aGet, aPut, aIald, aBald, aAald, aIast, aBast, aAast, aAlen, aCopy, aCallV, aCallC, aCallI, aRet, aCat, aMax, aMin, aDiv, aRem, aI2l, aL2i, aNul, aSwS, aSw, aInc, aDup, aDup2, aPop1, aIret, aAret, aVret, aLen, aFk, aFT, Value.category, m_sh, m_p, e, hn, nI_pos' (n := 120 + 125 * u) (by omega), toNat_nI (show 120 + 125 * u < 2 ^ 31 by omega), show 120 + 125 * u < 454 by omega, nI_lit0]
  · have h1 : ¬ nI n ≤ 0 := nI_nle (by omega) h60
    simp [s_142, aILoad, aRLoad, aLLoad, aIStore, aRStore, aPush, aBin, aBinL, aShL, aUn, aIf, aIc, aGet, aPut, aIald, aBald, aAald, aIast, aBast, aAast, aAlen, aCopy, aCallV, aCallC, aCallI, aRet, aCat, aMax, aMin, aDiv, aRem, aI2l, aL2i, aNul, aSwS, aSw, aInc, aDup, aDup2, aPop1, aIret, aAret, aVret, aLen, aFk, aFT, Value.category, m_sh, m_p, e, hn, h0, h1, nI_pos' (n := 120 + 125 * u) (by omega), toNat_nI (show 120 + 125 * u < 2 ^ 31 by omega), show 120 + 125 * u < 454 by omega]
theorem okTx_lt {σ : Nat → Int32} {u n : Nat} {names : Int32 → Prop} (h : n = 0 ∨ wfT names (sTx σ u) n) : n ≤ 60 := by
  rcases h with h | h
  · omega
  · exact h.2.2
theorem r_appT {l o a : Int32} (hT : okTx (I 114) 0 names0) : ∃ I1, aCall aMt (d + 3) 147 [.ref 113, .int l, .int o, .int a] (HH I x y) = some (some (.int (sAppT (I 114) l o a)), HH I1 x y) ∧ RF I I1 := by
  obtain ⟨n, hn, hw⟩ := hT
  have hn' : I 114 120 = nI n := hn
  have h60 := okTx_lt hw
  rw [e_147]
  by_cases h0 : n = 0
  · subst h0
    have hh := r_hasText (d := d + 1) (x := x) (y := y) (I := aUpd (aUpd (aUpd I 119 108 l) 119 111 o) 119 97 a) (u := 0) (n := 0) (by omega) (by rw [aUpd_ne (by decide), aUpd_ne (by decide), aUpd_ne (by decide)]; exact hn) (by omega)
    rw [nI_lit0] at hh
    refine ⟨aUpd (aUpd (aUpd I 119 108 l) 119 111 o) 119 97 a, ?_, fun j h1 _ => by rw [aUpd_ne h1, aUpd_ne h1, aUpd_ne h1]⟩
    simp [s_147, aILoad, aRLoad, aLLoad, aIStore, aRStore, aPush, aBin, aBinL, aShL, aUn, aIf, aIc, aGet, aPut, aIald, aBald, aAald, aIast, aBast, aAast, aAlen, aCopy, aCallV, aCallC, aCallI, aRet, aCat, aMax, aMin, aDiv, aRem, aI2l, aL2i, aNul, aSwS, aSw, aInc, aDup, aDup2, aPop1, aIret, aAret, aVret, aLen, aFk, aFT, Value.category, m_sh, m_p, hh, r_held, sAppT, hn', nI_lit0, sHeld]
  · obtain ⟨I1, h1, h2⟩ := r_worked (d := d) (x := x) (y := y) (I := aUpd (aUpd (aUpd I 119 108 l) 119 111 o) 119 97 a) (u := 0) (n := n) (names := names0) (nm := nmA l o a) (by omega) (by rw [aUpd_ne (by decide), aUpd_ne (by decide), aUpd_ne (by decide)]; exact hn) (by rw [aUpd_ne (by decide), aUpd_ne (by decide), aUpd_ne (by decide)]; exact hw.resolve_left h0) (fun v hv => by
      rcases hv with rfl | rfl | rfl
      · exact ⟨by decide, by decide, by rw [show (108 : Int32).toNatClampNeg = 108 from rfl]; simp [aUpd, upd, nmA]⟩
      · exact ⟨by decide, by decide, by rw [show (111 : Int32).toNatClampNeg = 111 from rfl]; simp [aUpd, upd, nmA]⟩
      · exact ⟨by decide, by decide, by rw [show (97 : Int32).toNatClampNeg = 97 from rfl]; simp [aUpd, upd, nmA]⟩)
    rw [aUpd_ne (by decide), aUpd_ne (by decide), aUpd_ne (by decide), nI_lit0] at h1
    have hh := r_hasText (d := d + 1) (x := x) (y := y) (I := aUpd (aUpd (aUpd I 119 108 l) 119 111 o) 119 97 a) (u := 0) (n := n) (by omega) (by rw [aUpd_ne (by decide), aUpd_ne (by decide), aUpd_ne (by decide)]; exact hn) (by omega)
    rw [nI_lit0] at hh
    refine ⟨I1, ?_, fun j g1 g2 => by rw [h2 j g2, aUpd_ne g1, aUpd_ne g1, aUpd_ne g1]⟩
    have hz : ¬ nI n = 0 := nI_ne0 (by omega) (by omega)
    simp [s_147, aILoad, aRLoad, aLLoad, aIStore, aRStore, aPush, aBin, aBinL, aShL, aUn, aIf, aIc, aGet, aPut, aIald, aBald, aAald, aIast, aBast, aAast, aAlen, aCopy, aCallV, aCallC, aCallI, aRet, aCat, aMax, aMin, aDiv, aRem, aI2l, aL2i, aNul, aSwS, aSw, aInc, aDup, aDup2, aPop1, aIret, aAret, aVret, aLen, aFk, aFT, Value.category, m_sh, m_p, hh, h0, h1, r_held, sAppT, hn', hz, sHeld, toNat_nI (show n < 2 ^ 31 by omega)]
theorem r_guaT {l s o : Int32} (hT : okTx (I 114) 1 names1) : ∃ I1, aCall aMt (d + 3) 148 [.ref 113, .int l, .int s, .int o] (HH I x y) = some (some (.int (sGuaT (I 114) l s o)), HH I1 x y) ∧ RF I I1 := by
  obtain ⟨n, hn, hw⟩ := hT
  have hn' : I 114 245 = nI n := hn
  have h60 := okTx_lt hw
  rw [e_148]
  by_cases h0 : n = 0
  · subst h0
    have hh := r_hasText (d := d + 1) (x := x) (y := y) (I := aUpd (aUpd (aUpd I 119 108 l) 119 115 s) 119 111 o) (u := 1) (n := 0) (by omega) (by rw [aUpd_ne (by decide), aUpd_ne (by decide), aUpd_ne (by decide)]; exact hn) (by omega)
    rw [nI_lit1] at hh
    refine ⟨aUpd (aUpd (aUpd I 119 108 l) 119 115 s) 119 111 o, ?_, fun j h1 _ => by rw [aUpd_ne h1, aUpd_ne h1, aUpd_ne h1]⟩
    simp [s_148, aILoad, aRLoad, aLLoad, aIStore, aRStore, aPush, aBin, aBinL, aShL, aUn, aIf, aIc, aGet, aPut, aIald, aBald, aAald, aIast, aBast, aAast, aAlen, aCopy, aCallV, aCallC, aCallI, aRet, aCat, aMax, aMin, aDiv, aRem, aI2l, aL2i, aNul, aSwS, aSw, aInc, aDup, aDup2, aPop1, aIret, aAret, aVret, aLen, aFk, aFT, Value.category, m_sh, m_p, hh, r_held, sGuaT, hn', nI_lit0, sHeld]
  · obtain ⟨I1, h1, h2⟩ := r_worked (d := d) (x := x) (y := y) (I := aUpd (aUpd (aUpd I 119 108 l) 119 115 s) 119 111 o) (u := 1) (n := n) (names := names1) (nm := nmG l s o) (by omega) (by rw [aUpd_ne (by decide), aUpd_ne (by decide), aUpd_ne (by decide)]; exact hn) (by rw [aUpd_ne (by decide), aUpd_ne (by decide), aUpd_ne (by decide)]; exact hw.resolve_left h0) (fun v hv => by
      rcases hv with rfl | rfl | rfl
      · exact ⟨by decide, by decide, by rw [show (108 : Int32).toNatClampNeg = 108 from rfl]; simp [aUpd, upd, nmG]⟩
      · exact ⟨by decide, by decide, by rw [show (115 : Int32).toNatClampNeg = 115 from rfl]; simp [aUpd, upd, nmG]⟩
      · exact ⟨by decide, by decide, by rw [show (111 : Int32).toNatClampNeg = 111 from rfl]; simp [aUpd, upd, nmG]⟩)
    rw [aUpd_ne (by decide), aUpd_ne (by decide), aUpd_ne (by decide), nI_lit1] at h1
    have hh := r_hasText (d := d + 1) (x := x) (y := y) (I := aUpd (aUpd (aUpd I 119 108 l) 119 115 s) 119 111 o) (u := 1) (n := n) (by omega) (by rw [aUpd_ne (by decide), aUpd_ne (by decide), aUpd_ne (by decide)]; exact hn) (by omega)
    rw [nI_lit1] at hh
    refine ⟨I1, ?_, fun j g1 g2 => by rw [h2 j g2, aUpd_ne g1, aUpd_ne g1, aUpd_ne g1]⟩
    have hz : ¬ nI n = 0 := nI_ne0 (by omega) (by omega)
    simp [s_148, aILoad, aRLoad, aLLoad, aIStore, aRStore, aPush, aBin, aBinL, aShL, aUn, aIf, aIc, aGet, aPut, aIald, aBald, aAald, aIast, aBast, aAast, aAlen, aCopy, aCallV, aCallC, aCallI, aRet, aCat, aMax, aMin, aDiv, aRem, aI2l, aL2i, aNul, aSwS, aSw, aInc, aDup, aDup2, aPop1, aIret, aAret, aVret, aLen, aFk, aFT, Value.category, m_sh, m_p, hh, h0, h1, r_held, sGuaT, hn', hz, sHeld, toNat_nI (show n < 2 ^ 31 by omega)]
end REF5
