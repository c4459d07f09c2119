/-! the calls in pairs: text, the end -/
section TEXT8
variable {d : Nat} {I : Nat → Nat → Int32} {x y : Option Nat}
theorem parse_two {f L u nm : Nat} {rb : Nat → Int32} (hf : isF f) (hX : pX f L (tI I L) rb) (hY : pY L (tI I L) rb) (hu : u = 0 ∧ nm = 2001 ∨ u = 1 ∧ nm = 2002) : ∃ (b : Bool) (a : Nat) (I1 : Nat → Nat → Int32), a ≤ L ∧ I1 94 3 = nI a ∧ I1 94 2 = nI L ∧ (∀ r, r ≠ 94 → r ≠ 95 → r ≠ 96 → r ≠ 97 → I1 r = I r) ∧
    aCall aMt (d + 98) 39 [.ref 94, .int 0, .int 0] (HH (tI I L) (some (f + 11)) (some nm)) = some (some (.int (if b then 1 else 0)), HH I1 (some (f + 11)) (some nm)) ∧
    ∀ Y, pY L Y rb → ∃ s, (b = true → s.length ≤ a ∧ okL u 0 s 1 ∧ CS u L (tI I L) a s I1) ∧ ∀ (J : Nat → Nat → Int32) (x y : Option Nat), RS u Y 0 0 [] J → ∃ J1, aCall aMt (d + 99) 135 [.ref 113] (HH J x y) = some (some (.int (if b then 1 else 0)), HH J1 x y) ∧ RFl Y a J1 ∧ (b = true → RS u Y a 0 s J1) := by
  have hL := hX.1
  obtain ⟨b, a, s0, p1, p2, p3, kc, _⟩ := (parse_all hf hX hY hu (L * 20 + 10)).2 0 0 0 (by omega) (by omega) (by omega) (by omega)
  rw [nI_lit0] at kc
  obtain ⟨I1, k1, k2⟩ := kc (d + 98) [] (tI I L) (by omega) (by simp) tI_ok
  have k3 : CF L (tI I L) a I1 := by
    cases b with
    | false => exact k2
    | true => exact CS.f k2
  refine ⟨b, a, I1, p2, k3.1, k3.2.1, fun r q1 q2 q3 q4 => (k3.2.2 r q1 q2 q3 q4).trans (tI_ne q1 q2), k1, fun Y hY2 => ?_⟩
  obtain ⟨b', a', s, r1, r2, r3, kc', kr⟩ := (parse_all hf hX hY2 hu (L * 20 + 10)).2 0 0 0 (by omega) (by omega) (by omega) (by omega)
  rw [nI_lit0] at kc'
  obtain ⟨I1', k1', k2'⟩ := kc' (d + 98) [] (tI I L) (by omega) (by simp) tI_ok
  have e := k1.symm.trans k1'
  have eb : b = b' := by
    cases b <;> cases b' <;> first | rfl | (exfalso; revert e; simp)
  subst eb
  have eI : I1 = I1' := by
    have e2 := congrArg (fun (z : aRs) => (z.map fun w => w.2.2.1)) e
    exact Option.some.inj e2
  subst eI
  have k3' : CF L (tI I L) a' I1 := by
    cases b with
    | false => exact k2'
    | true => exact CS.f k2'
  have ea : a = a' := (nI_eq (by omega) (by omega)).mp (k3.1.symm.trans k3'.1)
  subst ea
  refine ⟨s, fun hb => ?_, fun J x y hJ => ?_⟩
  · subst hb
    exact ⟨by have := (r3 rfl).2.1; omega, (r3 rfl).2.2 0, k2'⟩
  · obtain ⟨J1, j1, j2⟩ := kr (d + 99) [] J x y (by omega) (by simp) hJ
    refine ⟨J1, j1, ?_, fun hb => by subst hb; exact j2⟩
    cases b with
    | false => exact j2
    | true => exact RS.f j2
theorem r_text_loop {n to : Nat} {u : Int32} {g : Option Value} {J : Nat → Nat → Int32} (hn : n ≤ 60) (ht : to ≤ 245) (h7 : J 113 7 = nI n) : ∀ k i, i + k = 2 * n →
    aGo (aCall aMt d) none cd_143 0 101 [some (.ref 113), some (.int u), g, some (.int (nI to)), some (.int (nI i))] [] (HH (aCpy J 118 114 0 (to + 1) i) x y) = some (some (.int 1), HH (aCpy J 118 114 0 (to + 1) (2 * n)) x y) := by
  intro k
  have e7 : ∀ i, aCpy J 118 114 0 (to + 1) i 113 7 = nI n := fun i => by rw [cpy_ne (by omega)]; exact h7
  have e8 : ∀ i, aCpy J 118 114 0 (to + 1) i 118 = J 118 := fun i => cpy_ne (by omega)
  have iz : (2 : Int32) * nI n = nI (2 * n) := pk_mul 2 n
  induction k with
  | zero =>
    intro i hi
    obtain rfl : i = 2 * n := by omega
    rw [s_143_101]
    simp [s_143, aILoad, aRLoad, aLLoad, aIStore, aRStore, aPush, aBin, aBinL, aShL, aUn, aIf, aIc, aGet, aPut, aIald, aBald, aAald, aIast, aBast, aAast, aAlen, aCopy, aCallV, aCallC, aCallI, aRet, aCat, aMax, aMin, aDiv, aRem, aI2l, aL2i, aNul, aSwS, aSw, aInc, aDup, aDup2, aPop1, aIret, aAret, aVret, aLen, aFk, aFT, Value.category, m_sh, m_p, e7, iz]
  | succ k ih =>
    intro i hi
    have g1 : ¬ nI (2 * n) ≤ nI i := nI_ge (by omega) (by omega)
    have iy : nI (to + 1) + nI i = nI (to + 1 + i) := nI_add _ _
    have cs : aUpd (aCpy J 118 114 0 (to + 1) i) 114 (to + 1 + i) (J 118 i) = aCpy J 118 114 0 (to + 1) (i + 1) := by
      have := aCpy_s (I := J) (a := 118) (b := 114) (sp := 0) (dp := to + 1) (n := i)
      rwa [Nat.zero_add] at this
    rw [s_143_101, ← ih (i + 1) (by omega)]
    simp [s_143, aILoad, aRLoad, aLLoad, aIStore, aRStore, aPush, aBin, aBinL, aShL, aUn, aIf, aIc, aGet, aPut, aIald, aBald, aAald, aIast, aBast, aAast, aAlen, aCopy, aCallV, aCallC, aCallI, aRet, aCat, aMax, aMin, aDiv, aRem, aI2l, aL2i, aNul, aSwS, aSw, aInc, aDup, aDup2, aPop1, aIret, aAret, aVret, aLen, aFk, aFT, Value.category, m_sh, m_p, e7, e8, iz, g1, iy, nI_1, toNat_nI (show i < 2 ^ 31 by omega), nI_lt0 (show i < 2 ^ 31 by omega), toNat_nI (show to + 1 + i < 2 ^ 31 by omega), nI_lt0 (show to + 1 + i < 2 ^ 31 by omega), show ¬ 454 ≤ to + 1 + i by omega, show ¬ 124 ≤ i by omega, cs]
end TEXT8
