/-! TEXTS: the two readers read alike -/
section TEXT6
variable {f L u nm : Nat} {X Y : Nat → Nat → Int32} {rb : Nat → Int32}
/-- at the head of a loop -/
def PL (f L u nm : Nat) (X Y : Nat → Nat → Int32) (l o a : Nat) : Prop := ∃ (b : Bool) (a' : Nat) (s : List (Int32 × Int32)), a ≤ a' ∧ a' ≤ L ∧ (b = true → s.length ≤ a' - a ∧ ∀ D, okL u (D + 1) s (D + 1)) ∧
  (∀ (dd : Nat) (st : List (Int32 × Int32)) (I : Nat → Nat → Int32) (c : Option Value), (5 - o) * 8 + 8 + (5 - l) ≤ dd → st.length ≤ a → CS u L X a st I → ∃ I1, aGo (aCall aMt dd) none cd_39 1 24 [some (.ref 94), some (.int (nI l)), some (.int (nI o)), c] [] (HH I (some (f + 11)) (some nm)) = some (some (.int (if b then 1 else 0)), HH I1 (some (f + 11)) (some nm)) ∧ (if b = true then CS u L X a' (st ++ s) I1 else CF L X a' I1)) ∧
  (∀ (dd : Nat) (st : List (Int32 × Int32)) (J : Nat → Nat → Int32) (x y : Option Nat) (c : Option Value), (5 - o) * 6 + 6 + (4 - l) ≤ dd → st.length ≤ a → RS u Y a o st J → ∃ J1, rGo l dd c (HH J x y) = some (some (.int (if b then 1 else 0)), HH J1 x y) ∧ (if b = true then RS u Y a' o (st ++ s) J1 else RFl Y a' J1))
theorem okL_sg {D : Nat} {c : Int32} (h : ¬ plv c = 9) : okL u (D + 1 + 1) [(3, c)] (D + 1) := Or.inr (Or.inr (Or.inr ⟨rfl, by omega, (plv_sign h).1, by show D + 1 + 1 - 1 = D + 1; omega⟩))
theorem PL_all {l o a0 : Nat} (hf : isF f) (hX : pX f L X rb) (hY : pY L Y rb) (hl : l = 0 ∨ l = 1 ∨ l = 3 ∨ l = 4) (hS : ∀ a, a0 < a → a ≤ L → PC f L u nm X Y (l + 1) o a) : ∀ k a, a0 ≤ a → a ≤ L → L - a ≤ k → PL f L u nm X Y l o a := by
  have hL := hX.1
  intro k
  have stop : ∀ a, a ≤ L → ¬ plv (lk rb L a) = l → PL f L u nm X Y l o a := by
    intro a ha h
    refine ⟨true, a, [], Nat.le_refl a, ha, fun _ => ⟨by simp, fun D => rfl⟩, fun dd st I c hdd hst hI => ⟨I, ?_, ?_⟩, fun dd st J x y c hdd hst hJ => ⟨J, ?_, ?_⟩⟩
    · obtain ⟨d, rfl⟩ : ∃ d, dd = d + 1 := ⟨dd - 1, by omega⟩
      exact kGo_no hf hX ha (by omega) hI h
    · rw [if_pos rfl, List.append_nil]; exact hI
    · obtain ⟨d, rfl⟩ : ∃ d, dd = d + 1 := ⟨dd - 1, by omega⟩
      exact rGo_no hY ha hl hJ h
    · rw [if_pos rfl, List.append_nil]; exact hJ
  induction k with
  | zero =>
    intro a h0 ha hk
    have e : lk rb L a = -1 := if_neg (by omega)
    exact stop a ha (by rw [e, show plv (-1) = 9 by decide]; omega)
  | succ k ih =>
    intro a h0 ha hk
    by_cases h : plv (lk rb L a) = l
    · have h9 : ¬ plv (lk rb L a) = 9 := by omega
      have hlt : a < L := Classical.byContradiction fun z => h9 (by rw [show lk rb L a = -1 from if_neg z]; decide)
      obtain ⟨b1, a1, s1, q1, q2, q3, kc, kr⟩ := hS (a + 1) (by omega) (by omega)
      cases b1 with
      | false =>
        refine ⟨false, a1, [], by omega, q2, (fun z => by cases z), fun dd st I c hdd hst hI => ?_, fun dd st J x y c hdd hst hJ => ?_⟩
        · obtain ⟨d, rfl⟩ : ∃ d, dd = d + 1 := ⟨dd - 1, by omega⟩
          obtain ⟨I1, r1, r2⟩ := kc (d + 1) st _ (by omega) (by omega) (hI.at (b := a + 1))
          exact ⟨I1, kGo_f hf hX hlt (by omega) hI h r1, r2⟩
        · obtain ⟨d, rfl⟩ : ∃ d, dd = d + 1 := ⟨dd - 1, by omega⟩
          obtain ⟨J1, r1, r2⟩ := kr (d + 1) st _ x y (by omega) (by omega) (hJ.at (b := a + 1))
          exact ⟨J1, rGo_f hY ha hl hJ h r1, r2⟩
      | true =>
        have q4 := q3 rfl
        obtain ⟨b2, a2, s2, p1, p2, p3, kc2, kr2⟩ := ih a1 (by omega) q2 (by omega)
        refine ⟨b2, a2, s1 ++ [(3, lk rb L a)] ++ s2, by omega, p2, fun hb => ⟨?_, fun D => ?_⟩, fun dd st I c hdd hst hI => ?_, fun dd st J x y c hdd hst hJ => ?_⟩
        · have := (p3 hb).1
          rw [List.length_append, List.length_append, List.length_singleton]; omega
        · exact okL_app (okL_app (q4.2.2 (D + 1)) (okL_sg h9)) ((p3 hb).2 D)
        · obtain ⟨d, rfl⟩ : ∃ d, dd = d + 1 := ⟨dd - 1, by omega⟩
          obtain ⟨I1, r1, r2⟩ := kc (d + 1) st _ (by omega) (by omega) (hI.at (b := a + 1))
          rw [if_pos rfl] at r2
          have ka := k_app (d := d) (x := some (f + 11)) (y := some nm) (s := (3, lk rb L a)) r2 (by rw [List.length_append]; omega)
          have h5 := r2.app (s := (3, lk rb L a))
          rw [show (cS u (3, lk rb L a)).1 = lk rb L a from rfl, show (cS u (3, lk rb L a)).2 = 0 from rfl] at ka h5
          have kg := kGo_t (c := c) hf hX hlt (by omega) hI h r1 ka
          rw [if_neg (show ¬ l = 2 by omega)] at kg
          obtain ⟨I2, t1, t2⟩ := kc2 (d + 1) _ _ (some (.int (lk rb L a))) (by omega) (by rw [List.length_append, List.length_append, List.length_singleton]; omega) h5
          refine ⟨I2, kg.trans t1, ?_⟩
          rw [← List.append_assoc, ← List.append_assoc]; exact t2
        · obtain ⟨d, rfl⟩ : ∃ d, dd = d + 1 := ⟨dd - 1, by omega⟩
          obtain ⟨J1, r1, r2⟩ := kr (d + 1) st _ x y (by omega) (by omega) (hJ.at (b := a + 1))
          rw [if_pos rfl] at r2
          have rs := r_step1 (d := d) (x := x) (y := y) (w := 3) (v := lk rb L a) r2 (by rw [List.length_append]; omega)
          obtain ⟨c', kg⟩ := rGo_t (c := c) hY ha hl hJ h r1 rs
          obtain ⟨J2, t1, t2⟩ := kr2 (d + 1) _ _ x y c' (by omega) (by rw [List.length_append, List.length_append, List.length_singleton]; omega) (r2.app (w := 3) (v := lk rb L a))
          refine ⟨J2, kg.trans t1, ?_⟩
          rw [← List.append_assoc, ← List.append_assoc]; exact t2
    · exact stop a ha h
theorem PC_5 {o a : Nat} (h : PO f L u nm X Y o a) : PC f L u nm X Y 5 o a := by
  obtain ⟨b, a', s, h1, h2, h3, kc, kr⟩ := h
  refine ⟨b, a', s, h1, h2, h3, fun dd st I hdd hst hI => ?_, fun dd st J x y hdd hst hJ => ?_⟩
  · obtain ⟨d, rfl⟩ : ∃ d, dd = d + 1 := ⟨dd - 1, by omega⟩
    obtain ⟨I1, r1, r2⟩ := kc d st I (by omega) hst hI
    refine ⟨I1, ?_, r2⟩
    have g5 : (5 : Int32) ≤ nI 5 := by decide
    have g6 : ¬ nI 5 < (5 : Int32) := by decide
    rw [e_39, ← r1]
    cases b <;> simp [s_39, aILoad, aRLoad, aLLoad, aIStore, aRStore, aPush, aBin, aBinL, aShL, aUn, aIf, aIc, aGet, aPut, aIald, aBald, aAald, aIast, aBast, aAast, aAlen, aCopy, aCallV, aCallC, aCallI, aRet, aCat, aMax, aMin, aDiv, aRem, aI2l, aL2i, aNul, aSwS, aSw, aInc, aDup, aDup2, aPop1, aIret, aAret, aVret, aLen, aFk, aFT, Value.category, c_sh, g5, g6, r1]
  · exact kr dd st J x y (by omega) hst hJ
theorem PC_l {l o a : Nat} (hf : isF f) (hX : pX f L X rb) (hY : pY L Y rb) (ha : a ≤ L) (hl : l = 0 ∨ l = 1 ∨ l = 3 ∨ l = 4) (hS : ∀ a1, a ≤ a1 → a1 ≤ L → PC f L u nm X Y (l + 1) o a1) : PC f L u nm X Y l o a := by
  have hL := hX.1
  have g5 : ¬ (5 : Int32) ≤ nI l := nI_ge (b := 5) (by omega) (by omega)
  obtain ⟨b1, a1, s1, q1, q2, q3, kc, kr⟩ := hS a (Nat.le_refl a) ha
  have kst : ∀ (d : Nat) (I I1 : Nat → Nat → Int32) (v : Int32), aCall aMt (d + 1) 39 [.ref 94, .int (nI (l + 1)), .int (nI o)] (HH I (some (f + 11)) (some nm)) = some (some (.int v), HH I1 (some (f + 11)) (some nm)) → (v = 0 → aCall aMt (d + 2) 39 [.ref 94, .int (nI l), .int (nI o)] (HH I (some (f + 11)) (some nm)) = some (some (.int 0), HH I1 (some (f + 11)) (some nm))) ∧ (v = 1 → aCall aMt (d + 2) 39 [.ref 94, .int (nI l), .int (nI o)] (HH I (some (f + 11)) (some nm)) = aGo (aCall aMt (d + 1)) none cd_39 1 24 [some (.ref 94), some (.int (nI l)), some (.int (nI o)), none] [] (HH I1 (some (f + 11)) (some nm))) := by
    intro d I I1 v hc
    refine ⟨fun hv => ?_, fun hv => ?_⟩
    · subst hv; rw [e_39]; simp [s_39, aILoad, aRLoad, aLLoad, aIStore, aRStore, aPush, aBin, aBinL, aShL, aUn, aIf, aIc, aGet, aPut, aIald, aBald, aAald, aIast, aBast, aAast, aAlen, aCopy, aCallV, aCallC, aCallI, aRet, aCat, aMax, aMin, aDiv, aRem, aI2l, aL2i, aNul, aSwS, aSw, aInc, aDup, aDup2, aPop1, aIret, aAret, aVret, aLen, aFk, aFT, Value.category, c_sh, g5, nI_1, hc]
    · subst hv; rw [e_39]; simp [s_39, aILoad, aRLoad, aLLoad, aIStore, aRStore, aPush, aBin, aBinL, aShL, aUn, aIf, aIc, aGet, aPut, aIald, aBald, aAald, aIast, aBast, aAast, aAlen, aCopy, aCallV, aCallC, aCallI, aRet, aCat, aMax, aMin, aDiv, aRem, aI2l, aL2i, aNul, aSwS, aSw, aInc, aDup, aDup2, aPop1, aIret, aAret, aVret, aLen, aFk, aFT, Value.category, c_sh, g5, nI_1, hc]
  have rst : ∀ (d : Nat) (J J1 : Nat → Nat → Int32) (x y : Option Nat) (v : Int32), aCall aMt (d + 1) (rM (l + 1)) [.ref 113] (HH J x y) = some (some (.int v), HH J1 x y) → (v = 0 → aCall aMt (d + 2) (rM l) [.ref 113] (HH J x y) = some (some (.int 0), HH J1 x y)) ∧ (v = 1 → aCall aMt (d + 2) (rM l) [.ref 113] (HH J x y) = rGo l (d + 1) none (HH J1 x y)) := by
    intro d J J1 x y v hc
    unfold rGo
    rcases hl with rfl | rfl | rfl | rfl
    · rw [show rM (0 + 1) = 136 from rfl] at hc
      rw [show rM 0 = 135 from rfl]
      refine ⟨fun hv => ?_, fun hv => ?_⟩ <;> (subst hv; rw [e_135]; simp [s_135, aILoad, aRLoad, aLLoad, aIStore, aRStore, aPush, aBin, aBinL, aShL, aUn, aIf, aIc, aGet, aPut, aIald, aBald, aAald, aIast, aBast, aAast, aAlen, aCopy, aCallV, aCallC, aCallI, aRet, aCat, aMax, aMin, aDiv, aRem, aI2l, aL2i, aNul, aSwS, aSw, aInc, aDup, aDup2, aPop1, aIret, aAret, aVret, aLen, aFk, aFT, Value.category, m_sh, hc])
    · rw [show rM (1 + 1) = 137 from rfl] at hc
      rw [show rM 1 = 136 from rfl]
      refine ⟨fun hv => ?_, fun hv => ?_⟩ <;> (subst hv; rw [e_136]; simp [s_136, aILoad, aRLoad, aLLoad, aIStore, aRStore, aPush, aBin, aBinL, aShL, aUn, aIf, aIc, aGet, aPut, aIald, aBald, aAald, aIast, aBast, aAast, aAlen, aCopy, aCallV, aCallC, aCallI, aRet, aCat, aMax, aMin, aDiv, aRem, aI2l, aL2i, aNul, aSwS, aSw, aInc, aDup, aDup2, aPop1, aIret, aAret, aVret, aLen, aFk, aFT, Value.category, m_sh, hc])
    · rw [show rM (3 + 1) = 139 from rfl] at hc
      rw [show rM 3 = 138 from rfl]
      refine ⟨fun hv => ?_, fun hv => ?_⟩ <;> (subst hv; rw [e_138]; simp [s_138, aILoad, aRLoad, aLLoad, aIStore, aRStore, aPush, aBin, aBinL, aShL, aUn, aIf, aIc, aGet, aPut, aIald, aBald, aAald, aIast, aBast, aAast, aAlen, aCopy, aCallV, aCallC, aCallI, aRet, aCat, aMax, aMin, aDiv, aRem, aI2l, aL2i, aNul, aSwS, aSw, aInc, aDup, aDup2, aPop1, aIret, aAret, aVret, aLen, aFk, aFT, Value.category, m_sh, hc])
    · rw [show rM (4 + 1) = 141 from rfl] at hc
      rw [show rM 4 = 139 from rfl]
      refine ⟨fun hv => ?_, fun hv => ?_⟩ <;> (subst hv; rw [e_139]; simp [s_139, aILoad, aRLoad, aLLoad, aIStore, aRStore, aPush, aBin, aBinL, aShL, aUn, aIf, aIc, aGet, aPut, aIald, aBald, aAald, aIast, aBast, aAast, aAlen, aCopy, aCallV, aCallC, aCallI, aRet, aCat, aMax, aMin, aDiv, aRem, aI2l, aL2i, aNul, aSwS, aSw, aInc, aDup, aDup2, aPop1, aIret, aAret, aVret, aLen, aFk, aFT, Value.category, m_sh, hc])
  cases b1 with
  | false =>
    refine ⟨false, a1, [], q1, q2, (fun z => by cases z), fun dd st I hdd hst hI => ?_, fun dd st J x y hdd hst hJ => ?_⟩
    · obtain ⟨d, rfl⟩ : ∃ d, dd = d + 2 := ⟨dd - 2, by omega⟩
      obtain ⟨I1, r1, r2⟩ := kc (d + 1) st I (by omega) hst hI
      exact ⟨I1, (kst d I I1 0 r1).1 rfl, r2⟩
    · obtain ⟨d, rfl⟩ : ∃ d, dd = d + 2 := ⟨dd - 2, by omega⟩
      obtain ⟨J1, r1, r2⟩ := kr (d + 1) st J x y (by omega) hst hJ
      exact ⟨J1, (rst d J J1 x y 0 r1).1 rfl, r2⟩
  | true =>
    have q4 := q3 rfl
    obtain ⟨b2, a2, s2, p1, p2, p3, kc2, kr2⟩ := PL_all (a0 := a) hf hX hY hl (fun a3 h3 h4 => hS a3 (by omega) h4) L a1 (by omega) q2 (by omega)
    refine ⟨b2, a2, s1 ++ s2, by omega, p2, fun hb => ⟨by omega, ?_, fun D => ?_⟩, fun dd st I hdd hst hI => ?_, fun dd st J x y hdd hst hJ => ?_⟩
    · have := (p3 hb).1
      rw [List.length_append]; omega
    · exact okL_app (q4.2.2 D) ((p3 hb).2 D)
    · obtain ⟨d, rfl⟩ : ∃ d, dd = d + 2 := ⟨dd - 2, by omega⟩
      obtain ⟨I1, r1, r2⟩ := kc (d + 1) st I (by omega) hst hI
      rw [if_pos rfl] at r2
      obtain ⟨I2, t1, t2⟩ := kc2 (d + 1) _ I1 none (by omega) (by rw [List.length_append]; omega) r2
      exact ⟨I2, ((kst d I I1 1 r1).2 rfl).trans t1, by rw [← List.append_assoc]; exact t2⟩
    · obtain ⟨d, rfl⟩ : ∃ d, dd = d + 2 := ⟨dd - 2, by omega⟩
      obtain ⟨J1, r1, r2⟩ := kr (d + 1) st J x y (by omega) hst hJ
      rw [if_pos rfl] at r2
      obtain ⟨J2, t1, t2⟩ := kr2 (d + 1) _ J1 x y none (by omega) (by rw [List.length_append]; omega) r2
      exact ⟨J2, ((rst d J J1 x y 1 r1).2 rfl).trans t1, by rw [← List.append_assoc]; exact t2⟩
theorem PC_2 {o a : Nat} (hf : isF f) (hX : pX f L X rb) (hY : pY L Y rb) (ha : a ≤ L) (hS : ∀ a1, a ≤ a1 → a1 ≤ L → PC f L u nm X Y 3 o a1) : PC f L u nm X Y 2 o a := by
  have hL := hX.1
  have g5 : ¬ (5 : Int32) ≤ nI 2 := by decide
  obtain ⟨b1, a1, s1, q1, q2, q3, kc, kr⟩ := hS a (Nat.le_refl a) ha
  have kst : ∀ (d : Nat) (I I1 : Nat → Nat → Int32) (v : Int32), aCall aMt (d + 1) 39 [.ref 94, .int (nI 3), .int (nI o)] (HH I (some (f + 11)) (some nm)) = some (some (.int v), HH I1 (some (f + 11)) (some nm)) → (v = 0 → aCall aMt (d + 2) 39 [.ref 94, .int (nI 2), .int (nI o)] (HH I (some (f + 11)) (some nm)) = some (some (.int 0), HH I1 (some (f + 11)) (some nm))) ∧ (v = 1 → aCall aMt (d + 2) 39 [.ref 94, .int (nI 2), .int (nI o)] (HH I (some (f + 11)) (some nm)) = aGo (aCall aMt (d + 1)) none cd_39 1 24 [some (.ref 94), some (.int (nI 2)), some (.int (nI o)), none] [] (HH I1 (some (f + 11)) (some nm))) := by
    intro d I I1 v hc
    have e3 : nI 2 + 1 = nI 3 := nI_1 2
    refine ⟨fun hv => ?_, fun hv => ?_⟩
    · subst hv; rw [e_39]; simp [s_39, aILoad, aRLoad, aLLoad, aIStore, aRStore, aPush, aBin, aBinL, aShL, aUn, aIf, aIc, aGet, aPut, aIald, aBald, aAald, aIast, aBast, aAast, aAlen, aCopy, aCallV, aCallC, aCallI, aRet, aCat, aMax, aMin, aDiv, aRem, aI2l, aL2i, aNul, aSwS, aSw, aInc, aDup, aDup2, aPop1, aIret, aAret, aVret, aLen, aFk, aFT, Value.category, c_sh, g5, e3, hc]
    · subst hv; rw [e_39]; simp [s_39, aILoad, aRLoad, aLLoad, aIStore, aRStore, aPush, aBin, aBinL, aShL, aUn, aIf, aIc, aGet, aPut, aIald, aBald, aAald, aIast, aBast, aAast, aAlen, aCopy, aCallV, aCallC, aCallI, aRet, aCat, aMax, aMin, aDiv, aRem, aI2l, aL2i, aNul, aSwS, aSw, aInc, aDup, aDup2, aPop1, aIret, aAret, aVret, aLen, aFk, aFT, Value.category, c_sh, g5, e3, hc]
  cases b1 with
  | false =>
    refine ⟨false, a1, [], q1, q2, (fun z => by cases z), fun dd st I hdd hst hI => ?_, fun dd st J x y hdd hst hJ => ?_⟩
    · obtain ⟨d, rfl⟩ : ∃ d, dd = d + 2 := ⟨dd - 2, by omega⟩
      obtain ⟨I1, r1, r2⟩ := kc (d + 1) st I (by omega) hst hI
      exact ⟨I1, (kst d I I1 0 r1).1 rfl, r2⟩
    · obtain ⟨d, rfl⟩ : ∃ d, dd = d + 2 := ⟨dd - 2, by omega⟩
      obtain ⟨J1, r1, r2⟩ := kr (d + 1) st J x y (by omega) hst hJ
      rw [show rM 3 = 138 from rfl] at r1
      refine ⟨J1, ?_, r2⟩
      simp only [Bool.false_eq_true, if_false] at r1 ⊢
      rw [show rM 2 = 137 from rfl, e_137]; simp [s_137, aILoad, aRLoad, aLLoad, aIStore, aRStore, aPush, aBin, aBinL, aShL, aUn, aIf, aIc, aGet, aPut, aIald, aBald, aAald, aIast, aBast, aAast, aAlen, aCopy, aCallV, aCallC, aCallI, aRet, aCat, aMax, aMin, aDiv, aRem, aI2l, aL2i, aNul, aSwS, aSw, aInc, aDup, aDup2, aPop1, aIret, aAret, aVret, aLen, aFk, aFT, Value.category, m_sh, r1]
  | true =>
    have q4 := q3 rfl
    by_cases h : plv (lk rb L a1) = 2
    · have h9 : ¬ plv (lk rb L a1) = 9 := by omega
      have hlt : a1 < L := Classical.byContradiction fun z => h9 (by rw [show lk rb L a1 = -1 from if_neg z]; decide)
      have hc := plv_is.2.2.1.mp h
      obtain ⟨b2, a2, s2, p1, p2, p3, kc2, kr2⟩ := hS (a1 + 1) (by omega) (by omega)
      cases b2 with
      | false =>
        refine ⟨false, a2, [], by omega, p2, (fun z => by cases z), fun dd st I hdd hst hI => ?_, fun dd st J x y hdd hst hJ => ?_⟩
        · obtain ⟨d, rfl⟩ : ∃ d, dd = d + 2 := ⟨dd - 2, by omega⟩
          obtain ⟨I1, r1, r2⟩ := kc (d + 1) st I (by omega) hst hI
          rw [if_pos rfl] at r2
          obtain ⟨I2, t1, t2⟩ := kc2 (d + 1) _ _ (by omega) (by rw [List.length_append]; omega) (r2.at (b := a1 + 1))
          exact ⟨I2, ((kst d I I1 1 r1).2 rfl).trans (kGo_f hf hX hlt (by omega) r2 h t1), t2⟩
        · obtain ⟨d, rfl⟩ : ∃ d, dd = d + 2 := ⟨dd - 2, by omega⟩
          obtain ⟨J1, r1, r2⟩ := kr (d + 1) st J x y (by omega) hst hJ
          rw [if_pos rfl] at r2
          obtain ⟨J2, t1, t2⟩ := kr2 (d + 1) _ _ x y (by omega) (by rw [List.length_append]; omega) (r2.at (b := a1 + 1))
          have rl := r_look (d := d) (x := x) (y := y) hY (show a1 ≤ L by omega) r2.f
          rw [show rM 3 = 138 from rfl] at r1 t1
          refine ⟨J2, ?_, t2⟩
          simp only [Bool.false_eq_true, if_true, if_false] at r1 t1 ⊢
          rw [show rM 2 = 137 from rfl, e_137]
          rcases hc with hc | hc | hc <;> (rw [hc] at rl; simp [s_137, aILoad, aRLoad, aLLoad, aIStore, aRStore, aPush, aBin, aBinL, aShL, aUn, aIf, aIc, aGet, aPut, aIald, aBald, aAald, aIast, aBast, aAast, aAlen, aCopy, aCallV, aCallC, aCallI, aRet, aCat, aMax, aMin, aDiv, aRem, aI2l, aL2i, aNul, aSwS, aSw, aInc, aDup, aDup2, aPop1, aIret, aAret, aVret, aLen, aFk, aFT, Value.category, m_sh, r1, rl, r2.1, nI_1, t1])
      | true =>
        have p4 := p3 rfl
        refine ⟨true, a2, s1 ++ s2 ++ [(3, lk rb L a1)], by omega, p2, fun _ => ⟨by omega, ?_, fun D => ?_⟩, fun dd st I hdd hst hI => ?_, fun dd st J x y hdd hst hJ => ?_⟩
        · rw [List.length_append, List.length_append, List.length_singleton]; omega
        · exact okL_app (okL_app (q4.2.2 D) (p4.2.2 (D + 1))) (okL_sg h9)
        · obtain ⟨d, rfl⟩ : ∃ d, dd = d + 2 := ⟨dd - 2, by omega⟩
          obtain ⟨I1, r1, r2⟩ := kc (d + 1) st I (by omega) hst hI
          rw [if_pos rfl] at r2
          obtain ⟨I2, t1, t2⟩ := kc2 (d + 1) _ _ (by omega) (by rw [List.length_append]; omega) (r2.at (b := a1 + 1))
          rw [if_pos rfl] at t2
          have ka := k_app (d := d) (x := some (f + 11)) (y := some nm) (s := (3, lk rb L a1)) t2 (by rw [List.length_append, List.length_append]; omega)
          have h5 := t2.app (s := (3, lk rb L a1))
          rw [show (cS u (3, lk rb L a1)).1 = lk rb L a1 from rfl, show (cS u (3, lk rb L a1)).2 = 0 from rfl] at ka h5
          have kg := kGo_t (c := none) hf hX hlt (by omega) r2 h t1 ka
          rw [if_pos rfl] at kg
          refine ⟨_, ((kst d I I1 1 r1).2 rfl).trans kg, ?_⟩
          rw [if_pos rfl, ← List.append_assoc, ← List.append_assoc]; exact h5
        · obtain ⟨d, rfl⟩ : ∃ d, dd = d + 2 := ⟨dd - 2, by omega⟩
          obtain ⟨J1, r1, r2⟩ := kr (d + 1) st J x y (by omega) hst hJ
          rw [if_pos rfl] at r2
          obtain ⟨J2, t1, t2⟩ := kr2 (d + 1) _ _ x y (by omega) (by rw [List.length_append]; omega) (r2.at (b := a1 + 1))
          rw [if_pos rfl] at t2
          have rl := r_look (d := d) (x := x) (y := y) hY (show a1 ≤ L by omega) r2.f
          have rs := r_step1 (d := d) (x := x) (y := y) (w := 3) (v := lk rb L a1) t2 (by rw [List.length_append, List.length_append]; omega)
          have h5 := t2.app (w := 3) (v := lk rb L a1)
          rw [show rM 3 = 138 from rfl] at r1 t1
          refine ⟨_, ?_, by rw [if_pos rfl, ← List.append_assoc, ← List.append_assoc]; exact h5⟩
          simp only [if_true] at r1 t1 ⊢
          rw [show rM 2 = 137 from rfl, e_137]
          rcases hc with hc | hc | hc <;> (rw [hc] at rl rs ⊢; simp [s_137, aILoad, aRLoad, aLLoad, aIStore, aRStore, aPush, aBin, aBinL, aShL, aUn, aIf, aIc, aGet, aPut, aIald, aBald, aAald, aIast, aBast, aAast, aAlen, aCopy, aCallV, aCallC, aCallI, aRet, aCat, aMax, aMin, aDiv, aRem, aI2l, aL2i, aNul, aSwS, aSw, aInc, aDup, aDup2, aPop1, aIret, aAret, aVret, aLen, aFk, aFT, Value.category, m_sh, r1, rl, r2.1, nI_1, t1, rs])
    · refine ⟨true, a1, s1, q1, q2, q3, fun dd st I hdd hst hI => ?_, fun dd st J x y hdd hst hJ => ?_⟩
      · obtain ⟨d, rfl⟩ : ∃ d, dd = d + 2 := ⟨dd - 2, by omega⟩
        obtain ⟨I1, r1, r2⟩ := kc (d + 1) st I (by omega) hst hI
        rw [if_pos rfl] at r2
        exact ⟨I1, ((kst d I I1 1 r1).2 rfl).trans (kGo_no hf hX q2 (by omega) r2 h), by rw [if_pos rfl]; exact r2⟩
      · obtain ⟨d, rfl⟩ : ∃ d, dd = d + 2 := ⟨dd - 2, by omega⟩
        obtain ⟨J1, r1, r2⟩ := kr (d + 1) st J x y (by omega) hst hJ
        rw [if_pos rfl] at r2
        have rl := r_look (d := d) (x := x) (y := y) hY q2 r2.f
        rw [show rM 3 = 138 from rfl] at r1
        have hc : ¬ (lk rb L a1 = 60 ∨ lk rb L a1 = 61 ∨ lk rb L a1 = 62) := fun z => h (plv_is.2.2.1.mpr z)
        obtain ⟨k1, k2'⟩ := not_or.mp hc
        obtain ⟨k2, k3⟩ := not_or.mp k2'
        refine ⟨J1, ?_, by rw [if_pos rfl]; exact r2⟩
        simp only [if_true] at r1 ⊢
        rw [show rM 2 = 137 from rfl, e_137]; simp [s_137, aILoad, aRLoad, aLLoad, aIStore, aRStore, aPush, aBin, aBinL, aShL, aUn, aIf, aIc, aGet, aPut, aIald, aBald, aAald, aIast, aBast, aAast, aAlen, aCopy, aCallV, aCallC, aCallI, aRet, aCat, aMax, aMin, aDiv, aRem, aI2l, aL2i, aNul, aSwS, aSw, aInc, aDup, aDup2, aPop1, aIret, aAret, aVret, aLen, aFk, aFT, Value.category, m_sh, r1, rl, k1, k2, k3]
theorem parse_all (hf : isF f) (hX : pX f L X rb) (hY : pY L Y rb) (hu : u = 0 ∧ nm = 2001 ∨ u = 1 ∧ nm = 2002) : ∀ M, (∀ o a, o ≤ 5 → a ≤ L → (L - a) * 20 + 4 ≤ M → PO f L u nm X Y o a) ∧ (∀ l o a, l ≤ 5 → o ≤ 5 → a ≤ L → (L - a) * 20 + 10 - l ≤ M → PC f L u nm X Y l o a) := by
  intro M
  induction M with
  | zero => exact ⟨fun o a _ _ h => by omega, fun l o a _ _ _ h => by omega⟩
  | succ M ih =>
    have hO : ∀ o a, o ≤ 5 → a ≤ L → (L - a) * 20 + 4 ≤ M + 1 → PO f L u nm X Y o a := fun o a ho ha h =>
      PO_all hf hX hY hu ho ha (fun h1 h2 => ih.1 (o + 1) (a + 1) (by omega) (by omega) (by omega)) (fun h1 h2 => ih.2 0 (o + 1) (a + 1) (by omega) (by omega) (by omega) (by omega))
    refine ⟨hO, fun l o a hl ho ha h => ?_⟩
    have hS : l ≤ 4 → ∀ a1, a ≤ a1 → a1 ≤ L → PC f L u nm X Y (l + 1) o a1 := fun hl4 a1 h1 h2 => ih.2 (l + 1) o a1 (by omega) ho h2 (by omega)
    by_cases h5 : l = 5
    · subst h5; exact PC_5 (ih.1 o a ho ha (by omega))
    · by_cases h2 : l = 2
      · subst h2; exact PC_2 hf hX hY ha (hS (by omega))
      · exact PC_l hf hX hY ha (by omega) (hS (by omega))
end TEXT6
