/-! the calls in pairs: voice -/
section VOICE3
variable {d : Nat} {I : Nat → Nat → Int32} {x y : Option Nat}
theorem Pair.voi {cm rm : Nat} {args : List Value} {v : Int32} {I1 I2 : Nat → Nat → Int32} (h : Rel I) (hc : aCall aMt (d + 20) cm (.ref 0 :: args) (HH I x y) = some (some (.int v), HH I1 x y))
    (hr : aCall aMt (d + 20) rm (.ref 113 :: args) (HH I1 x y) = some (some (.int v), HH I2 x y)) (hI : ∀ r, r ≠ 100 → r ≠ 101 → r ≠ 103 → I1 r = I r) (hJ : ∀ r, r ≠ 113 → r ≠ 117 → r ≠ 123 → I2 r = I1 r) (h3 : I2 113 3 = I 113 3) (hE : ∀ k, 1 ≤ k → k < 7 → I1 103 k = I2 117 k) (hV : relV I1 I2) :
    ∃ v I1 x1 y1 I2, aCall aMt (d + 20) cm (.ref 0 :: args) (HH I x y) = some (some (.int v), HH I1 x1 y1) ∧ aCall aMt (d + 20) rm (.ref 113 :: args) (HH I1 x1 y1) = some (some (.int v), HH I2 x1 y1) ∧ Rel I2 := by
  obtain ⟨⟨P, T, hA⟩, ⟨k1, k2, k3⟩, hF, _, hS, _⟩ := h
  have e : ∀ r, r ≠ 100 → r ≠ 101 → r ≠ 103 → r ≠ 113 → r ≠ 117 → r ≠ 123 → I2 r = I r := fun r a b c p q s => by rw [hJ r p q s, hI r a b c]
  refine ⟨_, _, x, y, _, hc, hr, ⟨P, T, ?_⟩, ⟨?_, ?_, k3.rows fun r a b => e r (by omega) (by omega) (by omega) (by omega) (by omega) (by omega)⟩, hF.rows fun r a b => e r (by omega) (by omega) (by omega) (by omega) (by omega) (by omega), fun k a b => ?_, fun i hi => ?_, ?_⟩
  · rw [e 114 (by omega) (by omega) (by omega) (by omega) (by omega) (by omega)]; exact hA.rows fun r a b => e r (by omega) (by omega) (by omega) (by omega) (by omega) (by omega)
  · rw [e 0 (by omega) (by omega) (by omega) (by omega) (by omega) (by omega), h3]; exact k1
  · rw [e 0 (by omega) (by omega) (by omega) (by omega) (by omega) (by omega), e 115 (by omega) (by omega) (by omega) (by omega) (by omega) (by omega)]
    exact k2.imp (fun z => z) fun ⟨P, T, q⟩ => ⟨P, T, q.rows fun r a b => e r (by omega) (by omega) (by omega) (by omega) (by omega) (by omega)⟩
  · rw [hJ 103 (by omega) (by omega) (by omega)]; exact hE k a b
  · rw [e _ (by omega) (by omega) (by omega) (by omega) (by omega) (by omega), e (106 + 2 * i) (by omega) (by omega) (by omega) (by omega) (by omega) (by omega), e 124 (by omega) (by omega) (by omega) (by omega) (by omega) (by omega), e 125 (by omega) (by omega) (by omega) (by omega) (by omega) (by omega), e 126 (by omega) (by omega) (by omega) (by omega) (by omega) (by omega)]; exact hS i hi
  · obtain ⟨n, a, b, c, g⟩ := hV
    exact ⟨n, a, by rw [hJ 100 (by omega) (by omega) (by omega)]; exact b, c, fun j hj => by rw [hJ 101 (by omega) (by omega) (by omega)]; exact g j hj⟩
/-- the class's speaker as a VOICE begins -/
def vI (I : Nat → Nat → Int32) (p : Nat) (m K : Int32) : Nat → Nat → Int32 := aUpd (aUpd (aUpd (aUpd (aUpd I 100 4 (nI p)) 100 5 m) 100 6 K) 100 1 0) 100 3 0
theorem vI_ok {p : Nat} {m K : Int32} : vC (vI I p m K) 0 (nI p) m K := by
  unfold vC vI
  simp [aUpd_row, upd, nI_lit0]
theorem vI_ne {p r : Nat} {m K : Int32} (h : r ≠ 100) : vI I p m K r = I r := by unfold vI; simp only [aUpd_ne h]
def vJ (I : Nat → Nat → Int32) (p : Nat) : Nat → Nat → Int32 := aUpd (aUpd (aUpd I 113 14 0) 113 16 (nI p)) 113 17 0
theorem vJ_ne {p r : Nat} (h : r ≠ 113) : vJ I p r = I r := by unfold vJ; simp only [aUpd_ne h]
theorem vJ_3 {p : Nat} : vJ I p 113 3 = I 113 3 := by unfold vJ; simp [aUpd_row, upd]
theorem vJ_ok {p N : Nat} {m : Int32} (h1 : I 114 (10 + 5 * p) = nI N) (h2 : I 114 (11 + 5 * p) = m) : vR (vJ I p) 0 p N m := by
  refine ⟨?_, ?_, ?_, by rw [vJ_ne (by decide)]; exact h1, by rw [vJ_ne (by decide)]; exact h2⟩ <;> (unfold vJ; simp [aUpd_row, upd, nI_lit0])
theorem k_isAns {f P T p : Nat} {w a val z : Int32} {σ : Nat → Int32} {R : Nat → Nat → Int32} (hf : isF f) (h : relF f I σ P T) (hP : P ≤ 8) (hp : p < P) (hs : aCall aMt (d + 18) 59 [.ref 100, .int w, .int (σ (10 + 5 * p)), .int a, .int 0] (HH (vI I p (σ (11 + 5 * p)) (σ (10 + 5 * p))) x y) = some (some (.int val), HH R x y)) (hz : R 100 3 = z) (h01 : z = 0 ∨ z = 1) :
    aCall aMt (d + 19) 58 [.ref 100, .ref (f + 13 + p), .int w, .int a] (HH I x y) = some (some (.int (if z = 0 then 1 else 0)), HH (aUpd R 100 2 val) x y) := by
  have hfp : f ≤ 63 := by rcases hf with rfl | rfl | rfl <;> omega
  have e1 : ∀ (J : Nat → Nat → Int32) k v, aUpd J 100 k v (f + 13 + p) = J (f + 13 + p) := fun J k v => aUpd_ne (by omega)
  have e2 : (aUpd R 100 2 val) 100 3 = z := by rw [aUpd_row, upd_ne (by omega)]; exact hz
  have e3 : vI I p (σ (11 + 5 * p)) (σ (10 + 5 * p)) 100 6 = σ (10 + 5 * p) := vI_ok.2.2.2.2
  unfold vI at hs e3
  rw [e_58]
  rcases h01 with rfl | rfl <;> simp [s_58, aILoad, aRLoad, aLLoad, aIStore, aRStore, aPush, aBin, aBinL, aShL, aUn, aIf, aIc, aGet, aPut, aIald, aBald, aAald, aIast, aBast, aAast, aAlen, aCopy, aCallV, aCallC, aCallI, aRet, aCat, aMax, aMin, aDiv, aRem, aI2l, aL2i, aNul, aSwS, aSw, aInc, aDup, aDup2, aPop1, aIret, aAret, aVret, aLen, aFk, aFT, Value.category, c_sh, f_pe hf (show p < 8 by omega), h.pe hp, e1, e3, hs, e2]
theorem vTrace {l : List Int32} {I0 J0 I1 I2 : Nat → Nat → Int32} (hl : l.length ≤ 30) (h0 : I0 100 1 = nI 0) (j0 : J0 113 14 = nI 0) (a : I1 100 1 = tS 101 100 1 I0 0 l 100 1) (b : I2 113 14 = tS 123 113 14 J0 0 l 113 14) (c : I1 101 = tS 101 100 1 I0 0 l 101) (e : I2 123 = tS 123 113 14 J0 0 l 123) : relV I1 I2 := by
  refine ⟨l.length, hl, by rw [a, tS_len l I0 0 h0, Nat.zero_add], by rw [b, tS_len l J0 0 j0, Nat.zero_add], fun j hj => ?_⟩
  have u1 := tS_trc (a := 101) (c := 100) (fl := 1) (by decide) l I0 0 j hj
  have u2 := tS_trc (a := 123) (c := 113) (fl := 14) (by decide) l J0 0 j hj
  rw [Nat.zero_add] at u1 u2
  rw [c, e, u1, u2]
theorem pair_voice (v w a : Int32) : Pair 92 204 [.int v, .int w, .int a] := by
  intro d I x y h
  obtain ⟨f, P, T, h1, hf, hA⟩ := h.f
  have hP := hA.1.1
  have e7 := hA.1.fi.2.2.1
  by_cases hp : 0 ≤ v ∧ v ≤ nI P - 1
  · obtain ⟨p, hpP, rfl⟩ := (isIx (by omega)).mp hp
    have hp8 : p < 8 := by omega
    have pa := k_personAt (d := d + 17) (x := x) (y := y) hf hA.1 hpP
    have s2 := f_pe hf hp8
    by_cases hw : 0 ≤ w ∧ w ≤ 3
    · obtain ⟨N, hN, hK⟩ := (hA.2.2.1 p hpP).1
      generalize hm : I 114 (11 + 5 * p) = m
      have c0 := vI_ok (I := I) (p := p) (m := m) (K := nI N)
      have hE := h.2.2.2.1
      -- answered
      have good : ∀ (val : Int32) (l : List Int32), l.length ≤ 30 → aCall aMt (d + 18) 59 [.ref 100, .int w, .int (nI N), .int a, .int 0] (HH (vI I p m (nI N)) x y) = some (some (.int val), HH (tS 101 100 1 (vI I p m (nI N)) 0 l) x y) →
          (∀ I1 : Nat → Nat → Int32, I1 113 = I 113 → I1 114 = I 114 → aCall aMt (d + 20) 204 [.ref 113, .int (nI p), .int w, .int a] (HH I1 x y) = some (some (.int val), HH (tS 123 113 14 (vJ I1 p) 0 l) x y)) →
          ∃ v I1 x1 y1 I2, aCall aMt (d + 20) 92 [.ref 0, .int (nI p), .int w, .int a] (HH I x y) = some (some (.int v), HH I1 x1 y1) ∧ aCall aMt (d + 20) 204 [.ref 113, .int (nI p), .int w, .int a] (HH I1 x1 y1) = some (some (.int v), HH I2 x1 y1) ∧ Rel I2 := by
        intro val l hl hs hr
        have hz := (c0.ts (l := l)).2.1
        have ka := k_isAns (d := d) (x := x) (y := y) (σ := I 114) (w := w) (a := a) (val := val) (z := 0) hf hA.1 hP.1 hpP (by rw [hK, hm]; exact hs) hz (Or.inl rfl)
        generalize hR : tS 101 100 1 (vI I p m (nI N)) 0 l = R at *
        have rr : ∀ r, r ≠ 100 → r ≠ 101 → R r = I r := fun r p1 q1 => by rw [← hR, tS_row q1 p1, vI_ne p1]
        have jr : ∀ r, r ≠ 100 → r ≠ 101 → aUpd R 100 2 val r = I r := fun r p1 q1 => by rw [aUpd_ne p1, rr r p1 q1]
        refine Pair.voi (v := val) (I1 := aUpd R 100 2 val) (I2 := tS 123 113 14 (vJ (aUpd R 100 2 val) p) 0 l) h ?_ (hr _ (jr 113 (by omega) (by omega)) (jr 114 (by omega) (by omega))) (fun r p1 q1 _ => jr r p1 q1) (fun r p1 _ q1 => by rw [tS_row q1 p1, vJ_ne p1]) ?_ (fun k a b => ?_) ?_
        · rw [e_92]; simp [s_92, aILoad, aRLoad, aLLoad, aIStore, aRStore, aPush, aBin, aBinL, aShL, aUn, aIf, aIc, aGet, aPut, aIald, aBald, aAald, aIast, aBast, aAast, aAlen, aCopy, aCallV, aCallC, aCallI, aRet, aCat, aMax, aMin, aDiv, aRem, aI2l, aL2i, aNul, aSwS, aSw, aInc, aDup, aDup2, aPop1, aIret, aAret, aVret, aLen, aFk, aFT, Value.category, c_sh, c_q, c_f h1, f_sh hf, pa, s2, k_isIn, hw, ka, aUpd_row, upd_eq]
        · rw [tS_fld (by decide) (by decide), vJ_3, jr 113 (by omega) (by omega)]
        · rw [jr 103 (by omega) (by omega), tS_row (by omega) (by omega), vJ_ne (by omega), jr 117 (by omega) (by omega)]; exact hE k a b
        · refine vTrace (l := l) (I0 := vI I p m (nI N)) (J0 := vJ (aUpd R 100 2 val) p) hl c0.1 ?_ ?_ rfl ?_ rfl
          · unfold vJ; simp [aUpd_row, upd, nI_lit0]
          · rw [aUpd_row, upd_ne (by omega), hR]
          · rw [aUpd_ne (by omega), hR]
      -- parted
      have bad : ∀ (l : List Int32), l.length ≤ 30 → aCall aMt (d + 18) 59 [.ref 100, .int w, .int (nI N), .int a, .int 0] (HH (vI I p m (nI N)) x y) = some (some (.int 0), HH (aUpd (tS 101 100 1 (vI I p m (nI N)) 0 l) 100 3 1) x y) →
          (∀ I1 : Nat → Nat → Int32, I1 113 = I 113 → I1 114 = I 114 → I1 117 = I 117 → aCall aMt (d + 20) 204 [.ref 113, .int (nI p), .int w, .int a] (HH I1 x y) = some (some (.int (-1000000006)), HH (aUpd (aUpd (tS 123 113 14 (vJ I1 p) 0 l) 113 17 1) 117 6 (I 117 6 + 1)) x y)) →
          ∃ v I1 x1 y1 I2, aCall aMt (d + 20) 92 [.ref 0, .int (nI p), .int w, .int a] (HH I x y) = some (some (.int v), HH I1 x1 y1) ∧ aCall aMt (d + 20) 204 [.ref 113, .int (nI p), .int w, .int a] (HH I1 x1 y1) = some (some (.int v), HH I2 x1 y1) ∧ Rel I2 := by
        intro l hl hs hr
        have ka := k_isAns (d := d) (x := x) (y := y) (σ := I 114) (w := w) (a := a) (val := 0) (z := 1) hf hA.1 hP.1 hpP (by rw [hK, hm]; exact hs) (by rw [aUpd_row, upd_eq]) (Or.inr rfl)
        generalize hR : tS 101 100 1 (vI I p m (nI N)) 0 l = R at *
        have rr : ∀ r, r ≠ 100 → r ≠ 101 → R r = I r := fun r p1 q1 => by rw [← hR, tS_row q1 p1, vI_ne p1]
        have jr : ∀ r, r ≠ 100 → r ≠ 101 → aUpd (aUpd R 100 3 1) 100 2 0 r = I r := fun r p1 q1 => by rw [aUpd_ne p1, aUpd_ne p1, rr r p1 q1]
        generalize hQ : aUpd (aUpd R 100 3 1) 100 2 0 = Q at *
        have q100 : Q 100 1 = R 100 1 := by rw [← hQ, aUpd_row, upd_ne (by omega), aUpd_row, upd_ne (by omega)]
        have q101 : Q 101 = R 101 := by rw [← hQ, aUpd_ne (by omega), aUpd_ne (by omega)]
        have kr : ∀ r, r ≠ 103 → aUpd Q 103 6 (Q 103 6 + 1) r = Q r := fun r p1 => aUpd_ne p1
        refine Pair.voi (v := -1000000006) (I1 := aUpd Q 103 6 (Q 103 6 + 1)) (I2 := aUpd (aUpd (tS 123 113 14 (vJ (aUpd Q 103 6 (Q 103 6 + 1)) p) 0 l) 113 17 1) 117 6 (I 117 6 + 1)) h ?_ (hr _ (by rw [kr 113 (by omega), jr 113 (by omega) (by omega)]) (by rw [kr 114 (by omega), jr 114 (by omega) (by omega)]) (by rw [kr 117 (by omega), jr 117 (by omega) (by omega)])) (fun r p1 q1 s1 => by rw [kr r s1, jr r p1 q1]) (fun r p1 s1 q1 => by rw [aUpd_ne s1, aUpd_ne p1, tS_row q1 p1, vJ_ne p1]) ?_ (fun k a b => ?_) ?_
        · rw [e_92]; simp [s_92, aILoad, aRLoad, aLLoad, aIStore, aRStore, aPush, aBin, aBinL, aShL, aUn, aIf, aIc, aGet, aPut, aIald, aBald, aAald, aIast, aBast, aAast, aAlen, aCopy, aCallV, aCallC, aCallI, aRet, aCat, aMax, aMin, aDiv, aRem, aI2l, aL2i, aNul, aSwS, aSw, aInc, aDup, aDup2, aPop1, aIret, aAret, aVret, aLen, aFk, aFT, Value.category, c_sh, c_q, c_f h1, f_sh hf, pa, s2, k_isIn, hw, ka, rf_6]
        · rw [aUpd_ne (by omega), aUpd_row, upd_ne (by omega), tS_fld (by decide) (by decide), vJ_3, kr 113 (by omega), jr 113 (by omega) (by omega)]
        · rw [aUpd_row, aUpd_row, aUpd_ne (by omega), tS_row (by omega) (by omega), vJ_ne (by omega), kr 117 (by omega), jr 117 (by omega) (by omega), jr 103 (by omega) (by omega)]
          by_cases z : k = 6
          · subst z; rw [upd_eq, upd_eq, hE 6 (by omega) (by omega)]
          · rw [upd_ne z, upd_ne z]; exact hE k a b
        · refine vTrace (l := l) (I0 := vI I p m (nI N)) (J0 := vJ (aUpd Q 103 6 (Q 103 6 + 1)) p) hl c0.1 ?_ ?_ ?_ ?_ ?_
          · unfold vJ; simp [aUpd_row, upd, nI_lit0]
          · rw [kr 100 (by omega), q100, hR]
          · rw [aUpd_ne (by omega), aUpd_row, upd_ne (by omega)]
          · rw [kr 101 (by omega), q101, hR]
          · rw [aUpd_ne (by omega), aUpd_ne (by omega)]
      have hv : ∀ I1 : Nat → Nat → Int32, I1 114 = I 114 → vR (vJ I1 p) 0 p N m := fun I1 e => vJ_ok (by rw [e]; exact hK) (by rw [e]; exact hm)
      rcases in_03 hw with rfl | rfl | rfl | rfl
      · refine good (vSn N (nI p) a) (lSn N) (by have := lSn_le N; omega) ?_ (fun I1 g3 g4 => ?_)
        · have := k_sn (d := d + 13) (I := vI I p m (nI N)) (x := x) (y := y) (n := 0) (e := 0) (q := N) (a := a) hN c0 (by omega) (by omega)
          rwa [nI_lit0] at this
        · have hv := hv I1 g4
          have rs := r_sn (d := d + 15) (I := vJ I1 p) (x := x) (y := y) (n := 0) (q := N) (a := a) hN hp8 hN hv (by omega)
          have f0 := (hv.ts (l := lSn N)).2.2.1
          have rk := r_kindNow (d := d + 17) (x := x) (y := y) hp8 hv
          have e7' : I1 114 7 = nI P := by rw [g4]; exact e7
          unfold vJ at rs rk f0 ⊢
          rw [e_204]; simp [s_204, aILoad, aRLoad, aLLoad, aIStore, aRStore, aPush, aBin, aBinL, aShL, aUn, aIf, aIc, aGet, aPut, aIald, aBald, aAald, aIast, aBast, aAast, aAlen, aCopy, aCallV, aCallC, aCallI, aRet, aCat, aMax, aMin, aDiv, aRem, aI2l, aL2i, aNul, aSwS, aSw, aInc, aDup, aDup2, aPop1, aIret, aAret, aVret, aLen, aFk, aFT, Value.category, m_sh, m_p, r_isPerson, e7', hp, r_in, rk, rs, f0]
      · refine good (vMk N N (nI p) m a) (lMk N N) (by have := lMk_le N N; omega) ?_ (fun I1 g3 g4 => ?_)
        · have := k_mk (d := d + 10) (I := vI I p m (nI N)) (x := x) (y := y) (n := 0) (e := 0) (q := N) (a := a) hN hN c0 (by omega) (by omega)
          rwa [nI_lit0] at this
        · have hv := hv I1 g4
          have rs := r_mk (d := d + 12) (I := vJ I1 p) (x := x) (y := y) (n := 0) (q := N) (a := a) hN hp8 hN hv (by omega)
          have f0 := (hv.ts (l := lMk N N)).2.2.1
          have rk := r_kindNow (d := d + 17) (x := x) (y := y) hp8 hv
          have e7' : I1 114 7 = nI P := by rw [g4]; exact e7
          unfold vJ at rs rk f0 ⊢
          rw [e_204]; simp [s_204, aILoad, aRLoad, aLLoad, aIStore, aRStore, aPush, aBin, aBinL, aShL, aUn, aIf, aIc, aGet, aPut, aIald, aBald, aAald, aIast, aBast, aAast, aAlen, aCopy, aCallV, aCallC, aCallI, aRet, aCat, aMax, aMin, aDiv, aRem, aI2l, aL2i, aNul, aSwS, aSw, aInc, aDup, aDup2, aPop1, aIret, aAret, aVret, aLen, aFk, aFT, Value.category, m_sh, m_p, r_isPerson, e7', hp, r_in, rk, rs, f0]
      · refine good (vSw N N (nI p) m a) (lSw N N) (by have := lSw_le N N; omega) ?_ (fun I1 g3 g4 => ?_)
        · have := k_sw (d := d + 8) (I := vI I p m (nI N)) (x := x) (y := y) (n := 0) (e := 0) (q := N) (a := a) hN hN c0 (by omega) (by omega)
          rwa [nI_lit0] at this
        · have hv := hv I1 g4
          have rs := r_sw (d := d + 9) (I := vJ I1 p) (x := x) (y := y) (n := 0) (q := N) (a := a) hN hp8 hN hv (by omega)
          have f0 := (hv.ts (l := lSw N N)).2.2.1
          have rk := r_kindNow (d := d + 17) (x := x) (y := y) hp8 hv
          have e7' : I1 114 7 = nI P := by rw [g4]; exact e7
          unfold vJ at rs rk f0 ⊢
          rw [e_204]; simp [s_204, aILoad, aRLoad, aLLoad, aIStore, aRStore, aPush, aBin, aBinL, aShL, aUn, aIf, aIc, aGet, aPut, aIald, aBald, aAald, aIast, aBast, aAast, aAlen, aCopy, aCallV, aCallC, aCallI, aRet, aCat, aMax, aMin, aDiv, aRem, aI2l, aL2i, aNul, aSwS, aSw, aInc, aDup, aDup2, aPop1, aIret, aAret, aVret, aLen, aFk, aFT, Value.category, m_sh, m_p, r_isPerson, e7', hp, r_in, rk, rs, f0]
      · by_cases hN1 : N = 1 ∨ N = 4
        · have cs := k_pt1 (d := d + 9) (I := vI I p m (nI N)) (x := x) (y := y) (n := 0) (e := 0) (q := N) (a := a) hN1 hN c0 (by omega) (by omega)
          rw [nI_lit0] at cs
          by_cases hz : m - nI p = 0
          · rw [if_pos hz] at cs
            refine bad [21, 13] (by simp) cs (fun I1 g3 g4 g5 => ?_)
            have hv := hv I1 g4
            have rs := r_pt4 (d := d + 10) (I := vJ I1 p) (x := x) (y := y) (n := 0) (q := N) (a := a) hN1 hp8 hN hv (by omega)
            rw [if_pos hz] at rs
            have rk := r_kindNow (d := d + 17) (x := x) (y := y) hp8 hv
            have e7' : I1 114 7 = nI P := by rw [g4]; exact e7
            have f1 : aUpd (tA 123 113 14 (tA 123 113 14 (vJ I1 p) 0 21) (0 + 1) 13) 113 17 1 113 17 = 1 := by rw [aUpd_row, upd_eq]
            have f7 : aUpd (tA 123 113 14 (tA 123 113 14 (vJ I1 p) 0 21) (0 + 1) 13) 113 17 1 117 6 = I 117 6 := by rw [aUpd_ne (by omega), tA_row (by omega) (by omega), tA_row (by omega) (by omega), vJ_ne (by omega), g5]
            rw [tS, tS, tS]
            have rr := re_6 (d := d + 18) (I := aUpd (tA 123 113 14 (tA 123 113 14 (vJ I1 p) 0 21) (0 + 1) 13) 113 17 1) (x := x) (y := y)
            rw [f7] at rr
            unfold vJ at rs rk f1 rr ⊢
            rw [e_204]; simp [s_204, aILoad, aRLoad, aLLoad, aIStore, aRStore, aPush, aBin, aBinL, aShL, aUn, aIf, aIc, aGet, aPut, aIald, aBald, aAald, aIast, aBast, aAast, aAlen, aCopy, aCallV, aCallC, aCallI, aRet, aCat, aMax, aMin, aDiv, aRem, aI2l, aL2i, aNul, aSwS, aSw, aInc, aDup, aDup2, aPop1, aIret, aAret, aVret, aLen, aFk, aFT, Value.category, m_sh, m_p, r_isPerson, e7', hp, r_in, rk, rs, f1, rr]
          · rw [if_neg hz] at cs
            refine good _ (21 :: 13 :: lMk N N) (by have := lMk_le N N; simp; omega) cs (fun I1 g3 g4 => ?_)
            have hv := hv I1 g4
            have rs := r_pt4 (d := d + 10) (I := vJ I1 p) (x := x) (y := y) (n := 0) (q := N) (a := a) hN1 hp8 hN hv (by omega)
            rw [if_neg hz] at rs
            have f0 := (hv.ts (l := 21 :: 13 :: lMk N N)).2.2.1
            have rk := r_kindNow (d := d + 17) (x := x) (y := y) hp8 hv
            have e7' : I1 114 7 = nI P := by rw [g4]; exact e7
            unfold vJ at rs rk f0 ⊢
            rw [e_204]; simp [s_204, aILoad, aRLoad, aLLoad, aIStore, aRStore, aPush, aBin, aBinL, aShL, aUn, aIf, aIc, aGet, aPut, aIald, aBald, aAald, aIast, aBast, aAast, aAlen, aCopy, aCallV, aCallC, aCallI, aRet, aCat, aMax, aMin, aDiv, aRem, aI2l, aL2i, aNul, aSwS, aSw, aInc, aDup, aDup2, aPop1, aIret, aAret, aVret, aLen, aFk, aFT, Value.category, m_sh, m_p, r_isPerson, e7', hp, r_in, rk, rs, f0]
        · have hN0 : N = 0 ∨ N = 2 ∨ N = 3 ∨ N = 5 ∨ N = 6 := by omega
          have cs := k_pt0 (d := d + 15) (I := vI I p m (nI N)) (x := x) (y := y) (n := 0) (e := 0) (q := N) (a := a) hN0 c0 (by omega) (by omega)
          rw [nI_lit0] at cs
          by_cases hz : m - nI p = 0
          · rw [if_pos hz] at cs
            refine bad [13] (by simp) cs (fun I1 g3 g4 g5 => ?_)
            have hv := hv I1 g4
            have rs := r_pt2 (d := d + 14) (I := vJ I1 p) (x := x) (y := y) (n := 0) (q := N) (a := a) hN0 hp8 hv (by omega)
            rw [if_pos hz] at rs
            have rk := r_kindNow (d := d + 17) (x := x) (y := y) hp8 hv
            have e7' : I1 114 7 = nI P := by rw [g4]; exact e7
            have f1 : aUpd (tA 123 113 14 (vJ I1 p) 0 13) 113 17 1 113 17 = 1 := by rw [aUpd_row, upd_eq]
            have f7 : aUpd (tA 123 113 14 (vJ I1 p) 0 13) 113 17 1 117 6 = I 117 6 := by rw [aUpd_ne (by omega), tA_row (by omega) (by omega), vJ_ne (by omega), g5]
            rw [tS, tS]
            have rr := re_6 (d := d + 18) (I := aUpd (tA 123 113 14 (vJ I1 p) 0 13) 113 17 1) (x := x) (y := y)
            rw [f7] at rr
            unfold vJ at rs rk f1 rr ⊢
            rw [e_204]; simp [s_204, aILoad, aRLoad, aLLoad, aIStore, aRStore, aPush, aBin, aBinL, aShL, aUn, aIf, aIc, aGet, aPut, aIald, aBald, aAald, aIast, aBast, aAast, aAlen, aCopy, aCallV, aCallC, aCallI, aRet, aCat, aMax, aMin, aDiv, aRem, aI2l, aL2i, aNul, aSwS, aSw, aInc, aDup, aDup2, aPop1, aIret, aAret, aVret, aLen, aFk, aFT, Value.category, m_sh, m_p, r_isPerson, e7', hp, r_in, rk, rs, f1, rr]
          · rw [if_neg hz] at cs
            refine good _ [13] (by simp) cs (fun I1 g3 g4 => ?_)
            have hv := hv I1 g4
            have rs := r_pt2 (d := d + 14) (I := vJ I1 p) (x := x) (y := y) (n := 0) (q := N) (a := a) hN0 hp8 hv (by omega)
            rw [if_neg hz] at rs
            have f0 := (hv.ta (b := 13)).2.2.1
            have rk := r_kindNow (d := d + 17) (x := x) (y := y) hp8 hv
            have e7' : I1 114 7 = nI P := by rw [g4]; exact e7
            rw [tS, tS]
            unfold vJ at rs rk f0 ⊢
            rw [e_204]; simp [s_204, aILoad, aRLoad, aLLoad, aIStore, aRStore, aPush, aBin, aBinL, aShL, aUn, aIf, aIc, aGet, aPut, aIald, aBald, aAald, aIast, aBast, aAast, aAlen, aCopy, aCallV, aCallC, aCallI, aRet, aCat, aMax, aMin, aDiv, aRem, aI2l, aL2i, aNul, aSwS, aSw, aInc, aDup, aDup2, aPop1, aIret, aAret, aVret, aLen, aFk, aFT, Value.category, m_sh, m_p, r_isPerson, e7', hp, r_in, rk, rs, f0]
    · refine Pair.ref 1 (-1000000001) h ?_ (fun I' hI => ?_)
      · rw [e_92]; simp [s_92, aILoad, aRLoad, aLLoad, aIStore, aRStore, aPush, aBin, aBinL, aShL, aUn, aIf, aIc, aGet, aPut, aIald, aBald, aAald, aIast, aBast, aAast, aAlen, aCopy, aCallV, aCallC, aCallI, aRet, aCat, aMax, aMin, aDiv, aRem, aI2l, aL2i, aNul, aSwS, aSw, aInc, aDup, aDup2, aPop1, aIret, aAret, aVret, aLen, aFk, aFT, Value.category, c_sh, c_q, c_f h1, f_sh hf, pa, s2, k_isIn, hw, rf_1]
      · have e7' : I' 114 7 = nI P := by rw [hI 114 (by decide)]; exact e7
        rw [e_204]; simp [s_204, aILoad, aRLoad, aLLoad, aIStore, aRStore, aPush, aBin, aBinL, aShL, aUn, aIf, aIc, aGet, aPut, aIald, aBald, aAald, aIast, aBast, aAast, aAlen, aCopy, aCallV, aCallC, aCallI, aRet, aCat, aMax, aMin, aDiv, aRem, aI2l, aL2i, aNul, aSwS, aSw, aInc, aDup, aDup2, aPop1, aIret, aAret, aVret, aLen, aFk, aFT, Value.category, m_sh, m_p, r_isPerson, e7', hp, r_in, hw, re_1]
  · have pa := k_personNo (d := d + 17) (x := x) (y := y) hf hA.1 hp
    refine Pair.ref 1 (-1000000001) h ?_ (fun I' hI => ?_)
    · rw [e_92]; simp [s_92, aILoad, aRLoad, aLLoad, aIStore, aRStore, aPush, aBin, aBinL, aShL, aUn, aIf, aIc, aGet, aPut, aIald, aBald, aAald, aIast, aBast, aAast, aAlen, aCopy, aCallV, aCallC, aCallI, aRet, aCat, aMax, aMin, aDiv, aRem, aI2l, aL2i, aNul, aSwS, aSw, aInc, aDup, aDup2, aPop1, aIret, aAret, aVret, aLen, aFk, aFT, Value.category, c_sh, c_q, c_f h1, f_sh hf, pa, rf_1]
    · have e7' : I' 114 7 = nI P := by rw [hI 114 (by decide)]; exact e7
      rw [e_204]; simp [s_204, aILoad, aRLoad, aLLoad, aIStore, aRStore, aPush, aBin, aBinL, aShL, aUn, aIf, aIc, aGet, aPut, aIald, aBald, aAald, aIast, aBast, aAast, aAlen, aCopy, aCallV, aCallC, aCallI, aRet, aCat, aMax, aMin, aDiv, aRem, aI2l, aL2i, aNul, aSwS, aSw, aInc, aDup, aDup2, aPop1, aIret, aAret, aVret, aLen, aFk, aFT, Value.category, m_sh, m_p, r_isPerson, e7', hp, re_1]
end VOICE3
