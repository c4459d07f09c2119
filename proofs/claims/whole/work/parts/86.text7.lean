/-! the calls in pairs: text -/
/-- as Pair, with more depth -/
def PairT (cm rm : Nat) (args : List Value) : Prop := ∀ (d : Nat) (I : Nat → Nat → Int32) (x y : Option Nat), Rel I → ∃ v I1 x1 y1 I2, aCall aMt (d + 100) cm (.ref 0 :: args) (HH I x y) = some (some (.int v), HH I1 x1 y1) ∧ aCall aMt (d + 100) rm (.ref 113 :: args) (HH I1 x1 y1) = some (some (.int v), HH I2 x1 y1) ∧ Rel I2
theorem Pair.t {cm rm : Nat} {args : List Value} (h : Pair cm rm args) : PairT cm rm args := fun d I x y hr => h (d + 80) I x y hr
theorem okL_wf {u : Nat} {names : Int32 → Prop} (hn : ∀ v, isNm u v → names v) {T : Nat → Int32} : ∀ {s : List (Int32 × Int32)} {D E k0 : Nat}, okL u D s E → dep T k0 = D → (∀ i, i < s.length → T (2 * (k0 + i)) = (s.getD i (0, 0)).1 ∧ T (2 * (k0 + i) + 1) = (s.getD i (0, 0)).2) → (∀ i, i < s.length → okS names T (k0 + i)) ∧ dep T (k0 + s.length) = E
  | [], D, E, k0, h, hd, _ => by
    have : D = E := h
    subst this; exact ⟨fun i hi => by simp at hi, hd⟩
  | a :: r, D, E, k0, h, hd, hT => by
    have t0 := hT 0 (by simp)
    rw [Nat.add_zero] at t0
    have t1 : T (2 * k0) = a.1 := t0.1
    have t2 : T (2 * k0 + 1) = a.2 := t0.2
    have hT' : ∀ i, i < r.length → T (2 * (k0 + 1 + i)) = (r.getD i (0, 0)).1 ∧ T (2 * (k0 + 1 + i) + 1) = (r.getD i (0, 0)).2 := fun i hi => by
      have := hT (i + 1) (by simpa using hi)
      rw [show k0 + (i + 1) = k0 + 1 + i by omega] at this; exact this
    have go : ∀ D', dep T (k0 + 1) = D' → okL u D' r E → okS names T k0 → (∀ i, i < (a :: r).length → okS names T (k0 + i)) ∧ dep T (k0 + (a :: r).length) = E := fun D' h1 h2 h3 => by
      obtain ⟨q1, q2⟩ := okL_wf hn (s := r) (D := D') (E := E) (k0 := k0 + 1) h2 h1 hT'
      refine ⟨fun i hi => ?_, by rw [List.length_cons, show k0 + (r.length + 1) = k0 + 1 + r.length by omega]; exact q2⟩
      cases i with
      | zero => exact h3
      | succ i => rw [show k0 + (i + 1) = k0 + 1 + i by omega]; exact q1 i (by simpa using hi)
    rcases h with ⟨h0, h1⟩ | ⟨h0, hnm, h1⟩ | ⟨h0, hdd, h1⟩ | ⟨h0, hdd, hs, h1⟩
    · exact go (D + 1) (by rw [dep, t1, h0, if_pos (Or.inl rfl), hd]) h1 (Or.inl (by rw [t1, h0]))
    · exact go (D + 1) (by rw [dep, t1, h0, if_pos (Or.inr rfl), hd]) h1 (Or.inr (Or.inl ⟨by rw [t1, h0], by rw [t2]; exact hn _ hnm⟩))
    · exact go D (by rw [dep, t1, h0, if_neg (by decide), if_pos rfl, hd]) h1 (Or.inr (Or.inr (Or.inl ⟨by rw [t1, h0], by omega⟩)))
    · exact go (D - 1) (by rw [dep, t1, h0, if_neg (by decide), if_neg (by decide), hd]) h1 (Or.inr (Or.inr (Or.inr ⟨by rw [t1, h0], by omega, by rw [t2]; exact hs⟩)))
theorem okL_w {u : Nat} : ∀ {s : List (Int32 × Int32)} {D E : Nat}, okL u D s E → ∀ i, i < s.length → (s.getD i (0, 0)).1 = 0 ∨ (s.getD i (0, 0)).1 = 1 ∨ (s.getD i (0, 0)).1 = 2 ∨ (s.getD i (0, 0)).1 = 3
  | [], _, _, _, i, hi => by simp at hi
  | a :: r, D, E, h, 0, _ => by
    show a.1 = 0 ∨ a.1 = 1 ∨ a.1 = 2 ∨ a.1 = 3
    rcases h with ⟨h0, h1⟩ | ⟨h0, hnm, h1⟩ | ⟨h0, hdd, h1⟩ | ⟨h0, hdd, hs, h1⟩ <;> simp [h0]
  | a :: r, D, E, h, i + 1, hi => by
    have hi' : i < r.length := by simpa using hi
    rcases h with ⟨h0, h1⟩ | ⟨h0, hnm, h1⟩ | ⟨h0, hdd, h1⟩ | ⟨h0, hdd, hs, h1⟩ <;> exact okL_w h1 i hi'
theorem cS_e {u : Nat} {s : Int32 × Int32} (h : s.1 = 0 ∨ s.1 = 1 ∨ s.1 = 2 ∨ s.1 = 3) : eRel u s.1 s.2 (cS u s).1 (cS u s).2 := by
  obtain ⟨w, v⟩ := s
  unfold cS eRel
  rcases h with h | h | h | h <;> (dsimp only at h ⊢; subst h; simp)
theorem relA.txt0 {f P T : Nat} {I K : Nat → Nat → Int32} {σ σ1 : Nat → Int32} (h : relA f I σ P T) (a : ∀ r, f < r → r ≤ f + 30 → K r = I r) (b : ∀ k, k ≠ 8 → K f k = I f k) (b8 : K f 8 = 0) (c : ∀ k, k ≠ 5 → σ1 k = σ k) (c5 : σ1 5 = 0) : relA f K σ1 P T := by
  have hP := h.1.1
  have h1 : relA f (aUpd I f 8 0) σ1 P T := by
    obtain ⟨⟨L, l1, l2, l3, l4⟩, ⟨W, w1, w2, w3, w4⟩, hb⟩ := h.2.1
    exact ⟨h.1.w (fun r p _ _ => aUpd_ne p) (fun k hk _ => by rw [aUpd_row, upd_ne hk]) (fun k hk _ _ => c k hk), ⟨⟨0, by omega, by rw [aUpd_row, upd_eq]; rfl, by rw [c5]; rfl, fun i hi => by omega⟩, ⟨W, w1, by rw [aUpd_row, upd_ne (by omega)]; exact w2, by rw [c 6 (by omega)]; exact w3, fun i hi => by rw [aUpd_ne (by omega), c _ (by omega)]; exact w4 i hi⟩, fun i hi => by rw [aUpd_ne (by omega)]; exact hb i hi⟩, h.2.2.w hP.1 hP.2 (fun k hk _ _ => c k hk)⟩
  exact h1.rows fun r p q => by
    by_cases e : r = f
    · subst e
      funext k
      rw [aUpd_row]
      by_cases e2 : k = 8
      · subst e2; rw [upd_eq, b8]
      · rw [upd_ne e2, b k e2]
    · rw [aUpd_ne e]; exact a r (by omega) q
theorem relA.txt1 {f P T u la : Nat} {I K : Nat → Nat → Int32} {σ σ1 : Nat → Int32} (h : relA f I σ P T) (hu : u = 0 ∧ la = f + 3 ∨ u = 1 ∧ la = f + 7) (a : ∀ r, f < r → r ≤ f + 30 → r < la ∨ la + 3 < r → K r = I r) (b : ∀ k, k ≠ 8 → K f k = I f k) (b8 : K f 8 = 0) (c : ∀ k, k ≠ 5 → k < 120 + 125 * u ∨ 245 + 125 * u ≤ k → σ1 k = σ k) (c5 : σ1 5 = 0) (hL : relL K la σ1 u) (ho : okTx σ1 u (if u = 0 then names0 else names1)) : relA f K σ1 P T := by
  have hP := h.1.1
  have h0 := h.txt0 (K := aUpd I f 8 0) (σ1 := upd σ 5 0) (fun r p q => aUpd_ne (by omega)) (fun k hk => by rw [aUpd_row, upd_ne hk]) (by rw [aUpd_row, upd_eq]) (fun k hk => upd_ne hk) upd_eq
  have e0 : ∀ k, k < 120 + 125 * u ∨ 245 + 125 * u ≤ k → σ1 k = upd σ 5 0 k := fun k hk => by
    by_cases e : k = 5
    · subst e; rw [upd_eq, c5]
    · rw [upd_ne e]; exact c k e hk
  have eK : ∀ r, f ≤ r → r ≤ f + 30 → r < la ∨ la + 3 < r → K r = aUpd I f 8 0 r := fun r p q s => by
    by_cases e : r = f
    · subst e
      funext k
      rw [aUpd_row]
      by_cases e2 : k = 8
      · subst e2; rw [upd_eq, b8]
      · rw [upd_ne e2, b k e2]
    · rw [aUpd_ne e]; exact a r (by omega) q s
  obtain ⟨g1, g2, g3, g4, g5, g6, g7, g8, g9⟩ := h0.1
  have ok0 := h0.2.2.ok
  refine ⟨⟨g1, by rw [eK f (by omega) (by omega) (by omega)]; exact g2, by rw [e0 7 (by omega), e0 8 (by omega)]; exact g3, fun p hp => by rw [eK _ (by omega) (by omega) (by omega)]; exact g4 p hp, fun p hp j hj => by rw [eK _ (by omega) (by omega) (by omega), e0 _ (by omega)]; exact g5 p hp j hj, fun t ht j hj => by rw [eK _ (by omega) (by omega) (by omega), e0 _ (by omega)]; exact g6 t ht j hj, fun k hk => by rw [eK f (by omega) (by omega) (by omega), e0 _ (by omega)]; exact g7 k hk, ?_, ?_⟩, h0.2.1.cg (by rw [eK f (by omega) (by omega) (by omega)]) (by rw [eK f (by omega) (by omega) (by omega)]) (eK _ (by omega) (by omega) (by omega)) (eK _ (by omega) (by omega) (by omega)) (fun k hk => e0 k (by omega)), h0.2.2.newL hP.1 hP.2 (fun k p _ _ => e0 k (by omega)) ?_⟩
  · rcases hu with ⟨rfl, rfl⟩ | ⟨rfl, rfl⟩
    · exact hL
    · exact relL_congr g8 (eK _ (by omega) (by omega) (by omega)) (eK _ (by omega) (by omega) (by omega)) (eK _ (by omega) (by omega) (by omega)) (fun k _ _ => e0 k (by omega))
  · rcases hu with ⟨rfl, rfl⟩ | ⟨rfl, rfl⟩
    · exact relL_congr g9 (eK _ (by omega) (by omega) (by omega)) (eK _ (by omega) (by omega) (by omega)) (eK _ (by omega) (by omega) (by omega)) (fun k _ _ => e0 k (by omega))
    · exact hL
  · rcases hu with ⟨rfl, rfl⟩ | ⟨rfl, rfl⟩
    · exact ⟨ho, okTx_congr (fun k p q => e0 k (by omega)) ok0.2⟩
    · exact ⟨okTx_congr (fun k p q => e0 k (by omega)) ok0.1, ho⟩
theorem pp_94 {x y : Option Nat} {a : Nat} : ((PP x y).getD 94 []).length = 5 ∧ aSetP (PP x y) 94 1 (some a) = PP (some a) y ∧ aSetP (PP x y) 94 4 (some a) = PP x (some a) := ⟨rfl, rfl, rfl⟩
theorem pp_94l {x y : Option Nat} : ((PP x y)[94]?.getD []).length = 5 := rfl
section TEXT7
variable {d : Nat} {I : Nat → Nat → Int32} {x y : Option Nat}
/-- the class's reader as it begins -/
def tI (I : Nat → Nat → Int32) (L : Nat) : Nat → Nat → Int32 := aUpd (aUpd (aUpd I 94 2 (nI L)) 94 3 0) 95 4 0
theorem tI_ok {u L : Nat} : CS u L (tI I L) 0 [] (tI I L) := by
  unfold CS tI
  simp [aUpd_row, upd, aUpd_ne, nI_lit0]
theorem tI_ne {L r : Nat} (h1 : r ≠ 94) (h2 : r ≠ 95) : tI I L r = I r := by unfold tI; rw [aUpd_ne h2, aUpd_ne h1, aUpd_ne h1]
theorem k_faultOf {f L u nm a : Nat} {b : Bool} {I1 : Nat → Nat → Int32} (hf : isF f) (hL : L ≤ 60) (hu : u = 0 ∧ nm = 2001 ∨ u = 1 ∧ nm = 2002) (hc : aCall aMt (d + 98) 39 [.ref 94, .int 0, .int 0] (HH (tI I L) (some (f + 11)) (some nm)) = some (some (.int (if b then 1 else 0)), HH I1 (some (f + 11)) (some nm))) (h3 : I1 94 3 = nI a) (h2 : I1 94 2 = nI L) (ha : a ≤ L) : aCall aMt (d + 99) 38 [.ref 94, .ref (f + 11), .int (nI L), .int (nI u)] (HH I x y) = some (some (.int (if b = true ∧ a = L then -1 else nI a)), HH I1 (some (f + 11)) (some nm)) := by
  have g1 : ¬ (60 : Int32) < nI L := Int32.not_lt.mpr (nI_le (b := 60) hL (by omega))
  have kc := k_clear (d := d + 97) (I := aUpd (aUpd I 94 2 (nI L)) 94 3 0) (x := some (f + 11)) (y := some nm) (la := 95) (by unfold isL; omega)
  have l60 : Int32.ofNat 60 = 60 := rfl
  unfold tI at hc
  rw [e_38]
  cases b with
  | false =>
    simp only [Bool.false_eq_true, if_false, false_and] at hc ⊢
    rcases hu with ⟨rfl, rfl⟩ | ⟨rfl, rfl⟩ <;> simp [s_38, aILoad, aRLoad, aLLoad, aIStore, aRStore, aPush, aBin, aBinL, aShL, aUn, aIf, aIc, aGet, aPut, aIald, aBald, aAald, aIast, aBast, aAast, aAlen, aCopy, aCallV, aCallC, aCallI, aRet, aCat, aMax, aMin, aDiv, aRem, aI2l, aL2i, aNul, aSwS, aSw, aInc, aDup, aDup2, aPop1, aIret, aAret, aVret, aLen, aFk, aFT, Value.category, c_sh, c_q, f_sh hf, pp_94, pp_94l, g1, l60, kc, hc, h3, nI_lit0, nI_lit1]
  | true =>
    simp only [if_true, true_and] at hc ⊢
    by_cases e : a = L
    · subst e
      rcases hu with ⟨rfl, rfl⟩ | ⟨rfl, rfl⟩ <;> simp [s_38, aILoad, aRLoad, aLLoad, aIStore, aRStore, aPush, aBin, aBinL, aShL, aUn, aIf, aIc, aGet, aPut, aIald, aBald, aAald, aIast, aBast, aAast, aAlen, aCopy, aCallV, aCallC, aCallI, aRet, aCat, aMax, aMin, aDiv, aRem, aI2l, aL2i, aNul, aSwS, aSw, aInc, aDup, aDup2, aPop1, aIret, aAret, aVret, aLen, aFk, aFT, Value.category, c_sh, c_q, f_sh hf, pp_94, pp_94l, g1, l60, kc, hc, h3, h2, nI_lit0, nI_lit1]
    · have g2 : ¬ nI L ≤ nI a := nI_ge (by omega) (by omega)
      rcases hu with ⟨rfl, rfl⟩ | ⟨rfl, rfl⟩ <;> simp [s_38, aILoad, aRLoad, aLLoad, aIStore, aRStore, aPush, aBin, aBinL, aShL, aUn, aIf, aIc, aGet, aPut, aIald, aBald, aAald, aIast, aBast, aAast, aAlen, aCopy, aCallV, aCallC, aCallI, aRet, aCat, aMax, aMin, aDiv, aRem, aI2l, aL2i, aNul, aSwS, aSw, aInc, aDup, aDup2, aPop1, aIret, aAret, aVret, aLen, aFk, aFT, Value.category, c_sh, c_q, f_sh hf, pp_94, pp_94l, g1, l60, kc, hc, h3, h2, g2, e, nI_lit0, nI_lit1]
end TEXT7
