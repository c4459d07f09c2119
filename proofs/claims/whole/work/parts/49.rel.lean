/-! what holds between the class and the reference -/
def bRel (c r : Int32) : Prop := (∃ n, n < 128 ∧ r = nI n ∧ c = nI n) ∨ (c < 0 ∧ ∃ n, 128 ≤ n ∧ n < 256 ∧ r = nI n)
def okB (f : Nat) (I : Nat → Nat → Int32) : Prop := ∀ i, i < 60 → fits .byte (.int (I (f + 11) i)) = true
def relW (f : Nat) (I : Nat → Nat → Int32) (σ : Nat → Int32) : Prop :=
  (∃ L, L ≤ 60 ∧ I f 8 = nI L ∧ σ 5 = nI L ∧ ∀ i, i < L → bRel (I (f + 11) i) (σ (370 + i))) ∧ (∃ W, W ≤ 24 ∧ I f 9 = nI W ∧ σ 6 = nI W ∧ ∀ i, i < W → I (f + 12) i = σ (430 + i)) ∧ okB f I
def kF (f : Nat) (I : Nat → Nat → Int32) : Prop := (∀ p, p < 8 → I (f + 13 + p) 0 = nI p) ∧ I (f + 3) 0 = 0 ∧ I (f + 7) 0 = 1
def relA (f : Nat) (I : Nat → Nat → Int32) (σ : Nat → Int32) (P T : Nat) : Prop := relF f I σ P T ∧ relW f I σ ∧ wfS σ P T
theorem relF.k {f P T : Nat} {I : Nat → Nat → Int32} {σ : Nat → Int32} (h : relF f I σ P T) : kF f I := by
  obtain ⟨h1, h2, h3, h4, h5, h6, h7, ⟨n, _, _, _, e, _⟩, ⟨m, _, _, _, e2, _⟩⟩ := h
  exact ⟨h4, e, e2⟩
theorem relF.copy {f g P T : Nat} {I I1 : Nat → Nat → Int32} {σ : Nat → Int32} (h : relF g I σ P T) (hk : kF f I) (hc : cpy f g P T I I1) : relF f I1 σ P T := by
  obtain ⟨h1, h2, h3, h4, h5, h6, h7, h8, h9⟩ := h
  obtain ⟨c0, c1, c2, c3, c4, c5, c6, c7⟩ := hc
  refine ⟨h1, ⟨by rw [c1 6 (by omega) (by omega)]; exact h2.1, by rw [c1 7 (by omega) (by omega)]; exact h2.2⟩, h3, fun p hp => by rw [c2 p hp]; exact hk.1 p hp, fun p hp j hj => by rw [c3 p hp (j + 1) (by omega) (by omega)]; exact h5 p hp j hj, fun t ht j hj => by rw [c4 t ht j hj]; exact h6 t ht j hj, fun k hj => by rw [c1 (10 + k) (by omega) (by omega)]; exact h7 k hj, ?_, ?_⟩
  · obtain ⟨n, a, b, c, e, w⟩ := h8
    obtain ⟨q0, q1, q2⟩ := c5 3 (Or.inl rfl)
    exact ⟨n, a, by rw [q1]; exact b, c, by rw [q0]; exact hk.2.1, fun i hi => by rw [(q2 i (by omega)).1, (q2 i (by omega)).2]; exact w i hi⟩
  · obtain ⟨n, a, b, c, e, w⟩ := h9
    obtain ⟨q0, q1, q2⟩ := c5 7 (Or.inr rfl)
    exact ⟨n, a, by rw [q1]; exact b, c, by rw [q0]; exact hk.2.2, fun i hi => by rw [(q2 i (by omega)).1, (q2 i (by omega)).2]; exact w i hi⟩
theorem relW.copy {f g P T : Nat} {I I1 : Nat → Nat → Int32} {σ : Nat → Int32} (h : relW g I σ) (hc : cpy f g P T I I1) : relW f I1 σ := by
  obtain ⟨⟨L, l1, l2, l3, l4⟩, ⟨W, w1, w2, w3, w4⟩, hb⟩ := h
  obtain ⟨c0, c1, c2, c3, c4, c5, c6, c7⟩ := hc
  exact ⟨⟨L, l1, by rw [c1 8 (by omega) (by omega)]; exact l2, l3, fun i hi => by rw [c6 i (by omega)]; exact l4 i hi⟩, ⟨W, w1, by rw [c1 9 (by omega) (by omega)]; exact w2, w3, fun i hi => by rw [c7 i (by omega)]; exact w4 i hi⟩, fun i hi => by rw [c6 i hi]; exact hb i hi⟩
theorem relA.copy {f g P T : Nat} {I I1 : Nat → Nat → Int32} {σ : Nat → Int32} (h : relA g I σ P T) (hk : kF f I) (hc : cpy f g P T I I1) : relA f I1 σ P T := ⟨h.1.copy hk hc, h.2.1.copy hc, h.2.2⟩
/-- of one Fridge all rows stand -/
theorem relF.rows {f P T : Nat} {I I1 : Nat → Nat → Int32} {σ : Nat → Int32} (h : relF f I σ P T) (hP : P ≤ 8) (hT : T ≤ 10) (hk : ∀ r, f ≤ r → r ≤ f + 30 → I1 r = I r) : relF f I1 σ P T := by
  obtain ⟨h1, h2, h3, h4, h5, h6, h7, h8, h9⟩ := h
  refine ⟨h1, by rw [hk f (by omega) (by omega)]; exact h2, h3, fun p hp => by rw [hk _ (by omega) (by omega)]; exact h4 p hp, fun p hp j hj => by rw [hk _ (by omega) (by omega)]; exact h5 p hp j hj, fun t ht j hj => by rw [hk _ (by omega) (by omega)]; exact h6 t ht j hj, fun k hj => by rw [hk f (by omega) (by omega)]; exact h7 k hj, relL_congr h8 (hk _ (by omega) (by omega)) (hk _ (by omega) (by omega)) (hk _ (by omega) (by omega)) (fun _ _ _ => rfl), relL_congr h9 (hk _ (by omega) (by omega)) (hk _ (by omega) (by omega)) (hk _ (by omega) (by omega)) (fun _ _ _ => rfl)⟩
theorem relW.rows {f : Nat} {I I1 : Nat → Nat → Int32} {σ : Nat → Int32} (h : relW f I σ) (hk : ∀ r, f ≤ r → r ≤ f + 30 → I1 r = I r) : relW f I1 σ := by
  obtain ⟨⟨L, l1, l2, l3, l4⟩, ⟨W, w1, w2, w3, w4⟩, hb⟩ := h
  exact ⟨⟨L, l1, by rw [hk f (by omega) (by omega)]; exact l2, l3, fun i hi => by rw [hk _ (by omega) (by omega)]; exact l4 i hi⟩, ⟨W, w1, by rw [hk f (by omega) (by omega)]; exact w2, w3, fun i hi => by rw [hk _ (by omega) (by omega)]; exact w4 i hi⟩, fun i hi => by rw [hk _ (by omega) (by omega)]; exact hb i hi⟩
theorem relA.rows {f P T : Nat} {I I1 : Nat → Nat → Int32} {σ : Nat → Int32} (h : relA f I σ P T) (hk : ∀ r, f ≤ r → r ≤ f + 30 → I1 r = I r) : relA f I1 σ P T := ⟨h.1.rows h.1.1.1 h.1.1.2 hk, h.2.1.rows hk, h.2.2⟩
theorem kF.rows {f : Nat} {I I1 : Nat → Nat → Int32} (h : kF f I) (hk : ∀ r, f ≤ r → r ≤ f + 30 → I1 r = I r) : kF f I1 :=
  ⟨fun p hp => by rw [hk _ (by omega) (by omega)]; exact h.1 p hp, by rw [hk _ (by omega) (by omega)]; exact h.2.1, by rw [hk _ (by omega) (by omega)]; exact h.2.2⟩
/-- what a Fridge's TAPE and what waits stand on -/
theorem relW.cg {f : Nat} {I I1 : Nat → Nat → Int32} {σ σ1 : Nat → Int32} (h : relW f I σ) (h8 : I1 f 8 = I f 8) (h9 : I1 f 9 = I f 9) (h11 : I1 (f + 11) = I (f + 11)) (h12 : I1 (f + 12) = I (f + 12)) (hs : ∀ k, k = 5 ∨ k = 6 ∨ 370 ≤ k → σ1 k = σ k) : relW f I1 σ1 := by
  obtain ⟨⟨L, l1, l2, l3, l4⟩, ⟨W, w1, w2, w3, w4⟩, hb⟩ := h
  exact ⟨⟨L, l1, h8.trans l2, (hs 5 (by omega)).trans l3, fun i hi => by rw [h11, hs (370 + i) (by omega)]; exact l4 i hi⟩, ⟨W, w1, h9.trans w2, (hs 6 (by omega)).trans w3, fun i hi => by rw [h12, hs (430 + i) (by omega)]; exact w4 i hi⟩, fun i hi => by rw [h11]; exact hb i hi⟩
def relE (I J : Nat → Nat → Int32) : Prop := ∀ k, 1 ≤ k → k < 7 → I 103 k = J 117 k
def isBits (v : Int32) : Prop := v = 0 ∨ v = 8 ∨ v = 16 ∨ v = 32
def relS (I J : Nat → Nat → Int32) : Prop := ∀ i, i < 4 → I (105 + 2 * i) 1 = J 124 i ∧ isBits (J 124 i) ∧ (∃ n, n ≤ 24 ∧ I (105 + 2 * i) 2 = nI n ∧ J 125 i = nI n) ∧ ∀ j, j < 24 → I (106 + 2 * i) j = J 126 (24 * i + j)
def relV (I J : Nat → Nat → Int32) : Prop := ∃ n, n ≤ 30 ∧ I 100 1 = nI n ∧ J 113 14 = nI n ∧ ∀ j, j < n → I 101 j = J 123 j
def relK (I J : Nat → Nat → Int32) : Prop := I 0 8 = J 113 3 ∧ (I 0 8 = 0 ∨ ∃ P T, relA 32 I (J 115) P T) ∧ kF 32 I
def Rel2 (I J : Nat → Nat → Int32) : Prop := (∃ P T, relA 1 I (J 114) P T) ∧ relK I J ∧ kF 63 I ∧ relE I J ∧ relS I J ∧ relV I J
def Rel (I : Nat → Nat → Int32) : Prop := Rel2 I I
/-- rows that count, beside those of the Fridge now and the reference's row -/
def liveI (r : Nat) : Prop := r = 0 ∨ 31 < r ∧ r < 63 ∨ r = 100 ∨ r = 101 ∨ r = 103 ∨ 104 < r ∧ r < 113
def liveJ (r : Nat) : Prop := r = 115 ∨ r = 117 ∨ 122 < r ∧ r < 127
theorem Rel2.now {I J I1 J1 : Nat → Nat → Int32} {P T : Nat} (h : Rel2 I J) (hI : ∀ r, liveI r → I1 r = I r) (hk : kF 63 I1) (h3 : J1 113 3 = J 113 3) (h14 : J1 113 14 = J 113 14) (hJ : ∀ r, liveJ r → J1 r = J r) (hA : relA 1 I1 (J1 114) P T) : Rel2 I1 J1 := by
  obtain ⟨_, ⟨k1, k2, k3⟩, hF, hE, hS, hV⟩ := h
  refine ⟨⟨P, T, hA⟩, ⟨?_, ?_, k3.rows fun r _ _ => hI r (by unfold liveI; omega)⟩, hk, fun k a b => ?_, fun i hi => ?_, ?_⟩
  · rw [hI 0 (by unfold liveI; omega), h3]; exact k1
  · rw [hI 0 (by unfold liveI; omega), hJ 115 (by unfold liveJ; omega)]
    exact k2.imp id fun ⟨P, T, q⟩ => ⟨P, T, q.rows fun r _ _ => hI r (by unfold liveI; omega)⟩
  · rw [hI 103 (by unfold liveI; omega), hJ 117 (by unfold liveJ; omega)]; exact hE k a b
  · rw [hI _ (by unfold liveI; omega), hI _ (by unfold liveI; omega), hJ 124 (by unfold liveJ; omega), hJ 125 (by unfold liveJ; omega), hJ 126 (by unfold liveJ; omega)]; exact hS i hi
  · obtain ⟨n, a, b, c, e⟩ := hV
    exact ⟨n, a, by rw [hI 100 (by unfold liveI; omega)]; exact b, by rw [h14]; exact c, fun j hj => by rw [hI 101 (by unfold liveI; omega), hJ 123 (by unfold liveJ; omega)]; exact e j hj⟩
theorem Rel2.cg {I J I1 J1 : Nat → Nat → Int32} (h : Rel2 I J) (hI : ∀ r, (1 ≤ r ∧ r ≤ 31) ∨ liveI r → I1 r = I r) (hk : kF 63 I1) (h3 : J1 113 3 = J 113 3) (h14 : J1 113 14 = J 113 14) (hJ : ∀ r, r = 114 ∨ liveJ r → J1 r = J r) : Rel2 I1 J1 := by
  obtain ⟨P, T, hA⟩ := h.1
  exact h.now (P := P) (T := T) (fun r hr => hI r (Or.inr hr)) hk h3 h14 (fun r hr => hJ r (Or.inr hr)) (by rw [hJ 114 (Or.inl rfl)]; exact hA.rows fun r a b => hI r (Or.inl ⟨a, by omega⟩))
/-- a class's call that leaves rows behind 112 and a reference's that leaves those before 113 -/
theorem Rel2.mk {I J K : Nat → Nat → Int32} (h : Rel2 I J) (hI : ∀ r, r < 113 → K r = I r) (hJ : ∀ r, 113 ≤ r → K r = J r) : Rel K :=
  h.cg (fun r hr => hI r (by unfold liveI at hr; omega)) (h.2.2.1.rows fun r a b => hI r (by omega)) (by rw [hJ 113 (by omega)]) (by rw [hJ 113 (by omega)]) (fun r hr => hJ r (by unfold liveJ at hr; omega))
theorem Rel2.err {I J : Nat → Nat → Int32} {n : Nat} (h : Rel2 I J) : Rel2 (aUpd I 103 n (I 103 n + 1)) (aUpd J 117 n (J 117 n + 1)) := by
  obtain ⟨⟨P, T, hA⟩, ⟨k1, k2, k3⟩, hF, hE, hS, hV⟩ := h
  refine ⟨⟨P, T, ?_⟩, ⟨?_, ?_, k3.rows fun r _ _ => aUpd_ne (by omega)⟩, hF.rows fun r _ _ => aUpd_ne (by omega), fun k a b => ?_, fun i hi => ?_, ?_⟩
  · rw [aUpd_ne (by omega)]; exact hA.rows fun r _ _ => aUpd_ne (by omega)
  · rw [aUpd_ne (by omega), aUpd_ne (by omega)]; exact k1
  · rw [aUpd_ne (by omega), aUpd_ne (by omega)]
    exact k2.imp id fun ⟨P, T, q⟩ => ⟨P, T, q.rows fun r _ _ => aUpd_ne (by omega)⟩
  · rw [aUpd_row, aUpd_row]
    by_cases e : k = n
    · subst e; rw [upd_eq, upd_eq, hE k a b]
    · rw [upd_ne e, upd_ne e]; exact hE k a b
  · rw [aUpd_ne (by omega), aUpd_ne (by omega), aUpd_ne (by omega), aUpd_ne (by omega), aUpd_ne (by omega)]; exact hS i hi
  · obtain ⟨n, a, b, c, e⟩ := hV
    exact ⟨n, a, by rw [aUpd_ne (by omega)]; exact b, by rw [aUpd_ne (by omega)]; exact c, fun j hj => by rw [aUpd_ne (by omega), aUpd_ne (by omega)]; exact e j hj⟩
/-- a call of the class, then the same of the reference -/
def Pair (cm rm : Nat) (args : List Value) : Prop := ∀ (d : Nat) (I : Nat → Nat → Int32) (x y : Option Nat), Rel I → ∃ v I1 x1 y1 I2, aCall aMt (d + 20) cm (.ref 0 :: args) (HH I x y) = some (some (.int v), HH I1 x1 y1) ∧ aCall aMt (d + 20) rm (.ref 113 :: args) (HH I1 x1 y1) = some (some (.int v), HH I2 x1 y1) ∧ Rel I2
/-- both refuse -/
theorem Pair.no {cm rm n d : Nat} {args : List Value} {I : Nat → Nat → Int32} {x y : Option Nat} (h : Rel I) (hc : aCall aMt (d + 20) cm (.ref 0 :: args) (HH I x y) = some (some (.int (-1000000000 - nI n)), HH (aUpd I 103 n (I 103 n + 1)) x y))
    (hr : ∀ I' : Nat → Nat → Int32, (∀ r, r ≠ 103 → I' r = I r) → aCall aMt (d + 20) rm (.ref 113 :: args) (HH I' x y) = some (some (.int (-1000000000 - nI n)), HH (aUpd I' 117 n (I' 117 n + 1)) x y)) :
    ∃ v I1 x1 y1 I2, aCall aMt (d + 20) cm (.ref 0 :: args) (HH I x y) = some (some (.int v), HH I1 x1 y1) ∧ aCall aMt (d + 20) rm (.ref 113 :: args) (HH I1 x1 y1) = some (some (.int v), HH I2 x1 y1) ∧ Rel I2 := by
  refine ⟨_, _, x, y, _, hc, hr _ (fun r hr => aUpd_ne hr), (Rel2.err (n := n) h).mk (fun r hr => aUpd_ne (by omega)) (fun r hr => ?_)⟩
  by_cases e : r = 117
  · subst e; rw [aUpd_row, aUpd_row, aUpd_ne (by omega)]
  · rw [aUpd_ne e, aUpd_ne e, aUpd_ne (by omega)]
