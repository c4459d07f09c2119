/-! the calls in pairs: people -/
theorem c_q {x y : Option Nat} : aP (PP x y) 0 3 = some 94 ∧ aP (PP x y) 0 4 = some 100 ∧ aP (PP x y) 0 5 = some 102 ∧ aP (PP x y) 0 6 = some 103 ∧ aP (PP x y) 0 7 = some 104 ∧ aP (PP x y) 94 0 = some 95 ∧ aP (PP x y) 94 1 = x ∧ aP (PP x y) 94 4 = y ∧ aP (PP x y) 100 0 = some 101 := ⟨rfl, rfl, rfl, rfl, rfl, rfl, rfl, rfl, rfl⟩
theorem c_f {f : Nat} {x y : Option Nat} (h : f = 1) : aP (PP x y) 0 0 = some f := by subst h; rfl
theorem c_g {f : Nat} {x y : Option Nat} (h : f = 32) : aP (PP x y) 0 1 = some f := by subst h; rfl
theorem c_h {f : Nat} {x y : Option Nat} (h : f = 63) : aP (PP x y) 0 2 = some f := by subst h; rfl
section PAIR1
variable {d : Nat} {I : Nat → Nat → Int32} {x y : Option Nat}
theorem rf_1 : aCall aMt (d + 2) 105 [.ref 0, .int (-1000000001)] (HH I x y) = some (some (.int (-1000000001)), HH (aUpd I 103 1 (I 103 1 + 1)) x y) := k_refuse (by decide) (by decide) (by decide)
theorem rf_2 : aCall aMt (d + 2) 105 [.ref 0, .int (-1000000002)] (HH I x y) = some (some (.int (-1000000002)), HH (aUpd I 103 2 (I 103 2 + 1)) x y) := k_refuse (by decide) (by decide) (by decide)
theorem rf_3 : aCall aMt (d + 2) 105 [.ref 0, .int (-1000000003)] (HH I x y) = some (some (.int (-1000000003)), HH (aUpd I 103 3 (I 103 3 + 1)) x y) := k_refuse (by decide) (by decide) (by decide)
theorem rf_4 : aCall aMt (d + 2) 105 [.ref 0, .int (-1000000004)] (HH I x y) = some (some (.int (-1000000004)), HH (aUpd I 103 4 (I 103 4 + 1)) x y) := k_refuse (by decide) (by decide) (by decide)
theorem rf_5 : aCall aMt (d + 2) 105 [.ref 0, .int (-1000000005)] (HH I x y) = some (some (.int (-1000000005)), HH (aUpd I 103 5 (I 103 5 + 1)) x y) := k_refuse (by decide) (by decide) (by decide)
theorem rf_6 : aCall aMt (d + 2) 105 [.ref 0, .int (-1000000006)] (HH I x y) = some (some (.int (-1000000006)), HH (aUpd I 103 6 (I 103 6 + 1)) x y) := k_refuse (by decide) (by decide) (by decide)
theorem re_1 : aCall aMt (d + 1) 116 [.ref 113, .int 1] (HH I x y) = some (some (.int (-1000000001)), HH (aUpd I 117 1 (I 117 1 + 1)) x y) := r_error (n := 1) (by decide)
theorem re_2 : aCall aMt (d + 1) 116 [.ref 113, .int 2] (HH I x y) = some (some (.int (-1000000002)), HH (aUpd I 117 2 (I 117 2 + 1)) x y) := r_error (n := 2) (by decide)
theorem re_3 : aCall aMt (d + 1) 116 [.ref 113, .int 3] (HH I x y) = some (some (.int (-1000000003)), HH (aUpd I 117 3 (I 117 3 + 1)) x y) := r_error (n := 3) (by decide)
theorem re_4 : aCall aMt (d + 1) 116 [.ref 113, .int 4] (HH I x y) = some (some (.int (-1000000004)), HH (aUpd I 117 4 (I 117 4 + 1)) x y) := r_error (n := 4) (by decide)
theorem re_5 : aCall aMt (d + 1) 116 [.ref 113, .int 5] (HH I x y) = some (some (.int (-1000000005)), HH (aUpd I 117 5 (I 117 5 + 1)) x y) := r_error (n := 5) (by decide)
theorem re_6 : aCall aMt (d + 1) 116 [.ref 113, .int 6] (HH I x y) = some (some (.int (-1000000006)), HH (aUpd I 117 6 (I 117 6 + 1)) x y) := r_error (n := 6) (by decide)
/-- both refuse with the number v, the n-th ERROR -/
theorem Pair.ref {cm rm : Nat} {args : List Value} (n : Nat) (v : Int32) (h : Rel I) (hc : aCall aMt (d + 20) cm (.ref 0 :: args) (HH I x y) = some (some (.int v), HH (aUpd I 103 n (I 103 n + 1)) x y))
    (hr : ∀ I' : Nat → Nat → Int32, (∀ r, r ≠ 103 → I' r = I r) → aCall aMt (d + 20) rm (.ref 113 :: args) (HH I' x y) = some (some (.int v), HH (aUpd I' 117 n (I' 117 n + 1)) x y)) :
    ∃ v I1 x1 y1 I2, aCall aMt (d + 20) cm (.ref 0 :: args) (HH I x y) = some (some (.int v), HH I1 x1 y1) ∧ aCall aMt (d + 20) rm (.ref 113 :: args) (HH I1 x1 y1) = some (some (.int v), HH I2 x1 y1) ∧ Rel I2 := by
  refine ⟨_, _, x, y, _, hc, hr _ (fun r hr => aUpd_ne hr), (Rel2.err (n := n) h).mk (fun r hr => aUpd_ne (by omega)) (fun r hr => ?_)⟩
  by_cases e : r = 117
  · subst e; rw [aUpd_row, aUpd_row, aUpd_ne (by omega)]
  · rw [aUpd_ne e, aUpd_ne e, aUpd_ne (by omega)]
/-- both answer v, nothing but scratch changes -/
theorem Pair.same {cm rm : Nat} {args : List Value} {v : Int32} {I1 I2 : Nat → Nat → Int32} (h : Rel I) (hc : aCall aMt (d + 20) cm (.ref 0 :: args) (HH I x y) = some (some (.int v), HH I1 x y))
    (hr : aCall aMt (d + 20) rm (.ref 113 :: args) (HH I1 x y) = some (some (.int v), HH I2 x y)) (hI : ∀ r, r < 113 → r ≠ 7 → r ≠ 11 → (r < 63 ∨ 94 ≤ r) → I2 r = I r) (hk : kF 63 I2) (hJ : ∀ r, 113 ≤ r → r ≠ 119 → r ≠ 120 → I2 r = I r) :
    ∃ v I1 x1 y1 I2, aCall aMt (d + 20) cm (.ref 0 :: args) (HH I x y) = some (some (.int v), HH I1 x1 y1) ∧ aCall aMt (d + 20) rm (.ref 113 :: args) (HH I1 x1 y1) = some (some (.int v), HH I2 x1 y1) ∧ Rel I2 := by
  obtain ⟨P, T, hA⟩ := h.1
  have hr0 : ∀ r, 1 ≤ r → r ≤ 31 → r ≠ 7 → r ≠ 11 → I2 r = I r := fun r a b c e => hI r (by omega) c e (by omega)
  refine ⟨_, _, x, y, _, hc, hr, Rel2.now (P := P) (T := T) h (fun r hr => hI r (by unfold liveI at hr; omega) (by unfold liveI at hr; omega) (by unfold liveI at hr; omega) (by unfold liveI at hr; omega)) hk (by rw [hJ 113 (by omega) (by omega) (by omega)]) (by rw [hJ 113 (by omega) (by omega) (by omega)]) (fun r hr => hJ r (by unfold liveJ at hr; omega) (by unfold liveJ at hr; omega) (by unfold liveJ at hr; omega)) ?_⟩
  have e := hJ 114 (by omega) (by omega) (by omega)
  rw [e]
  have g : relF 1 I2 (I 114) P T := by
    obtain ⟨h1, h2, h3, h4, h5, h6, h7, h8, h9⟩ := hA.1
    refine ⟨h1, by rw [hr0 1 (by omega) (by omega) (by omega) (by omega)]; exact h2, h3, fun p hp => by rw [hr0 _ (by omega) (by omega) (by omega) (by omega)]; exact h4 p hp, fun p hp j hj => by rw [hr0 _ (by omega) (by omega) (by omega) (by omega)]; exact h5 p hp j hj, fun t ht j hj => by rw [hr0 _ (by omega) (by omega) (by omega) (by omega)]; exact h6 t ht j hj, fun k hj => by rw [hr0 1 (by omega) (by omega) (by omega) (by omega)]; exact h7 k hj, relL_congr h8 (hr0 _ (by omega) (by omega) (by omega) (by omega)) (hr0 _ (by omega) (by omega) (by omega) (by omega)) (hr0 _ (by omega) (by omega) (by omega) (by omega)) (fun _ _ _ => rfl), relL_congr h9 (hr0 _ (by omega) (by omega) (by omega) (by omega)) (hr0 _ (by omega) (by omega) (by omega) (by omega)) (hr0 _ (by omega) (by omega) (by omega) (by omega)) (fun _ _ _ => rfl)⟩
  have e1 := hr0 1 (by omega) (by omega) (by omega) (by omega)
  exact ⟨g, hA.2.1.cg (by rw [e1]) (by rw [e1]) (hr0 12 (by omega) (by omega) (by omega) (by omega)) (hr0 13 (by omega) (by omega) (by omega) (by omega)) (fun _ _ => rfl), hA.2.2⟩
/-- the class changes its Fridge now, the reference its row -/
theorem Pair.now {cm rm f P T : Nat} {args : List Value} {v : Int32} {I1 I2 : Nat → Nat → Int32} (h : Rel I) (h1 : f = 1) (hc : aCall aMt (d + 20) cm (.ref 0 :: args) (HH I x y) = some (some (.int v), HH I1 x y))
    (hr : aCall aMt (d + 20) rm (.ref 113 :: args) (HH I1 x y) = some (some (.int v), HH I2 x y)) (hI : KG f I I1) (hJ : RG I1 I2) (hA : relA f I1 (I2 114) P T) :
    ∃ v I1 x1 y1 I2, aCall aMt (d + 20) cm (.ref 0 :: args) (HH I x y) = some (some (.int v), HH I1 x1 y1) ∧ aCall aMt (d + 20) rm (.ref 113 :: args) (HH I1 x1 y1) = some (some (.int v), HH I2 x1 y1) ∧ Rel I2 := by
  subst h1
  have a1 : ∀ r, r < 113 → I2 r = I1 r := fun r hr => hJ r (by omega) (by omega) (by omega)
  have a2 : ∀ r, 113 ≤ r → r ≠ 114 → r ≠ 119 → r ≠ 120 → I2 r = I r := fun r b c e g => by rw [hJ r c e g, hI r (by omega)]
  refine ⟨_, _, x, y, _, hc, hr, Rel2.now (P := P) (T := T) h (fun r hr => ?_) (h.2.2.1.rows fun r b c => ?_) (by rw [a2 113 (by omega) (by omega) (by omega) (by omega)]) (by rw [a2 113 (by omega) (by omega) (by omega) (by omega)]) (fun r hr => a2 r (by unfold liveJ at hr; omega) (by unfold liveJ at hr; omega) (by unfold liveJ at hr; omega) (by unfold liveJ at hr; omega)) (hA.rows fun r b c => a1 r (by omega))⟩
  · unfold liveI at hr; rw [a1 r (by omega), hI r (by omega)]
  · rw [a1 r (by omega), hI r (by omega)]
theorem Rel.f (h : Rel I) : ∃ f P T, f = 1 ∧ isF f ∧ relA f I (I 114) P T := by
  obtain ⟨P, T, hA⟩ := h.1
  exact ⟨1, P, T, rfl, Or.inl rfl, hA⟩
end PAIR1
