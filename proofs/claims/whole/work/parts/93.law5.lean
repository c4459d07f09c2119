/-! THE LAW: its start, and what it comes to -/
theorem aCall_m {mt : List aMeth} : ∀ (d : Nat) {x : Nat} {vs : List Value} {H : aH} {r : Option Value × aH}, aCall mt d x vs H = some r → aCall mt (d + 1) x vs H = some r
  | 0, _, _, _, _, h => by rw [aCall] at h; cases h
  | d + 1, x, vs, H, r, h => by
    rw [aCall] at h ⊢
    cases hq : mt[x]? with
    | none => rw [hq] at h; cases h
    | some q =>
      rw [hq] at h
      dsimp only at h ⊢
      by_cases hc : vs.length = q.2.2.2.2.2.1 ∧ (aArgs vs).length ≤ q.2.2.1 ∧ q.2.2.1 ≤ 13
      · rw [if_pos hc] at h ⊢
        obtain ⟨n, hn⟩ := aGo_run h
        exact aGo_of (aRun_cl (fun x vs H r h => aCall_m d h) n hn)
      · rw [if_neg hc] at h; cases h
theorem aCall_le {mt : List aMeth} {d e : Nat} (h : d ≤ e) {x : Nat} {vs : List Value} {H : aH} {r : Option Value × aH} (hc : aCall mt d x vs H = some r) : aCall mt e x vs H = some r := by
  induction h with
  | refl => exact hc
  | step _ ih => exact aCall_m _ ih
set_option maxRecDepth 100000 in
theorem aI2_tape : ∀ i, i < 60 → aI2 12 i = 0 := by decide +kernel
set_option maxRecDepth 100000 in
theorem aI2_sheet : (∀ i, i < 4 → ∀ j, j < 24 → aI2 (106 + 2 * i) j = 0) ∧ ∀ k, k < 96 → aI2 126 k = 0 := by decide +kernel
theorem aI2_rel : Rel aI2 := by
  obtain ⟨hf, h8, hv, he, hs⟩ := aI2_ok
  obtain ⟨r1, r2, r3, r4, r5⟩ := aI2_ref
  obtain ⟨a1, a2, a3, a4, a5, a6, a7⟩ := hf 1 (by decide)
  have kf : ∀ f, f ∈ [1, 32, 63] → kF f aI2 := fun f hm => ⟨(hf f hm).1, (hf f hm).2.2.1, (hf f hm).2.2.2.1⟩
  have b0 : ∀ k, k < 454 → k ≠ 4 → aI2 114 k = 0 := fun k hk h4 => by rw [r1 k hk, if_neg h4]
  refine ⟨⟨0, 0, ⟨⟨by omega, by omega⟩, ⟨a5 0 (by omega), a5 1 (by omega)⟩, ⟨b0 7 (by omega) (by omega), b0 8 (by omega) (by omega)⟩, a1, fun p hp => by omega, fun t ht => by omega, fun k hk => ?_, ⟨0, by omega, a6, b0 120 (by omega) (by omega), a3, fun i hi => by omega⟩, ⟨0, by omega, a7, b0 245 (by omega) (by omega), a4, fun i hi => by omega⟩⟩, ⟨⟨0, by omega, a5 2 (by omega), b0 5 (by omega) (by omega), fun i hi => by omega⟩, ⟨0, by omega, a5 3 (by omega), b0 6 (by omega) (by omega), fun i hi => by omega⟩, fun i hi => ?_⟩, ⟨fun p hp => by omega, fun t ht => by omega, ⟨⟨0, b0 120 (by omega) (by omega), Or.inl rfl⟩, ⟨0, b0 245 (by omega) (by omega), Or.inl rfl⟩⟩, fun k k1 k2 => ?_⟩⟩, ⟨h8.trans r4.symm, Or.inl h8, kf 32 (by decide)⟩, kf 63 (by decide), fun k k1 k2 => by rw [he k (by omega), r2 k (by omega)], fun i hi => ?_, ⟨0, by omega, hv, r5, fun j hj => by omega⟩⟩
  · by_cases e : k = 4
    · subst e; rw [r1 4 (by omega), if_pos rfl]; exact a2
    · have := a5 (4 + k) (by omega)
      rw [show 6 + (4 + k) = 10 + k by omega] at this
      rw [b0 k (by omega) e]; exact this
  · rw [show 1 + 11 = 12 from rfl, aI2_tape i hi]; rfl
  · rw [b0 k (by omega) (by omega)]; exact ⟨0, by omega, rfl⟩
  · obtain ⟨s1, s2⟩ := hs i hi
    obtain ⟨t1, t2⟩ := r3 i hi
    exact ⟨s1.trans t1.symm, Or.inl t1, ⟨0, by omega, s2, t2⟩, fun j hj => by rw [aI2_sheet.1 i hi j hj, aI2_sheet.2 _ (by omega)]⟩
theorem lw_start {L : Nat} {xs : Nat → Int32} : aGo (aCall aMt 400) (some (L, xs)) cd_law 1 0 (aInit [.ref 2999] 4) [] aH0 = aGo (aCall aMt 400) (some (L, xs)) cd_law 1 18 (lwLs 0) [] (HH aI2 (some 99) (some 2000)) := by
  have c1 : aCall aMt 400 63 [.ref 0] (aNew 7 9 aH0) = some (none, SH.take 113, aI1, (PP (some 99) (some 2000)).take 113) := aCall_le (by omega) (aCallF_of 20 aC1_eq)
  have c2 : aCall aMt 400 115 [.ref 113] (aNew 8 22 (SH.take 113, aI1, (PP (some 99) (some 2000)).take 113)) = some (none, SH, aI2, PP (some 99) (some 2000)) := aCall_le (by omega) (aCallF_of 20 aC2_eq)
  have l1 : aH0.1.length = 0 := rfl
  have l2 : (SH.take 113).length = 113 := rfl
  have e7 : aLen 7 = 9 := rfl
  have e8 : aLen 8 = 22 := rfl
  have i0 : aInit [.ref 2999] 4 = [some (.ref 2999), none, none, none] := rfl
  rw [i0]
  simp [w_begin, aDup, aCallC, aCallI, aRet, aCat, aRStore, aIStore, aPush, Value.category, l1, l2, e7, e8, c1, c2]
  rfl
theorem aGoal_ok : aGoal := by
  intro L xs hL
  obtain ⟨I, x, y, h⟩ := lw_loop (xs := xs) hL L 0 aI2 (some 99) (some 2000) (by omega) (by omega) aI2_rel
  obtain ⟨n, hn⟩ := aGo_run (lw_start.trans h)
  exact ⟨n, HH I x y, hn, by show SH.length ≤ 1000; decide +kernel, by show (SH.map (fun q => q.2)).sum ≤ 100000; decide +kernel⟩
