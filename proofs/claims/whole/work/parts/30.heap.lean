/-! the heap behind the constructors: cells 0 .. 112 the class, 113 .. 127 the reference. A Fridge f (1 now, 32 kept, 63 thought): people f + 1, things f + 2, laws f + 3 and f + 7 (rows behind them), tape f + 11, waiting f + 12, persons from f + 13, things from f + 21 -/
def SH : List (Nat × Nat) := [(7, 9), (0, 15), (22, 8), (23, 10), (1, 5), (20, 60), (20, 60), (20, 60), (1, 5), (20, 60), (20, 60), (20, 60), (21, 60), (20, 24), (2, 6), (2, 6), (2, 6), (2, 6), (2, 6), (2, 6), (2, 6), (2, 6), (5, 7), (5, 7), (5, 7), (5, 7), (5, 7), (5, 7), (5, 7), (5, 7), (5, 7), (5, 7), (0, 15), (22, 8), (23, 10), (1, 5), (20, 60), (20, 60), (20, 60), (1, 5), (20, 60), (20, 60), (20, 60), (21, 60), (20, 24), (2, 6), (2, 6), (2, 6), (2, 6), (2, 6), (2, 6), (2, 6), (2, 6), (5, 7), (5, 7), (5, 7), (5, 7), (5, 7), (5, 7), (5, 7), (5, 7), (5, 7), (5, 7), (0, 15), (22, 8), (23, 10), (1, 5), (20, 60), (20, 60), (20, 60), (1, 5), (20, 60), (20, 60), (20, 60), (21, 60), (20, 24), (2, 6), (2, 6), (2, 6), (2, 6), (2, 6), (2, 6), (2, 6), (2, 6), (5, 7), (5, 7), (5, 7), (5, 7), (5, 7), (5, 7), (5, 7), (5, 7), (5, 7), (5, 7), (3, 5), (1, 5), (20, 60), (20, 60), (20, 60), (21, 0), (6, 7), (20, 30), (24, 4), (20, 7), (20, 8), (4, 3), (20, 24), (4, 3), (20, 24), (4, 3), (20, 24), (4, 3), (20, 24), (8, 22), (20, 454), (20, 454), (20, 120), (20, 7), (20, 124), (20, 128), (20, 64), (20, 80), (20, 8), (20, 30), (20, 4), (20, 4), (20, 96), (20, 24)]
def PP (x y : Option Nat) : List (List (Option Nat)) := [
  [some 1, some 32, some 63, some 94, some 100, some 102, some 103, some 104, none],
  [some 2, some 3, some 4, some 8, some 12, some 13, none, none, none, none, none, none, none, none, none],
  [some 14, some 15, some 16, some 17, some 18, some 19, some 20, some 21],
  [some 22, some 23, some 24, some 25, some 26, some 27, some 28, some 29, some 30, some 31],
  [none, some 5, some 6, some 7, none],
  [],
  [],
  [],
  [none, some 9, some 10, some 11, none],
  [],
  [],
  [],
  [],
  [],
  [none, none, none, none, none, none],
  [none, none, none, none, none, none],
  [none, none, none, none, none, none],
  [none, none, none, none, none, none],
  [none, none, none, none, none, none],
  [none, none, none, none, none, none],
  [none, none, none, none, none, none],
  [none, none, none, none, none, none],
  [none, none, none, none, none, none, none],
  [none, none, none, none, none, none, none],
  [none, none, none, none, none, none, none],
  [none, none, none, none, none, none, none],
  [none, none, none, none, none, none, none],
  [none, none, none, none, none, none, none],
  [none, none, none, none, none, none, none],
  [none, none, none, none, none, none, none],
  [none, none, none, none, none, none, none],
  [none, none, none, none, none, none, none],
  [some 33, some 34, some 35, some 39, some 43, some 44, none, none, none, none, none, none, none, none, none],
  [some 45, some 46, some 47, some 48, some 49, some 50, some 51, some 52],
  [some 53, some 54, some 55, some 56, some 57, some 58, some 59, some 60, some 61, some 62],
  [none, some 36, some 37, some 38, none],
  [],
  [],
  [],
  [none, some 40, some 41, some 42, none],
  [],
  [],
  [],
  [],
  [],
  [none, none, none, none, none, none],
  [none, none, none, none, none, none],
  [none, none, none, none, none, none],
  [none, none, none, none, none, none],
  [none, none, none, none, none, none],
  [none, none, none, none, none, none],
  [none, none, none, none, none, none],
  [none, none, none, none, none, none],
  [none, none, none, none, none, none, none],
  [none, none, none, none, none, none, none],
  [none, none, none, none, none, none, none],
  [none, none, none, none, none, none, none],
  [none, none, none, none, none, none, none],
  [none, none, none, none, none, none, none],
  [none, none, none, none, none, none, none],
  [none, none, none, none, none, none, none],
  [none, none, none, none, none, none, none],
  [none, none, none, none, none, none, none],
  [some 64, some 65, some 66, some 70, some 74, some 75, none, none, none, none, none, none, none, none, none],
  [some 76, some 77, some 78, some 79, some 80, some 81, some 82, some 83],
  [some 84, some 85, some 86, some 87, some 88, some 89, some 90, some 91, some 92, some 93],
  [none, some 67, some 68, some 69, none],
  [],
  [],
  [],
  [none, some 71, some 72, some 73, none],
  [],
  [],
  [],
  [],
  [],
  [none, none, none, none, none, none],
  [none, none, none, none, none, none],
  [none, none, none, none, none, none],
  [none, none, none, none, none, none],
  [none, none, none, none, none, none],
  [none, none, none, none, none, none],
  [none, none, none, none, none, none],
  [none, none, none, none, none, none],
  [none, none, none, none, none, none, none],
  [none, none, none, none, none, none, none],
  [none, none, none, none, none, none, none],
  [none, none, none, none, none, none, none],
  [none, none, none, none, none, none, none],
  [none, none, none, none, none, none, none],
  [none, none, none, none, none, none, none],
  [none, none, none, none, none, none, none],
  [none, none, none, none, none, none, none],
  [none, none, none, none, none, none, none],
  [some 95, x, none, none, y],
  [none, some 96, some 97, some 98, none],
  [],
  [],
  [],
  [],
  [some 101, none, none, none, none, none, none],
  [],
  [some 105, some 107, some 109, some 111],
  [],
  [],
  [some 106, none, none],
  [],
  [some 108, none, none],
  [],
  [some 110, none, none],
  [],
  [some 112, none, none],
  [],
  [some 114, some 115, some 116, none, some 117, none, none, none, none, some 118, some 119, some 120, some 121, some 122, none, some 123, none, none, some 124, some 125, some 126, some 127],
  [],
  [],
  [],
  [],
  [],
  [],
  [],
  [],
  [],
  [],
  [],
  [],
  [],
  []]
theorem aStep_cl {cl cl' : Nat → List Value → aH → aRs} (K : ∀ x vs H r, cl x vs H = some r → cl' x vs H = some r) {scr : aSc} {rt : Nat} {k : Nat → aLs → List Value → aH → aRs} {r : Option Value × aH} {q : aCI} {ls : aLs} {st : List Value} {H : aH} (h : aStep cl scr rt k q ls st H = some r) : aStep cl' scr rt k q ls st H = some r := by
  have Kr : ∀ (kk : List Value → aH → aRs) x vs st', aRet kk (cl x vs H) st' = some r → aRet kk (cl' x vs H) st' = some r := fun kk x vs st' h => by
    cases hc : cl x vs H with
    | none => rw [hc] at h; cases h
    | some z => rw [hc] at h; rw [K _ _ _ _ hc]; exact h
  have Ki : ∀ (kk : List Value → aH → aRs) x y, aCallI kk cl x y H st = some r → aCallI kk cl' x y H st = some r := fun kk x y h => by
    unfold aCallI at h ⊢
    by_cases hc : y ≤ st.length ∧ aCat (st.drop y) ≤ 8
    · rw [if_pos hc] at h ⊢; exact Kr _ _ _ _ h
    · rw [if_neg hc] at h; cases h
  obtain ⟨pc, len, i, x, y, c, sw⟩ := q
  cases i <;> simp only [aStep] at h ⊢ <;> first | exact h | skip
  case invokevirtual =>
    by_cases hx : x < 900
    · rw [if_pos hx] at h ⊢
      unfold aCallV at h ⊢
      split at h
      · rename_i b hb
        by_cases hc : H.1[b]? = some (y / 100, aLen (y / 100)) ∨ (y / 100 = 12 ∧ 2000 ≤ b ∧ b < 2003)
        · rw [if_pos hc] at h; simp only [if_pos hc]; exact Ki _ _ _ h
        · rw [if_neg hc] at h; cases h
      · cases h
    · rw [if_neg hx] at h; cases h
  case invokestatic =>
    by_cases h0 : x = 900
    · rw [if_pos h0] at h ⊢; exact h
    · rw [if_neg h0] at h ⊢
      by_cases h1 : x = 901
      · rw [if_pos h1] at h ⊢; exact h
      · rw [if_neg h1] at h ⊢
        by_cases h2 : x = 902
        · rw [if_pos h2] at h ⊢; exact h
        · rw [if_neg h2] at h ⊢
          by_cases h3 : x < 900
          · rw [if_pos h3] at h ⊢; exact Ki _ _ _ h
          · rw [if_neg h3] at h; cases h
  case invokespecial =>
    by_cases h0 : x = 904
    · rw [if_pos h0] at h ⊢; exact h
    · rw [if_neg h0] at h ⊢
      by_cases h3 : x < 900
      · rw [if_pos h3] at h ⊢
        unfold aCallC at h ⊢
        split at h
        · exact Ki _ _ _ h
        · cases h
      · rw [if_neg h3] at h; cases h
theorem aRun_cl {cl cl' : Nat → List Value → aH → aRs} (K : ∀ x vs H r, cl x vs H = some r → cl' x vs H = some r) {scr : aSc} {cd : aCd} {rt : Nat} {r : Option Value × aH} : ∀ (n : Nat) {pc : Nat} {ls : aLs} {st : List Value} {H : aH}, aRun cl scr cd rt n pc ls st H = some r → aRun cl' scr cd rt n pc ls st H = some r
  | 0, _, _, _, _, h => by cases h
  | n + 1, pc, ls, st, H, h => by
    rw [aRun] at h ⊢
    split at h
    · obtain ⟨-, h1⟩ := aStep_c (kn := fun _ => aRun cl' scr cd rt n) (fun p ls st H r h => ⟨0, aRun_cl K n h⟩) h
      exact aStep_cl K h1
    · cases h
theorem aCallF_of {mt : List aMeth} {f : Nat} {r : Option Value × aH} : ∀ (d : Nat) {x : Nat} {vs : List Value} {H : aH}, aCallF mt f d x vs H = some r → aCall mt d x vs H = some r
  | 0, _, _, _, h => by cases h
  | d + 1, x, vs, H, h => by
    rw [aCallF] at h
    rw [aCall]
    cases hm : mt[x]? with
    | none => rw [hm] at h; cases h
    | some q =>
      rw [hm] at h
      dsimp only at h ⊢
      by_cases hc : vs.length = q.2.2.2.2.2.1 ∧ (aArgs vs).length ≤ q.2.2.1 ∧ q.2.2.1 ≤ 13
      · rw [if_pos hc] at h ⊢
        exact aGo_of (aRun_cl (fun x vs H r h => aCallF_of d h) f h)
      · rw [if_neg hc] at h; cases h
def aC1 : aRs := aCallF aMt 5000 20 63 [.ref 0] (aNew 7 9 aH0)
def aI1 : Nat → Nat → Int32 := match aC1 with
  | some z => z.2.2.1
  | none => fun _ _ => 0
def aC2 : aRs := aCallF aMt 5000 20 115 [.ref 113] (aNew 8 22 (SH.take 113, aI1, (PP (some 99) (some 2000)).take 113))
def aI2 : Nat → Nat → Int32 := match aC2 with
  | some z => z.2.2.1
  | none => fun _ _ => 0
theorem aOf {c : aRs} {S : List (Nat × Nat)} {P : List (List (Option Nat))} (h : (match c with | some z => z.1.isNone && decide (z.2.1 = S) && decide (z.2.2.2 = P) | none => false) = true) : c = some (none, S, (match c with | some z => z.2.2.1 | none => fun _ _ => 0), P) := by
  cases c with
  | none => cases h
  | some z =>
    obtain ⟨v, S', I, P'⟩ := z
    simp only [Bool.and_eq_true, decide_eq_true_eq, Option.isNone_iff_eq_none] at h
    obtain ⟨⟨rfl, rfl⟩, rfl⟩ := h
    rfl
set_option maxRecDepth 100000 in
theorem aC1_eq : aC1 = some (none, SH.take 113, aI1, (PP (some 99) (some 2000)).take 113) := aOf (by decide +kernel)
set_option maxRecDepth 100000 in
theorem aC2_eq : aC2 = some (none, SH, aI2, PP (some 99) (some 2000)) := aOf (by decide +kernel)
/-! what is not nought at the start -/
set_option maxRecDepth 100000 in
theorem aI2_ok : (∀ f ∈ [1, 32, 63], (∀ p, p < 8 → aI2 (f + 13 + p) 0 = nI p) ∧ aI2 f 14 = 1 ∧ aI2 (f + 3) 0 = 0 ∧ aI2 (f + 7) 0 = 1 ∧ (∀ k, k < 8 → aI2 f (6 + k) = 0) ∧ aI2 (f + 3) 4 = 0 ∧ aI2 (f + 7) 4 = 0) ∧ aI2 0 8 = 0 ∧ aI2 100 1 = 0 ∧ (∀ k, k < 7 → aI2 103 k = 0) ∧ (∀ i, i < 4 → aI2 (105 + 2 * i) 1 = 0 ∧ aI2 (105 + 2 * i) 2 = 0) := by decide +kernel
set_option maxRecDepth 100000 in
theorem aI2_ref : (∀ k, k < 454 → aI2 114 k = if k = 4 then 1 else 0) ∧ (∀ k, k < 7 → aI2 117 k = 0) ∧ (∀ k, k < 4 → aI2 124 k = 0 ∧ aI2 125 k = 0) ∧ aI2 113 3 = 0 ∧ aI2 113 14 = 0 := by decide +kernel

