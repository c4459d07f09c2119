/-! LOCKS: what is wanted when a set is locked, too; the least set -/
def sVm (σ : Nat → Int32) (p m t : Nat) : Int32 := if m.testBit t = true then 0 else if sCan σ t = true then sPull σ p t 0 else 0
def sBm (σ : Nat → Int32) (p m : Nat) : Nat → Int32 × Int32
  | 0 => (-1, 0)
  | t + 1 => if (sBm σ p m t).2 < sVm σ p m t then (nI t, sVm σ p m t) else sBm σ p m t
theorem sBm_c (σ : Nat → Int32) (p m : Nat) : ∀ n, (sBm σ p m n).1 = -1 ∨ ∃ t, t < n ∧ (sBm σ p m n).1 = nI t
  | 0 => Or.inl rfl
  | n + 1 => by
    rw [sBm]; split
    · exact Or.inr ⟨n, by omega, rfl⟩
    · exact (sBm_c σ p m n).imp id fun ⟨t, a, b⟩ => ⟨t, by omega, b⟩
theorem sBm_pos (σ : Nat → Int32) (p m : Nat) : ∀ n, 0 ≤ (sBm σ p m n).2
  | 0 => by rw [sBm]; decide
  | n + 1 => by
    have h := sBm_pos σ p m n
    rw [sBm]; split
    · next c => exact Int32.le_of_lt (Int32.lt_of_le_of_lt h c)
    · exact h
theorem sBm_not {σ : Nat → Int32} {p m : Nat} : ∀ {n t : Nat}, n ≤ 10 → t < n → (sBm σ p m n).1 = nI t → m.testBit t = false ∧ sCan σ t = true
  | 0, t, _, h, _ => by omega
  | n + 1, t, hn, h, e => by
    rw [sBm] at e
    split at e
    · next c =>
      have et : n = t := (nI_eq (by omega) (by omega)).mp e
      subst et
      have hv : (0 : Int32) < sVm σ p m n := Int32.lt_of_le_of_lt (sBm_pos σ p m n) c
      unfold sVm at hv
      by_cases hm : m.testBit n = true
      · rw [if_pos hm] at hv; exact absurd hv (by decide)
      · rw [if_neg hm] at hv
        by_cases hc : sCan σ n = true
        · exact ⟨by simpa using hm, hc⟩
        · rw [if_neg hc] at hv; exact absurd hv (by decide)
    · rcases sBm_c σ p m n with hc | ⟨u, hu, hc⟩
      · rw [hc] at e; exact absurd e.symm (nI_m1 (by omega))
      · have : u = t := (nI_eq (by omega) (by omega)).mp (hc.symm.trans e)
        subst this
        exact sBm_not (by omega) hu hc
/-- with more locked, what is wanted and stays free is wanted all the same -/
theorem sBm_mono {σ : Nat → Int32} {p m M : Nat} (h : ∀ t, m.testBit t = true → M.testBit t = true) : ∀ n, n ≤ 10 → (sBm σ p M n).2 ≤ (sBm σ p m n).2 ∧ ∀ t, t < n → (sBm σ p m n).1 = nI t → M.testBit t = false → sBm σ p M n = sBm σ p m n
  | 0, _ => ⟨by rw [sBm, sBm]; decide, fun t ht => by omega⟩
  | n + 1, hn => by
    obtain ⟨h1, h2⟩ := sBm_mono (σ := σ) (p := p) h n (by omega)
    have p1 := sBm_pos σ p M n
    by_cases hM : M.testBit n = true
    · have v0 : sVm σ p M n = 0 := if_pos hM
      have e1 : sBm σ p M (n + 1) = sBm σ p M n := by rw [sBm, v0, if_neg (Int32.not_lt.mpr p1)]
      rw [e1]
      refine ⟨?_, fun t ht e hMt => ?_⟩
      · rw [show sBm σ p m (n + 1) = if (sBm σ p m n).2 < sVm σ p m n then (nI n, sVm σ p m n) else sBm σ p m n from rfl]
        split
        · next c => exact Int32.le_trans h1 (Int32.le_of_lt c)
        · exact h1
      · have hne : t ≠ n := fun z => by subst z; rw [hM] at hMt; cases hMt
        rw [show sBm σ p m (n + 1) = if (sBm σ p m n).2 < sVm σ p m n then (nI n, sVm σ p m n) else sBm σ p m n from rfl] at e ⊢
        split at e
        · exact absurd ((nI_eq (by omega) (by omega)).mp e).symm hne
        · next c => rw [if_neg c]; exact h2 t (by omega) e hMt
    · have hm : ¬ m.testBit n = true := fun z => hM (h n z)
      have ev : sVm σ p M n = sVm σ p m n := by unfold sVm; rw [if_neg hM, if_neg hm]
      rw [show sBm σ p m (n + 1) = if (sBm σ p m n).2 < sVm σ p m n then (nI n, sVm σ p m n) else sBm σ p m n from rfl, show sBm σ p M (n + 1) = if (sBm σ p M n).2 < sVm σ p M n then (nI n, sVm σ p M n) else sBm σ p M n from rfl, ev]
      by_cases c : (sBm σ p m n).2 < sVm σ p m n
      · have c2 : (sBm σ p M n).2 < sVm σ p m n := Int32.lt_of_le_of_lt h1 c
        rw [if_pos c, if_pos c2]
        exact ⟨Int32.le_refl _, fun _ _ _ _ => rfl⟩
      · rw [if_neg c]
        refine ⟨?_, fun t ht e hMt => ?_⟩
        · split
          · exact Int32.not_lt.mp c
          · exact h1
        · have ht2 : t < n := by
            rcases sBm_c σ p m n with hc | ⟨u, hu, hc⟩
            · rw [hc] at e; exact absurd e.symm (nI_m1 (by omega))
            · have : u = t := (nI_eq (by omega) (by omega)).mp (hc.symm.trans e)
              omega
          rw [h2 t ht2 e hMt, if_neg c]
/-- PEACE with a set locked, too -/
def sPe (σ : Nat → Int32) (P T m : Nat) : Prop := ∀ p, p < P → ∀ t, t < T → (sBm σ p m T).1 = nI t → σ (50 + 7 * t) = nI p
def lkd (σ : Nat → Int32) (m T : Nat) (σ' : Nat → Int32) : Prop := (∀ k, (∀ t, t < T → k ≠ 54 + 7 * t) → σ' k = σ k) ∧ ∀ t, t < T → σ' (54 + 7 * t) = if m.testBit t = true then 1 else σ (54 + 7 * t)
theorem sPull_lk {σ σ' : Nat → Int32} {T p t : Nat} {s : Int32} (hT : T ≤ 10) (hp : p < 8) (ht : t < 10) (h : ∀ k, (∀ t, t < T → k ≠ 54 + 7 * t) → σ' k = σ k) : sPull σ' p t s = sPull σ p t s := by
  have x0 : sTx σ' 0 = sTx σ 0 := funext fun j => h _ (fun u hu => by omega)
  have x1 : sTx σ' 1 = sTx σ 1 := funext fun j => h _ (fun u hu => by omega)
  simp only [sPull, sUrge, sApp, sGua, sAppT, sGuaT, x0, x1, h (10 + 5 * p) (fun u hu => by omega), h (11 + 5 * p) (fun u hu => by omega), h (12 + 5 * p) (fun u hu => by omega), h (13 + 5 * p) (fun u hu => by omega), h (14 + 5 * p) (fun u hu => by omega), h (50 + 7 * t) (fun u hu => by omega), h (51 + 7 * t) (fun u hu => by omega), h (52 + 7 * t) (fun u hu => by omega), h (53 + 7 * t) (fun u hu => by omega), h 120 (fun u hu => by omega), h 245 (fun u hu => by omega)]
theorem sBest_m {σ σ' : Nat → Int32} {m T p : Nat} (hT : T ≤ 10) (hp : p < 8) (h : lkd σ m T σ') : ∀ n, n ≤ T → sBest σ' p 0 n = sBm σ p m n
  | 0, _ => rfl
  | n + 1, hn => by
    have ev : (if sCan σ' n = true then sPull σ' p n 0 else 0) = sVm σ p m n := by
      unfold sVm
      rw [sPull_lk hT hp (by omega) h.1]
      have e1 : sTh σ' n = sTh σ n := by unfold sTh; rw [h.1 (55 + 7 * n) (fun u hu => by omega)]
      have e2 := h.2 n (by omega)
      by_cases hm : m.testBit n = true
      · rw [if_pos hm] at e2
        have : sCan σ' n = false := by unfold sCan; rw [e2]; simp
        rw [this, if_pos hm]; rfl
      · rw [if_neg hm] at e2
        have : sCan σ' n = sCan σ n := by unfold sCan; rw [e1, e2]
        rw [this, if_neg hm]
    have ih := sBest_m hT hp h n (by omega)
    rw [sBest, sBm]
    rw [ih, ev]
theorem bS_of {v n : Nat} (h : v < 2 ^ n) : bS v.testBit n = v := by
  apply Nat.eq_of_testBit_eq
  intro i
  rw [bS_bit]
  by_cases hi : i < n
  · simp [hi]
  · have h2 : 2 ^ n ≤ 2 ^ i := Nat.pow_le_pow_right (by decide) (by omega)
    rw [Nat.testBit_lt_two_pow (show v < 2 ^ i by omega)]; simp [hi]
theorem pop_cnt {v : Nat} (h : v < 1024) : pop v = cnt v.testBit 10 := by
  rw [← pop_bS _ (Nat.le_refl 10), bS_of (n := 10) h]
theorem cnt_mono {g g' : Nat → Bool} : ∀ {n : Nat}, (∀ i, i < n → g i = true → g' i = true) → cnt g n ≤ cnt g' n
  | 0, _ => Nat.le_refl 0
  | n + 1, h => by
    have h1 := cnt_mono (g := g) (g' := g') (n := n) (fun i hi => h i (by omega))
    rw [cnt, cnt]
    by_cases c : g n = true
    · rw [if_pos c, if_pos (h n (by omega) c)]; omega
    · rw [if_neg c]; omega
theorem cnt_str {g g' : Nat → Bool} : ∀ {n j : Nat}, (∀ i, i < n → g i = true → g' i = true) → j < n → g j = false → g' j = true → cnt g n < cnt g' n
  | 0, j, _, hj, _, _ => by omega
  | n + 1, j, h, hj, a, b => by
    rw [cnt, cnt]
    by_cases e : j = n
    · subst e
      have h1 := cnt_mono (g := g) (g' := g') (n := j) (fun i hi => h i (by omega))
      rw [a, b]; simp; omega
    · have h1 := cnt_str (n := n) (fun i hi => h i (by omega)) (show j < n by omega) a b
      by_cases c : g n = true
      · rw [if_pos c, if_pos (h n (by omega) c)]; omega
      · rw [if_neg c]; omega
theorem pop_sub {a b : Nat} (ha : a < 1024) (hb : b < 1024) (h : ∀ i, a.testBit i = true → b.testBit i = true) : pop a ≤ pop b := by
  rw [pop_cnt ha, pop_cnt hb]; exact cnt_mono (fun i _ => h i)
theorem pop_str {a b : Nat} (ha : a < 1024) (hb : b < 1024) (h : ∀ i, a.testBit i = true → b.testBit i = true) (hne : a ≠ b) : pop a < pop b := by
  rw [pop_cnt ha, pop_cnt hb]
  have : ∃ j, a.testBit j ≠ b.testBit j := Classical.byContradiction fun z => hne (Nat.eq_of_testBit_eq fun i => Classical.byContradiction fun q => z ⟨i, q⟩)
  obtain ⟨j, hj⟩ := this
  have hb1 : b.testBit j = true := by
    cases hb2 : b.testBit j with
    | true => rfl
    | false =>
      cases ha2 : a.testBit j with
      | true => have := h j ha2; rw [hb2] at this; cases this
      | false => rw [ha2, hb2] at hj; exact absurd rfl hj
  have ha1 : a.testBit j = false := by
    cases ha2 : a.testBit j with
    | true => rw [ha2, hb1] at hj; exact absurd rfl hj
    | false => rfl
  have hj10 : j < 10 := Classical.byContradiction fun z => by
    have h2 : 2 ^ 10 ≤ 2 ^ j := Nat.pow_le_pow_right (by decide) (by omega)
    rw [Nat.testBit_lt_two_pow (show b < 2 ^ j by omega)] at hb1; cases hb1
  exact cnt_str (fun i _ => h i) hj10 ha1 hb1
