/-! what a TEXT gives: steps on a pile -/
def sJoin (c a b : Int32) : Int32 :=
  if c = 37 then (if b = 0 ∨ b = -1 then 0 else a - a / b * b) else if c = 38 then (if a ≠ 0 ∧ b ≠ 0 then 1 else 0) else if c = 42 then a * b else if c = 43 then a + b else if c = 45 then a - b
  else if c = 47 then (if b = 0 then 0 else if b = -1 then -a else a / b) else if c = 60 then (if a < b then 1 else 0) else if c = 61 then (if a = b then 1 else 0) else if c = 62 then (if b < a then 1 else 0) else (if a ≠ 0 ∨ b ≠ 0 then 1 else 0)
def evS (nm : Int32 → Int32) (what v : Int32) (st : List Int32) : List Int32 :=
  if what = 0 then v :: st else if what = 1 then nm v :: st else if what = 2 then (match st with
    | a :: r => (if a = 0 then 1 else 0) :: r
    | [] => []) else (match st with
    | b :: a :: r => sJoin v a b :: r
    | st => st)
def ev (nm : Int32 → Int32) (T : Nat → Int32) : Nat → List Int32
  | 0 => []
  | k + 1 => evS nm (T (2 * k)) (T (2 * k + 1)) (ev nm T k)
def dep (T : Nat → Int32) : Nat → Nat
  | 0 => 0
  | k + 1 => if T (2 * k) = 0 ∨ T (2 * k) = 1 then dep T k + 1 else if T (2 * k) = 2 then dep T k else dep T k - 1
def isSign (v : Int32) : Prop := v = 37 ∨ v = 38 ∨ v = 42 ∨ v = 43 ∨ v = 45 ∨ v = 47 ∨ v = 60 ∨ v = 61 ∨ v = 62 ∨ v = 124
/-- a step that fits the pile; names: a name's letter -/
def okS (names : Int32 → Prop) (T : Nat → Int32) (k : Nat) : Prop := T (2 * k) = 0 ∨ (T (2 * k) = 1 ∧ names (T (2 * k + 1))) ∨ (T (2 * k) = 2 ∧ 1 ≤ dep T k) ∨ (T (2 * k) = 3 ∧ 2 ≤ dep T k ∧ isSign (T (2 * k + 1)))
def wfT (names : Int32 → Prop) (T : Nat → Int32) (n : Nat) : Prop := (∀ k, k < n → okS names T k) ∧ dep T n = 1 ∧ n ≤ 60
theorem dep_le (T : Nat → Int32) : ∀ k, dep T k ≤ k
  | 0 => Nat.le_refl 0
  | k + 1 => by have := dep_le T k; rw [dep]; split <;> (try split) <;> omega
theorem ev_len {names : Int32 → Prop} {nm : Int32 → Int32} {T : Nat → Int32} : ∀ {k : Nat}, (∀ i, i < k → okS names T i) → (ev nm T k).length = dep T k
  | 0, _ => rfl
  | k + 1, h => by
    have ih := ev_len (nm := nm) (fun i hi => h i (Nat.lt_succ_of_lt hi))
    have hk := h k (Nat.lt_succ_self k)
    rw [ev, dep]
    rcases hk with hk | ⟨hk, -⟩ | ⟨hk, h1⟩ | ⟨hk, h1, -⟩
    · simp [evS, hk, ih]
    · simp [evS, hk, ih]
    · cases he : ev nm T k with
      | nil => rw [he] at ih; simp at ih; omega
      | cons a r => rw [he] at ih; simp [evS, hk]; simpa using ih
    · cases he : ev nm T k with
      | nil => rw [he] at ih; simp at ih; omega
      | cons b r =>
        cases r with
        | nil => rw [he] at ih; simp at ih; omega
        | cons a r => rw [he] at ih; simp at ih; simp [evS, hk]; omega
/-- the pile lies in a row, its bottom at 0 -/
def Pl (f : Nat → Int32) (st : List Int32) : Prop := ∀ j, j < st.length → f j = st.getD (st.length - 1 - j) 0
theorem Pl.push {f : Nat → Int32} {st : List Int32} {v : Int32} (h : Pl f st) : Pl (upd f st.length v) (v :: st) := by
  intro j hj
  rw [List.length_cons] at hj
  by_cases e : j = st.length
  · subst e; rw [upd_eq]; simp
  · rw [upd_ne e, h j (by omega), List.length_cons]
    rw [show st.length + 1 - 1 - j = (st.length - 1 - j) + 1 by omega]; rfl
theorem Pl.top {f : Nat → Int32} {st : List Int32} {a : Int32} (h : Pl f (a :: st)) : f st.length = a := by
  rw [h st.length (by simp)]; simp
theorem Pl.pop {f : Nat → Int32} {st : List Int32} {a : Int32} (h : Pl f (a :: st)) : Pl f st := by
  intro j hj
  rw [h j (by simp; omega), List.length_cons]
  rw [show st.length + 1 - 1 - j = (st.length - 1 - j) + 1 by omega]; rfl
theorem Pl.set {f : Nat → Int32} {st : List Int32} {v : Int32} (h : Pl f st) : Pl (upd f st.length v) (v :: st) := h.push
theorem nI_2 (a : Nat) : nI a + 2 = nI (a + 2) := nI_add a 2
theorem nI_m2 (a : Nat) : 2 * nI a = nI (2 * a) := pk_mul 2 a
theorem nI_p (n : Nat) : nI (n + 1) + -1 = nI n := pk_m1 n
theorem nI_s (n : Nat) : nI (n + 1) - 1 = nI n := nI_pred n
section REF4
variable {d : Nat} {I : Nat → Nat → Int32} {x y : Option Nat}
theorem r_joined {c a b : Int32} {H : aH} : aCall aMt (d + 1) 145 [.int c, .int a, .int b] H = some (some (.int (sJoin c a b)), H) := by
  rw [e_145]
  unfold sJoin
  by_cases h37 : c = 37
  · by_cases h0 : b = 0
    · simp [s_145, aILoad, aRLoad, aLLoad, aIStore, aRStore, aPush, aBin, aBinL, aShL, aUn, aIf, aIc, aGet, aPut, aIald, aBald, aAald, aIast, aBast, aAast, aAlen, aCopy, aCallV, aCallC, aCallI, aRet, aCat, aMax, aMin, aDiv, aRem, aI2l, aL2i, aNul, aSwS, aSw, aInc, aDup, aDup2, aPop1, aIret, aAret, aVret, aLen, aFk, aFT, Value.category, h37, h0]
    · by_cases h1 : b = -1 <;> simp [s_145, aILoad, aRLoad, aLLoad, aIStore, aRStore, aPush, aBin, aBinL, aShL, aUn, aIf, aIc, aGet, aPut, aIald, aBald, aAald, aIast, aBast, aAast, aAlen, aCopy, aCallV, aCallC, aCallI, aRet, aCat, aMax, aMin, aDiv, aRem, aI2l, aL2i, aNul, aSwS, aSw, aInc, aDup, aDup2, aPop1, aIret, aAret, aVret, aLen, aFk, aFT, Value.category, h37, h0, h1]
  by_cases h38 : c = 38
  · by_cases h0 : a = 0
    · simp [s_145, aILoad, aRLoad, aLLoad, aIStore, aRStore, aPush, aBin, aBinL, aShL, aUn, aIf, aIc, aGet, aPut, aIald, aBald, aAald, aIast, aBast, aAast, aAlen, aCopy, aCallV, aCallC, aCallI, aRet, aCat, aMax, aMin, aDiv, aRem, aI2l, aL2i, aNul, aSwS, aSw, aInc, aDup, aDup2, aPop1, aIret, aAret, aVret, aLen, aFk, aFT, Value.category, h38, h0]
    · by_cases h1 : b = 0 <;> simp [s_145, aILoad, aRLoad, aLLoad, aIStore, aRStore, aPush, aBin, aBinL, aShL, aUn, aIf, aIc, aGet, aPut, aIald, aBald, aAald, aIast, aBast, aAast, aAlen, aCopy, aCallV, aCallC, aCallI, aRet, aCat, aMax, aMin, aDiv, aRem, aI2l, aL2i, aNul, aSwS, aSw, aInc, aDup, aDup2, aPop1, aIret, aAret, aVret, aLen, aFk, aFT, Value.category, h38, h0, h1]
  by_cases h42 : c = 42
  · simp [s_145, aILoad, aRLoad, aLLoad, aIStore, aRStore, aPush, aBin, aBinL, aShL, aUn, aIf, aIc, aGet, aPut, aIald, aBald, aAald, aIast, aBast, aAast, aAlen, aCopy, aCallV, aCallC, aCallI, aRet, aCat, aMax, aMin, aDiv, aRem, aI2l, aL2i, aNul, aSwS, aSw, aInc, aDup, aDup2, aPop1, aIret, aAret, aVret, aLen, aFk, aFT, Value.category, h42]
  by_cases h43 : c = 43
  · simp [s_145, aILoad, aRLoad, aLLoad, aIStore, aRStore, aPush, aBin, aBinL, aShL, aUn, aIf, aIc, aGet, aPut, aIald, aBald, aAald, aIast, aBast, aAast, aAlen, aCopy, aCallV, aCallC, aCallI, aRet, aCat, aMax, aMin, aDiv, aRem, aI2l, aL2i, aNul, aSwS, aSw, aInc, aDup, aDup2, aPop1, aIret, aAret, aVret, aLen, aFk, aFT, Value.category, h43]
  by_cases h45 : c = 45
  · simp [s_145, aILoad, aRLoad, aLLoad, aIStore, aRStore, aPush, aBin, aBinL, aShL, aUn, aIf, aIc, aGet, aPut, aIald, aBald, aAald, aIast, aBast, aAast, aAlen, aCopy, aCallV, aCallC, aCallI, aRet, aCat, aMax, aMin, aDiv, aRem, aI2l, aL2i, aNul, aSwS, aSw, aInc, aDup, aDup2, aPop1, aIret, aAret, aVret, aLen, aFk, aFT, Value.category, h45]
  by_cases h47 : c = 47
  · by_cases h0 : b = 0
    · simp [s_145, aILoad, aRLoad, aLLoad, aIStore, aRStore, aPush, aBin, aBinL, aShL, aUn, aIf, aIc, aGet, aPut, aIald, aBald, aAald, aIast, aBast, aAast, aAlen, aCopy, aCallV, aCallC, aCallI, aRet, aCat, aMax, aMin, aDiv, aRem, aI2l, aL2i, aNul, aSwS, aSw, aInc, aDup, aDup2, aPop1, aIret, aAret, aVret, aLen, aFk, aFT, Value.category, h47, h0]
    · by_cases h1 : b = -1 <;> simp [s_145, aILoad, aRLoad, aLLoad, aIStore, aRStore, aPush, aBin, aBinL, aShL, aUn, aIf, aIc, aGet, aPut, aIald, aBald, aAald, aIast, aBast, aAast, aAlen, aCopy, aCallV, aCallC, aCallI, aRet, aCat, aMax, aMin, aDiv, aRem, aI2l, aL2i, aNul, aSwS, aSw, aInc, aDup, aDup2, aPop1, aIret, aAret, aVret, aLen, aFk, aFT, Value.category, h47, h0, h1]
  by_cases h60 : c = 60
  · by_cases h0 : b ≤ a
    · simp [s_145, aILoad, aRLoad, aLLoad, aIStore, aRStore, aPush, aBin, aBinL, aShL, aUn, aIf, aIc, aGet, aPut, aIald, aBald, aAald, aIast, aBast, aAast, aAlen, aCopy, aCallV, aCallC, aCallI, aRet, aCat, aMax, aMin, aDiv, aRem, aI2l, aL2i, aNul, aSwS, aSw, aInc, aDup, aDup2, aPop1, aIret, aAret, aVret, aLen, aFk, aFT, Value.category, h60, h0, Int32.not_lt.mpr h0]
    · simp [s_145, aILoad, aRLoad, aLLoad, aIStore, aRStore, aPush, aBin, aBinL, aShL, aUn, aIf, aIc, aGet, aPut, aIald, aBald, aAald, aIast, aBast, aAast, aAlen, aCopy, aCallV, aCallC, aCallI, aRet, aCat, aMax, aMin, aDiv, aRem, aI2l, aL2i, aNul, aSwS, aSw, aInc, aDup, aDup2, aPop1, aIret, aAret, aVret, aLen, aFk, aFT, Value.category, h60, h0, Int32.not_le.mp h0]
  by_cases h61 : c = 61
  · by_cases h0 : a = b <;> simp [s_145, aILoad, aRLoad, aLLoad, aIStore, aRStore, aPush, aBin, aBinL, aShL, aUn, aIf, aIc, aGet, aPut, aIald, aBald, aAald, aIast, aBast, aAast, aAlen, aCopy, aCallV, aCallC, aCallI, aRet, aCat, aMax, aMin, aDiv, aRem, aI2l, aL2i, aNul, aSwS, aSw, aInc, aDup, aDup2, aPop1, aIret, aAret, aVret, aLen, aFk, aFT, Value.category, h61, h0]
  by_cases h62 : c = 62
  · by_cases h0 : a ≤ b
    · simp [s_145, aILoad, aRLoad, aLLoad, aIStore, aRStore, aPush, aBin, aBinL, aShL, aUn, aIf, aIc, aGet, aPut, aIald, aBald, aAald, aIast, aBast, aAast, aAlen, aCopy, aCallV, aCallC, aCallI, aRet, aCat, aMax, aMin, aDiv, aRem, aI2l, aL2i, aNul, aSwS, aSw, aInc, aDup, aDup2, aPop1, aIret, aAret, aVret, aLen, aFk, aFT, Value.category, h62, h0, Int32.not_lt.mpr h0]
    · simp [s_145, aILoad, aRLoad, aLLoad, aIStore, aRStore, aPush, aBin, aBinL, aShL, aUn, aIf, aIc, aGet, aPut, aIald, aBald, aAald, aIast, aBast, aAast, aAlen, aCopy, aCallV, aCallC, aCallI, aRet, aCat, aMax, aMin, aDiv, aRem, aI2l, aL2i, aNul, aSwS, aSw, aInc, aDup, aDup2, aPop1, aIret, aAret, aVret, aLen, aFk, aFT, Value.category, h62, h0, Int32.not_le.mp h0]
  by_cases h0 : a = 0
  · by_cases h1 : b = 0 <;> simp [s_145, aILoad, aRLoad, aLLoad, aIStore, aRStore, aPush, aBin, aBinL, aShL, aUn, aIf, aIc, aGet, aPut, aIald, aBald, aAald, aIast, aBast, aAast, aAlen, aCopy, aCallV, aCallC, aCallI, aRet, aCat, aMax, aMin, aDiv, aRem, aI2l, aL2i, aNul, aSwS, aSw, aInc, aDup, aDup2, aPop1, aIret, aAret, aVret, aLen, aFk, aFT, Value.category, h37, h38, h42, h43, h45, h47, h60, h61, h62, h0, h1]
  · simp [s_145, aILoad, aRLoad, aLLoad, aIStore, aRStore, aPush, aBin, aBinL, aShL, aUn, aIf, aIc, aGet, aPut, aIald, aBald, aAald, aIast, aBast, aAast, aAlen, aCopy, aCallV, aCallC, aCallI, aRet, aCat, aMax, aMin, aDiv, aRem, aI2l, aL2i, aNul, aSwS, aSw, aInc, aDup, aDup2, aPop1, aIret, aAret, aVret, aLen, aFk, aFT, Value.category, h37, h38, h42, h43, h45, h47, h60, h61, h62, h0]
def sTx (σ : Nat → Int32) (u j : Nat) : Int32 := σ (121 + 125 * u + j)
theorem r_worked_loop {u n : Nat} (hu : u < 2) {names : Int32 → Prop} {nm : Int32 → Int32} {I0 : Nat → Nat → Int32} (hn : I0 114 (120 + 125 * u) = nI n) (hw : wfT names (sTx (I0 114) u) n) (hnm : ∀ v, names v → 0 ≤ v ∧ v.toNatClampNeg < 128 ∧ I0 119 v.toNatClampNeg = nm v) :
    ∀ k i (I : Nat → Nat → Int32) (l5 l6 : Option Value), i + k = n → Pl (I 120) (ev nm (sTx (I0 114) u) i) → (∀ j, j ≠ 120 → I j = I0 j) →
    ∃ I1, aGo (aCall aMt (d + 1)) none cd_146 0 13 [some (.ref 113), some (.int (nI u)), some (.int (nI (120 + 125 * u))), some (.int (nI (dep (sTx (I0 114) u) i))), some (.int (nI i)), l5, l6] [] (HH I x y) = some (some (.int ((ev nm (sTx (I0 114) u) n).getD 0 0)), HH I1 x y) ∧ ∀ j, j ≠ 120 → I1 j = I0 j := by
  intro k
  induction k with
  | zero =>
    intro i I l5 l6 hi hp hI
    obtain rfl : i = n := by omega
    have hlen := ev_len (nm := nm) hw.1
    rw [hw.2.1] at hlen
    refine ⟨I, ?_, hI⟩
    have h0 := hp 0 (by omega)
    rw [hlen] at h0
    have h2 := hw.2.2
    have h114 : I 114 = I0 114 := hI 114 (by decide)
    rw [s_146_13]
    simp [s_146, aILoad, aRLoad, aLLoad, aIStore, aRStore, aPush, aBin, aBinL, aShL, aUn, aIf, aIc, aGet, aPut, aIald, aBald, aAald, aIast, aBast, aAast, aAlen, aCopy, aCallV, aCallC, aCallI, aRet, aCat, aMax, aMin, aDiv, aRem, aI2l, aL2i, aNul, aSwS, aSw, aInc, aDup, aDup2, aPop1, aIret, aAret, aVret, aLen, aFk, aFT, Value.category, m_sh, m_p, h114, hn, nI_pos' (n := 120 + 125 * u) (by omega), toNat_nI (show 120 + 125 * u < 2 ^ 31 by omega), show 120 + 125 * u < 454 by omega, h0]
  | succ k ih =>
    intro i I l5 l6 hi hp hI
    have h2 := hw.2.2
    have h114 : I 114 = I0 114 := hI 114 (by decide)
    have h119 : I 119 = I0 119 := hI 119 (by decide)
    have hlen := ev_len (nm := nm) (fun j hj => hw.1 j (show j < n by omega)) (k := i)
    have hdl := dep_le (sTx (I0 114) u) i
    have hok := hw.1 i (by omega)
    have h1 : ¬ nI n ≤ nI i := nI_ge (by omega) (by omega)
    have e1 : I0 114 (120 + 125 * u + 1 + 2 * i) = sTx (I0 114) u (2 * i) := by unfold sTx; congr 1; omega
    have e2 : I0 114 (120 + 125 * u + 2 + 2 * i) = sTx (I0 114) u (2 * i + 1) := by unfold sTx; congr 1; omega
    generalize hT : sTx (I0 114) u = T at *
    have step : ∀ (I2 : Nat → Nat → Int32), Pl (I2 120) (ev nm T (i + 1)) → (∀ j, j ≠ 120 → I2 j = I0 j) → ∀ l5 l6, ∃ I1, aGo (aCall aMt (d + 1)) none cd_146 0 13 [some (.ref 113), some (.int (nI u)), some (.int (nI (120 + 125 * u))), some (.int (nI (dep T (i + 1)))), some (.int (nI (i + 1))), l5, l6] [] (HH I2 x y) = some (some (.int ((ev nm T n).getD 0 0)), HH I1 x y) ∧ ∀ j, j ≠ 120 → I1 j = I0 j := fun I2 g1 g2 l5 l6 => ih (i + 1) I2 l5 l6 (by omega) g1 g2
    have hq : ∀ v j, j ≠ 120 → aUpd I 120 (dep T i) v j = I0 j := fun v j hj => by rw [aUpd_ne hj, hI j hj]
    rw [s_146_13]
    rcases hok with hk | ⟨hk, hv⟩ | ⟨hk, hd⟩ | ⟨hk, hd, hs⟩
    · have g := step (aUpd I 120 (dep T i) (T (2 * i + 1))) (by rw [ev, hk, aUpd_row, ← hlen]; simpa [evS] using hp.push) (hq _)
      have hde : dep T (i + 1) = dep T i + 1 := by rw [dep, if_pos (Or.inl hk)]
      rw [hde] at g
      simpa [s_146, aILoad, aRLoad, aLLoad, aIStore, aRStore, aPush, aBin, aBinL, aShL, aUn, aIf, aIc, aGet, aPut, aIald, aBald, aAald, aIast, aBast, aAast, aAlen, aCopy, aCallV, aCallC, aCallI, aRet, aCat, aMax, aMin, aDiv, aRem, aI2l, aL2i, aNul, aSwS, aSw, aInc, aDup, aDup2, aPop1, aIret, aAret, aVret, aLen, aFk, aFT, Value.category, m_sh, m_p, h114, hn, h1, nI_1, nI_2, nI_m2, nI_add, nI_pos' (n := 120 + 125 * u) (by omega), toNat_nI (show 120 + 125 * u < 2 ^ 31 by omega), show 120 + 125 * u < 454 by omega, nI_pos' (n := 120 + 125 * u + 1 + 2 * i) (by omega), toNat_nI (show 120 + 125 * u + 1 + 2 * i < 2 ^ 31 by omega), show 120 + 125 * u + 1 + 2 * i < 454 by omega, nI_pos' (n := 120 + 125 * u + 2 + 2 * i) (by omega), toNat_nI (show 120 + 125 * u + 2 + 2 * i < 2 ^ 31 by omega), show 120 + 125 * u + 2 + 2 * i < 454 by omega, e1, e2, hk, nI_pos' (n := dep T i) (by omega), toNat_nI (show dep T i < 2 ^ 31 by omega), show dep T i < 64 by omega] using g (some (.int 0)) (some (.int (T (2 * i + 1))))
    · obtain ⟨v0, v1, v2⟩ := hnm _ hv
      have g := step (aUpd I 120 (dep T i) (nm (T (2 * i + 1)))) (by rw [ev, hk, aUpd_row, ← hlen]; simpa [evS] using hp.push) (hq _)
      have hde : dep T (i + 1) = dep T i + 1 := by rw [dep, if_pos (Or.inr hk)]
      rw [hde] at g
      simpa [s_146, aILoad, aRLoad, aLLoad, aIStore, aRStore, aPush, aBin, aBinL, aShL, aUn, aIf, aIc, aGet, aPut, aIald, aBald, aAald, aIast, aBast, aAast, aAlen, aCopy, aCallV, aCallC, aCallI, aRet, aCat, aMax, aMin, aDiv, aRem, aI2l, aL2i, aNul, aSwS, aSw, aInc, aDup, aDup2, aPop1, aIret, aAret, aVret, aLen, aFk, aFT, Value.category, m_sh, m_p, h114, hn, h1, nI_1, nI_2, nI_m2, nI_add, nI_pos' (n := 120 + 125 * u) (by omega), toNat_nI (show 120 + 125 * u < 2 ^ 31 by omega), show 120 + 125 * u < 454 by omega, nI_pos' (n := 120 + 125 * u + 1 + 2 * i) (by omega), toNat_nI (show 120 + 125 * u + 1 + 2 * i < 2 ^ 31 by omega), show 120 + 125 * u + 1 + 2 * i < 454 by omega, nI_pos' (n := 120 + 125 * u + 2 + 2 * i) (by omega), toNat_nI (show 120 + 125 * u + 2 + 2 * i < 2 ^ 31 by omega), show 120 + 125 * u + 2 + 2 * i < 454 by omega, e1, e2, hk, h119, v0, v1, v2, nI_pos' (n := dep T i) (by omega), toNat_nI (show dep T i < 2 ^ 31 by omega), show dep T i < 64 by omega] using g (some (.int 1)) (some (.int (T (2 * i + 1))))
    · obtain ⟨D, hD⟩ : ∃ D, dep T i = D + 1 := ⟨dep T i - 1, by omega⟩
      have hde : dep T (i + 1) = D + 1 := by rw [dep, if_neg (by rw [hk]; decide), if_pos hk, hD]
      cases he : ev nm T i with
      | nil => rw [he] at hlen; simp at hlen; omega
      | cons a r =>
        rw [he] at hlen hp
        have hr : r.length = D := by simp at hlen; omega
        have htop := hp.top
        rw [hr] at htop
        have g := step (aUpd I 120 D (if a = 0 then 1 else 0)) (by rw [ev, hk, aUpd_row, he, ← hr]; simpa [evS] using hp.pop.push) (fun j hj => by rw [aUpd_ne hj, hI j hj])
        rw [hde] at g
        rw [hD]
        by_cases ha : a = 0
        · simp only [ha, if_true] at g htop
          simpa [s_146, aILoad, aRLoad, aLLoad, aIStore, aRStore, aPush, aBin, aBinL, aShL, aUn, aIf, aIc, aGet, aPut, aIald, aBald, aAald, aIast, aBast, aAast, aAlen, aCopy, aCallV, aCallC, aCallI, aRet, aCat, aMax, aMin, aDiv, aRem, aI2l, aL2i, aNul, aSwS, aSw, aInc, aDup, aDup2, aPop1, aIret, aAret, aVret, aLen, aFk, aFT, Value.category, m_sh, m_p, h114, hn, h1, nI_1, nI_2, nI_m2, nI_add, nI_pos' (n := 120 + 125 * u) (by omega), toNat_nI (show 120 + 125 * u < 2 ^ 31 by omega), show 120 + 125 * u < 454 by omega, nI_pos' (n := 120 + 125 * u + 1 + 2 * i) (by omega), toNat_nI (show 120 + 125 * u + 1 + 2 * i < 2 ^ 31 by omega), show 120 + 125 * u + 1 + 2 * i < 454 by omega, nI_pos' (n := 120 + 125 * u + 2 + 2 * i) (by omega), toNat_nI (show 120 + 125 * u + 2 + 2 * i < 2 ^ 31 by omega), show 120 + 125 * u + 2 + 2 * i < 454 by omega, e1, e2, hk, htop, nI_s, nI_pos' (n := D) (by omega), toNat_nI (show D < 2 ^ 31 by omega), show D < 64 by omega] using g (some (.int 2)) (some (.int (T (2 * i + 1))))
        · simp only [ha, if_false] at g
          simpa [s_146, aILoad, aRLoad, aLLoad, aIStore, aRStore, aPush, aBin, aBinL, aShL, aUn, aIf, aIc, aGet, aPut, aIald, aBald, aAald, aIast, aBast, aAast, aAlen, aCopy, aCallV, aCallC, aCallI, aRet, aCat, aMax, aMin, aDiv, aRem, aI2l, aL2i, aNul, aSwS, aSw, aInc, aDup, aDup2, aPop1, aIret, aAret, aVret, aLen, aFk, aFT, Value.category, m_sh, m_p, h114, hn, h1, nI_1, nI_2, nI_m2, nI_add, nI_pos' (n := 120 + 125 * u) (by omega), toNat_nI (show 120 + 125 * u < 2 ^ 31 by omega), show 120 + 125 * u < 454 by omega, nI_pos' (n := 120 + 125 * u + 1 + 2 * i) (by omega), toNat_nI (show 120 + 125 * u + 1 + 2 * i < 2 ^ 31 by omega), show 120 + 125 * u + 1 + 2 * i < 454 by omega, nI_pos' (n := 120 + 125 * u + 2 + 2 * i) (by omega), toNat_nI (show 120 + 125 * u + 2 + 2 * i < 2 ^ 31 by omega), show 120 + 125 * u + 2 + 2 * i < 454 by omega, e1, e2, hk, htop, ha, nI_s, nI_pos' (n := D) (by omega), toNat_nI (show D < 2 ^ 31 by omega), show D < 64 by omega] using g (some (.int 2)) (some (.int (T (2 * i + 1))))
    · obtain ⟨D, hD⟩ : ∃ D, dep T i = D + 2 := ⟨dep T i - 2, by omega⟩
      have hde : dep T (i + 1) = D + 1 := by rw [dep, if_neg (by rw [hk]; decide), if_neg (by rw [hk]; decide), hD]; omega
      cases he : ev nm T i with
      | nil => rw [he] at hlen; simp at hlen; omega
      | cons b r =>
        cases r with
        | nil => rw [he] at hlen; simp at hlen; omega
        | cons a r =>
          rw [he] at hlen hp
          have hr : r.length = D := by simp at hlen; omega
          have ht1 := hp.top
          have ht2 := hp.pop.top
          rw [List.length_cons, hr] at ht1
          rw [hr] at ht2
          have g := step (aUpd I 120 D (sJoin (T (2 * i + 1)) a b)) (by rw [ev, hk, aUpd_row, he, ← hr]; simpa [evS] using hp.pop.pop.push) (fun j hj => by rw [aUpd_ne hj, hI j hj])
          rw [hde] at g
          rw [hD]
          simpa [s_146, aILoad, aRLoad, aLLoad, aIStore, aRStore, aPush, aBin, aBinL, aShL, aUn, aIf, aIc, aGet, aPut, aIald, aBald, aAald, aIast, aBast, aAast, aAlen, aCopy, aCallV, aCallC, aCallI, aRet, aCat, aMax, aMin, aDiv, aRem, aI2l, aL2i, aNul, aSwS, aSw, aInc, aDup, aDup2, aPop1, aIret, aAret, aVret, aLen, aFk, aFT, Value.category, m_sh, m_p, h114, hn, h1, nI_1, nI_2, nI_m2, nI_add, nI_pos' (n := 120 + 125 * u) (by omega), toNat_nI (show 120 + 125 * u < 2 ^ 31 by omega), show 120 + 125 * u < 454 by omega, nI_pos' (n := 120 + 125 * u + 1 + 2 * i) (by omega), toNat_nI (show 120 + 125 * u + 1 + 2 * i < 2 ^ 31 by omega), show 120 + 125 * u + 1 + 2 * i < 454 by omega, nI_pos' (n := 120 + 125 * u + 2 + 2 * i) (by omega), toNat_nI (show 120 + 125 * u + 2 + 2 * i < 2 ^ 31 by omega), show 120 + 125 * u + 2 + 2 * i < 454 by omega, e1, e2, hk, ht1, ht2, r_joined, show nI (D + 2) = nI (D + 1 + 1) from rfl, nI_p, nI_s, nI_pos' (n := D) (by omega), toNat_nI (show D < 2 ^ 31 by omega), show D < 64 by omega, nI_pos' (n := D + 1) (by omega), toNat_nI (show D + 1 < 2 ^ 31 by omega), show D + 1 < 64 by omega, show D < 63 by omega] using g (some (.int 3)) (some (.int (T (2 * i + 1))))
theorem r_worked {u n : Nat} (hu : u < 2) {names : Int32 → Prop} {nm : Int32 → Int32} (hn : I 114 (120 + 125 * u) = nI n) (hw : wfT names (sTx (I 114) u) n) (hnm : ∀ v, names v → 0 ≤ v ∧ v.toNatClampNeg < 128 ∧ I 119 v.toNatClampNeg = nm v) :
    ∃ I1, aCall aMt (d + 2) 146 [.ref 113, .int (nI u)] (HH I x y) = some (some (.int ((ev nm (sTx (I 114) u) n).getD 0 0)), HH I1 x y) ∧ ∀ j, j ≠ 120 → I1 j = I j := by
  obtain ⟨I1, h1, h2⟩ := r_worked_loop (d := d) (x := x) (y := y) hu hn hw hnm n 0 I none none (by omega) (fun j hj => by simp [ev] at hj) (fun j _ => rfl)
  refine ⟨I1, ?_, h2⟩
  rw [e_146]
  have e : (120 : Int32) + 125 * nI u = nI (120 + 125 * u) := by rw [show (120 : Int32) = nI 120 from rfl, show (125 : Int32) = nI 125 from rfl, pk_mul, nI_add]
  rw [← h1]
  simp [s_146, aILoad, aRLoad, aLLoad, aIStore, aRStore, aPush, aBin, aBinL, aShL, aUn, aIf, aIc, aGet, aPut, aIald, aBald, aAald, aIast, aBast, aAast, aAlen, aCopy, aCallV, aCallC, aCallI, aRet, aCat, aMax, aMin, aDiv, aRem, aI2l, aL2i, aNul, aSwS, aSw, aInc, aDup, aDup2, aPop1, aIret, aAret, aVret, aLen, aFk, aFT, Value.category, e, dep, nI_lit0]
end REF4
