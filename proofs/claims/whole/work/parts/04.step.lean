/-! one step, and all steps: 'aGo' is the fixpoint of 'aStep' -/
section AC
variable {r : Option Value × aH}
theorem aIte_c {c : Prop} [Decidable c] {a b : aRs} {an bn : Nat → aRs} (h : (if c then a else b) = some r) (ha : a = some r → ∃ n, an n = some r) (hb : b = some r → ∃ n, bn n = some r) : ∃ n, (if c then an n else bn n) = some r := by
  by_cases hc : c
  · rw [if_pos hc] at h; simp only [if_pos hc]; exact ha h
  · rw [if_neg hc] at h; simp only [if_neg hc]; exact hb h
theorem aNone_c {f : Nat → aRs} (h : (none : aRs) = some r) : ∃ n, f n = some r := by cases h
theorem aLoads_c {k : List Value → aRs} {kn : Nat → List Value → aRs} (K : ∀ st r, k st = some r → ∃ n : Nat, kn n st = some r) {ls : aLs} {i : Nat} {st : List Value} :
    (aILoad k ls i st = some r → ∃ n, aILoad (kn n) ls i st = some r) ∧ (aRLoad k ls i st = some r → ∃ n, aRLoad (kn n) ls i st = some r) ∧ (aLLoad k ls i st = some r → ∃ n, aLLoad (kn n) ls i st = some r) := by
  refine ⟨fun h => ?_, fun h => ?_, fun h => ?_⟩
  · unfold aILoad at h ⊢; split at h
    · exact K _ _ h
    · cases h
  · unfold aRLoad at h ⊢; split at h
    · exact K _ _ h
    · exact K _ _ h
    · cases h
  · unfold aLLoad at h ⊢; split at h
    · exact K _ _ h
    · cases h
theorem aStores_c {k : aLs → List Value → aRs} {kn : Nat → aLs → List Value → aRs} (K : ∀ ls st r, k ls st = some r → ∃ n : Nat, kn n ls st = some r) {ls : aLs} {i : Nat} {st : List Value} :
    (aIStore k ls i st = some r → ∃ n, aIStore (kn n) ls i st = some r) ∧ (aRStore k ls i st = some r → ∃ n, aRStore (kn n) ls i st = some r) := by
  refine ⟨fun h => ?_, fun h => ?_⟩
  · unfold aIStore at h ⊢; split at h
    · split at h
      · exact K _ _ _ h
      · cases h
    · cases h
  · unfold aRStore at h ⊢; split at h
    · split at h
      · exact K _ _ _ h
      · cases h
    · split at h
      · exact K _ _ _ h
      · cases h
    · cases h
theorem aOps_c {k : List Value → aRs} {kn : Nat → List Value → aRs} (K : ∀ st r, k st = some r → ∃ n : Nat, kn n st = some r) {st : List Value} :
    (∀ f, aBin k f st = some r → ∃ n, aBin (kn n) f st = some r) ∧ (∀ f, aBinL k f st = some r → ∃ n, aBinL (kn n) f st = some r) ∧ (∀ f, aShL k f st = some r → ∃ n, aShL (kn n) f st = some r) ∧ (∀ f, aUn k f st = some r → ∃ n, aUn (kn n) f st = some r)
    ∧ (aMax k st = some r → ∃ n, aMax (kn n) st = some r) ∧ (aMin k st = some r → ∃ n, aMin (kn n) st = some r) ∧ (∀ y, aGetS k y st = some r → ∃ n, aGetS (kn n) y st = some r) ∧ (aPop k st = some r → ∃ n, aPop (kn n) st = some r) := by
  refine ⟨fun f h => ?_, fun f h => ?_, fun f h => ?_, fun f h => ?_, fun h => ?_, fun h => ?_, fun y h => ?_, fun h => ?_⟩
  · unfold aBin at h ⊢; split at h
    · exact K _ _ h
    · cases h
  · unfold aBinL at h ⊢; split at h
    · exact K _ _ h
    · cases h
  · unfold aShL at h ⊢; split at h
    · exact K _ _ h
    · cases h
  · unfold aUn at h ⊢; split at h
    · exact K _ _ h
    · cases h
  · unfold aMax at h ⊢; split at h
    · exact aIte_c h (K _ _) aNone_c
    · cases h
  · unfold aMin at h ⊢; split at h
    · exact aIte_c h (K _ _) aNone_c
    · cases h
  · unfold aGetS at h ⊢; split at h
    · exact aIte_c h (fun h => aIte_c h (K _ _) (K _ _)) aNone_c
    · cases h
  · unfold aPop at h ⊢; split at h
    · exact aIte_c h (K _ _) aNone_c
    · cases h
theorem aIfs_c {k : Nat → List Value → aRs} {kn : Nat → Nat → List Value → aRs} (K : ∀ p st r, k p st = some r → ∃ n : Nat, kn n p st = some r) {t m : Nat} {st : List Value} :
    (∀ c, aIf k c t m st = some r → ∃ n, aIf (kn n) c t m st = some r) ∧ (∀ c, aIc k c t m st = some r → ∃ n, aIc (kn n) c t m st = some r) := by
  refine ⟨fun c h => ?_, fun c h => ?_⟩
  · unfold aIf at h ⊢; split at h
    · cases c <;> exact aIte_c h (K _ _ _) (K _ _ _)
    · cases h
  · unfold aIc at h ⊢; split at h
    · cases c <;> exact aIte_c h (K _ _ _) (K _ _ _)
    · cases h
theorem aReads_c {k : List Value → aRs} {kn : Nat → List Value → aRs} (K : ∀ st r, k st = some r → ∃ n : Nat, kn n st = some r) {H : aH} {st : List Value} {scr : aSc} :
    (∀ ci f, aGet k ci f H st = some r → ∃ n, aGet (kn n) ci f H st = some r) ∧ (aIald k scr H st = some r → ∃ n, aIald (kn n) scr H st = some r) ∧ (aBald k H st = some r → ∃ n, aBald (kn n) H st = some r) ∧ (aAald k H st = some r → ∃ n, aAald (kn n) H st = some r) ∧ (aAlen k scr H st = some r → ∃ n, aAlen (kn n) scr H st = some r) := by
  refine ⟨fun ci f h => ?_, fun h => ?_, fun h => ?_, fun h => ?_, fun h => ?_⟩
  · unfold aGet at h ⊢; split at h
    · refine aIte_c h (fun h => ?_) aNone_c
      split at h
      · exact K _ _ h
      · exact K _ _ h
      · split at h <;> exact K _ _ h
      · cases h
    · cases h
  · unfold aIald at h ⊢; split at h
    · split at h
      · exact aIte_c h (fun h => aIte_c h aNone_c (K _ _)) aNone_c
      · split at h
        · exact aIte_c h aNone_c (K _ _)
        · cases h
    · cases h
  · unfold aBald at h ⊢; split at h
    · split at h
      · exact aIte_c h (fun h => aIte_c h aNone_c (K _ _)) aNone_c
      · exact aIte_c h (fun h => aIte_c h aNone_c (K _ _)) aNone_c
    · cases h
  · unfold aAald at h ⊢; split at h
    · split at h
      · refine aIte_c h (fun h => aIte_c h aNone_c fun h => ?_) aNone_c
        split at h <;> exact K _ _ h
      · cases h
    · cases h
  · unfold aAlen at h ⊢; split at h
    · split at h
      · exact aIte_c h (K _ _) aNone_c
      · split at h
        · exact K _ _ h
        · exact aIte_c h (K _ _) aNone_c
    · cases h
theorem aWrites_c {k : List Value → aH → aRs} {kn : Nat → List Value → aH → aRs} (K : ∀ st H r, k st H = some r → ∃ n : Nat, kn n st H = some r) {H : aH} {st : List Value} :
    (∀ ci f, aPut k ci f H st = some r → ∃ n, aPut (kn n) ci f H st = some r) ∧ (aIast k H st = some r → ∃ n, aIast (kn n) H st = some r) ∧ (aBast k H st = some r → ∃ n, aBast (kn n) H st = some r) ∧ (aAast k H st = some r → ∃ n, aAast (kn n) H st = some r) ∧ (∀ kd, aNewA k kd H st = some r → ∃ n, aNewA (kn n) kd H st = some r) ∧ (aCopy k H st = some r → ∃ n, aCopy (kn n) H st = some r)
    ∧ (∀ cl x y, aCallI k cl x y H st = some r → ∃ n, aCallI (kn n) cl x y H st = some r) := by
  refine ⟨fun ci f h => ?_, fun h => ?_, fun h => ?_, fun h => ?_, fun kd h => ?_, fun h => ?_, fun cl x y h => ?_⟩
  · unfold aPut at h ⊢; split at h
    · refine aIte_c h (fun h => ?_) aNone_c
      split at h
      · exact K _ _ _ h
      · exact aIte_c h (K _ _ _) aNone_c
      · cases h
    · refine aIte_c h (fun h => ?_) aNone_c
      split at h
      · exact aIte_c h (K _ _ _) aNone_c
      · cases h
    · cases h
  · unfold aIast at h ⊢; split at h
    · split at h
      · exact aIte_c h (fun h => aIte_c h aNone_c (K _ _ _)) aNone_c
      · cases h
    · cases h
  · unfold aBast at h ⊢; split at h
    · split at h
      · exact aIte_c h (fun h => aIte_c h aNone_c (K _ _ _)) aNone_c
      · cases h
    · cases h
  · unfold aAast at h ⊢; split at h
    · split at h
      · exact aIte_c h (fun h => aIte_c h aNone_c fun h => aIte_c h (K _ _ _) aNone_c) aNone_c
      · cases h
    · cases h
  · unfold aNewA at h ⊢; split at h
    · exact aIte_c h aNone_c (K _ _ _)
    · cases h
  · unfold aCopy at h ⊢; split at h
    · split at h
      · refine aIte_c h (K _ _ _) aNone_c
      · cases h
    · cases h
  · unfold aCallI at h ⊢
    refine aIte_c h (fun h => ?_) aNone_c
    unfold aRet at h ⊢
    split at h
    · exact K _ _ _ h
    · exact K _ _ _ h
    · cases h
theorem aCallV_c {k : List Value → aH → aRs} {kn : Nat → List Value → aH → aRs} (K : ∀ st H r, k st H = some r → ∃ n : Nat, kn n st H = some r) {H : aH} {st : List Value} {cl : Nat → List Value → aH → aRs} {x m ci : Nat} :
    (aCallV k cl x m ci H st = some r → ∃ n, aCallV (kn n) cl x m ci H st = some r) ∧ (aCallC k cl x m H st = some r → ∃ n, aCallC (kn n) cl x m H st = some r) := by
  refine ⟨fun h => ?_, fun h => ?_⟩
  · unfold aCallV at h ⊢; split at h
    · exact aIte_c h ((aWrites_c K).2.2.2.2.2.2 _ _ _) aNone_c
    · cases h
  · unfold aCallC at h ⊢; split at h
    · exact (aWrites_c K).2.2.2.2.2.2 _ _ _ h
    · cases h
theorem aSw_c {k : Nat → aRs} {kn : Nat → Nat → aRs} (K : ∀ p r, k p = some r → ∃ n : Nat, kn n p = some r) {d : Nat} {x : Int32} : ∀ (sw : List (Int32 × Nat)), aSw sw d x k = some r → ∃ n, aSw sw d x (kn n) = some r
  | [], h => K _ _ h
  | (c, t) :: l, h => aIte_c (c := x = c) h (K _ _) (aSw_c K l)
set_option maxHeartbeats 4000000 in
theorem aStep_c {cl : Nat → List Value → aH → aRs} {scr : aSc} {rt : Nat} {k : Nat → aLs → List Value → aH → aRs} {kn : Nat → Nat → aLs → List Value → aH → aRs} (K : ∀ p ls st H r, k p ls st H = some r → ∃ n : Nat, kn n p ls st H = some r) {q : aCI} {ls : aLs} {st : List Value} {H : aH}
    (h : aStep cl scr rt k q ls st H = some r) : ∃ n, aStep cl scr rt (kn n) q ls st H = some r := by
  obtain ⟨pc, len, i, x, y, c, sw⟩ := q
  cases i <;> simp only [aStep] at h ⊢
  all_goals first
    | exact aNone_c h
    | exact K _ _ _ _ _ h
    | exact (aLoads_c (fun _ _ => K _ _ _ _ _)).1 h
    | exact (aLoads_c (fun _ _ => K _ _ _ _ _)).2.1 h
    | exact (aLoads_c (fun _ _ => K _ _ _ _ _)).2.2 h
    | exact (aStores_c (fun _ _ _ => K _ _ _ _ _)).1 h
    | exact (aStores_c (fun _ _ _ => K _ _ _ _ _)).2 h
    | exact (aOps_c (fun _ _ => K _ _ _ _ _)).1 _ h
    | exact (aOps_c (fun _ _ => K _ _ _ _ _)).2.1 _ h
    | exact (aOps_c (fun _ _ => K _ _ _ _ _)).2.2.1 _ h
    | exact (aOps_c (fun _ _ => K _ _ _ _ _)).2.2.2.1 _ h
    | exact (aIfs_c (fun _ _ _ => K _ _ _ _ _)).1 _ h
    | exact (aIfs_c (fun _ _ _ => K _ _ _ _ _)).2 _ h
    | exact (aReads_c (scr := scr) (fun _ _ => K _ _ _ _ _)).2.1 h
    | exact (aReads_c (scr := scr) (fun _ _ => K _ _ _ _ _)).2.2.1 h
    | exact (aReads_c (scr := scr) (fun _ _ => K _ _ _ _ _)).2.2.2.1 h
    | exact (aReads_c (scr := scr) (fun _ _ => K _ _ _ _ _)).2.2.2.2 h
    | exact (aWrites_c (fun _ _ _ => K _ _ _ _ _)).1 _ _ h
    | exact (aWrites_c (fun _ _ _ => K _ _ _ _ _)).2.1 h
    | exact (aWrites_c (fun _ _ _ => K _ _ _ _ _)).2.2.1 h
    | exact (aWrites_c (fun _ _ _ => K _ _ _ _ _)).2.2.2.1 h
    | exact (aWrites_c (fun _ _ _ => K _ _ _ _ _)).2.2.2.2.1 _ h
    | skip
  case idiv => unfold aDiv at h ⊢; split at h <;> first | exact aIte_c h aNone_c (K _ _ _ _ _) | cases h
  case irem => unfold aRem at h ⊢; split at h <;> first | exact aIte_c h aNone_c (K _ _ _ _ _) | cases h
  case i2l => unfold aI2l at h ⊢; split at h <;> first | exact K _ _ _ _ _ h | cases h
  case l2i => unfold aL2i at h ⊢; split at h <;> first | exact K _ _ _ _ _ h | cases h
  case getfield => exact aIte_c h ((aOps_c (fun _ _ => K _ _ _ _ _)).2.2.2.2.2.2.1 _) ((aReads_c (scr := scr) (fun _ _ => K _ _ _ _ _)).1 _ _)
  case getstatic => exact aIte_c h (K _ _ _ _ _) (K _ _ _ _ _)
  case new => exact aIte_c h aNone_c (K _ _ _ _ _)
  case ldc => exact aIte_c h (K _ _ _ _ _) (K _ _ _ _ _)
  case ifnull => unfold aNul at h ⊢; split at h <;> first | exact K _ _ _ _ _ h | cases h
  case ifnonnull => unfold aNul at h ⊢; split at h <;> first | exact K _ _ _ _ _ h | cases h
  case tableswitch => unfold aSwS at h ⊢; split at h <;> first | exact aSw_c (fun _ _ => K _ _ _ _ _) _ h | cases h
  case lookupswitch => unfold aSwS at h ⊢; split at h <;> first | exact aSw_c (fun _ _ => K _ _ _ _ _) _ h | cases h
  case iinc =>
    unfold aInc at h ⊢; split at h
    · split at h
      · exact K _ _ _ _ _ h
      · cases h
    · cases h
  case dup => unfold aDup at h ⊢; split at h <;> first | exact aIte_c h (K _ _ _ _ _) aNone_c | cases h
  case dup2 => unfold aDup2 at h ⊢; split at h <;> first | exact aIte_c h (K _ _ _ _ _) aNone_c | cases h
  case pop => unfold aPop1 at h ⊢; split at h <;> first | exact aIte_c h (K _ _ _ _ _) aNone_c | cases h
  case ireturn => exact ⟨0, h⟩
  case areturn => exact ⟨0, h⟩
  case return_ => exact ⟨0, h⟩
  case invokevirtual => exact aIte_c h (aCallV_c (fun _ _ _ => K _ _ _ _ _)).1 aNone_c
  case invokestatic => exact aIte_c h (aOps_c (fun _ _ => K _ _ _ _ _)).2.2.2.2.1 fun h => aIte_c h (aOps_c (fun _ _ => K _ _ _ _ _)).2.2.2.2.2.1 fun h => aIte_c h (aWrites_c (fun _ _ _ => K _ _ _ _ _)).2.2.2.2.2.1 fun h => aIte_c h ((aWrites_c (fun _ _ _ => K _ _ _ _ _)).2.2.2.2.2.2 _ _ _) aNone_c
  case invokespecial => exact aIte_c h (aOps_c (fun _ _ => K _ _ _ _ _)).2.2.2.2.2.2.2 fun h => aIte_c h (aCallV_c (ci := 0) (fun _ _ _ => K _ _ _ _ _)).2 aNone_c
end AC
theorem aRun_m {cl : Nat → List Value → aH → aRs} {scr : aSc} {cd : aCd} {rt : Nat} {r : Option Value × aH} : ∀ (n : Nat) {pc : Nat} {ls : aLs} {st : List Value} {H : aH}, aRun cl scr cd rt n pc ls st H = some r → aRun cl scr cd rt (n + 1) pc ls st H = some r
  | 0, _, _, _, _, h => by cases h
  | n + 1, pc, ls, st, H, h => by
    rw [aRun] at h ⊢
    split at h
    · obtain ⟨-, h⟩ := aStep_c (kn := fun _ => aRun cl scr cd rt (n + 1)) (fun p ls st H r h => ⟨0, aRun_m n h⟩) h
      exact h
    · cases h
theorem aRun_le {cl : Nat → List Value → aH → aRs} {scr : aSc} {cd : aCd} {rt : Nat} {r : Option Value × aH} {n m : Nat} (hnm : n ≤ m) {pc : Nat} {ls : aLs} {st : List Value} {H : aH} (h : aRun cl scr cd rt n pc ls st H = some r) : aRun cl scr cd rt m pc ls st H = some r := by
  induction hnm with
  | refl => exact h
  | step _ ih => exact aRun_m _ ih
theorem aGo_of {cl : Nat → List Value → aH → aRs} {scr : aSc} {cd : aCd} {rt : Nat} {r : Option Value × aH} {n pc : Nat} {ls : aLs} {st : List Value} {H : aH} (h : aRun cl scr cd rt n pc ls st H = some r) : aGo cl scr cd rt pc ls st H = some r := by
  have hx : ∃ (r : Option Value × aH) (n : Nat), aRun cl scr cd rt n pc ls st H = some r := ⟨r, n, h⟩
  unfold aGo
  rw [dif_pos hx]
  obtain ⟨n', h'⟩ := hx.choose_spec
  have h1 := aRun_le (Nat.le_max_left n n') h
  have h2 := aRun_le (Nat.le_max_right n n') h'
  rw [h1] at h2
  exact h2.symm
theorem aGo_run {cl : Nat → List Value → aH → aRs} {scr : aSc} {cd : aCd} {rt : Nat} {r : Option Value × aH} {pc : Nat} {ls : aLs} {st : List Value} {H : aH} (h : aGo cl scr cd rt pc ls st H = some r) : ∃ n, aRun cl scr cd rt n pc ls st H = some r := by
  unfold aGo at h
  split at h
  · rename_i hx
    cases h
    exact hx.choose_spec
  · cases h
/-- a step -/
theorem aGo_s {cl : Nat → List Value → aH → aRs} {scr : aSc} {cd : aCd} {rt : Nat} {pc : Nat} {ls : aLs} {st : List Value} {H : aH} {q : aCI} (hq : aFetch cd pc = some q) : aGo cl scr cd rt pc ls st H = aStep cl scr rt (aGo cl scr cd rt) q ls st H := by
  cases h2 : aStep cl scr rt (aGo cl scr cd rt) q ls st H with
  | some r =>
    obtain ⟨n, h⟩ := aStep_c (kn := aRun cl scr cd rt) (fun p ls st H r h => aGo_run h) h2
    exact aGo_of (n := n + 1) (by rw [aRun, hq]; exact h)
  | none =>
    cases h1 : aGo cl scr cd rt pc ls st H with
    | none => rfl
    | some r =>
      obtain ⟨n, h⟩ := aGo_run h1
      cases n with
      | zero => cases h
      | succ n =>
        rw [aRun, hq] at h
        obtain ⟨-, h⟩ := aStep_c (kn := fun _ => aGo cl scr cd rt) (fun p ls st H r h => ⟨0, aGo_of h⟩) h
        rw [h] at h2
        cases h2
