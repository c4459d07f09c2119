/-! what the interpreter comes to, the machine comes to -/
theorem aFetch_spec {cd : aCd} {pc : Nat} {q : aCI} (h : aFetch cd pc = some q) : (∃ l ∈ cd, q ∈ l) ∧ q.1 = pc := by
  unfold aFetch at h
  split at h
  · rename_i l hl
    exact ⟨⟨l, List.mem_of_getElem? hl, List.mem_of_find?_eq_some h⟩, by simpa using List.find?_some h⟩
  · cases h
def aFin (cc : ByteArray) (rt : Nat) (r : Option Value) (pc : Nat) : Prop :=
  (∃ v, r = some (.int v) ∧ decode cc pc = .ok (.ireturn, 1) ∧ (rt = 0 ∨ rt = 1 ∧ (v = 0 ∨ v = 1))) ∨ (∃ v, r = some v ∧ (v = .null ∨ ∃ a, v = .ref a) ∧ decode cc pc = .ok (.areturn, 1) ∧ rt = 2) ∨ (r = none ∧ decode cc pc = .ok (.return_, 1) ∧ rt = 3)
theorem aIte_i {c : Prop} [Decidable c] {a b : aRs} {r : Option Value × aH} (h : (if c then a else b) = some r) : c ∧ a = some r ∨ ¬ c ∧ b = some r := by
  by_cases hc : c
  · rw [if_pos hc] at h; exact Or.inl ⟨hc, h⟩
  · rw [if_neg hc] at h; exact Or.inr ⟨hc, h⟩
section SND
variable {X : aX} {cc : ByteArray} {o d : Nat} {ini : Bool} {H' : aH} {cl : Nat → List Value → aH → aRs} {cd : aCd} {rt : Nat} {r : Option Value}
theorem aBin_i {k : List Value → aRs} {f : Int32 → Int32 → Int32} {st : List Value} {z : Option Value × aH} (h : aBin k f st = some z) : ∃ x y st', st = .int y :: .int x :: st' ∧ k (.int (f x y) :: st') = some z := by
  unfold aBin at h; split at h
  · exact ⟨_, _, _, rfl, h⟩
  · cases h
theorem aUn_i {k : List Value → aRs} {f : Int32 → Int32} {st : List Value} {z : Option Value × aH} (h : aUn k f st = some z) : ∃ x st', st = .int x :: st' ∧ k (.int (f x) :: st') = some z := by
  unfold aUn at h; split at h
  · exact ⟨_, _, rfl, h⟩
  · cases h
theorem aBinL_i {k : List Value → aRs} {f : Int64 → Int64 → Int64} {st : List Value} {z : Option Value × aH} (h : aBinL k f st = some z) : ∃ x y st', st = .long y :: .long x :: st' ∧ k (.long (f x y) :: st') = some z := by
  unfold aBinL at h; split at h
  · exact ⟨_, _, _, rfl, h⟩
  · cases h
theorem aShL_i {k : List Value → aRs} {f : Int64 → Int32 → Int64} {st : List Value} {z : Option Value × aH} (h : aShL k f st = some z) : ∃ x y st', st = .int y :: .long x :: st' ∧ k (.long (f x y) :: st') = some z := by
  unfold aShL at h; split at h
  · exact ⟨_, _, _, rfl, h⟩
  · cases h
theorem aMax_i {k : List Value → aRs} {st : List Value} {z : Option Value × aH} (h : aMax k st = some z) : ∃ x y st', st = .int y :: .int x :: st' ∧ aCat st' ≤ 8 ∧ k (.int (if x < y then y else x) :: st') = some z := by
  unfold aMax at h
  cases st with
  | nil => cases h
  | cons a st =>
    cases st with
    | nil => cases a <;> cases h
    | cons b st =>
      cases a <;> cases b <;> first
        | (cases h; done)
        | (dsimp only at h; rcases aIte_i h with ⟨hc, h⟩ | ⟨_, h⟩ <;> first | exact ⟨_, _, _, rfl, hc, h⟩ | cases h)
theorem aMin_i {k : List Value → aRs} {st : List Value} {z : Option Value × aH} (h : aMin k st = some z) : ∃ x y st', st = .int y :: .int x :: st' ∧ aCat st' ≤ 8 ∧ k (.int (if y < x then y else x) :: st') = some z := by
  unfold aMin at h
  cases st with
  | nil => cases h
  | cons a st =>
    cases st with
    | nil => cases a <;> cases h
    | cons b st =>
      cases a <;> cases b <;> first
        | (cases h; done)
        | (dsimp only at h; rcases aIte_i h with ⟨hc, h⟩ | ⟨_, h⟩ <;> first | exact ⟨_, _, _, rfl, hc, h⟩ | cases h)
theorem aPop_i {k : List Value → aRs} {st : List Value} {z : Option Value × aH} (h : aPop k st = some z) : ∃ a st', st = .ref a :: st' ∧ aCat st' ≤ 8 ∧ k st' = some z := by
  unfold aPop at h
  cases st with
  | nil => cases h
  | cons a st =>
      cases a <;> first
        | (cases h; done)
        | (dsimp only at h; rcases aIte_i h with ⟨hc, h⟩ | ⟨_, h⟩ <;> first | exact ⟨_, _, rfl, hc, h⟩ | cases h)
theorem aCopy_i {k : List Value → aH → aRs} {H : aH} {st : List Value} {z : Option Value × aH} (h : aCopy k H st = some z) : ∃ n dp b sp a st' q r, st = .int n :: .int dp :: .ref b :: .int sp :: .ref a :: st' ∧ H.1[a]? = some q ∧ H.1[b]? = some r ∧ ((q.1 = 20 ∨ q.1 = 21) ∧ aCat st' ≤ 8 ∧ r.1 = q.1 ∧ ¬ sp < 0 ∧ ¬ dp < 0 ∧ ¬ n < 0 ∧ sp.toNatClampNeg + n.toNatClampNeg ≤ q.2 ∧ dp.toNatClampNeg + n.toNatClampNeg ≤ r.2 ∧ (q.1 = 21 → ∀ i, i < n.toNatClampNeg → fits .byte (.int (H.2.1 a (sp.toNatClampNeg + i))) = true)) ∧ k st' (H.1, aCpy H.2.1 a b sp.toNatClampNeg dp.toNatClampNeg n.toNatClampNeg, H.2.2) = some z := by
  unfold aCopy at h
  match st, h with
  | .int n :: .int dp :: .ref b :: .int sp :: .ref a :: st', h =>
    dsimp only at h
    cases hq : H.1[a]? with
    | none => rw [hq] at h; cases h
    | some q =>
      cases hr : H.1[b]? with
      | none => rw [hq, hr] at h; cases h
      | some r =>
        rw [hq, hr] at h
        dsimp only at h
        rcases aIte_i h with ⟨hc, h⟩ | ⟨_, h⟩
        · exact ⟨n, dp, b, sp, a, st', q, r, rfl, hq, hr, hc, h⟩
        · cases h
theorem aRet_i {k : List Value → aH → aRs} {q : aRs} {st : List Value} {z : Option Value × aH} (h : aRet k q st = some z) : ∃ r1 H1, q = some (r1, H1) ∧ k (r1.toList ++ st) H1 = some z := by
  unfold aRet at h; split at h
  · exact ⟨_, _, rfl, h⟩
  · exact ⟨_, _, rfl, h⟩
  · cases h
theorem aCallI_i {k : List Value → aH → aRs} {x y : Nat} {H : aH} {st : List Value} {z : Option Value × aH} (h : aCallI k cl x y H st = some z) : (y ≤ st.length ∧ aCat (st.drop y) ≤ 8) ∧ ∃ r1 H1, cl x (st.take y).reverse H = some (r1, H1) ∧ k (r1.toList ++ st.drop y) H1 = some z := by
  unfold aCallI at h
  rcases aIte_i h with ⟨hc, h⟩ | ⟨_, h⟩
  · exact ⟨hc, aRet_i h⟩
  · cases h
set_option maxHeartbeats 8000000 in
theorem aSound (C : aCx X cc o d ini H') (ok : aOK cl d) (hcd : cd.all (fun l => l.all (aChk o cc ini)) = true)
    (K : ∀ (Hp : Heap) (locs : List Loc) (cells slots : Nat) (lsA : Array Slot) (pc : Nat) (ls : aLs), aRel X H' ls Hp locs cells slots lsA → aFin cc rt r pc → aW X Hp locs cells slots (F0 (xm X) pc lsA (r.map (aVal (xd X))).toList)) :
    ∀ (n pc : Nat) (ls : aLs) (st : List Value) (H : aH), aRun cl (xS X) cd rt n pc ls st H = some (r, H') → aGd X H' pc ls st H := by
  intro n
  induction n with
  | zero => intro pc ls st H h; cases h
  | succ n ih =>
    intro pc ls st H h
    rw [aRun] at h
    split at h
    case h_2 => cases h
    rename_i q hq
    obtain ⟨⟨l, hl, hql⟩, hpc⟩ := aFetch_spec hq
    have hchk := List.all_eq_true.mp (List.all_eq_true.mp hcd l hl) q hql
    obtain ⟨pc', len, i, x, y, c, sw⟩ := q
    dsimp only at hpc
    subst hpc
    simp only [aChk, Bool.and_eq_true, decide_eq_true_eq] at hchk
    obtain ⟨⟨hd, hlen⟩, hinfo⟩ := hchk
    have hlen : aSwi i = true ∨ len = aLn i := by simpa only [Bool.or_eq_true, decide_eq_true_eq] using hlen
    clear hq hql
    cases i <;> simp only [aStep] at h <;> (try cases h) <;> simp only [aSwi, Bool.false_eq_true, false_or, true_or, aLn] at hlen <;> (try subst hlen) <;> simp only [aInfo, Bool.and_eq_true, Bool.or_eq_true, Bool.not_eq_true', decide_eq_true_eq, beq_iff_eq, bne_iff_ne, List.contains_iff_mem, ne_eq] at hinfo
    case aload_n k =>
      unfold aRLoad at h; split at h
      · rename_i v hv; exact g_aload_n C hd hv (ih _ _ _ _ h)
      · rename_i hv; exact g_aload_nN C hd hv (ih _ _ _ _ h)
      · cases h
    case aload k =>
      unfold aRLoad at h; split at h
      · rename_i v hv; exact g_aload C hd hv (ih _ _ _ _ h)
      · rename_i hv; exact g_aloadN C hd hv (ih _ _ _ _ h)
      · cases h
    case iload_n k =>
      unfold aILoad at h; split at h
      · rename_i v hv; exact g_iload_n C hd hv (ih _ _ _ _ h)
      · cases h
    case iload k =>
      unfold aILoad at h; split at h
      · rename_i v hv; exact g_iload C hd hv (ih _ _ _ _ h)
      · cases h
    case lload_n k =>
      unfold aLLoad at h; split at h
      · rename_i v hv; exact g_lload_n C hd hv (ih _ _ _ _ h)
      · cases h
    case istore_n k =>
      unfold aIStore at h; split at h
      · split at h
        · rename_i hv; exact g_istore_n C hd hv (ih _ _ _ _ h)
        · cases h
      · cases h
    case istore k =>
      unfold aIStore at h; split at h
      · split at h
        · rename_i hv; exact g_istore C hd hv (ih _ _ _ _ h)
        · cases h
      · cases h
    case astore_n k =>
      unfold aRStore at h; split at h
      · split at h
        · rename_i hv; exact g_astore_n C hd hv (ih _ _ _ _ h)
        · cases h
      · split at h
        · rename_i hv; exact g_astore_nN C hd hv (ih _ _ _ _ h)
        · cases h
      · cases h
    case astore k =>
      unfold aRStore at h; split at h
      · split at h
        · rename_i hv; exact g_astore C hd hv (ih _ _ _ _ h)
        · cases h
      · split at h
        · rename_i hv; exact g_astoreN C hd hv (ih _ _ _ _ h)
        · cases h
      · cases h
    case aconst_null => exact g_null C hd (ih _ _ _ _ h)
    case iconst k => exact g_iconst C hd hinfo (ih _ _ _ _ h)
    case bipush k => exact g_bipush C hd hinfo (ih _ _ _ _ h)
    case sipush k => exact g_sipush C hd hinfo (ih _ _ _ _ h)
    case ldc j =>
      by_cases hy : y = 0
      · rw [if_pos hy] at h
        rw [if_pos hy] at hinfo
        exact g_ldc C hd (by simpa using hinfo) (ih _ _ _ _ h)
      · rw [if_neg hy] at h
        rw [if_neg hy] at hinfo
        exact g_ldcS C hd (by simpa using hinfo) (ih _ _ _ _ h)
    case ldc_w j => exact g_ldcw C hd hinfo (ih _ _ _ _ h)
    case ldc2_w j => exact g_ldc2 C hd hinfo (ih _ _ _ _ h)
    case getfield j =>
      by_cases hx : x = 50
      · rw [if_pos hx] at h
        rw [if_pos hx] at hinfo
        unfold aGetS at h; split at h
        · rcases aIte_i h with ⟨ha, h⟩ | ⟨_, h⟩
          · refine g_getS C hd (by simpa using hinfo) ha ?_
            rcases aIte_i h with ⟨hy, h⟩ | ⟨hy, h⟩
            · exact Or.inl ⟨hy, ih _ _ _ _ h⟩
            · exact Or.inr ⟨hy, ih _ _ _ _ h⟩
          · cases h
        · cases h
      · rw [if_neg hx] at h
        rw [if_neg hx] at hinfo
        simp only [Bool.and_eq_true, decide_eq_true_eq, List.contains_iff_mem] at hinfo
        obtain ⟨h1, h2, h3⟩ := hinfo
        unfold aGet at h; split at h
        · rcases aIte_i h with ⟨ha, h⟩ | ⟨_, h⟩
          · split at h
            · rename_i hk; exact g_get C hd h1 h2 h3 ha (by rw [if_neg (by omega)]; rfl) (ih _ _ _ _ h)
            · rename_i hk; exact g_get C hd h1 h2 h3 ha (by rw [if_neg (by omega)]; rfl) (ih _ _ _ _ h)
            · rename_i hk
              split at h
              · rename_i hb; exact g_get C hd h1 h2 h3 ha (by rw [if_pos hk, hb]; rfl) (ih _ _ _ _ h)
              · rename_i hb; exact g_get C hd h1 h2 h3 ha (by rw [if_pos hk, hb]; rfl) (ih _ _ _ _ h)
            · cases h
          · cases h
        · cases h
    case putfield j =>
      obtain ⟨⟨h1, h2, h3⟩, h4⟩ := hinfo
      unfold aPut at h; split at h
      · rcases aIte_i h with ⟨ha, h⟩ | ⟨_, h⟩
        · split at h
          · rename_i hk; exact g_putI C hd h1 h2 h3 h4 ha (Or.inl hk) (ih _ _ _ _ h)
          · rename_i hk
            rcases aIte_i h with ⟨hv, h⟩ | ⟨_, h⟩
            · exact g_putI C hd h1 h2 h3 h4 ha (Or.inr ⟨hk, hv⟩) (ih _ _ _ _ h)
            · cases h
          · cases h
        · cases h
      · rcases aIte_i h with ⟨ha, h⟩ | ⟨_, h⟩
        · split at h
          · rename_i hk
            rcases aIte_i h with ⟨hv, h⟩ | ⟨_, h⟩
            · exact g_putR C hd h1 h2 h3 h4 ha hk hv (ih _ _ _ _ h)
            · cases h
          · cases h
        · cases h
      · cases h
    case getstatic j =>
      by_cases hx : x = 1
      · rw [if_pos hx] at h
        rw [if_pos hx] at hinfo
        exact g_getsI C hd (by simpa using hinfo) (ih _ _ _ _ h)
      · rw [if_neg hx] at h
        rw [if_neg hx] at hinfo
        simp only [Bool.and_eq_true, Bool.or_eq_true, decide_eq_true_eq, List.contains_iff_mem] at hinfo
        exact g_gets C hd hinfo.1 hinfo.2 (ih _ _ _ _ h)
    case iadd => obtain ⟨x1, y1, st', rfl, h2⟩ := aBin_i h; exact g_bin (f := fun x y => x + y) C hd (ih _ _ _ _ h2) (by simp)
    case isub => obtain ⟨x1, y1, st', rfl, h2⟩ := aBin_i h; exact g_bin (f := fun x y => x - y) C hd (ih _ _ _ _ h2) (by simp)
    case imul => obtain ⟨x1, y1, st', rfl, h2⟩ := aBin_i h; exact g_bin (f := fun x y => x * y) C hd (ih _ _ _ _ h2) (by simp)
    case iand => obtain ⟨x1, y1, st', rfl, h2⟩ := aBin_i h; exact g_bin (f := fun x y => x &&& y) C hd (ih _ _ _ _ h2) (by simp)
    case ior => obtain ⟨x1, y1, st', rfl, h2⟩ := aBin_i h; exact g_bin (f := fun x y => x ||| y) C hd (ih _ _ _ _ h2) (by simp)
    case ixor => obtain ⟨x1, y1, st', rfl, h2⟩ := aBin_i h; exact g_bin (f := fun x y => x ^^^ y) C hd (ih _ _ _ _ h2) (by simp)
    case ishl => obtain ⟨x1, y1, st', rfl, h2⟩ := aBin_i h; exact g_bin (f := fun x y => x <<< (y &&& 31)) C hd (ih _ _ _ _ h2) (by simp)
    case ishr => obtain ⟨x1, y1, st', rfl, h2⟩ := aBin_i h; exact g_bin (f := fun x y => x >>> (y &&& 31)) C hd (ih _ _ _ _ h2) (by simp)
    case iushr => obtain ⟨x1, y1, st', rfl, h2⟩ := aBin_i h; exact g_bin (f := fun x y => (x.toUInt32 >>> (y.toUInt32 &&& Int32.toUInt32 31)).toInt32) C hd (ih _ _ _ _ h2) (by simp)
    case ineg => obtain ⟨x1, st', rfl, h2⟩ := aUn_i h; exact g_un (f := fun x => -x) C hd (ih _ _ _ _ h2) (by simp)
    case i2b => obtain ⟨x1, st', rfl, h2⟩ := aUn_i h; exact g_un (f := fun x => x.toInt8.toInt32) C hd (ih _ _ _ _ h2) (by simp)
    case i2s => obtain ⟨x1, st', rfl, h2⟩ := aUn_i h; exact g_un (f := fun x => x.toInt16.toInt32) C hd (ih _ _ _ _ h2) (by simp)
    case i2c => obtain ⟨x1, st', rfl, h2⟩ := aUn_i h; exact g_un (f := fun x => (x.toUInt32 % 65536).toInt32) C hd (ih _ _ _ _ h2) (by simp)
    case land => obtain ⟨x1, y1, st', rfl, h2⟩ := aBinL_i h; exact g_long C hd (ih _ _ _ _ h2) (Or.inl ⟨x1, y1, rfl, rfl, rfl, rfl⟩)
    case lor => obtain ⟨x1, y1, st', rfl, h2⟩ := aBinL_i h; exact g_long C hd (ih _ _ _ _ h2) (Or.inr (Or.inl ⟨x1, y1, rfl, rfl, rfl, rfl⟩))
    case lshl => obtain ⟨x1, y1, st', rfl, h2⟩ := aShL_i h; exact g_long C hd (ih _ _ _ _ h2) (Or.inr (Or.inr (Or.inl ⟨x1, y1, rfl, rfl, rfl, rfl⟩)))
    case lshr => obtain ⟨x1, y1, st', rfl, h2⟩ := aShL_i h; exact g_long C hd (ih _ _ _ _ h2) (Or.inr (Or.inr (Or.inr (Or.inl ⟨x1, y1, rfl, rfl, rfl, rfl⟩))))
    case lushr => obtain ⟨x1, y1, st', rfl, h2⟩ := aShL_i h; exact g_long C hd (ih _ _ _ _ h2) (Or.inr (Or.inr (Or.inr (Or.inr ⟨x1, y1, rfl, rfl, rfl, rfl⟩))))
    case i2l =>
      unfold aI2l at h; split at h
      · exact g_i2l C hd (ih _ _ _ _ h)
      · cases h
    case l2i =>
      unfold aL2i at h; split at h
      · exact g_l2i C hd (ih _ _ _ _ h)
      · cases h
    case idiv =>
      unfold aDiv at h; split at h
      · rcases aIte_i h with ⟨_, h⟩ | ⟨hy, h⟩
        · cases h
        · exact g_idiv C hd hy (ih _ _ _ _ h)
      · cases h
    case irem =>
      unfold aRem at h; split at h
      · rcases aIte_i h with ⟨_, h⟩ | ⟨hy, h⟩
        · cases h
        · exact g_irem C hd hy (ih _ _ _ _ h)
      · cases h
    case ifCond cd f =>
      unfold aIf at h; split at h
      · refine g_if C hd hinfo ?_
        cases cd <;> dsimp only at h ⊢ <;> rcases aIte_i h with ⟨hc, h⟩ | ⟨hc, h⟩
        all_goals first
          | exact Or.inl ⟨hc, ih _ _ _ _ h⟩
          | exact Or.inr ⟨hc, ih _ _ _ _ h⟩
          | exact Or.inr ⟨fun z => z hc, ih _ _ _ _ h⟩
      · cases h
    case if_icmp cd f =>
      unfold aIc at h; split at h
      · refine g_ic C hd hinfo ?_
        cases cd <;> dsimp only at h ⊢ <;> rcases aIte_i h with ⟨hc, h⟩ | ⟨hc, h⟩
        all_goals first
          | exact Or.inl ⟨hc, ih _ _ _ _ h⟩
          | exact Or.inr ⟨hc, ih _ _ _ _ h⟩
          | exact Or.inr ⟨fun z => z hc, ih _ _ _ _ h⟩
      · cases h
    case ifnull f =>
      unfold aNul at h; split at h
      · exact g_ifnullN C hd hinfo (ih _ _ _ _ h)
      · exact g_ifnull C hd (ih _ _ _ _ h)
      · cases h
    case ifnonnull f =>
      unfold aNul at h; split at h
      · exact g_ifnnN C hd (ih _ _ _ _ h)
      · exact g_ifnn C hd hinfo (ih _ _ _ _ h)
      · cases h
    case goto f => exact g_goto C hd hinfo (ih _ _ _ _ h)
    case tableswitch dd lo hi offs =>
      obtain ⟨⟨⟨h1, h2⟩, h3⟩, h4⟩ := hinfo
      unfold aSwS at h; split at h
      · refine g_table C hd h1 h3 (fun e he => by simpa using List.all_eq_true.mp h4 e he) ?_
        rcases aSw_inv sw h with ⟨j, t, g1, _, g3⟩ | ⟨g1, g2⟩
        · exact Or.inl ⟨j, t, g1, ih _ _ _ _ g3⟩
        · exact Or.inr ⟨g1, ih _ _ _ _ g2⟩
      · cases h
    case lookupswitch dd ps =>
      obtain ⟨⟨h1, h2⟩, h3⟩ := hinfo
      unfold aSwS at h; split at h
      · refine g_lookup C hd h1 h2 h3 ?_
        rcases aSw_inv sw h with ⟨j, t, g1, g2, g3⟩ | ⟨g1, g2⟩
        · exact Or.inl ⟨j, t, g1, g2, ih _ _ _ _ g3⟩
        · exact Or.inr ⟨g1, ih _ _ _ _ g2⟩
      · cases h
    case iinc k m =>
      unfold aInc at h; split at h
      · rename_i v hv
        split at h
        · rename_i hp; exact g_iinc C hd hinfo hv hp (ih _ _ _ _ h)
        · cases h
      · cases h
    case dup =>
      unfold aDup at h; split at h
      · rcases aIte_i h with ⟨hc, h⟩ | ⟨_, h⟩
        · exact g_dup C hd hc (ih _ _ _ _ h)
        · cases h
      · cases h
    case dup2 =>
      unfold aDup2 at h; split at h
      · rcases aIte_i h with ⟨hc, h⟩ | ⟨_, h⟩
        · exact g_dup2 C hd hc.1 hc.2 (ih _ _ _ _ h)
        · cases h
      · cases h
    case pop =>
      unfold aPop1 at h; split at h
      · rcases aIte_i h with ⟨hc, h⟩ | ⟨_, h⟩
        · exact g_pop C hd hc (ih _ _ _ _ h)
        · cases h
      · cases h
    case newarray t =>
      unfold aNewA at h; split at h
      · rcases aIte_i h with ⟨_, h⟩ | ⟨hc, h⟩
        · cases h
        · exact g_newa C hd hinfo hc (ih _ _ _ _ h)
      · cases h
    case anewarray j =>
      unfold aNewA at h; split at h
      · rcases aIte_i h with ⟨_, h⟩ | ⟨hc, h⟩
        · cases h
        · exact g_newq C hd hinfo.2 hinfo.1 hc (ih _ _ _ _ h)
      · cases h
    case new j =>
      rcases aIte_i h with ⟨_, h⟩ | ⟨hc, h⟩
      · cases h
      · exact g_new C hd hinfo.1 hinfo.2 (by omega) (ih _ _ _ _ h)
    case iaload =>
      unfold aIald at h; split at h
      · split at h
        · rename_i q hq
          rcases aIte_i h with ⟨hk, h⟩ | ⟨_, h⟩
          · rcases aIte_i h with ⟨_, h⟩ | ⟨hi, h⟩
            · cases h
            · exact g_iald C hd (by rw [hq, ← hk]) hi (ih _ _ _ _ h)
          · cases h
        · split at h
          · rename_i q hq
            rcases aIte_i h with ⟨_, h⟩ | ⟨hi, h⟩
            · cases h
            · exact g_stald C hd hq hi (ih _ _ _ _ h)
          · cases h
      · cases h
    case baload =>
      unfold aBald at h; split at h
      · split at h
        · rename_i q hq
          rcases aIte_i h with ⟨hk, h⟩ | ⟨_, h⟩
          · rcases aIte_i h with ⟨_, h⟩ | ⟨hi, h⟩
            · cases h
            · exact g_bald C hd (by rw [hq, ← hk]) hi (ih _ _ _ _ h)
          · cases h
        · rcases aIte_i h with ⟨hk, h⟩ | ⟨_, h⟩
          · rcases aIte_i h with ⟨_, h⟩ | ⟨hi, h⟩
            · cases h
            · exact g_tbald C hd hk hi (ih _ _ _ _ h)
          · cases h
      · cases h
    case aaload =>
      unfold aAald at h; split at h
      · split at h
        · rename_i q hq
          rcases aIte_i h with ⟨hk, h⟩ | ⟨_, h⟩
          · rcases aIte_i h with ⟨_, h⟩ | ⟨hi, h⟩
            · cases h
            · split at h
              · rename_i hb; exact g_aald C hd hq hk hi (by rw [hb]; rfl) (ih _ _ _ _ h)
              · rename_i hb; exact g_aald C hd hq hk hi (by rw [hb]; rfl) (ih _ _ _ _ h)
          · cases h
        · cases h
      · cases h
    case iastore =>
      unfold aIast at h; split at h
      · split at h
        · rename_i q hq
          rcases aIte_i h with ⟨hk, h⟩ | ⟨_, h⟩
          · rcases aIte_i h with ⟨_, h⟩ | ⟨hi, h⟩
            · cases h
            · exact g_iast C hd (by rw [hq, ← hk]) hi (ih _ _ _ _ h)
          · cases h
        · cases h
      · cases h
    case bastore =>
      unfold aBast at h; split at h
      · split at h
        · rename_i q hq
          rcases aIte_i h with ⟨hk, h⟩ | ⟨_, h⟩
          · rcases aIte_i h with ⟨_, h⟩ | ⟨hi, h⟩
            · cases h
            · exact g_bast C hd (by rw [hq, ← hk]) hi (ih _ _ _ _ h)
          · cases h
        · cases h
      · cases h
    case aastore =>
      unfold aAast at h; split at h
      · split at h
        · rename_i q hq
          rcases aIte_i h with ⟨hk, h⟩ | ⟨_, h⟩
          · rcases aIte_i h with ⟨_, h⟩ | ⟨hi, h⟩
            · cases h
            · rcases aIte_i h with ⟨hx, h⟩ | ⟨_, h⟩
              · exact g_aast C hd hq hk hi hx.1 hx.2 (ih _ _ _ _ h)
              · cases h
          · cases h
        · cases h
      · cases h
    case arraylength =>
      unfold aAlen at h; split at h
      · split at h
        · rename_i q hq
          rcases aIte_i h with ⟨hk, h⟩ | ⟨_, h⟩
          · exact g_alen C hd hq hk (ih _ _ _ _ h)
          · cases h
        · split at h
          · rename_i q hq; exact g_slen C hd hq (ih _ _ _ _ h)
          · rcases aIte_i h with ⟨hk, h⟩ | ⟨_, h⟩
            · exact g_tblen C hd hk (ih _ _ _ _ h)
            · cases h
      · cases h
    case ireturn =>
      unfold aIret at h; split at h
      · rename_i v
        rcases aIte_i h with ⟨hr, h⟩ | ⟨_, h⟩
        · rcases aIte_i h with ⟨hv, h⟩ | ⟨_, h⟩
          · cases h; exact ⟨List.prefix_rfl, fun Hp locs cells slots lsA Rl => K _ _ _ _ _ _ _ Rl (Or.inl ⟨v, rfl, hd, Or.inr ⟨hr, hv⟩⟩)⟩
          · cases h
        · rcases aIte_i h with ⟨hr, h⟩ | ⟨_, h⟩
          · cases h; exact ⟨List.prefix_rfl, fun Hp locs cells slots lsA Rl => K _ _ _ _ _ _ _ Rl (Or.inl ⟨v, rfl, hd, Or.inl hr⟩)⟩
          · cases h
      · cases h
    case areturn =>
      unfold aAret at h; split at h
      · rcases aIte_i h with ⟨hr, h⟩ | ⟨_, h⟩
        · cases h; exact ⟨List.prefix_rfl, fun Hp locs cells slots lsA Rl => K _ _ _ _ _ _ _ Rl (Or.inr (Or.inl ⟨_, rfl, Or.inr ⟨_, rfl⟩, hd, hr⟩))⟩
        · cases h
      · rcases aIte_i h with ⟨hr, h⟩ | ⟨_, h⟩
        · cases h; exact ⟨List.prefix_rfl, fun Hp locs cells slots lsA Rl => K _ _ _ _ _ _ _ Rl (Or.inr (Or.inl ⟨_, rfl, Or.inl rfl, hd, hr⟩))⟩
        · cases h
      · cases h
    case return_ =>
      unfold aVret at h; split at h
      · rcases aIte_i h with ⟨hr, h⟩ | ⟨_, h⟩
        · cases h; exact ⟨List.prefix_rfl, fun Hp locs cells slots lsA Rl => K _ _ _ _ _ _ _ Rl (Or.inr (Or.inr ⟨rfl, hd, hr⟩))⟩
        · cases h
      · cases h
    case invokevirtual j =>
      rcases aIte_i h with ⟨_, h⟩ | ⟨_, h⟩
      · unfold aCallV at h; split at h
        · rename_i b hb
          rcases aIte_i h with ⟨hrec, h⟩ | ⟨_, h⟩
          · obtain ⟨hy, r1, H1, h1, h2⟩ := aCallI_i h
            exact g_callV C ok hd hinfo.1 hinfo.2 hb hrec hy h1 (ih _ _ _ _ h2)
          · cases h
        · cases h
      · cases h
    case invokestatic j =>
      rcases aIte_i h with ⟨hx, hm⟩ | ⟨hx0, h⟩
      · subst hx
        rw [if_pos (Or.inl rfl)] at hinfo
        obtain ⟨x1, y1, st', rfl, hc, h2⟩ := aMax_i hm
        have G := ih _ _ _ _ h2
        exact g_mm C hd (by simpa using hinfo) hc G.1 (Or.inl ⟨rfl, G⟩)
      · rcases aIte_i h with ⟨hx, hm⟩ | ⟨hx1, h⟩
        · subst hx
          rw [if_pos (Or.inr (Or.inl rfl))] at hinfo
          obtain ⟨x1, y1, st', rfl, hc, h2⟩ := aMin_i hm
          have G := ih _ _ _ _ h2
          exact g_mm C hd (by simpa using hinfo) hc G.1 (Or.inr ⟨rfl, G⟩)
        · rcases aIte_i h with ⟨hx, hm⟩ | ⟨hx2, h⟩
          · subst hx
            rw [if_pos (Or.inr (Or.inr rfl))] at hinfo
            obtain ⟨n1, dp, b1, sp, a1, st', q, r1, rfl, hq, hq', ⟨c1, c0, c2, c3, c4, c5, c6, c7, c8⟩, h2⟩ := aCopy_i hm
            exact g_copy C hd (by simpa using hinfo) hq (by rw [hq', ← c2]) c1 c0 c3 c4 c5 c6 c7 c8 (ih _ _ _ _ h2)
          · rcases aIte_i h with ⟨hx3, h⟩ | ⟨_, h⟩
            · rw [if_neg (by omega), if_neg (by omega)] at hinfo
              simp only [Bool.and_eq_true, Bool.or_eq_true, decide_eq_true_eq, List.contains_iff_mem] at hinfo
              obtain ⟨hy, r1, H1, h1, h2⟩ := aCallI_i h
              exact g_callS C ok hd hinfo.1 hinfo.2 hy h1 (ih _ _ _ _ h2)
            · cases h
    case invokespecial j =>
      rcases aIte_i h with ⟨hx, hm⟩ | ⟨hx, h⟩
      · rw [if_pos hx] at hinfo
        subst hx
        obtain ⟨a1, st', rfl, hc, h2⟩ := aPop_i hm
        exact g_objInit C hd (by simpa using hinfo) hc (ih _ _ _ _ h2)
      · rw [if_neg hx] at hinfo
        simp only [Bool.and_eq_true, Bool.or_eq_true, decide_eq_true_eq, List.contains_iff_mem] at hinfo
        rcases aIte_i h with ⟨_, h⟩ | ⟨_, h⟩
        · unfold aCallC at h; split at h
          · rename_i b hb
            obtain ⟨hy, r1, H1, h1, h2⟩ := aCallI_i h
            exact g_callC C ok hd hinfo.1 hinfo.2 hb hy h1 (ih _ _ _ _ h2)
          · cases h
        · cases h
end SND
