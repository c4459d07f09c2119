/-! every call that the interpreter ends, the machine ends so -/
theorem aSw_p {dd : Nat} {x : Int32} {k : Nat → aRs} {z : Option Value × aH} : ∀ (sw : List (Int32 × Nat)), aSw sw dd x k = some z → ∃ t, k t = some z
  | [], h => ⟨_, h⟩
  | (c, t) :: l, h => by
    rw [aSw] at h
    by_cases hc : x = c
    · rw [if_pos hc] at h; exact ⟨_, h⟩
    · rw [if_neg hc] at h; exact aSw_p l h
set_option maxHeartbeats 8000000 in
/-- no cell goes away -/
theorem aStep_p {cl : Nat → List Value → aH → aRs} {scr : aSc} {rt : Nat} {k : Nat → aLs → List Value → aH → aRs} {r : Option Value} {H' : aH} (K : ∀ p ls st H, k p ls st H = some (r, H') → H.1 <+: H'.1) (Kc : ∀ x vs H r1 H1, cl x vs H = some (r1, H1) → H.1 <+: H1.1) {q : aCI} {ls : aLs} {st : List Value} {H : aH}
    (h : aStep cl scr rt k q ls st H = some (r, H')) : H.1 <+: H'.1 := by
  have Kn : ∀ p ls st kd n, k p ls st (aNew kd n H) = some (r, H') → H.1 <+: H'.1 := fun p ls st kd n h => List.IsPrefix.trans ⟨[(kd, n)], rfl⟩ (K _ _ _ _ h)
  have Kr : ∀ p ls x vs st', aRet (fun st H => k p ls st H) (cl x vs H) st' = some (r, H') → H.1 <+: H'.1 := fun p ls x vs st' h => by
    unfold aRet at h
    split at h
    · rename_i v H1 heq; exact (Kc _ _ _ _ _ heq).trans (K _ _ _ _ h)
    · rename_i H1 heq; exact (Kc _ _ _ _ _ heq).trans (K _ _ _ _ h)
    · cases h
  obtain ⟨pc, len, i, x, y, c, sw⟩ := q
  cases i <;> simp only [aStep, aRLoad, aILoad, aLLoad, aIStore, aRStore, aBin, aBinL, aShL, aUn, aIf, aIc, aGet, aGetS, aPut, aIald, aBald, aAald, aIast, aBast, aAast, aAlen, aNewA, aCopy, aCallV, aCallC, aCallI, aMax, aMin, aPop, aDiv, aRem, aI2l, aL2i, aNul, aInc, aDup, aDup2, aPop1, aIret, aAret, aVret] at h
  all_goals first
    | (cases h; done)
    | exact K _ _ _ _ h
    | skip
  all_goals (repeat' split at h)
  all_goals first
    | (cases h; done)
    | exact K _ _ _ _ h
    | (have hk := K _ _ _ _ h; exact hk)
    | exact Kn _ _ _ _ _ h
    | exact Kr _ _ _ _ _ h
    | (cases h; exact List.prefix_rfl)
    | (unfold aSwS at h; split at h <;> first | (cases h; done) | (obtain ⟨t, ht⟩ := aSw_p _ h; exact K _ _ _ _ ht))
theorem aRun_p {cl : Nat → List Value → aH → aRs} {scr : aSc} {cd : aCd} {rt : Nat} {r : Option Value} {H' : aH} (Kc : ∀ x vs H r1 H1, cl x vs H = some (r1, H1) → H.1 <+: H1.1) : ∀ (n : Nat) {pc : Nat} {ls : aLs} {st : List Value} {H : aH}, aRun cl scr cd rt n pc ls st H = some (r, H') → H.1 <+: H'.1
  | 0, _, _, _, _, h => by cases h
  | n + 1, pc, ls, st, H, h => by
    rw [aRun] at h
    split at h
    · exact aStep_p (fun p ls st H h => aRun_p Kc n h) Kc h
    · cases h
theorem aArgs_len (ad : Nat → Nat) : ∀ (vs : List Value), (lg_sl (vs.map (aVal ad))).length = (aArgs vs).length
  | [] => rfl
  | v :: vs => by
    have ih := aArgs_len ad vs
    have e : lg_sl ((v :: vs).map (aVal ad)) = (if (aVal ad v).category = 2 then [.val (aVal ad v), .second] else [.val (aVal ad v)]) ++ lg_sl (vs.map (aVal ad)) := by simp [lg_sl]
    rw [e, List.length_append, ih, aVal_cat, aArgs]
    by_cases h : v.category = 2
    · rw [if_pos h, if_pos h]; simp; omega
    · rw [if_neg h, if_neg h]; simp; omega
theorem aArgs_at (ad : Nat → Nat) : ∀ (vs : List Value) (k j : Nat) (v : Value), (aArgs vs)[j]? = some (some v) → (k + j, aVal ad v) ∈ lv_args k (vs.map (aVal ad))
  | [], k, j, v, h => by simp [aArgs] at h
  | w :: vs, k, j, v, h => by
    rw [List.map_cons, lv_args]
    rw [aArgs] at h
    by_cases hc : w.category = 2
    · rw [if_pos hc] at h
      rw [if_pos (by rw [aVal_cat]; exact hc)]
      cases j with
      | zero => cases h; exact List.mem_cons_self
      | succ j =>
        cases j with
        | zero => cases h
        | succ j =>
          have := aArgs_at ad vs (k + 2) j v h
          rw [show k + (j + 1 + 1) = k + 2 + j by omega]
          exact List.mem_cons_of_mem _ this
    · rw [if_neg hc] at h
      rw [if_neg (by rw [aVal_cat]; exact hc)]
      cases j with
      | zero => cases h; exact List.mem_cons_self
      | succ j =>
        have := aArgs_at ad vs (k + 1) j v h
        rw [show k + (j + 1) = k + 1 + j by omega]
        exact List.mem_cons_of_mem _ this
theorem aInit_lv (ad : Nat → Nat) (vs : List Value) (n : Nat) : ∀ q ∈ aLv ad (aInit vs n), q ∈ lv_args 0 (vs.map (aVal ad)) := by
  intro q hq
  obtain ⟨v, h1, h2⟩ := aLv_mem.mp hq
  obtain ⟨i, w⟩ := q
  dsimp only at h1 h2
  subst h2
  unfold aInit at h1
  by_cases hi : i < (aArgs vs).length
  · rw [List.getElem?_append_left hi] at h1
    have := aArgs_at ad vs 0 i v h1
    rw [Nat.zero_add] at this
    exact this
  · rw [List.getElem?_append_right (by omega), List.getElem?_replicate] at h1
    split at h1 <;> cases h1
theorem aInit_len {vs : List Value} {n : Nat} (h : (aArgs vs).length ≤ n) : (aInit vs n).length = n := by
  unfold aInit; rw [List.length_append, List.length_replicate]; omega
/-- the state of a walk at a method's entry -/
theorem aEntry {X : aX} {vs : List Value} {H : aH} {Hp : Heap} {lsA : Array Slot} (h : aWo (xC X) (xI X) (xB X) (xE X) H (xs X)) (hH : Hp = (xs X).heap) (hl : lv_has lsA (xN X) (lv_args 0 (vs.map (aVal (xd X))))) (hn : (aArgs vs).length ≤ xN X) (hz : xz X = aSz H) : aRel X H (aInit vs (xN X)) Hp [] 0 0 lsA := by
  subst hH
  exact ⟨h.2.1, h.2.2.1, va_S.rf, aLv_sub hl (aInit_lv _ vs _), aInit_len hn, h.1, hz, h.2.2.2⟩
set_option maxHeartbeats 4000000 in
theorem aMeets {d : Nat} {cl : Nat → List Value → aH → aRs} (ok : aOK cl d) {x : Nat} {q : aMeth} (hq : aMt[x]? = some q) {vs : List Value} {H H1 : aH} {r : Option Value} {n : Nat} (hv : vs.length = q.2.2.2.2.2.1) (ha : (aArgs vs).length ≤ q.2.2.1) (hr : aRun cl none q.2.2.2.2.2.2.2 (aRt q.2.2.2.1) n 0 (aInit vs q.2.2.1) [] H = some (r, H1))
    (l : Launch) (C : Nat → ClassId) (S : Nat → Nat → Nat) (base : Nat) (pre : Nat → Nat) (hlen : H1.1.length ≤ 1000) : H.1 <+: H1.1 ∧ Met l q.1 (aWords q) { frames := d + 1, cells := H1.1.length - H.1.length, slots := aSz H1 - aSz H, locals := 32 * (d + 1) } (aPc C S base pre vs H) (aQc C S base pre r H1) (H1.1.length - H.1.length) (aSz H1 - aSz H) (aA base) := by
  obtain ⟨⟨m1, m2, m3, m4⟩, m5, m6, m7, m8, m9⟩ := aMt_at hq
  obtain ⟨oc, hoc⟩ := aOc_of hq
  obtain ⟨i1, i2⟩ := aIniM hq hoc
  have hmem := List.mem_of_getElem? hq
  have hcd := aCd_ok (q, oc) (List.mem_of_getElem? (i := x) (by rw [List.getElem?_zip_eq_some]; exact ⟨hq, hoc⟩))
  dsimp only at hcd
  have key : ∀ (p : Program) (e : Env) (s : State) (m : MethodId) (args : Array Value) (below : List Frame) (meth : Method) (c : Code) (s₁ : State), BodyLoose p l q.1 (headSpec (aWords q) { frames := d + 1, cells := H1.1.length - H.1.length, slots := aSz H1 - aSz H, locals := 32 * (d + 1) }) q.2.1 q.2.2.1 q.2.2.2.1 e s m args below meth c s₁ → c.maxLocals = q.2.2.1 → aPc C S base pre vs H args s →
      aGd (p, l, e, { frames := d + 1, cells := H1.1.length - H.1.length, slots := aSz H1 - aSz H, locals := 32 * (d + 1) }, s, m, args, below, meth, c, MQ below (aQc C S base pre r H1) args s (H1.1.length - H.1.length) (aSz H1 - aSz H) (aA base), C, S, base, pre, none, q.2.2.1, aSz H) H1 0 (aInit vs q.2.2.1) [] H := by
    intro p e s m args below meth c s₁ B hml hv
    have hts := atoms_spec (ws := aWords q) B.pre
    have hC : aCx (p, l, e, { frames := d + 1, cells := H1.1.length - H.1.length, slots := aSz H1 - aSz H, locals := 32 * (d + 1) }, s, m, args, below, meth, c, MQ below (aQc C S base pre r H1) args s (H1.1.length - H.1.length) (aSz H1 - aSz H) (aA base), C, S, base, pre, none, q.2.2.1, aSz H) q.2.1 oc d (q.2.2.2.2.2.2.1 == 2) H1 := by
      refine ⟨B.exec, B.bytes, hml, ?_, fun w hw => hts w (List.mem_cons_of_mem _ hw), hv.2.2.1, hv.2.2.2, ?_, ?_, ?_, ?_, fun hi => ?_, hlen⟩
      · rw [← i1]; exact findClass_of_methodNamed B.named
      · show base ≤ s.heap.size
        rw [hv.2.1.1]; omega
      · show d + 1 ≤ d + 1 ∧ 32 * d + 32 ≤ 32 * (d + 1)
        omega
      · show base + H1.1.length ≤ s.heap.size + (H1.1.length - H.1.length) ∧ aSz H1 ≤ aSz H + (aSz H1 - aSz H)
        rw [hv.2.1.1]; omega
      · intro q hq; cases hq
      · rw [(name_of_methodNamed B.named B.method).1]
        exact (m6 (by simpa using hi)).1
    refine aSound (rt := aRt q.2.2.2.1) (r := r) hC ok hcd ?_ n 0 _ [] H hr
    intro Hp locs cells slots lsA pc ls Rl hfin
    refine aW.size fun hsz => ?_
    have hs := Rl.size hC.2.2.2.2.2.2.2.1 hlen hsz
    have c1 : s.heap.size + cells = base + H1.1.length := Rl.2.2.2.2.2.1
    have c2 : aSz H + slots = aSz H1 := Rl.2.2.2.2.2.2.1
    have hsz0 : s.heap.size = base + H.1.length := hv.2.1.1
    have e1 : cells = H1.1.length - H.1.length := by omega
    have e2 : slots = aSz H1 - aSz H := by omega
    subst e1; subst e2
    have hQ : ∀ t : State, t.heap = Hp → s.WarmedH t.vm → aQc C S base pre r H1 args s (.returned (r.map (aVal (aAd base pre)))) t := fun t ht hW => by
      have hA := hW.alike
      refine ⟨rfl, ⟨by rw [ht]; exact hs, ?_, fun i z hz => (Rl.2.1 i z hz).moved hA, Rl.2.2.2.2.2.2.2⟩, Rl.2.2.1.F ht⟩
      rw [aCA_moved hA, ht]; exact Rl.1
    have hlocks := B.notSynchronized
    rcases hfin with ⟨v, rfl, hd, hv2⟩ | ⟨v, rfl, hv2, hd, hrt⟩ | ⟨rfl, hd, hrt⟩
    · have hret : ∃ ty, meth.sig.returnType = some ty ∧ narrow ty (.int v) = .int v := by
        rw [B.returns]
        rcases hv2 with h0 | ⟨h1, hv2⟩
        · revert h0
          cases q.2.2.2.1 with
          | none => intro h0; cases h0
          | some t => cases t <;> intro h0 <;> first | exact ⟨_, rfl, rfl⟩ | cases h0
        · revert h1
          cases q.2.2.2.1 with
          | none => intro h0; cases h0
          | some t => cases t <;> intro h0 <;> first | (rcases hv2 with rfl | rfl <;> exact ⟨_, rfl, rfl⟩) | cases h0
      obtain ⟨ty, hty, hn⟩ := hret
      exact W.zret B.exec B.bytes hty hn hQ Rl.2.2.1.2.2 hd hlocks
    · have hret : ∃ ty, meth.sig.returnType = some ty ∧ ((∃ n, ty = .object n) ∨ ∃ t, ty = .array t) := by
        rw [B.returns]
        revert hrt
        cases q.2.2.2.1 with
        | none => intro h0; cases h0
        | some t => cases t <;> intro h0 <;> first | exact ⟨_, rfl, Or.inl ⟨_, rfl⟩⟩ | cases h0
      obtain ⟨ty, hty, hn⟩ := hret
      refine W.aret B.exec B.bytes hty hn ?_ hQ Rl.2.2.1.2.2 hd hlocks
      rcases hv2 with rfl | ⟨a, rfl⟩
      · exact Or.inl rfl
      · exact Or.inr ⟨_, rfl⟩
    · have hret : meth.sig.returnType = none := by
        rw [B.returns]
        revert hrt
        cases q.2.2.2.1 with
        | none => intro _; rfl
        | some t => cases t <;> intro h0 <;> cases h0
      exact W.vret B.exec B.bytes hret hQ Rl.2.2.1.2.2 hd hlocks
  refine ⟨aRun_p (fun x vs H r1 H1 h => (ok x vs H r1 H1 h).choose_spec.2.2.1) n hr, ?_⟩
  refine Met.ofW (cc := q.2.1) (maxL := q.2.2.1) (ret := q.2.2.2.1) m7 rfl ?_
  intro p e s m args below meth c s₁ B hml hv2
  have hG := key p e s m args below meth c s₁ B hml hv2
  have hv3 := hv2
  obtain ⟨rfl, hw⟩ := hv2
  have hle : (lg_sl (vs.map (aVal (aAd base pre)))).length ≤ q.2.2.1 := by rw [aArgs_len]; exact ha
  have hl := lv_entry (vs.map (aVal (aAd base pre))) hle
  rw [lg_entry_eq]
  exact hG.2 _ _ _ _ _ (aEntry hw.1 rfl hl ha rfl)
theorem aOK_all : ∀ d, aOK (aCall aMt d) d
  | 0 => fun x vs H r H1 h => by cases h
  | d + 1 => fun x vs H r H1 h => by
    rw [aCall] at h
    split at h
    · rename_i q hq
      by_cases hc : vs.length = q.2.2.2.2.2.1 ∧ (aArgs vs).length ≤ q.2.2.1 ∧ q.2.2.1 ≤ 13
      · rw [if_pos hc] at h
        obtain ⟨n, hn⟩ := aGo_run h
        have ok := aOK_all d
        exact ⟨q, hq, hc.1, aRun_p (fun x vs H r1 H1 h => (ok x vs H r1 H1 h).choose_spec.2.2.1) n hn, fun l C S base pre hlen => (aMeets ok hq hc.1 hc.2.1 hn l C S base pre hlen).2⟩
      · rw [if_neg hc] at h; cases h
    · cases h
