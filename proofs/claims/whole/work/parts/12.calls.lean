/-! calls -/
section RL4
variable {X : aX} {cc : ByteArray} {o d : Nat} {ini : Bool} {H' : aH} {pc : Nat} {ls : aLs} {st : List Value} {H : aH}
theorem aCat_map (ad : Nat → Nat) (l : List Value) : ((l.map (aVal ad)).map fun v => v.category).sum = aCat l := by
  unfold aCat; rw [List.map_map]; congr 1; exact List.map_congr_left fun v _ => aVal_cat ad v
theorem g_mm (C : aCx X cc o d ini H') {j b : Nat} {x y : Int32} (hd : decode cc pc = .ok (.invokestatic j, 3)) (hl : (o, j, b) ∈ aBl) (hc : aCat st ≤ 8) (hpre : H.1 <+: H'.1)
    (G : b = 900 ∧ aGd X H' (pc + 3) ls (.int (if x < y then y else x) :: st) H ∨ b = 901 ∧ aGd X H' (pc + 3) ls (.int (if y < x then y else x) :: st) H) : aGd X H' pc ls (.int y :: .int x :: st) H := by
  refine ⟨hpre, fun Hp locs cells slots lsA Rl => ?_⟩
  have hin := C.2.2.2.2.1
  have hb : ∀ w, w ∈ lw_tbl → goodWord w = true → w.before (xa X) (xs X) = true := fun w h g => hin _ (aTB_in h g)
  have hlink := hin _ (aTB_in (aBl_ok _ hl) rfl)
  have hml : (xc X).maxLocals = lsA.size := by rw [Rl.2.2.2.1.1]; exact C.2.2.1
  have h1 := Rl.2.2.2.2.2.1
  have h2 := Rl.2.2.2.2.2.2.1
  have h3 := C.2.2.2.2.2.2.2.2.2.1
  have h4 := hpre.length_le
  have h5 := aPre_sz hpre
  have h6 := C.2.2.2.2.2.2.2.2.1
  have h7 : ((st.map (aVal (xd X))).map fun v => v.category).sum + 13 ≤ (xR X).locals := by rw [aCat_map]; omega
  rcases G with ⟨rfl, G⟩ | ⟨rfl, G⟩
  · exact va_mmax C.1 C.2.1 hml C.2.2.2.1 hlink (hb _ (aBase_ok _ (List.mem_of_getElem? (i := 0) rfl)) rfl) (hb _ (aBase_ok _ (List.mem_of_getElem? (i := 2) rfl)) rfl) (hb _ (aBase_ok _ (List.mem_of_getElem? (i := 3) rfl)) rfl) (by omega) h7 (by omega) (by omega) hd (G.2 _ _ _ _ _ Rl)
  · exact va_mmin C.1 C.2.1 hml C.2.2.2.1 hlink (hb _ (aBase_ok _ (List.mem_of_getElem? (i := 1) rfl)) rfl) (hb _ (aBase_ok _ (List.mem_of_getElem? (i := 2) rfl)) rfl) (hb _ (aBase_ok _ (List.mem_of_getElem? (i := 4) rfl)) rfl) (by omega) h7 (by omega) (by omega) hd (G.2 _ _ _ _ _ Rl)
theorem g_objInit (C : aCx X cc o d ini H') {j a : Nat} (hd : decode cc pc = .ok (.invokespecial j, 3)) (hl : (o, j, 904) ∈ aBl) (hc : aCat st ≤ 8) (G : aGd X H' (pc + 3) ls st H) : aGd X H' pc ls (.ref a :: st) H := by
  refine ⟨G.1, fun Hp locs cells slots lsA Rl => ?_⟩
  have hin := C.2.2.2.2.1
  have hb : ∀ w, w ∈ lw_tbl → goodWord w = true → w.before (xa X) (xs X) = true := fun w h g => hin _ (aTB_in h g)
  have h6 := C.2.2.2.2.2.2.2.2.1
  refine W.objInit C.1 C.2.1 C.2.2.2.1 (hin _ (aTB_in (aBl_ok _ hl) rfl)) (hb _ (aBase_ok _ (List.mem_of_getElem? (i := 8) rfl)) rfl) (hb _ (aBase_ok _ (List.mem_of_getElem? (i := 9) rfl)) rfl) rfl (by rw [show (F0 (xm X) pc lsA ((Value.ref a :: st).map (aVal (xd X)))).locals = lsA from rfl, Rl.2.2.2.1.1]; exact C.2.2.1.symm) rfl hd (by omega) ?_ (G.2 _ _ _ _ _ Rl)
  show 2 * 0 + ((st.map (aVal (xd X))).map fun v => v.category).sum + 12 ≤ _
  rw [aCat_map]; omega
theorem aCpy_row {I : Nat → Nat → Int32} {a b sp dp n : Nat} : aCpy I a b sp dp n b = va_cpy (I a) (I b) sp dp n := by funext j; simp [aCpy]
theorem aEnc_cpy {ad : Nat → Nat} {cA : Nat → ClassId} {I : Nat → Nat → Int32} {P : List (List (Option Nat))} {a b sp dp n i : Nat} {q : Nat × Nat} (h : i ≠ b) : aEnc ad cA (aCpy I a b sp dp n) P i q = aEnc ad cA I P i q := by
  have : aCpy I a b sp dp n i = I i := by funext j; simp [aCpy, h]
  simp only [aEnc, this]
theorem g_copy (C : aCx X cc o d ini H') {j a b n0 n1 kd : Nat} {n dp sp : Int32} (hd : decode cc pc = .ok (.invokestatic j, 3)) (hl : (o, j, 902) ∈ aBl) (ha : H.1[a]? = some (kd, n0)) (hb : H.1[b]? = some (kd, n1)) (hk : kd = 20 ∨ kd = 21) (hcat : aCat st ≤ 8) (h1 : ¬ sp < 0) (h2 : ¬ dp < 0) (h3 : ¬ n < 0) (h4 : sp.toNatClampNeg + n.toNatClampNeg ≤ n0) (h5 : dp.toNatClampNeg + n.toNatClampNeg ≤ n1)
    (hf : kd = 21 → ∀ i, i < n.toNatClampNeg → fits .byte (.int (H.2.1 a (sp.toNatClampNeg + i))) = true)
    (G : aGd X H' (pc + 3) ls st (H.1, aCpy H.2.1 a b sp.toNatClampNeg dp.toNatClampNeg n.toNatClampNeg, H.2.2)) : aGd X H' pc ls (.int n :: .int dp :: .ref b :: .int sp :: .ref a :: st) H := by
  refine ⟨G.1, fun Hp locs cells slots lsA Rl => ?_⟩
  have hin := C.2.2.2.2.1
  have hw : ∀ w, w ∈ lw_tbl → goodWord w = true → w.before (xa X) (xs X) = true := fun w h g => hin _ (aTB_in h g)
  have h6 := C.2.2.2.2.2.2.2.2.1
  have hK := (Rl.2.1 _ _ ha).arr (show 20 ≤ kd by omega) C.2.2.2.2.2.1 rfl
  have hprim : refKind (aAT kd) = false := by rcases hk with rfl | rfl <;> rfl
  refine va_copyi C.1 C.2.1 (by rw [Rl.2.2.2.1.1]; exact C.2.2.1) C.2.2.2.1 (hin _ (aTB_in (aBl_ok _ hl) rfl)) (hw _ (aBase_ok _ (List.mem_of_getElem? (i := 5) rfl)) rfl) (hw _ (aBase_ok _ (List.mem_of_getElem? (i := 6) rfl)) rfl) (hw _ (aBase_ok _ (List.mem_of_getElem? (i := 7) rfl)) rfl) hK Rl.1 (aWs_D (Nat.le_trans G.1.length_le C.2.2.2.2.2.2.2.2.2.2.2.2)) Rl.2.2.1 a b 0 0 ((aWs_get ha).trans (by rw [aEnc_ints hk])) ((aWs_get hb).trans (by rw [aEnc_ints hk])) rfl rfl hprim h1 h2 h3 h4 h5 ?_ (by omega) ?_ hd
    fun Hp1 l1 e1 _ e2 => G.2 _ _ _ _ _ (Rl.set (I := aCpy H.2.1 a b sp.toNatClampNeg dp.toNatClampNeg n.toNatClampNeg) (P := H.2.2) hb (by rw [aEnc_ints hk, aCpy_row]) (fun i q hi => aEnc_cpy hi) rfl e1 e2)
  · intro i hi
    rcases hk with rfl | rfl
    · rfl
    · exact hf rfl i hi
  · rw [aCat_map]
    have : nativeFrameWords "java/lang/System" "arraycopy" 5 ≤ 10 := by decide +kernel
    omega
/-! methods -/
def aPc (C : Nat → ClassId) (S : Nat → Nat → Nat) (base : Nat) (pre : Nat → Nat) (vs : List Value) (H : aH) : Array Value → State → Prop := fun v U => v = (vs.map (aVal (aAd base pre))).toArray ∧ aWd C S base pre H U
def aQc (C : Nat → ClassId) (S : Nat → Nat → Nat) (base : Nat) (pre : Nat → Nat) (r : Option Value) (H1 : aH) : Array Value → State → Outcome → State → Prop := fun _ st oc t => oc = .returned (r.map (aVal (aAd base pre))) ∧ aWo C S base pre H1 t ∧ va_F (aA base) st t
def aWords (q : aMeth) : List Cond := .code q.1 q.2.1 q.2.2.1 q.2.2.2.1 :: aTB
def aOK (cl : Nat → List Value → aH → aRs) (d : Nat) : Prop := ∀ (x : Nat) (vs : List Value) (H : aH) (r : Option Value) (H1 : aH), cl x vs H = some (r, H1) → ∃ q, aMt[x]? = some q ∧ vs.length = q.2.2.2.2.2.1 ∧ H.1 <+: H1.1 ∧
  ∀ (l : Launch) (C : Nat → ClassId) (S : Nat → Nat → Nat) (base : Nat) (pre : Nat → Nat), H1.1.length ≤ 1000 → Met l q.1 (aWords q) { frames := d, cells := H1.1.length - H.1.length, slots := aSz H1 - aSz H, locals := 32 * d } (aPc C S base pre vs H) (aQc C S base pre r H1) (H1.1.length - H.1.length) (aSz H1 - aSz H) (aA base)
theorem aGl.same {base : Nat} {pre : Nat → Nat} {s U : State} (h : aGl base pre s) (hv : U.vm = s.vm) (hh : U.heap = s.heap) : aGl base pre U := by
  obtain ⟨h1, h2, h3, h5, h6, h7, h4⟩ := h
  have hA : s.vm.Alike U.vm := by rw [hv]; exact Vm.Alike.refl _
  have hk : ∀ a : Nat, a < s.heap.size → ¬ aA base a → U.heap[a]? = s.heap[a]? := fun a _ _ => by rw [hh]
  exact ⟨fun a ha hb => ⟨((h1 a ha hb).1.moved hA).kept hk, fun q hq => (((h1 a ha hb).2 q hq).moved hA).kept hk⟩, fun e he => (h2 e he).same hv, (h3.moved hA).kept hk, fun e he => (h5 e he).same rfl hv.symm, fun e he => (h6 e he).same rfl hv.symm, fun e he => (h7 e he).moved hA, (h4.moved hA).kept hk⟩
theorem aPc_blind {C : Nat → ClassId} {S : Nat → Nat → Nat} {base : Nat} {pre : Nat → Nat} {vs : List Value} {H : aH} : FrameBlind (aPc C S base pre vs H) := by
  intro a U g mk h
  obtain ⟨h1, ⟨h2, h3, h4, h5⟩, h6, h7⟩ := h
  have hv : (U.calling g mk a).vm = U.vm := rfl
  have hA : U.vm.Alike (U.calling g mk a).vm := by rw [hv]; exact Vm.Alike.refl _
  exact ⟨h1, ⟨h2, by rw [aCA_moved hA]; exact h3, fun i q hq => (h4 i q hq).moved hA, h5⟩, h6.moved hA, h7.same rfl rfl⟩
theorem aPc_at (C : aCx X cc o d ini H') {vs : List Value} {Hp : Heap} {locs : List Loc} {cells slots : Nat} {lsA : Array Slot} (Rl : aRel X H ls Hp locs cells slots lsA) (hl : H.1.length ≤ 1000) (hsz : Hp.size ≤ (xs X).heap.size + cells) {as : List Value} (has : as = vs.map (aVal (xd X))) : ∀ U : State, U.heap = Hp → (xs X).WarmedH U.vm → aPc (xC X) (xI X) (xB X) (xE X) vs H as.toArray U := by
  intro U hU hW
  have hA := hW.alike
  refine ⟨by rw [has], ⟨by rw [hU]; exact Rl.size C.2.2.2.2.2.2.2.1 hl hsz, ?_, fun i q hq => (Rl.2.1 i q hq).moved hA, Rl.2.2.2.2.2.2.2⟩, C.2.2.2.2.2.1.moved hA, C.2.2.2.2.2.2.1.to hW fun a h1 h2 => ?_⟩
  · rw [aCA_moved hA, hU]; exact Rl.1
  · rw [hU]; exact Rl.2.2.1.2.1 a h1 h2
theorem aMt_at {x : Nat} {q : aMeth} (h : aMt[x]? = some q) : (q.1.cls = q.2.2.2.2.1 ∧ q.1.cls ≠ "java/lang/invoke/MethodHandle" ∧ q.1.cls ≠ "java/lang/invoke/VarHandle" ∧ (parseMethodDescriptor q.1.desc).map (fun d => d.parameters.length) = some (if q.2.2.2.2.2.2.1 = 0 then q.2.2.2.2.2.1 else q.2.2.2.2.2.1 - 1)) ∧ (q.2.2.2.2.2.2.1 = 0 ∨ 1 ≤ q.2.2.2.2.2.1) ∧ (q.2.2.2.2.2.2.1 = 2 → q.1.name = "<init>" ∧ q.2.2.2.1 = none) ∧ plainName q.1.cls = true ∧ q.2.2.1 ≤ 13 ∧ aRt q.2.2.2.1 ≤ 3 := by
  have h1 := List.all_eq_true.mp aMt_s q (List.mem_of_getElem? h)
  simp only [Bool.and_eq_true, decide_eq_true_eq] at h1
  obtain ⟨⟨⟨⟨⟨⟨⟨⟨h1, h2⟩, h3⟩, h4⟩, h5⟩, h6⟩, h7⟩, h8⟩, h9⟩ := h1
  exact ⟨⟨h1, h2, h3, h4⟩, h5, h6, h7, h8, h9⟩
theorem aGoodIn (q : aMeth) (hq : q ∈ aMt) : GoodIn aTB (aWords q) := fun w hw => by
  rcases List.mem_cons.mp hw with rfl | hw
  · exact ⟨aTB_in (aCode_ok q hq) rfl, good_of_word rfl⟩
  · exact ⟨hw, good_of_word (List.all_eq_true.mp aTB_good w hw)⟩
/-- behind a call -/
theorem aBack (C : aCx X cc o d ini H') {r : Option Value} {H1 : aH} {Hp : Heap} {locs : List Loc} {cells slots : Nat} {lsA : Array Slot} {stk : List Value} {av : Array Value} (Rl : aRel X H ls Hp locs cells slots lsA) (hpre : H.1 <+: H1.1)
    (hr : va_Run (xp X) (xl X) (xe X) (xR X) (xs X) (xm X) (xa X) (xb X) (xM X) (xc X) Hp locs cells slots (H1.1.length - H.1.length) (aSz H1 - aSz H) (F0 (xm X) pc lsA stk) (st.map (aVal (xd X))) (aQc (xC X) (xI X) (xB X) (xE X) r H1 av) (aA (xB X)))
    (G : aGd X H' (pc + 3) ls (r.toList ++ st) H1) : aW X Hp locs cells slots (F0 (xm X) pc lsA stk) := by
  intro T hT St
  obtain ⟨v, st0, t, T', L, e0, St', hL, e1, e2, ⟨hv, ⟨w1, w2, w3, w4⟩, hF⟩, hgo⟩ := hr T hT St
  cases hv
  have hA : (xs X).vm.Alike t.vm := by rw [← e2]; exact St'.warmed.alike
  have hle := hpre.length_le
  have hls := aPre_sz hpre
  have c1 := Rl.2.2.2.2.2.1
  have c2 := Rl.2.2.2.2.2.2.1
  have Rl' : aRel X H1 ls T'.heap (locs ++ L) (cells + (H1.1.length - H.1.length)) (slots + (aSz H1 - aSz H)) lsA := by
    refine ⟨?_, fun i q hq => (w3 i q hq).moved hA.symm, ?_, Rl.2.2.2.1, Rl.2.2.2.2.1, by omega, by omega, w4⟩
    · rw [← aCA_moved hA, e1]; exact w2
    · unfold va_F at hF; rw [e0] at hF
      exact ⟨Nat.le_trans Rl.2.2.1.1 (by rw [e1]; exact hF.1), fun q h1 h2 => by rw [e1, hF.2 q (Nat.lt_of_lt_of_le h1 Rl.2.2.1.1) h2]; exact Rl.2.2.1.2.1 q h1 h2, fun q hq => by
        rcases List.mem_append.mp hq with h | h
        · exact Rl.2.2.1.2.2 q h
        · exact hL q h⟩
  obtain ⟨t2, a1, b1⟩ := G.2 _ _ _ _ _ Rl' T' rfl St'
  refine ⟨t2, hgo t2 ?_, b1⟩
  have : ((r.map (aVal (aAd (xB X) (xE X)))).toList ++ st.map (aVal (xd X))) = (r.toList ++ st).map (aVal (xd X)) := by cases r <;> rfl
  rw [this]
  exact a1
theorem aKn_at {x : Nat} {q : aMeth} (h : aMt[x]? = some q) : aKn x = q.2.2.2.2.2.2.1 ∧ aNa x = q.2.2.2.2.2.1 ∧ aY x = q.1 := by
  unfold aKn aNa aY; rw [h]; exact ⟨rfl, rfl, rfl⟩
theorem aRooms (C : aCx X cc o d ini H') {H1 : aH} {Hp : Heap} {locs : List Loc} {cells slots : Nat} {lsA : Array Slot} (Rl : aRel X H ls Hp locs cells slots lsA) (h1 : H.1 <+: H1.1) (h2 : H1.1 <+: H'.1) : cells + (H1.1.length - H.1.length) ≤ (xR X).cells ∧ slots + (aSz H1 - aSz H) ≤ (xR X).slots := by
  have a1 := h1.length_le; have a2 := h2.length_le; have a3 := aPre_sz h1; have a4 := aPre_sz h2
  have a5 := Rl.2.2.2.2.2.1; have a6 := Rl.2.2.2.2.2.2.1; have a7 := C.2.2.2.2.2.2.2.2.2.1
  omega
theorem aSel_at {q : aMeth} (hq : q ∈ aMt) (hk : q.2.2.2.2.2.2.1 = 1) : Cond.selects q.2.2.2.2.1 q.1 q.1 ∈ lw_tbl := aSel_ok q (List.mem_filter.mpr ⟨hq, by simp [hk]⟩)
theorem aIniM {q : aMeth} {x oc : Nat} (hq : aMt[x]? = some q) (ho : aOc[x]? = some oc) : q.1.cls = aO oc ∧ oc < 14 := by
  have : ∀ e ∈ aMt.zip aOc, e.1.1.cls = aO e.2 ∧ e.2 < 14 := by decide +kernel
  exact this (q, oc) (List.mem_of_getElem? (i := x) (by rw [List.getElem?_zip_eq_some]; exact ⟨hq, ho⟩))
theorem aIni_mem {oc : Nat} (h : oc < 14) : Cond.initialized (aO oc) ∈ lw_tbl := by
  refine aIni_ok oc ?_
  rcases (show oc = 0 ∨ oc = 1 ∨ oc = 2 ∨ oc = 3 ∨ oc = 4 ∨ oc = 5 ∨ oc = 6 ∨ oc = 7 ∨ oc = 8 ∨ oc = 9 ∨ oc = 10 ∨ oc = 11 ∨ oc = 12 ∨ oc = 13 by omega) with rfl | rfl | rfl | rfl | rfl | rfl | rfl | rfl | rfl | rfl | rfl | rfl | rfl | rfl <;> decide
theorem aOc_of {x : Nat} {q : aMeth} (hq : aMt[x]? = some q) : ∃ oc, aOc[x]? = some oc := by
  have h := (List.getElem?_eq_some_iff.mp hq).1
  have e : aMt.length = aOc.length := by decide +kernel
  exact ⟨_, List.getElem?_eq_getElem (by omega)⟩
theorem g_callS (C : aCx X cc o d ini H') {cl : Nat → List Value → aH → aRs} (ok : aOK cl d) {j x y : Nat} {r : Option Value} {H1 : aH} (hd : decode cc pc = .ok (.invokestatic j, 3)) (hl : (o, j, x) ∈ aIv ∨ (o, j, x) ∈ aIn) (hk : aKn x = 0 ∧ aNa x = y) (hy : y ≤ st.length ∧ aCat (st.drop y) ≤ 8) (hcl : cl x (st.take y).reverse H = some (r, H1))
    (G : aGd X H' (pc + 3) ls (r.toList ++ st.drop y) H1) : aGd X H' pc ls st H := by
  obtain ⟨q, hq, hn, hpre, hM⟩ := ok x _ H r H1 hcl
  refine ⟨hpre.trans G.1, fun Hp locs cells slots lsA Rl => aW.size fun hsz => ?_⟩
  have hM := hM (xl X) (xC X) (xI X) (xB X) (xE X) (Nat.le_trans G.1.length_le C.2.2.2.2.2.2.2.2.2.2.2.2)
  obtain ⟨⟨m1, m2, m3, m4⟩, m5, m6, m7, m8, m9⟩ := aMt_at hq
  obtain ⟨k1, k2, k3⟩ := aKn_at hq
  rw [← k1, hk.1] at m4
  rw [if_pos rfl, ← k2, hk.2] at m4
  obtain ⟨oc, hoc⟩ := aOc_of hq
  obtain ⟨i1, i2⟩ := aIniM hq hoc
  have hmem := List.mem_of_getElem? hq
  have hin := C.2.2.2.2.1
  have hini : (Cond.initialized q.1.cls).before (xa X) (xs X) = true := by rw [i1]; exact hin _ (aTB_in (aIni_mem i2) rfl)
  have hst : (Cond.static q.1).before (xa X) (xs X) = true := by
    have h := aKind_ok q hmem
    rw [← k1, hk.1] at h
    exact hin _ (aTB_in (by simpa using h) rfl)
  have hroom := C.2.2.2.2.2.2.2.2.1
  have hL := Nat.le_trans (hpre.trans G.1).length_le C.2.2.2.2.2.2.2.2.2.2.2.2
  have hP : PreS (xs X) Hp (aPc (xC X) (xI X) (xB X) (xE X) (st.take y).reverse H) ((st.take y).reverse.map (aVal (xd X))) := ⟨aPc_blind, aPc_at C Rl hL hsz rfl⟩
  have hnn : ((st.take y).reverse.map (aVal (xd X))).length = y := by rw [List.length_map, List.length_reverse, List.length_take]; omega
  have hstk : st.map (aVal (xd X)) = ((st.take y).reverse.map (aVal (xd X))).reverse ++ (st.drop y).map (aVal (xd X)) := by
    rw [List.map_reverse, List.reverse_reverse, ← List.map_append, List.take_append_drop]
  have hR : d + 1 ≤ (xR X).frames ∧ 8 + (q.2.2.1 + 11) + 32 * d ≤ (xR X).locals := by omega
  have hS : CallFix (xp X) (xm X) (xc X) cc (xN X) (xs X) (xa X) aTB (aO o) := ⟨C.1, C.2.1, C.2.2.1, C.2.2.2.1, hin⟩
  rcases hl with hl | hl
  · have hlk : (Cond.methodLink (aO o) j q.1).before (xa X) (xs X) = true := by rw [← k3]; exact hin _ (aTB_in (aIv_ok _ hl) rfl)
    exact aBack C Rl hpre (va_runS (n := y) hS hM ⟨callB_of y hin (aGoodIn q hmem) rfl rfl rfl hini hlk ⟨m2, m3, m4⟩ hR, hst⟩ hP rfl hnn (by exact Rl.2.2.2.1.1) hstk (by show 2 * 0 + _ ≤ 8; rw [aCat_map]; omega) hd (aRooms C Rl hpre G.1)) G
  · have hlk : va_Nw (.methodLinkNest (aO o) j q.1 RX7) (xs X) := by rw [← k3]; exact C.2.2.2.2.2.2.1.2.2.2.2.1 _ hl
    exact aBack C Rl hpre (va_runSN (n := y) hS hM ⟨va_cnB y hin (aGoodIn q hmem) rfl rfl rfl hlk hini ⟨m2, m3, m4⟩ hR, hst, trivial⟩ hP rfl hnn (by exact Rl.2.2.2.1.1) hstk (by show 2 * 0 + _ ≤ 8; rw [aCat_map]; omega) hd (aRooms C Rl hpre G.1)) G
theorem aTake {st : List Value} {m : Nat} {v : Value} (h : st[m]? = some v) : (st.take (m + 1)).reverse = v :: (st.take m).reverse ∧ st = st.take m ++ v :: st.drop (m + 1) := by
  have hm := (List.getElem?_eq_some_iff.mp h)
  have e : st.take (m + 1) = st.take m ++ [v] := by rw [List.take_add_one, h]; rfl
  refine ⟨by rw [e]; simp, ?_⟩
  conv => lhs; rw [← List.take_append_drop (m + 1) st, e]
  simp
theorem g_callV (C : aCx X cc o d ini H') {cl : Nat → List Value → aH → aRs} (ok : aOK cl d) {j x m ci b : Nat} {r : Option Value} {H1 : aH} (hd : decode cc pc = .ok (.invokevirtual j, 3)) (hl : (o, j, x) ∈ aIv) (hk : aKn x = 1 ∧ aNa x = m + 1 ∧ aOc[x]? = some ci) (hb : st[m]? = some (.ref b)) (hrec : H.1[b]? = some (ci, aLen ci) ∨ (ci = 12 ∧ 2000 ≤ b ∧ b < 2003)) (hy : m + 1 ≤ st.length ∧ aCat (st.drop (m + 1)) ≤ 8) (hcl : cl x (st.take (m + 1)).reverse H = some (r, H1))
    (G : aGd X H' (pc + 3) ls (r.toList ++ st.drop (m + 1)) H1) : aGd X H' pc ls st H := by
  obtain ⟨q, hq, hn, hpre, hM⟩ := ok x _ H r H1 hcl
  refine ⟨hpre.trans G.1, fun Hp locs cells slots lsA Rl => aW.size fun hsz => ?_⟩
  have hM := hM (xl X) (xC X) (xI X) (xB X) (xE X) (Nat.le_trans G.1.length_le C.2.2.2.2.2.2.2.2.2.2.2.2)
  obtain ⟨⟨m1, m2, m3, m4⟩, m5, m6, m7, m8, m9⟩ := aMt_at hq
  obtain ⟨k1, k2, k3⟩ := aKn_at hq
  rw [← k1, hk.1, ← k2, hk.2.1] at m4
  rw [if_neg (by omega), Nat.add_sub_cancel] at m4
  obtain ⟨i1, i2⟩ := aIniM hq hk.2.2
  have hmem := List.mem_of_getElem? hq
  have hin := C.2.2.2.2.1
  have hini : (Cond.initialized q.1.cls).before (xa X) (xs X) = true := by rw [i1]; exact hin _ (aTB_in (aIni_mem i2) rfl)
  have hst : (Cond.instanceMethod q.1).before (xa X) (xs X) = true := by
    have h := aKind_ok q hmem
    rw [← k1, hk.1] at h
    exact hin _ (aTB_in (by simpa using h) rfl)
  have hsel : (Cond.selects (aO ci) q.1 q.1).before (xa X) (xs X) = true := by
    have h := aSel_at hmem (by rw [← k1]; exact hk.1)
    rw [← m1, i1] at h
    exact hin _ (aTB_in h rfl)
  have hroom := C.2.2.2.2.2.2.2.2.1
  have hL := Nat.le_trans (hpre.trans G.1).length_le C.2.2.2.2.2.2.2.2.2.2.2.2
  obtain ⟨t1, t2⟩ := aTake hb
  have hcell : ∃ cellB : Cell, Hp[xd X b]? = some cellB ∧ cellB.vm.isStatics = false ∧ (xs X).vm.findClass (aO ci) = some cellB.cls := by
    rcases hrec with hrec | ⟨rfl, h1, h2⟩
    · have hci : ci < 9 := by
        rcases Rl.2.1 _ _ hrec with h | h
        · exact h.1
        · exfalso
          obtain ⟨g1, -⟩ := h
          dsimp only at g1
          omega
      have h := Rl.1 b _ ((aWs_get hrec).trans (by rw [aEnc_obj hci]))
      obtain ⟨r0, hr0, cell, g1, g2, g3, -⟩ := h
      rw [aCl_at hci] at hr0
      cases hr0
      have hKn := (C.2.2.2.2.2.1.1 ci _ (aCl_at hci)).2.1
      exact ⟨cell, g1, by rw [g3]; rfl, by rw [g2]; exact hKn⟩
    · have e1 : xd X b = xE X (2000 + (b - 2000)) := by rw [show 2000 + (b - 2000) = b by omega]; exact if_neg (by omega)
      have h := vk_recv (aStr C) (show b - 2000 < 3 by omega) Rl.2.2.1
      have e2 : aO 12 = "java/lang/String" := rfl
      rw [e1, e2]; exact h
  have hP : PreV (xs X) Hp (aO ci) (xd X b) (aPc (xC X) (xI X) (xB X) (xE X) (st.take (m + 1)).reverse H) ((st.take m).reverse.map (aVal (xd X))) := ⟨aPc_blind, hcell, aPc_at C Rl hL hsz (by rw [t1]; rfl)⟩
  have hnn : ((st.take m).reverse.map (aVal (xd X))).length = m := by rw [List.length_map, List.length_reverse, List.length_take]; omega
  have hstk : st.map (aVal (xd X)) = ((st.take m).reverse.map (aVal (xd X))).reverse ++ .ref (xd X b) :: (st.drop (m + 1)).map (aVal (xd X)) := by
    rw [List.map_reverse, List.reverse_reverse]
    conv => lhs; rw [t2]
    rw [List.map_append]; rfl
  have hR : d + 1 ≤ (xR X).frames ∧ 8 + (q.2.2.1 + 11) + 32 * d ≤ (xR X).locals := by omega
  have hS : CallFix (xp X) (xm X) (xc X) cc (xN X) (xs X) (xa X) aTB (aO o) := ⟨C.1, C.2.1, C.2.2.1, C.2.2.2.1, hin⟩
  have hlk : (Cond.methodLink (aO o) j q.1).before (xa X) (xs X) = true := by rw [← k3]; exact hin _ (aTB_in (aIv_ok _ hl) rfl)
  exact aBack C Rl hpre (va_runV (n := m) hS hM ⟨callB_of m hin (aGoodIn q hmem) rfl rfl rfl hini hlk ⟨m2, m3, m4⟩ hR, hst, hsel⟩ hP rfl hnn (by exact Rl.2.2.2.1.1) hstk (by show 2 * 0 + _ ≤ 8; rw [aCat_map]; omega) hd (aRooms C Rl hpre G.1)) G
theorem g_callC (C : aCx X cc o d ini H') {cl : Nat → List Value → aH → aRs} (ok : aOK cl d) {j x m b : Nat} {r : Option Value} {H1 : aH} (hd : decode cc pc = .ok (.invokespecial j, 3)) (hl : (o, j, x) ∈ aIv ∨ (o, j, x) ∈ aIn) (hk : aKn x = 2 ∧ aNa x = m + 1) (hb : st[m]? = some (.ref b)) (hy : m + 1 ≤ st.length ∧ aCat (st.drop (m + 1)) ≤ 8) (hcl : cl x (st.take (m + 1)).reverse H = some (r, H1))
    (G : aGd X H' (pc + 3) ls (r.toList ++ st.drop (m + 1)) H1) : aGd X H' pc ls st H := by
  obtain ⟨q, hq, hn, hpre, hM⟩ := ok x _ H r H1 hcl
  refine ⟨hpre.trans G.1, fun Hp locs cells slots lsA Rl => aW.size fun hsz => ?_⟩
  have hM := hM (xl X) (xC X) (xI X) (xB X) (xE X) (Nat.le_trans G.1.length_le C.2.2.2.2.2.2.2.2.2.2.2.2)
  obtain ⟨⟨m1, m2, m3, m4⟩, m5, m6, m7, m8, m9⟩ := aMt_at hq
  obtain ⟨k1, k2, k3⟩ := aKn_at hq
  rw [← k1, hk.1, ← k2, hk.2] at m4
  rw [if_neg (by omega), Nat.add_sub_cancel] at m4
  obtain ⟨n1, n2⟩ := m6 (by rw [← k1]; exact hk.1)
  obtain ⟨oc, hoc⟩ := aOc_of hq
  obtain ⟨i1, i2⟩ := aIniM hq hoc
  have hmem := List.mem_of_getElem? hq
  have hin := C.2.2.2.2.1
  have hini : (Cond.initialized q.1.cls).before (xa X) (xs X) = true := by rw [i1]; exact hin _ (aTB_in (aIni_mem i2) rfl)
  have hst : (Cond.instanceMethod q.1).before (xa X) (xs X) = true := by
    have h := aKind_ok q hmem
    rw [← k1, hk.1] at h
    exact hin _ (aTB_in (by simpa using h) rfl)
  have hroom := C.2.2.2.2.2.2.2.2.1
  have hL := Nat.le_trans (hpre.trans G.1).length_le C.2.2.2.2.2.2.2.2.2.2.2.2
  obtain ⟨t1, t2⟩ := aTake hb
  have hP : PreS (xs X) Hp (aPc (xC X) (xI X) (xB X) (xE X) (st.take (m + 1)).reverse H) (.ref (xd X b) :: (st.take m).reverse.map (aVal (xd X))) := ⟨aPc_blind, aPc_at C Rl hL hsz (by rw [t1]; rfl)⟩
  have hnn : ((st.take m).reverse.map (aVal (xd X))).length = m := by rw [List.length_map, List.length_reverse, List.length_take]; omega
  have hstk : st.map (aVal (xd X)) = ((st.take m).reverse.map (aVal (xd X))).reverse ++ .ref (xd X b) :: (st.drop (m + 1)).map (aVal (xd X)) := by
    rw [List.map_reverse, List.reverse_reverse]
    conv => lhs; rw [t2]
    rw [List.map_append]; rfl
  have hR : d + 1 ≤ (xR X).frames ∧ 8 + (q.2.2.1 + 11) + 32 * d ≤ (xR X).locals := by omega
  have hS : CallFix (xp X) (xm X) (xc X) cc (xN X) (xs X) (xa X) aTB (aO o) := ⟨C.1, C.2.1, C.2.2.1, C.2.2.2.1, hin⟩
  have hw : aWords q = Cond.code q.1 q.2.1 q.2.2.1 none :: aTB := by unfold aWords; rw [n2]
  rcases hl with hl | hl
  · have hlk : (Cond.methodLink (aO o) j q.1).before (xa X) (xs X) = true := by rw [← k3]; exact hin _ (aTB_in (aIv_ok _ hl) rfl)
    exact aBack C Rl hpre (va_runI (n := m) hS hM ⟨callB_of m hin (aGoodIn q hmem) hw rfl rfl hini hlk ⟨m2, m3, m4⟩ hR, n1, hst⟩ hP rfl hnn (by exact Rl.2.2.2.1.1) hstk (by show 2 * 0 + _ ≤ 8; rw [aCat_map]; omega) hd (aRooms C Rl hpre G.1)) G
  · have hlk : va_Nw (.methodLinkNest (aO o) j q.1 RX7) (xs X) := by rw [← k3]; exact C.2.2.2.2.2.2.1.2.2.2.2.1 _ hl
    exact aBack C Rl hpre (va_runIN (n := m) hS hM ⟨va_cnB m hin (aGoodIn q hmem) hw rfl rfl hlk hini ⟨m2, m3, m4⟩ hR, n1, hst⟩ hP rfl hnn (by exact Rl.2.2.2.1.1) hstk (by show 2 * 0 + _ ≤ 8; rw [aCat_map]; omega) hd (aRooms C Rl hpre G.1)) G
end RL4
