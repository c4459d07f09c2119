/-! THE CLAIM OUT OF ONE WALK OF THE LAW'S BODY. Your part is whole_start (and what it stands on); all else here is the same for every law, but numbers. -/
def R_law : String := "ElevenYoghurtsLaw"
def lw_P (b : Addr) (xs : List Int32) (args : Array Value) (s : State) : Prop := args = #[.ref b] ∧ s.IntsAt b xs ∧ xs.length ≤ 3072 ∧ (Jvm.Cond.and given_1 narrow_1).before args s = true
def lw_Q (_ : Array Value) (s : State) (o : Outcome) (t : State) : Prop := o = .returned (some (.int 1)) ∧ Framed s o t [] 600000 7302250
def lw_Z (below : List Frame) (a : Array Value) (s : State) : State → Prop := fun t => ∃ o, t.status = .running ∧ Ended t below o ∧ lw_Q a s o t
/-- the law's own end, with 1 on the stack, nothing written that was there before, its room as the claim has it -/
theorem lw_ret {p : Program} {l : Launch} {e : Env} {s : State} {m : MethodId} {below : List Frame} {meth : Method} {c : Code} {b : Nat} (hx : p.tables.exec = Jvm.exec) (hb : c.code = code) (hr : meth.sig.returnType = ret) (hlocks : meth.locks = false) {pc : Nat} {H : Heap} {ls : Array Slot} (hdg : decode code pc = .ok (.ireturn, 1)) : W p l e room_1 s m #[Value.ref b] below meth c H [] 600000 7302250 (lw_Z below #[Value.ref b] s) (F0 m pc ls [.int 1]) := by
  intro T hT X
  obtain ⟨fs, hret, hrun, hended, hW, hframe⟩ := X.leave (v := some (.int 1)) (hlocks := hlocks) (fun h => by rw [hr] at h; cases h)
  have hmeth' : T.vm.method? m = some meth := X.method'
  refine ⟨T.setFrames fs, ?_, .returned (some (.int 1)), hrun, hended, rfl, ⟨_, rfl⟩, hW, hframe⟩
  jvm_step X.here [X.here.top, hx, hb, hdg, hmeth', hr, ret, narrow_b1]
  (try refine ⟨rfl, ?_⟩); (try refine ⟨rfl, ?_⟩)
  first | (intro acts; rw [hret _ acts rfl rfl rfl]) | rw [hret _ _ rfl rfl rfl]
  exact Steps.refl _
/-- what holds at the law's entry: the machine, the code, the tables' words (any of lw_tbl by 'hts w (by decide +kernel)'), the script of L ints xs at the cell b, what the Statement gives of the start (any of its parts by flat_of_before) -/
def lw_At (p : Program) (s : State) (m : MethodId) (meth : Method) (c : Code) (b L : Nat) (xs : Nat → Int32) : Prop :=
  p.tables.exec = Jvm.exec ∧ c.code = code ∧ meth.sig.returnType = ret ∧ c.maxLocals = 4 ∧ s.vm.findClass R_law = some m.cls ∧ (∀ w ∈ lw_tbl, w.before #[Value.ref b] s = true) ∧ va_X b L xs s s.heap ∧ b < s.heap.size ∧ meth.locks = false ∧ (Jvm.Cond.and given_1 narrow_1).before #[Value.ref b] s = true

/-! the law's own walk, by the interpreter -/
theorem aLawCd : cd_law.all (fun l => l.all (aChk 9 code false)) = true := by
  have e : cd_law = ((cd_law.drop 0).take 6) ++ (((cd_law.drop 6).take 6) ++ (((cd_law.drop 12).take 6) ++ (((cd_law.drop 18).take 6) ++ (((cd_law.drop 24).take 6) ++ (((cd_law.drop 30).take 6) ++ (((cd_law.drop 36).take 6) ++ (((cd_law.drop 42).take 6) ++ (((cd_law.drop 48).take 6) ++ (((cd_law.drop 54).take 6) ++ (((cd_law.drop 60).take 6) ++ (((cd_law.drop 66).take 6) ++ (((cd_law.drop 72).take 6) ++ (((cd_law.drop 78).take 6) ++ (((cd_law.drop 84).take 6) ++ (((cd_law.drop 90).take 6)))))))))))))))) := rfl
  rw [e]
  simp only [List.all_append, Bool.and_eq_true]
  exact ⟨kl_0, ⟨kl_6, ⟨kl_12, ⟨kl_18, ⟨kl_24, ⟨kl_30, ⟨kl_36, ⟨kl_42, ⟨kl_48, ⟨kl_54, ⟨kl_60, ⟨kl_66, ⟨kl_72, ⟨kl_78, ⟨kl_84, kl_90⟩⟩⟩⟩⟩⟩⟩⟩⟩⟩⟩⟩⟩⟩⟩
def aStS (i : Nat) : Term := .string "ElevenYoghurts$Reader" (if i = 0 then 24 else if i = 1 then 40 else 42)
theorem aStart {args : Array Value} {s : State} (hts : ∀ w ∈ lw_tbl, w.before args s = true) (hgv : (Jvm.Cond.and given_1 narrow_1).before args s = true) (b : Nat) : ∃ pre : Nat → Nat, pre 2999 = b ∧ aGl s.heap.size pre s := by
  have hs := flat_of_before _ hgv
  have hA : ∀ a : Nat, a < s.heap.size → ¬ aA s.heap.size a := fun a h => Nat.not_le.mpr h
  obtain ⟨t0, e0, h0⟩ := va_Tof (tm := .static "ElevenYoghurts" "KIND_ABOVE" "[I") (ty := .int) (N := 7) (f := fun j => .int (aKA.getD j 0)) (by decide) (hs _ (by decide +kernel)) (va_eqt (hs _ (by decide +kernel))) (fun j hj => va_eqt (hs _ ((by decide +kernel : ∀ j, j < 7 → Cond.eq (.elem (.static "ElevenYoghurts" "KIND_ABOVE" "[I") (.int (Int32.ofNat j))) (.int (aKA.getD j 0)) ∈ flatC (Jvm.Cond.and given_1 narrow_1)) j hj))) hA
  obtain ⟨t1, e1, h1⟩ := va_Tof (tm := .static "ElevenYoghurts" "MOST_MARK" "[I") (ty := .int) (N := 4) (f := fun j => .int (aMM.getD j 0)) (by decide) (hs _ (by decide +kernel)) (va_eqt (hs _ (by decide +kernel))) (fun j hj => va_eqt (hs _ ((by decide +kernel : ∀ j, j < 4 → Cond.eq (.elem (.static "ElevenYoghurts" "MOST_MARK" "[I") (.int (Int32.ofNat j))) (.int (aMM.getD j 0)) ∈ flatC (Jvm.Cond.and given_1 narrow_1)) j hj))) hA
  obtain ⟨t2, e2, h2⟩ := va_Tof (tm := .static "ElevenYoghurts$Voices" "BODIES" "[I") (ty := .int) (N := 28) (f := fun j => .int (aBO.getD j 0)) (by decide) (hs _ (by decide +kernel)) (va_eqt (hs _ (by decide +kernel))) (fun j hj => va_eqt (hs _ ((by decide +kernel : ∀ j, j < 28 → Cond.eq (.elem (.static "ElevenYoghurts$Voices" "BODIES" "[I") (.int (Int32.ofNat j))) (.int (aBO.getD j 0)) ∈ flatC (Jvm.Cond.and given_1 narrow_1)) j hj))) hA
  obtain ⟨adK, adV, hS, hK⟩ := vk_Sof (N := 3) (tm := aStS) (len := [0, 3, 3]) (byt := aTx) (A := aA s.heap.size) (by decide) (fun i hi => hs _ ((by decide +kernel : ∀ i, i < 3 → Cond.exactly (aStS i) "java/lang/String" ∈ flatC (Jvm.Cond.and given_1 narrow_1)) i hi)) (fun i hi => hs _ ((by decide +kernel : ∀ i, i < 3 → Cond.eq (.field (aStS i) "java/lang/String" "coder" "B") (.int 0) ∈ flatC (Jvm.Cond.and given_1 narrow_1)) i hi))
    (fun i hi => hs _ ((by decide +kernel : ∀ i, i < 3 → Cond.arrayOf (.field (aStS i) "java/lang/String" "value" "[B") .byte ∈ flatC (Jvm.Cond.and given_1 narrow_1)) i hi)) (fun i hi => hs _ ((by decide +kernel : ∀ i, i < 3 → Cond.eq (.length (.field (aStS i) "java/lang/String" "value" "[B")) (.int (Int32.ofNat (([0, 3, 3] : List Nat).getD i 0))) ∈ flatC (Jvm.Cond.and given_1 narrow_1)) i hi))
    (fun i hi j hj => hs _ ((by decide +kernel : ∀ i, i < 3 → ∀ j, j < ([0, 3, 3] : List Nat).getD i 0 → Cond.eq (.elem (.field (aStS i) "java/lang/String" "value" "[B") (.int (Int32.ofNat j))) (.int ((aTx.getD i []).getD j 0)) ∈ flatC (Jvm.Cond.and given_1 narrow_1)) i hi j hj))
    (fun i j hi hj hij => by
      have key : ∀ i, i < 3 → ∀ j, j < 3 → i ≠ j → Cond.not (Cond.eq (aStS i) (aStS j)) ∈ flatC (Jvm.Cond.and given_1 narrow_1) ∨ Cond.not (Cond.eq (aStS j) (aStS i)) ∈ flatC (Jvm.Cond.and given_1 narrow_1) := by decide +kernel
      exact (key i hi j hj hij).imp (hs _) (hs _)) hA
  refine ⟨fun i => if i = 2999 then b else if 2500 ≤ i then adV (i - 2500) else if 2000 ≤ i then adK (i - 2000) else if i = 1000 then t0 else if i = 1001 then t1 else t2, rfl, ?_, ?_, ?_, ?_, ?_, ?_, ?_⟩
  · intro a ha hb
    rcases (show a = 1000 ∨ a = 1001 ∨ a = 1002 by omega) with rfl | rfl | rfl
    · exact ⟨va_Zref (hts _ (by decide +kernel)) (hts _ (by decide +kernel)) e0 hA, fun q hq => by cases hq; exact h0⟩
    · exact ⟨va_Zref (hts _ (by decide +kernel)) (hts _ (by decide +kernel)) e1 hA, fun q hq => by cases hq; exact h1⟩
    · exact ⟨va_Zref (hts _ (by decide +kernel)) (hts _ (by decide +kernel)) e2 hA, fun q hq => by cases hq; exact h2⟩
  · intro e he
    have hh : ∀ e ∈ aSr, aO e.1 = "ElevenYoghurts$Reader" ∧ (e.2.2 = 2000 ∧ e.2.1 = 24 ∨ e.2.2 = 2001 ∧ e.2.1 = 40 ∨ e.2.2 = 2002 ∧ e.2.1 = 42) := by decide +kernel
    have h1 := hts _ (aSr_ok e he)
    obtain ⟨g1, g2⟩ := hh e he
    obtain ⟨o1, j1, x1⟩ := e
    dsimp only at g1 g2 h1 ⊢
    rw [g1] at h1 ⊢
    rcases g2 with ⟨rfl, rfl⟩ | ⟨rfl, rfl⟩ | ⟨rfl, rfl⟩
    · exact vk_R.of h1 (hK 0 (by omega))
    · exact vk_R.of h1 (hK 1 (by omega))
    · exact vk_R.of h1 (hK 2 (by omega))
  · exact va_Zof (hts _ (by decide +kernel)) (hts _ (by decide +kernel)) (va_eqi (hs _ (by decide +kernel))) hA
  · exact fun e he => va_Nw.of rfl (hts _ (aGn_ok e he))
  · exact fun e he => va_Nw.of rfl (hts _ (aIn_ok e he))
  · exact fun e he => va_AO.of (hts _ (aOver_ok e he))
  · dsimp only
    refine ⟨fun i hi => ?_, fun i j hi hj e => hS.2 i j hi hj ?_⟩
    · have h := hS.1 i hi
      have a1 : (if 2000 + i = 2999 then b else if 2500 ≤ 2000 + i then adV (2000 + i - 2500) else if 2000 ≤ 2000 + i then adK (2000 + i - 2000) else if 2000 + i = 1000 then t0 else if 2000 + i = 1001 then t1 else t2) = adK i := by
        rw [if_neg (by omega), if_neg (by omega), if_pos (by omega), Nat.add_sub_cancel_left]
      have a2 : (if 2500 + i = 2999 then b else if 2500 ≤ 2500 + i then adV (2500 + i - 2500) else if 2000 ≤ 2500 + i then adK (2500 + i - 2000) else if 2500 + i = 1000 then t0 else if 2500 + i = 1001 then t1 else t2) = adV i := by
        rw [if_neg (by omega), if_pos (by omega), Nat.add_sub_cancel_left]
      dsimp only; rw [a1, a2]; exact h
    · have a1 : ∀ i, i < 3 → (if 2000 + i = 2999 then b else if 2500 ≤ 2000 + i then adV (2000 + i - 2500) else if 2000 ≤ 2000 + i then adK (2000 + i - 2000) else if 2000 + i = 1000 then t0 else if 2000 + i = 1001 then t1 else t2) = adK i := fun i h => by
        rw [if_neg (by omega), if_neg (by omega), if_pos (by omega), Nat.add_sub_cancel_left]
      rw [← a1 i hi, ← a1 j hj]; exact e
/-- what is left: the interpreter's own run of the law -/
def aH0 : aH := ([], fun _ _ => 0, [])
def aGoal : Prop := ∀ (L : Nat) (xs : Nat → Int32), L ≤ 3072 → ∃ (n : Nat) (H' : aH), aRun (aCall aMt 400) (some (L, xs)) cd_law 1 n 0 (aInit [.ref 2999] 4) [] aH0 = some (some (.int 1), H') ∧ H'.1.length ≤ 1000 ∧ aSz H' ≤ 100000
set_option maxHeartbeats 4000000 in
theorem whole_of (hg : aGoal) {p : Program} {e : Env} {s : State} {m : MethodId} {below : List Frame} {meth : Method} {c : Code} (l : Launch) {b L : Nat} {xs : Nat → Int32} (hL : L ≤ 3072) (C0 : lw_At p s m meth c b L xs) : W p l e room_1 s m #[Value.ref b] below meth c s.heap [] 0 0 (lw_Z below #[Value.ref b] s) (entryFrame m ([Value.ref b] : List Value).toArray 4) := by
  obtain ⟨hx, hb, hr, hml, hown, hts, hX, hbl, hlocks, hgv⟩ := C0
  obtain ⟨pre, hpb, hG⟩ := aStart hts hgv b
  obtain ⟨n, H', hrun, hlen, hsz⟩ := hg L xs hL
  have hin : ∀ w ∈ aTB, w.before #[Value.ref b] s = true := fun w hw => hts w (aTB_tbl hw)
  obtain ⟨dC, dI, hK⟩ : ∃ (dC : Nat → ClassId) (dI : Nat → Nat → Nat), va_K (dC, dI) vwCl [] s := by
    have hm : ∀ ci, ci < 9 → ci ∈ [0, 1, 2, 3, 4, 5, 6, 7, 8] := by decide
    have h1 : ∀ ci, ∃ q : ClassId × (Nat → Nat), ci < 9 → u_Kn s (aO ci) (aT ci) (aLen ci) q.1 q.2 := fun ci => by
      by_cases hci : ci < 9
      · obtain ⟨cC, iS, h⟩ := u_known (C := aO ci) (T := aT ci) (N := aLen ci) (n := aLen ci) hin (aLay_in hci) (hin _ (aTB_in (aInst_ok ci (hm ci hci)) rfl))
        exact ⟨(cC, iS), fun _ => h⟩
      · exact ⟨(0, fun _ => 0), fun z => absurd z hci⟩
    refine ⟨fun ci => (h1 ci).choose.1, fun ci => (h1 ci).choose.2, fun ci q hq => ?_, fun k q h => by simp at h⟩
    have hci : ci < 9 := (List.getElem?_eq_some_iff.mp hq).1
    rw [aCl_at hci] at hq
    cases hq
    exact (h1 ci).choose_spec hci
  have hC : aCx (p, l, e, room_1, s, m, #[Value.ref b], below, meth, c, lw_Z below #[Value.ref b] s, dC, dI, s.heap.size, pre, some (L, xs), 4, 0) code 9 400 false H' := by
    refine ⟨hx, hb, hml, hown, hin, hK, hG, Nat.le_refl _, ?_, ?_, ?_, (fun h => by cases h), hlen⟩
    · show 400 + 1 ≤ 2048 ∧ 32 * 400 + 32 ≤ 84000
      omega
    · show s.heap.size + H'.1.length ≤ s.heap.size + 600000 ∧ aSz H' ≤ 0 + 7302250
      omega
    · intro q hq
      cases hq
      show va_X (pre 2999) L xs s s.heap ∧ pre 2999 < s.heap.size ∧ ¬ s.heap.size ≤ pre 2999
      rw [hpb]
      exact ⟨hX, hbl, Nat.not_le.mpr hbl⟩
  have hGd := aSound (rt := 1) (r := some (.int 1)) hC (aOK_all 400) aLawCd (fun Hp locs cells slots lsA pc ls Rl hfin => ?_) n 0 _ [] aH0 hrun
  · have hl := lv_entry ([.ref b]) (n := 4) (Nat.le_of_ble_eq_true rfl)
    rw [lg_entry_eq]
    refine hGd.2 _ _ _ _ _ (aEntry (vs := [.ref 2999]) ⟨rfl, fun k q h => ?_, fun i q h => ?_, rfl⟩ rfl ?_ (Nat.le_of_ble_eq_true rfl) rfl)
    · simp [aWs, aH0] at h
    · simp [aH0] at h
    · have e2 : ([Value.ref 2999].map (aVal (xd (p, l, e, room_1, s, m, #[Value.ref b], below, meth, c, lw_Z below #[Value.ref b] s, dC, dI, s.heap.size, pre, some (L, xs), 4, 0)))) = [Value.ref b] := by
        show [Value.ref (aAd s.heap.size pre 2999)] = _
        rw [aAd, if_neg (by omega), hpb]
      rw [e2]; exact hl
  · have c1 : s.heap.size + cells = s.heap.size + H'.1.length := Rl.2.2.2.2.2.1
    have c2 : 0 + slots = aSz H' := Rl.2.2.2.2.2.2.1
    rcases hfin with ⟨v, hv, hd, -⟩ | ⟨v, -, -, -, h2⟩ | ⟨h2, -⟩
    · refine va_forget (fun q hq => Rl.2.2.1.2.2 q hq) ?_
      refine W.widen (k := 600000) (n := 7302250) (by omega) (by omega) ?_
      exact lw_ret hx hb hr hlocks hd
    · cases h2
    · cases h2
