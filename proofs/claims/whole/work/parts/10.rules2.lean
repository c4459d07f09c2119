/-! the rules that read and write the heap -/
section RL2
variable {X : aX} {cc : ByteArray} {o d : Nat} {ini : Bool} {H' : aH} {pc : Nat} {ls : aLs} {st : List Value} {H : aH}
theorem g_if (C : aCx X cc o d ini H') {cd : Jvm.ClassFile.Cond} {f : Int} {t : Nat} {x : Int32} (hd : decode cc pc = .ok (.ifCond cd f, 3)) (ht : (pc : Int) + f = (t : Int))
    (G : (match cd with | .eq => x = 0 | .ne => ¬ x = 0 | .lt => x < 0 | .ge => 0 ≤ x | .gt => 0 < x | .le => x ≤ 0) ∧ aGd X H' t ls st H ∨ ¬ (match cd with | .eq => x = 0 | .ne => ¬ x = 0 | .lt => x < 0 | .ge => 0 ≤ x | .gt => 0 < x | .le => x ≤ 0) ∧ aGd X H' (pc + 3) ls st H) : aGd X H' pc ls (.int x :: st) H := by
  refine ⟨G.elim (fun g => g.2.1) (fun g => g.2.1), fun Hp locs cells slots lsA Rl => ?_⟩
  rcases G with ⟨hc, G⟩ | ⟨hc, G⟩ <;> have K := G.2 _ _ _ _ _ Rl <;> cases cd <;> dsimp only at hc
  · exact lv_if_eq C.1 C.2.1 hd ht (fun _ => K) (fun z => absurd hc z)
  · exact lv_if_ne C.1 C.2.1 hd ht (fun _ => K) (fun z => absurd z hc)
  · exact lv_if_lt C.1 C.2.1 hd ht (fun _ => K) (fun z => absurd hc z)
  · exact lv_if_ge C.1 C.2.1 hd ht (fun _ => K) (fun z => absurd hc z)
  · exact lv_if_gt C.1 C.2.1 hd ht (fun _ => K) (fun z => absurd hc z)
  · exact lv_if_le C.1 C.2.1 hd ht (fun _ => K) (fun z => absurd hc z)
  · exact lv_if_eq C.1 C.2.1 hd ht (fun z => absurd z hc) (fun _ => K)
  · exact lv_if_ne C.1 C.2.1 hd ht (fun z => absurd z hc) (fun _ => K)
  · exact lv_if_lt C.1 C.2.1 hd ht (fun z => absurd z hc) (fun _ => K)
  · exact lv_if_ge C.1 C.2.1 hd ht (fun z => absurd z hc) (fun _ => K)
  · exact lv_if_gt C.1 C.2.1 hd ht (fun z => absurd z hc) (fun _ => K)
  · exact lv_if_le C.1 C.2.1 hd ht (fun z => absurd z hc) (fun _ => K)
theorem g_ic (C : aCx X cc o d ini H') {cd : Jvm.ClassFile.Cond} {f : Int} {t : Nat} {x y : Int32} (hd : decode cc pc = .ok (.if_icmp cd f, 3)) (ht : (pc : Int) + f = (t : Int))
    (G : (match cd with | .eq => x = y | .ne => ¬ x = y | .lt => x < y | .ge => y ≤ x | .gt => y < x | .le => x ≤ y) ∧ aGd X H' t ls st H ∨ ¬ (match cd with | .eq => x = y | .ne => ¬ x = y | .lt => x < y | .ge => y ≤ x | .gt => y < x | .le => x ≤ y) ∧ aGd X H' (pc + 3) ls st H) : aGd X H' pc ls (.int y :: .int x :: st) H := by
  refine ⟨G.elim (fun g => g.2.1) (fun g => g.2.1), fun Hp locs cells slots lsA Rl => ?_⟩
  rcases G with ⟨hc, G⟩ | ⟨hc, G⟩ <;> have K := G.2 _ _ _ _ _ Rl <;> cases cd <;> dsimp only at hc
  · exact lv_icmp_eq C.1 C.2.1 hd ht (fun _ => K) (fun z => absurd hc z)
  · exact lv_icmp_ne C.1 C.2.1 hd ht (fun _ => K) (fun z => absurd z hc)
  · exact lv_icmp_lt C.1 C.2.1 hd ht (fun _ => K) (fun z => absurd hc z)
  · exact lv_icmp_ge C.1 C.2.1 hd ht (fun _ => K) (fun z => absurd hc z)
  · exact lv_icmp_gt C.1 C.2.1 hd ht (fun _ => K) (fun z => absurd hc z)
  · exact lv_icmp_le C.1 C.2.1 hd ht (fun _ => K) (fun z => absurd hc z)
  · exact lv_icmp_eq C.1 C.2.1 hd ht (fun z => absurd z hc) (fun _ => K)
  · exact lv_icmp_ne C.1 C.2.1 hd ht (fun z => absurd z hc) (fun _ => K)
  · exact lv_icmp_lt C.1 C.2.1 hd ht (fun z => absurd z hc) (fun _ => K)
  · exact lv_icmp_ge C.1 C.2.1 hd ht (fun z => absurd z hc) (fun _ => K)
  · exact lv_icmp_gt C.1 C.2.1 hd ht (fun z => absurd z hc) (fun _ => K)
  · exact lv_icmp_le C.1 C.2.1 hd ht (fun z => absurd z hc) (fun _ => K)
theorem aSw_inv {r : Option Value × aH} {dd : Nat} {x : Int32} {k : Nat → aRs} : ∀ (sw : List (Int32 × Nat)), aSw sw dd x k = some r → (∃ (j t : Nat), sw[j]? = some (x, t) ∧ (∀ (i : Nat), i < j → ∀ e : Int32 × Nat, sw[i]? = some e → e.1 ≠ x) ∧ k t = some r) ∨ ((∀ e ∈ sw, e.1 ≠ x) ∧ k dd = some r)
  | [], h => Or.inr ⟨fun _ h => absurd h List.not_mem_nil, h⟩
  | (c, t) :: l, h => by
    rw [aSw] at h
    by_cases hc : x = c
    · rw [if_pos hc] at h
      subst hc
      exact Or.inl ⟨0, t, rfl, fun i hi => absurd hi (Nat.not_lt_zero i), h⟩
    · rw [if_neg hc] at h
      rcases aSw_inv l h with ⟨j, t', h1, h2, h3⟩ | ⟨h1, h2⟩
      · refine Or.inl ⟨j + 1, t', h1, fun i hi e he => ?_, h3⟩
        cases i with
        | zero => cases he; exact fun z => hc z.symm
        | succ i => exact h2 i (by omega) e he
      · exact Or.inr ⟨fun e he => (List.mem_cons.mp he).elim (fun z => by rw [z]; exact fun z => hc z.symm) (h1 e), h2⟩
theorem g_table (C : aCx X cc o d ini H') {dd lo hi : Int} {offs : Array Int} {len x : Nat} {sw : List (Int32 × Nat)} {v : Int32} (hd : decode cc pc = .ok (.tableswitch dd lo hi offs, len)) (hx : (pc : Int) + dd = (x : Int)) (hl : lo + sw.length = hi + 1)
    (hs : ∀ e ∈ sw.zipIdx, e.1.1.toInt = lo + e.2 ∧ (offs[e.2]?).map (fun f => (pc : Int) + f) = some (e.1.2 : Int))
    (G : (∃ (j t : Nat), sw[j]? = some (v, t) ∧ aGd X H' t ls st H) ∨ ((∀ e ∈ sw, e.1 ≠ v) ∧ aGd X H' x ls st H)) : aGd X H' pc ls (.int v :: st) H := by
  refine ⟨G.elim (fun ⟨_, _, g⟩ => g.2.1) (fun g => g.2.1), fun Hp locs cells slots lsA Rl => ?_⟩
  have hz : ∀ (j : Nat) (e : Int32 × Nat), sw[j]? = some e → e.1.toInt = lo + (j : Int) ∧ (offs[j]?).map (fun f => (pc : Int) + f) = some (e.2 : Int) := fun j e he => hs (e, j) (List.mem_zipIdx_iff_getElem?.mpr he)
  rcases G with ⟨j, t, hj, G⟩ | ⟨hno, G⟩
  · obtain ⟨h1, h2⟩ := hz j _ hj
    have hjl := (List.getElem?_eq_some_iff.mp hj).1
    dsimp only at h1 h2
    obtain ⟨f, hf, hft⟩ := Option.map_eq_some_iff.mp h2
    have e : (v.toInt - lo).toNat = j := by omega
    exact lv_tableIn C.1 C.2.1 hd (by omega) (by omega) (by rw [e]; exact hf) hft (G.2 _ _ _ _ _ Rl)
  · refine lv_tableOut C.1 C.2.1 hd ?_ hx (G.2 _ _ _ _ _ Rl)
    by_cases hc : v.toInt < lo ∨ hi < v.toInt
    · exact hc
    · exfalso
      have hjl : (v.toInt - lo).toNat < sw.length := by omega
      obtain ⟨h1, -⟩ := hz _ _ (List.getElem?_eq_getElem hjl)
      exact hno _ (List.getElem_mem hjl) (Int32.toInt_inj.mp (by rw [h1]; omega))
theorem g_lookup (C : aCx X cc o d ini H') {dd : Int} {ps : Array (Int × Int)} {len x : Nat} {sw : List (Int32 × Nat)} {v : Int32} (hd : decode cc pc = .ok (.lookupswitch dd ps, len)) (hx : (pc : Int) + dd = (x : Int)) (hp : (ps.toList.zip (ps.toList.drop 1)).all (fun (a, next) => a.1 < next.1) = true)
    (hs : ps.toList.map (fun e => (e.1, (pc : Int) + e.2)) = sw.map (fun e => (e.1.toInt, (e.2 : Int))))
    (G : (∃ (j t : Nat), sw[j]? = some (v, t) ∧ (∀ (i : Nat), i < j → ∀ e : Int32 × Nat, sw[i]? = some e → e.1 ≠ v) ∧ aGd X H' t ls st H) ∨ ((∀ e ∈ sw, e.1 ≠ v) ∧ aGd X H' x ls st H)) : aGd X H' pc ls (.int v :: st) H := by
  refine ⟨G.elim (fun ⟨_, _, g⟩ => g.2.2.1) (fun g => g.2.1), fun Hp locs cells slots lsA Rl => ?_⟩
  have key : ∀ (l : List (Int × Int)) (sw : List (Int32 × Nat)), l.map (fun e => (e.1, (pc : Int) + e.2)) = sw.map (fun e => (e.1.toInt, (e.2 : Int))) →
      ((∀ (j t : Nat), sw[j]? = some (v, t) → (∀ (i : Nat), i < j → ∀ e : Int32 × Nat, sw[i]? = some e → e.1 ≠ v) → (pc : Int) + Op.lookupswitch.offset l dd v.toInt = (t : Int)) ∧ ((∀ e ∈ sw, e.1 ≠ v) → Op.lookupswitch.offset l dd v.toInt = dd)) := by
    intro l
    induction l with
    | nil =>
      intro sw h
      cases sw with
      | nil => exact ⟨fun j t h => by simp at h, fun _ => rfl⟩
      | cons a b => cases h
    | cons a l ih =>
      intro sw h
      cases sw with
      | nil => cases h
      | cons b sw =>
        obtain ⟨h1, h2⟩ := List.cons.inj h
        obtain ⟨h3, h4⟩ := Prod.mk.inj h1
        obtain ⟨a1, a2⟩ := a
        dsimp only at h3 h4
        rw [Op.lookupswitch.offset_cons]
        refine ⟨fun j t hj hi => ?_, fun hno => ?_⟩
        · cases j with
          | zero =>
            cases hj
            rw [if_pos h3]; exact h4
          | succ j =>
            rw [if_neg (fun z => hi 0 (by omega) b rfl (Int32.toInt_inj.mp (by rw [← h3]; exact z)))]
            exact (ih sw h2).1 j t hj (fun i hlt e he => hi (i + 1) (by omega) e he)
        · rw [if_neg (fun z => hno b List.mem_cons_self (Int32.toInt_inj.mp (by rw [← h3]; exact z)))]
          exact (ih sw h2).2 (fun e he => hno e (List.mem_cons_of_mem _ he))
  rcases G with ⟨j, t, hj, hlt, G⟩ | ⟨hno, G⟩
  · exact lv_lookup C.1 C.2.1 hd hp rfl ((key _ _ hs).1 j t hj hlt) (G.2 _ _ _ _ _ Rl)
  · exact lv_lookup C.1 C.2.1 hd hp ((key _ _ hs).2 hno) hx (G.2 _ _ _ _ _ Rl)
/-! objects -/
theorem aCl_at {ci : Nat} (h : ci < 9) : vwCl[ci]? = some (aO ci, aT ci, aLen ci) := by
  rcases (show ci = 0 ∨ ci = 1 ∨ ci = 2 ∨ ci = 3 ∨ ci = 4 ∨ ci = 5 ∨ ci = 6 ∨ ci = 7 ∨ ci = 8 by omega) with rfl | rfl | rfl | rfl | rfl | rfl | rfl | rfl | rfl <;> rfl
theorem aLay_in {ci : Nat} (h : ci < 9) : ∀ w ∈ u_ws (aO ci) (aT ci) (aLen ci), w ∈ aTB := by
  have key : ∀ {R : String} {T : u_T} {N : Nat}, (∀ e ∈ List.range N, u_lay R T e ∈ lw_tbl) → ∀ w ∈ u_ws R T N, w ∈ aTB := fun h w hw => by
    obtain ⟨k, hk, rfl⟩ := List.mem_map.mp hw
    refine aTB_in (h k hk) ?_
    unfold u_lay
    split <;> rfl
  rcases (show ci = 0 ∨ ci = 1 ∨ ci = 2 ∨ ci = 3 ∨ ci = 4 ∨ ci = 5 ∨ ci = 6 ∨ ci = 7 ∨ ci = 8 by omega) with rfl | rfl | rfl | rfl | rfl | rfl | rfl | rfl | rfl
  · exact key aLay_0
  · exact key aLay_1
  · exact key aLay_2
  · exact key aLay_3
  · exact key aLay_4
  · exact key aLay_5
  · exact key aLay_6
  · exact key aLay_7
  · exact key aLay_8
theorem aTy_ok {ci : Nat} (h : ci < 9) : ∀ k, k < aLen ci → parseFieldDescriptor (aT ci k).2.2.1 = some (aTy ci k) := by
  rcases (show ci = 0 ∨ ci = 1 ∨ ci = 2 ∨ ci = 3 ∨ ci = 4 ∨ ci = 5 ∨ ci = 6 ∨ ci = 7 ∨ ci = 8 by omega) with rfl | rfl | rfl | rfl | rfl | rfl | rfl | rfl | rfl
  · exact tyX0_ok
  · exact tyX1_ok
  · exact tyX2_ok
  · exact tyX3_ok
  · exact tyX4_ok
  · exact tyX5_ok
  · exact tyX6_ok
  · exact tyX7_ok
  · exact tyX8_ok
theorem aNm_ok {ci : Nat} (h : ci < 9) : ∀ a, a < aLen ci → ∀ b, b < aLen ci → a ≠ b → (aT ci a).2.1 ≠ (aT ci b).2.1 := by
  rcases (show ci = 0 ∨ ci = 1 ∨ ci = 2 ∨ ci = 3 ∨ ci = 4 ∨ ci = 5 ∨ ci = 6 ∨ ci = 7 ∨ ci = 8 by omega) with rfl | rfl | rfl | rfl | rfl | rfl | rfl | rfl | rfl
  · exact nmX0
  · exact nmX1
  · exact nmX2
  · exact nmX3
  · exact nmX4
  · exact nmX5
  · exact nmX6
  · exact nmX7
  · exact nmX8
def aIsR : FieldType → Bool
  | .object _ => true
  | .array _ => true
  | _ => false
theorem aFk_ty : ∀ ci, ci < 9 → ∀ f, f < aLen ci → (aFk ci f = 0 ∧ aTy ci f = .int) ∨ (aFk ci f = 1 ∧ aTy ci f = .boolean) ∨ (aFk ci f = 2 ∧ aIsR (aTy ci f) = true) := by decide +kernel
theorem aIsR_fit {t : FieldType} (h : aIsR t = true) (a : Nat) : narrow t (.ref a) = .ref a ∧ fits t (.ref a) = true ∧ defaultValue t = .null := by
  cases t <;> first | exact ⟨rfl, rfl, rfl⟩ | cases h
theorem aEnc_obj {ad : Nat → Nat} {cA : Nat → ClassId} {I : Nat → Nat → Int32} {P : List (List (Option Nat))} {a ci n : Nat} (h : ci < 9) : aEnc ad cA I P a (ci, n) = .inr (ci, (List.range n).map (fun k => if aFk ci k = 2 then va_rf ((aP P a k).map ad) else .int (I a k))) := by
  unfold aEnc; rw [if_pos (show ci < 20 by omega)]
theorem aRng_get {α : Type} {n k : Nat} (f : Nat → α) (h : k < n) : ((List.range n).map f)[k]? = some (f k) := by simp [h]
theorem g_get (C : aCx X cc o d ini H') {j ci f a : Nat} {v : Value} (hd : decode cc pc = .ok (.getfield j, 3)) (hl : (o, j, ci, f) ∈ aFl) (hci : ci < 9) (hf : f < aLen ci) (ha : H.1[a]? = some (ci, aLen ci))
    (hv : (if aFk ci f = 2 then va_rf ((aP H.2.2 a f).map (xd X)) else .int (H.2.1 a f)) = aVal (xd X) v) (G : aGd X H' (pc + 3) ls (v :: st) H) : aGd X H' pc ls (.ref a :: st) H :=
  ⟨G.1, fun Hp locs cells slots lsA Rl => va_get C.1 C.2.1 C.2.2.2.2.1 (aLay_in hci) C.2.2.2.1 C.2.2.2.2.2.1 Rl.1 a ((aWs_get ha).trans (by rw [aEnc_obj hci])) (aCl_at hci) f hf (C.2.2.2.2.1 _ (aTB_in (aFl_ok _ hl) rfl)) (fun _ h => h) ((aRng_get _ hf).trans (by rw [hv])) hd (G.2 _ _ _ _ _ Rl)⟩
theorem aRel.set {a : Nat} {q : Nat × Nat} {I : Nat → Nat → Int32} {P : List (List (Option Nat))} {Hp Hp1 : Heap} {locs locs1 : List Loc} {cells slots : Nat} {lsA : Array Slot} {e : va_E} (Rl : aRel X H ls Hp locs cells slots lsA) (ha : H.1[a]? = some q) (he : e = aEnc (xd X) (aCA (xs X)) I P a q) (ho : ∀ i q, i ≠ a → aEnc (xd X) (aCA (xs X)) I P i q = aEnc (xd X) (aCA (xs X)) H.2.1 H.2.2 i q) (hP : P.length = H.2.2.length)
    (h1 : va_P (xC X, xI X) vwCl ((aWs (xd X) (aCA (xs X)) H).set a (xd X a, e)) Hp1) (h2 : va_S (aA (xB X)) (xs X).heap Hp1 locs1) : aRel X (H.1, I, P) ls Hp1 locs1 cells slots lsA := by
  subst he
  rw [aWs_set ha ho] at h1
  exact ⟨h1, Rl.2.1, h2, Rl.2.2.2.1, Rl.2.2.2.2.1, Rl.2.2.2.2.2.1, Rl.2.2.2.2.2.2.1, hP.trans Rl.2.2.2.2.2.2.2⟩
theorem g_put (C : aCx X cc o d ini H') {j ci f a : Nat} {v : Value} {I : Nat → Nat → Int32} {P : List (List (Option Nat))} (hd : decode cc pc = .ok (.putfield j, 3)) (hl : (o, j, ci, f) ∈ aFl) (hci : ci < 9) (hf : f < aLen ci) (hfin : (aT ci f).2.2.2 = false ∨ ini = true ∧ (aT ci f).1 = aO o) (ha : H.1[a]? = some (ci, aLen ci))
    (hn : narrow (aTy ci f) v = v) (hfit : fits (aTy ci f) v = true) (hg : (if aFk ci f = 2 then va_rf ((aP P a f).map (xd X)) else .int (I a f)) = v) (hk : ∀ k, k ≠ f → I a k = H.2.1 a k ∧ aP P a k = aP H.2.2 a k) (ho : ∀ i q, i ≠ a → aEnc (xd X) (aCA (xs X)) I P i q = aEnc (xd X) (aCA (xs X)) H.2.1 H.2.2 i q) (hP : P.length = H.2.2.length)
    {w : Value} (hw : aVal (xd X) w = v) (G : aGd X H' (pc + 3) ls st (H.1, I, P)) : aGd X H' pc ls (w :: .ref a :: st) H := by
  refine ⟨G.1, fun Hp locs cells slots lsA Rl => ?_⟩
  have hlen : H.1.length ≤ 1000 := Nat.le_trans G.1.length_le C.2.2.2.2.2.2.2.2.2.2.2.2
  have he := (aWs_get (ad := xd X) (cA := aCA (xs X)) ha).trans (by rw [aEnc_obj hci])
  have hset : ((List.range (aLen ci)).map (fun k => if aFk ci k = 2 then va_rf ((aP H.2.2 a k).map (xd X)) else .int (H.2.1 a k))).set f v = (List.range (aLen ci)).map (fun k => if aFk ci k = 2 then va_rf ((aP P a k).map (xd X)) else .int (I a k)) := aRange_set hg (fun k hk' => by rw [(hk k hk').1, (hk k hk').2])
  have kk : ∀ (Hp1 : Heap) (locs1 : List Loc), va_P (xC X, xI X) vwCl ((aWs (xd X) (aCA (xs X)) H).set a (xd X a, .inr (ci, ((List.range (aLen ci)).map (fun k => if aFk ci k = 2 then va_rf ((aP H.2.2 a k).map (xd X)) else .int (H.2.1 a k))).set f v))) Hp1 → va_S (aA (xB X)) (xs X).heap Hp1 locs1 → aW X Hp1 locs1 cells slots (F0 (xm X) (pc + 3) lsA (st.map (aVal (xd X)))) := fun Hp1 locs1 h1 h2 =>
    G.2 _ _ _ _ _ (Rl.set (I := I) (P := P) ha (by rw [hset, aEnc_obj hci]) ho hP h1 h2)
  show aW X Hp locs cells slots (F0 (xm X) pc lsA (aVal (xd X) w :: .ref (xd X a) :: st.map (aVal (xd X))))
  rw [hw]
  by_cases hF : (aT ci f).2.2.2 = false
  · exact va_put C.1 C.2.1 C.2.2.2.2.1 (aLay_in hci) (aTy ci) (aTy_ok hci) (aNm_ok hci) C.2.2.2.1 C.2.2.2.2.2.1 Rl.1 (aWs_D hlen) Rl.2.2.1 a he (aCl_at hci) f hf (C.2.2.2.2.1 _ (aTB_in (aFl_ok _ hl) rfl)) (fun _ h => h) hF (aTy_ok hci f hf) hn hfit (by simpa using hf) hd (fun H1 l1 h1 _ h2 => kk H1 l1 h1 h2)
  · obtain ⟨hi1, hi2⟩ := hfin.resolve_left hF
    exact va_putF C.1 C.2.1 C.2.2.2.2.1 (aLay_in hci) (aTy ci) (aTy_ok hci) (aNm_ok hci) C.2.2.2.1 C.2.2.2.2.2.1 Rl.1 (aWs_D hlen) Rl.2.2.1 a he (aCl_at hci) f hf (C.2.2.2.2.1 _ (aTB_in (aFl_ok _ hl) rfl)) (fun _ h => h) (by simpa using hF) (C.2.2.2.2.2.2.2.2.2.2.2.1 hi1) hi2 (aTy_ok hci f hf) hn hfit (by simpa using hf) hd (fun H1 l1 h1 _ h2 => kk H1 l1 h1 h2)
theorem g_putI (C : aCx X cc o d ini H') {j ci f a : Nat} {x : Int32} (hd : decode cc pc = .ok (.putfield j, 3)) (hl : (o, j, ci, f) ∈ aFl) (hci : ci < 9) (hf : f < aLen ci) (hfin : (aT ci f).2.2.2 = false ∨ ini = true ∧ (aT ci f).1 = aO o) (ha : H.1[a]? = some (ci, aLen ci))
    (hx : aFk ci f = 0 ∨ aFk ci f = 1 ∧ (x = 0 ∨ x = 1)) (G : aGd X H' (pc + 3) ls st (H.1, aUpd H.2.1 a f x, H.2.2)) : aGd X H' pc ls (.int x :: .ref a :: st) H := by
  have hne : aFk ci f ≠ 2 := by omega
  have hb : narrow (aTy ci f) (.int x) = .int x ∧ fits (aTy ci f) (.int x) = true := by
    rcases aFk_ty ci hci f hf with ⟨h1, h2⟩ | ⟨h1, h2⟩ | ⟨h1, h2⟩
    · rw [h2]; exact ⟨rfl, rfl⟩
    · rcases hx with hx | ⟨-, hx | hx⟩
      · omega
      · rw [h2, hx]; exact ⟨rfl, rfl⟩
      · rw [h2, hx]; exact ⟨rfl, rfl⟩
    · omega
  refine g_put C hd hl hci hf hfin ha hb.1 hb.2 ?_ (fun k hk => ⟨by simp [aUpd, upd, hk], rfl⟩) (fun i q hi => aEnc_int hi) rfl rfl G
  rw [if_neg hne]; simp [aUpd, upd]
theorem g_putR (C : aCx X cc o d ini H') {j ci f a x : Nat} (hd : decode cc pc = .ok (.putfield j, 3)) (hl : (o, j, ci, f) ∈ aFl) (hci : ci < 9) (hf : f < aLen ci) (hfin : (aT ci f).2.2.2 = false ∨ ini = true ∧ (aT ci f).1 = aO o) (ha : H.1[a]? = some (ci, aLen ci))
    (hx : aFk ci f = 2) (hr : f < (H.2.2.getD a []).length) (G : aGd X H' (pc + 3) ls st (H.1, H.2.1, aSetP H.2.2 a f (some x))) : aGd X H' pc ls (.ref x :: .ref a :: st) H := by
  have hb : aIsR (aTy ci f) = true := by
    rcases aFk_ty ci hci f hf with ⟨h1, h2⟩ | ⟨h1, h2⟩ | ⟨h1, h2⟩
    · omega
    · omega
    · exact h2
  refine g_put C hd hl hci hf hfin ha (aIsR_fit hb _).1 (aIsR_fit hb _).2.1 ?_ (fun k hk => ⟨rfl, by rw [aSetP_get hr, if_neg (fun e => hk e.2)]⟩) (fun i q hi => aEnc_ref hr hi) aSetP_len rfl G
  rw [if_pos hx, aSetP_get hr, if_pos ⟨rfl, rfl⟩]; rfl
end RL2
