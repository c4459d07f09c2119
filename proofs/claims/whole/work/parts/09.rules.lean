/-! the rules: what the interpreter does at an instruction, the machine does -/
abbrev aX : Type := Program × Launch × Env × Room × State × MethodId × Array Value × List Frame × Method × Code × (State → Prop) × (Nat → ClassId) × (Nat → Nat → Nat) × Nat × (Nat → Nat) × aSc × Nat × Nat
abbrev xp (X : aX) := X.1
abbrev xl (X : aX) := X.2.1
abbrev xe (X : aX) := X.2.2.1
abbrev xR (X : aX) := X.2.2.2.1
abbrev xs (X : aX) := X.2.2.2.2.1
abbrev xm (X : aX) := X.2.2.2.2.2.1
abbrev xa (X : aX) := X.2.2.2.2.2.2.1
abbrev xb (X : aX) := X.2.2.2.2.2.2.2.1
abbrev xM (X : aX) := X.2.2.2.2.2.2.2.2.1
abbrev xc (X : aX) := X.2.2.2.2.2.2.2.2.2.1
abbrev xQ (X : aX) := X.2.2.2.2.2.2.2.2.2.2.1
abbrev xC (X : aX) := X.2.2.2.2.2.2.2.2.2.2.2.1
abbrev xI (X : aX) := X.2.2.2.2.2.2.2.2.2.2.2.2.1
abbrev xB (X : aX) := X.2.2.2.2.2.2.2.2.2.2.2.2.2.1
abbrev xE (X : aX) := X.2.2.2.2.2.2.2.2.2.2.2.2.2.2.1
abbrev xS (X : aX) := X.2.2.2.2.2.2.2.2.2.2.2.2.2.2.2.1
abbrev xN (X : aX) := X.2.2.2.2.2.2.2.2.2.2.2.2.2.2.2.2.1
abbrev xz (X : aX) := X.2.2.2.2.2.2.2.2.2.2.2.2.2.2.2.2.2
abbrev xd (X : aX) : Nat → Nat := aAd (xB X) (xE X)
abbrev aW (X : aX) (Hp : Heap) (locs : List Loc) (cells slots : Nat) (g : JFrame) : Prop := W (xp X) (xl X) (xe X) (xR X) (xs X) (xm X) (xa X) (xb X) (xM X) (xc X) Hp locs cells slots (xQ X) g
def aRel (X : aX) (H : aH) (ls : aLs) (Hp : Heap) (locs : List Loc) (cells slots : Nat) (lsA : Array Slot) : Prop :=
  va_P (xC X, xI X) vwCl (aWs (xd X) (aCA (xs X)) H) Hp ∧ (∀ (i : Nat) (q : Nat × Nat), H.1[i]? = some q → aKd (xs X) H q) ∧ va_S (aA (xB X)) (xs X).heap Hp locs ∧ lv_has lsA (xN X) (aLv (xd X) ls) ∧ ls.length = xN X ∧ (xs X).heap.size + cells = xB X + H.1.length ∧ xz X + slots = aSz H ∧ H.2.2.length = H.1.length
/-- from here on the machine comes to the end, as the interpreter does -/
def aGd (X : aX) (H' : aH) (pc : Nat) (ls : aLs) (st : List Value) (H : aH) : Prop :=
  H.1 <+: H'.1 ∧ ∀ (Hp : Heap) (locs : List Loc) (cells slots : Nat) (lsA : Array Slot), aRel X H ls Hp locs cells slots lsA → aW X Hp locs cells slots (F0 (xm X) pc lsA (st.map (aVal (xd X))))
def aScr (X : aX) : Prop := ∀ q, xS X = some q → va_X (xE X 2999) q.1 q.2 (xs X) (xs X).heap ∧ xE X 2999 < (xs X).heap.size ∧ ¬ aA (xB X) (xE X 2999)
def aCx (X : aX) (cc : ByteArray) (o d : Nat) (ini : Bool) (H' : aH) : Prop :=
  (xp X).tables.exec = Jvm.exec ∧ (xc X).code = cc ∧ (xc X).maxLocals = xN X ∧ (xs X).vm.findClass (aO o) = some (xm X).cls ∧ (∀ w ∈ aTB, w.before (xa X) (xs X) = true) ∧ va_K (xC X, xI X) vwCl [] (xs X) ∧ aGl (xB X) (xE X) (xs X) ∧ xB X ≤ (xs X).heap.size ∧ (d + 1 ≤ (xR X).frames ∧ 32 * d + 32 ≤ (xR X).locals) ∧ (xB X + H'.1.length ≤ (xs X).heap.size + (xR X).cells ∧ aSz H' ≤ xz X + (xR X).slots) ∧ aScr X ∧ (ini = true → (xM X).name = "<init>") ∧ H'.1.length ≤ 1000
section RL
variable {X : aX} {cc : ByteArray} {o d : Nat} {ini : Bool} {H' : aH} {pc : Nat} {ls : aLs} {st : List Value} {H : aH}
theorem g_iload_n (C : aCx X cc o d ini H') {k : Fin 4} {v : Int32} (hd : decode cc pc = .ok (.iload_n k, 1)) (hv : ls[k.val]? = some (some (.int v))) (G : aGd X H' (pc + 1) ls (.int v :: st) H) : aGd X H' pc ls st H :=
  ⟨G.1, fun Hp locs cells slots lsA Rl => lv_iload_n C.1 C.2.1 hd rfl (aLv_get Rl.2.2.2.1 hv) (G.2 _ _ _ _ _ Rl)⟩
theorem g_iload (C : aCx X cc o d ini H') {k : Nat} {v : Int32} (hd : decode cc pc = .ok (.iload k, 2)) (hv : ls[k]? = some (some (.int v))) (G : aGd X H' (pc + 2) ls (.int v :: st) H) : aGd X H' pc ls st H :=
  ⟨G.1, fun Hp locs cells slots lsA Rl => lv_iload C.1 C.2.1 hd (aLv_get Rl.2.2.2.1 hv) (G.2 _ _ _ _ _ Rl)⟩
theorem g_lload_n (C : aCx X cc o d ini H') {k : Fin 4} {v : Int64} (hd : decode cc pc = .ok (.lload_n k, 1)) (hv : ls[k.val]? = some (some (.long v))) (G : aGd X H' (pc + 1) ls (.long v :: st) H) : aGd X H' pc ls st H :=
  ⟨G.1, fun Hp locs cells slots lsA Rl => lv_lload_n C.1 C.2.1 hd rfl (aLv_get Rl.2.2.2.1 hv) (G.2 _ _ _ _ _ Rl)⟩
theorem g_aload_n (C : aCx X cc o d ini H') {k : Fin 4} {v : Nat} (hd : decode cc pc = .ok (.aload_n k, 1)) (hv : ls[k.val]? = some (some (.ref v))) (G : aGd X H' (pc + 1) ls (.ref v :: st) H) : aGd X H' pc ls st H :=
  ⟨G.1, fun Hp locs cells slots lsA Rl => lv_aload_n C.1 C.2.1 hd rfl (aLv_get Rl.2.2.2.1 hv) (G.2 _ _ _ _ _ Rl)⟩
theorem g_aload (C : aCx X cc o d ini H') {k : Nat} {v : Nat} (hd : decode cc pc = .ok (.aload k, 2)) (hv : ls[k]? = some (some (.ref v))) (G : aGd X H' (pc + 2) ls (.ref v :: st) H) : aGd X H' pc ls st H :=
  ⟨G.1, fun Hp locs cells slots lsA Rl => lv_aload C.1 C.2.1 hd (aLv_get Rl.2.2.2.1 hv) (G.2 _ _ _ _ _ Rl)⟩
theorem g_aload_nN (C : aCx X cc o d ini H') {k : Fin 4} (hd : decode cc pc = .ok (.aload_n k, 1)) (hv : ls[k.val]? = some (some .null)) (G : aGd X H' (pc + 1) ls (.null :: st) H) : aGd X H' pc ls st H :=
  ⟨G.1, fun Hp locs cells slots lsA Rl => lv_aload_nN C.1 C.2.1 hd rfl (aLv_get Rl.2.2.2.1 hv) (G.2 _ _ _ _ _ Rl)⟩
theorem g_aloadN (C : aCx X cc o d ini H') {k : Nat} (hd : decode cc pc = .ok (.aload k, 2)) (hv : ls[k]? = some (some .null)) (G : aGd X H' (pc + 2) ls (.null :: st) H) : aGd X H' pc ls st H :=
  ⟨G.1, fun Hp locs cells slots lsA Rl => lv_aloadN C.1 C.2.1 hd (aLv_get Rl.2.2.2.1 hv) (G.2 _ _ _ _ _ Rl)⟩
theorem aRel.push {v : Value} {ls' : aLs} {i : Nat} {Hp : Heap} {locs : List Loc} {cells slots : Nat} {lsA lsA' : Array Slot} (Rl : aRel X H ls Hp locs cells slots lsA) (hp : aPush v ls i = some ls') (h : lv_has lsA' (xN X) ((i, aVal (xd X) v) :: (aLv (xd X) ls).filter (fun q => !(q.1 == i) && !(q.1 + 1 == i && q.2.category == 2)))) : aRel X H ls' Hp locs cells slots lsA' :=
  ⟨Rl.1, Rl.2.1, Rl.2.2.1, aLv_sub h (aLv_push hp), by rw [aPush_len hp]; exact Rl.2.2.2.2.1, Rl.2.2.2.2.2⟩
theorem g_istore_n (C : aCx X cc o d ini H') {k : Fin 4} {v : Int32} {ls' : aLs} (hd : decode cc pc = .ok (.istore_n k, 1)) (hp : aPush (.int v) ls k.val = some ls') (G : aGd X H' (pc + 1) ls' st H) : aGd X H' pc ls (.int v :: st) H :=
  ⟨G.1, fun Hp locs cells slots lsA Rl => lv_istore_n C.1 C.2.1 hd rfl Rl.2.2.2.1 (by rw [← Rl.2.2.2.2.1]; exact (aPush_spec hp).1) rfl fun lsA' h => G.2 _ _ _ _ _ (Rl.push hp h)⟩
theorem g_istore (C : aCx X cc o d ini H') {k : Nat} {v : Int32} {ls' : aLs} (hd : decode cc pc = .ok (.istore k, 2)) (hp : aPush (.int v) ls k = some ls') (G : aGd X H' (pc + 2) ls' st H) : aGd X H' pc ls (.int v :: st) H :=
  ⟨G.1, fun Hp locs cells slots lsA Rl => lv_istore C.1 C.2.1 hd Rl.2.2.2.1 (by rw [← Rl.2.2.2.2.1]; exact (aPush_spec hp).1) rfl fun lsA' h => G.2 _ _ _ _ _ (Rl.push hp h)⟩
theorem g_astore_n (C : aCx X cc o d ini H') {k : Fin 4} {v : Nat} {ls' : aLs} (hd : decode cc pc = .ok (.astore_n k, 1)) (hp : aPush (.ref v) ls k.val = some ls') (G : aGd X H' (pc + 1) ls' st H) : aGd X H' pc ls (.ref v :: st) H :=
  ⟨G.1, fun Hp locs cells slots lsA Rl => lv_astore_n C.1 C.2.1 hd rfl Rl.2.2.2.1 (by rw [← Rl.2.2.2.2.1]; exact (aPush_spec hp).1) rfl fun lsA' h => G.2 _ _ _ _ _ (Rl.push hp h)⟩
theorem g_astore (C : aCx X cc o d ini H') {k : Nat} {v : Nat} {ls' : aLs} (hd : decode cc pc = .ok (.astore k, 2)) (hp : aPush (.ref v) ls k = some ls') (G : aGd X H' (pc + 2) ls' st H) : aGd X H' pc ls (.ref v :: st) H :=
  ⟨G.1, fun Hp locs cells slots lsA Rl => lv_astore C.1 C.2.1 hd Rl.2.2.2.1 (by rw [← Rl.2.2.2.2.1]; exact (aPush_spec hp).1) rfl fun lsA' h => G.2 _ _ _ _ _ (Rl.push hp h)⟩
theorem g_astore_nN (C : aCx X cc o d ini H') {k : Fin 4} {ls' : aLs} (hd : decode cc pc = .ok (.astore_n k, 1)) (hp : aPush .null ls k.val = some ls') (G : aGd X H' (pc + 1) ls' st H) : aGd X H' pc ls (.null :: st) H :=
  ⟨G.1, fun Hp locs cells slots lsA Rl => lv_astore_nN C.1 C.2.1 hd rfl Rl.2.2.2.1 (by rw [← Rl.2.2.2.2.1]; exact (aPush_spec hp).1) rfl fun lsA' h => G.2 _ _ _ _ _ (Rl.push hp h)⟩
theorem g_astoreN (C : aCx X cc o d ini H') {k : Nat} {ls' : aLs} (hd : decode cc pc = .ok (.astore k, 2)) (hp : aPush .null ls k = some ls') (G : aGd X H' (pc + 2) ls' st H) : aGd X H' pc ls (.null :: st) H :=
  ⟨G.1, fun Hp locs cells slots lsA Rl => lv_astoreN C.1 C.2.1 hd Rl.2.2.2.1 (by rw [← Rl.2.2.2.2.1]; exact (aPush_spec hp).1) rfl fun lsA' h => G.2 _ _ _ _ _ (Rl.push hp h)⟩
theorem g_iinc (C : aCx X cc o d ini H') {k : Nat} {n : Int} {v c : Int32} {ls' : aLs} (hd : decode cc pc = .ok (.iinc k n, 3)) (hc : Int32.ofInt n = c) (hv : ls[k]? = some (some (.int v))) (hp : aPush (.int (v + c)) ls k = some ls') (G : aGd X H' (pc + 3) ls' st H) : aGd X H' pc ls st H :=
  ⟨G.1, fun Hp locs cells slots lsA Rl => by
    obtain ⟨j, hj⟩ := List.getElem?_of_mem (aLv_mem (ad := xd X) (q := (k, .int v)).mpr ⟨_, hv, rfl⟩)
    exact lv_iinc C.1 C.2.1 hd Rl.2.2.2.1 hj (by rw [hc]) (by rw [← Rl.2.2.2.2.1]; exact (aPush_spec hp).1) rfl fun lsA' h => G.2 _ _ _ _ _ (Rl.push hp h)⟩
theorem g_null (C : aCx X cc o d ini H') (hd : decode cc pc = .ok (.aconst_null, 1)) (G : aGd X H' (pc + 1) ls (.null :: st) H) : aGd X H' pc ls st H :=
  ⟨G.1, fun Hp locs cells slots lsA Rl => lv_null C.1 C.2.1 hd (G.2 _ _ _ _ _ Rl)⟩
theorem g_iconst (C : aCx X cc o d ini H') {n : Int} {c : Int32} (hd : decode cc pc = .ok (.iconst n, 1)) (hc : Int32.ofInt n = c) (G : aGd X H' (pc + 1) ls (.int c :: st) H) : aGd X H' pc ls st H :=
  ⟨G.1, fun Hp locs cells slots lsA Rl => lv_iconst C.1 C.2.1 hd hc (G.2 _ _ _ _ _ Rl)⟩
theorem g_bipush (C : aCx X cc o d ini H') {n : Int} {c : Int32} (hd : decode cc pc = .ok (.bipush n, 2)) (hc : (Int8.ofInt n).toInt32 = c) (G : aGd X H' (pc + 2) ls (.int c :: st) H) : aGd X H' pc ls st H :=
  ⟨G.1, fun Hp locs cells slots lsA Rl => lv_bipush C.1 C.2.1 hd hc (G.2 _ _ _ _ _ Rl)⟩
theorem g_sipush (C : aCx X cc o d ini H') {n : Int} {c : Int32} (hd : decode cc pc = .ok (.sipush n, 3)) (hc : (Int16.ofInt n).toInt32 = c) (G : aGd X H' (pc + 3) ls (.int c :: st) H) : aGd X H' pc ls st H :=
  ⟨G.1, fun Hp locs cells slots lsA Rl => lv_sipush C.1 C.2.1 hd hc (G.2 _ _ _ _ _ Rl)⟩
theorem g_ldc (C : aCx X cc o d ini H') {j : Nat} {c : Int32} (hd : decode cc pc = .ok (.ldc j, 2)) (hc : (o, j, c) ∈ aCt) (G : aGd X H' (pc + 2) ls (.int c :: st) H) : aGd X H' pc ls st H :=
  ⟨G.1, fun Hp locs cells slots lsA Rl => lv_ldc C.1 C.2.1 C.2.2.2.1 (C.2.2.2.2.1 _ (aTB_in (aCt_ok _ hc) rfl)) hd (G.2 _ _ _ _ _ Rl)⟩
theorem g_ldcw (C : aCx X cc o d ini H') {j : Nat} {c : Int32} (hd : decode cc pc = .ok (.ldc_w j, 3)) (hc : (o, j, c) ∈ aCt) (G : aGd X H' (pc + 3) ls (.int c :: st) H) : aGd X H' pc ls st H :=
  ⟨G.1, fun Hp locs cells slots lsA Rl => lv_ldcw C.1 C.2.1 C.2.2.2.1 (C.2.2.2.2.1 _ (aTB_in (aCt_ok _ hc) rfl)) hd (G.2 _ _ _ _ _ Rl)⟩
theorem g_ldc2 (C : aCx X cc o d ini H') {j x : Nat} (hd : decode cc pc = .ok (.ldc2_w j, 3)) (hc : (o, j, x) ∈ aCl) (G : aGd X H' (pc + 3) ls (.long (Int64.ofNat x) :: st) H) : aGd X H' pc ls st H :=
  ⟨G.1, fun Hp locs cells slots lsA Rl => lv_ldc2 C.1 C.2.1 C.2.2.2.1 (C.2.2.2.2.1 _ (aTB_in (aCl_ok _ hc) rfl)) hd (G.2 _ _ _ _ _ Rl)⟩
theorem aSr_big : ∀ e ∈ aSr, 1000 ≤ e.2.2 := by decide +kernel
theorem g_ldcS (C : aCx X cc o d ini H') {j x : Nat} (hd : decode cc pc = .ok (.ldc j, 2)) (hc : (o, j, x) ∈ aSr) (G : aGd X H' (pc + 2) ls (.ref x :: st) H) : aGd X H' pc ls st H :=
  ⟨G.1, fun Hp locs cells slots lsA Rl => by
    have h1 := C.2.2.2.2.2.2.1.2.1 _ hc
    have h2 := G.2 _ _ _ _ _ Rl
    have h3 := aSr_big _ hc
    have e : xd X x = xE X x := if_neg (by dsimp only at h3; omega)
    simp only [List.map_cons, aVal, e] at h2
    exact va_ldcS C.1 C.2.1 C.2.2.2.1 h1 hd h2⟩
theorem g_gets (C : aCx X cc o d ini H') {j x : Nat} (hd : decode cc pc = .ok (.getstatic j, 3)) (hc : (o, j, x) ∈ aGs ∨ (o, j, x) ∈ aGn) (hx : 1000 ≤ x ∧ x < 1003) (G : aGd X H' (pc + 3) ls (.ref x :: st) H) : aGd X H' pc ls st H :=
  ⟨G.1, fun Hp locs cells slots lsA Rl => by
    have h1 := (C.2.2.2.2.2.2.1.1 x hx.1 hx.2).1
    have h2 := G.2 _ _ _ _ _ Rl
    have e : xd X x = xE X x := if_neg (by omega)
    simp only [List.map_cons, aVal, e] at h2
    rcases hc with hc | hc
    · exact va_gets C.1 C.2.1 h1 Rl.2.2.1 C.2.2.2.1 (C.2.2.2.2.1 _ (aTB_in (aGs_ok _ hc) rfl)) (fun _ h => h) hd h2
    · exact va_getsN C.1 C.2.1 h1 Rl.2.2.1 C.2.2.2.1 ((C.2.2.2.2.2.2.1.2.2.2.1 _ hc).use rfl) (fun _ h => h) hd h2⟩
theorem g_getsI (C : aCx X cc o d ini H') {j : Nat} (hd : decode cc pc = .ok (.getstatic j, 3)) (hc : (o, j) ∈ aGi) (G : aGd X H' (pc + 3) ls (.int 1 :: st) H) : aGd X H' pc ls st H :=
  ⟨G.1, fun Hp locs cells slots lsA Rl => va_gets C.1 C.2.1 C.2.2.2.2.2.2.1.2.2.1 Rl.2.2.1 C.2.2.2.1 (C.2.2.2.2.1 _ (aTB_in (aGi_ok _ hc) rfl)) (fun _ h => h) hd (G.2 _ _ _ _ _ Rl)⟩
theorem aStr (C : aCx X cc o d ini H') : vk_S 3 [0, 3, 3] aTx (fun i => xE X (2000 + i)) (fun i => xE X (2500 + i)) (aA (xB X)) (xs X) (xs X).heap := C.2.2.2.2.2.2.1.2.2.2.2.2.2
theorem g_getS (C : aCx X cc o d ini H') {j y a : Nat} (hd : decode cc pc = .ok (.getfield j, 3)) (hc : (o, j, y) ∈ aFs) (ha : 2000 ≤ a ∧ a < 2003) (G : y = 0 ∧ aGd X H' (pc + 3) ls (.ref (a + 500) :: st) H ∨ ¬ y = 0 ∧ aGd X H' (pc + 3) ls (.int 0 :: st) H) : aGd X H' pc ls (.ref a :: st) H := by
  refine ⟨G.elim (fun g => g.2.1) (fun g => g.2.1), fun Hp locs cells slots lsA Rl => ?_⟩
  obtain ⟨h1, h2, h3, h4⟩ := (aStr C).1 (a - 2000) (by omega)
  have e1 : xd X a = xE X (2000 + (a - 2000)) := by rw [show 2000 + (a - 2000) = a by omega]; exact if_neg (by omega)
  have hl := C.2.2.2.2.1 _ (aTB_in (aFs_ok _ hc) rfl)
  show aW X Hp locs cells slots (F0 (xm X) pc lsA (.ref (xd X a) :: st.map (aVal (xd X))))
  rw [e1]
  rcases G with ⟨rfl, G⟩ | ⟨hy, G⟩
  · have K := G.2 _ _ _ _ _ Rl
    have e2 : xd X (a + 500) = xE X (2500 + (a - 2000)) := by rw [show 2500 + (a - 2000) = a + 500 by omega]; exact if_neg (by omega)
    simp only [List.map_cons, aVal, e2] at K
    exact vk_getf C.1 C.2.1 h3 Rl.2.2.1 C.2.2.2.1 hl (fun _ h => h) hd K
  · have K := G.2 _ _ _ _ _ Rl
    have e3 : (aSf y) = ("coder", "B") := if_neg hy
    dsimp only at hl
    rw [e3] at hl
    exact vk_getf C.1 C.2.1 h2 Rl.2.2.1 C.2.2.2.1 hl (fun _ h => h) hd K
theorem aTxLen {i : Nat} (h : i < 3) : ([0, 3, 3] : List Nat).getD i 0 = (aTx.getD i []).length := by
  rcases (show i = 0 ∨ i = 1 ∨ i = 2 by omega) with rfl | rfl | rfl <;> rfl
theorem g_tbald (C : aCx X cc o d ini H') {a : Nat} {i : Int32} (hd : decode cc pc = .ok (.baload, 1)) (ha : 2500 ≤ a ∧ a < 2503) (hi : ¬ (i < 0 ∨ (aTx.getD (a - 2500) []).length ≤ i.toNatClampNeg)) (G : aGd X H' (pc + 1) ls (.int ((aTx.getD (a - 2500) []).getD i.toNatClampNeg 0) :: st) H) : aGd X H' pc ls (.int i :: .ref a :: st) H := by
  refine ⟨G.1, fun Hp locs cells slots lsA Rl => ?_⟩
  obtain ⟨h1, h2, h3, h4⟩ := (aStr C).1 (a - 2500) (by omega)
  have e1 : xd X a = xE X (2500 + (a - 2500)) := by rw [show 2500 + (a - 2500) = a by omega]; exact if_neg (by omega)
  show aW X Hp locs cells slots (F0 (xm X) pc lsA (.int i :: .ref (xd X a) :: st.map (aVal (xd X))))
  rw [e1]
  rw [aTxLen (by omega)] at h4
  exact va_tb C.1 C.2.1 h4 Rl.2.2.1 hi rfl hd (G.2 _ _ _ _ _ Rl)
theorem g_tblen (C : aCx X cc o d ini H') {a : Nat} (hd : decode cc pc = .ok (.arraylength, 1)) (ha : 2500 ≤ a ∧ a < 2503) (G : aGd X H' (pc + 1) ls (.int (Int32.ofNat (aTx.getD (a - 2500) []).length) :: st) H) : aGd X H' pc ls (.ref a :: st) H := by
  refine ⟨G.1, fun Hp locs cells slots lsA Rl => ?_⟩
  obtain ⟨h1, h2, h3, h4⟩ := (aStr C).1 (a - 2500) (by omega)
  have e1 : xd X a = xE X (2500 + (a - 2500)) := by rw [show 2500 + (a - 2500) = a by omega]; exact if_neg (by omega)
  show aW X Hp locs cells slots (F0 (xm X) pc lsA (.ref (xd X a) :: st.map (aVal (xd X))))
  rw [e1]
  rw [aTxLen (by omega)] at h4
  exact va_tlen C.1 C.2.1 h4 Rl.2.2.1 rfl hd (G.2 _ _ _ _ _ Rl)
theorem g_bin (C : aCx X cc o d ini H') {x y : Int32} {i : Instr} {f : Int32 → Int32 → Int32} (hd : decode cc pc = .ok (i, 1)) (G : aGd X H' (pc + 1) ls (.int (f x y) :: st) H)
    (hf : (i = .iadd ∧ f = fun x y => x + y) ∨ (i = .isub ∧ f = fun x y => x - y) ∨ (i = .imul ∧ f = fun x y => x * y) ∨ (i = .iand ∧ f = fun x y => x &&& y) ∨ (i = .ior ∧ f = fun x y => x ||| y) ∨ (i = .ixor ∧ f = fun x y => x ^^^ y) ∨ (i = .ishl ∧ f = fun (x y : Int32) => x <<< (y &&& 31)) ∨ (i = .ishr ∧ f = fun (x y : Int32) => x >>> (y &&& 31)) ∨ (i = .iushr ∧ f = fun x y => (x.toUInt32 >>> (y.toUInt32 &&& Int32.toUInt32 31)).toInt32)) : aGd X H' pc ls (.int y :: .int x :: st) H := by
  refine ⟨G.1, fun Hp locs cells slots lsA Rl => ?_⟩
  have K := G.2 _ _ _ _ _ Rl
  rcases hf with ⟨rfl, rfl⟩ | ⟨rfl, rfl⟩ | ⟨rfl, rfl⟩ | ⟨rfl, rfl⟩ | ⟨rfl, rfl⟩ | ⟨rfl, rfl⟩ | ⟨rfl, rfl⟩ | ⟨rfl, rfl⟩ | ⟨rfl, rfl⟩
  · exact lv_iadd C.1 C.2.1 hd K
  · exact lv_isub C.1 C.2.1 hd K
  · exact lv_imul C.1 C.2.1 hd K
  · exact lv_iand C.1 C.2.1 hd K
  · exact lv_ior C.1 C.2.1 hd K
  · exact lv_ixor C.1 C.2.1 hd K
  · exact lv_ishl C.1 C.2.1 hd K
  · exact lv_ishr C.1 C.2.1 hd K
  · exact lv_iushr C.1 C.2.1 hd rfl K
theorem g_un (C : aCx X cc o d ini H') {x : Int32} {i : Instr} {f : Int32 → Int32} (hd : decode cc pc = .ok (i, 1)) (G : aGd X H' (pc + 1) ls (.int (f x) :: st) H)
    (hf : (i = .ineg ∧ f = fun x => -x) ∨ (i = .i2b ∧ f = fun x => x.toInt8.toInt32) ∨ (i = .i2s ∧ f = fun x => x.toInt16.toInt32) ∨ (i = .i2c ∧ f = fun x => (x.toUInt32 % 65536).toInt32)) : aGd X H' pc ls (.int x :: st) H := by
  refine ⟨G.1, fun Hp locs cells slots lsA Rl => ?_⟩
  have K := G.2 _ _ _ _ _ Rl
  rcases hf with ⟨rfl, rfl⟩ | ⟨rfl, rfl⟩ | ⟨rfl, rfl⟩ | ⟨rfl, rfl⟩
  · exact lv_ineg C.1 C.2.1 hd K
  · exact lv_i2b C.1 C.2.1 hd rfl K
  · exact lv_i2s C.1 C.2.1 hd rfl K
  · exact lv_i2c C.1 C.2.1 hd rfl K
theorem g_long (C : aCx X cc o d ini H') {i : Instr} {u v w : Value} (hd : decode cc pc = .ok (i, 1)) (G : aGd X H' (pc + 1) ls (w :: st) H)
    (hf : (∃ x y : Int64, i = .land ∧ u = .long y ∧ v = .long x ∧ w = .long (x &&& y)) ∨ (∃ x y : Int64, i = .lor ∧ u = .long y ∧ v = .long x ∧ w = .long (x ||| y)) ∨ (∃ (x : Int64) (y : Int32), i = .lshl ∧ u = .int y ∧ v = .long x ∧ w = .long (x <<< (y.toInt64 &&& 63))) ∨ (∃ (x : Int64) (y : Int32), i = .lshr ∧ u = .int y ∧ v = .long x ∧ w = .long (x >>> (y.toInt64 &&& 63))) ∨ (∃ (x : Int64) (y : Int32), i = .lushr ∧ u = .int y ∧ v = .long x ∧ w = .long (x.toUInt64 >>> (y.toInt64.toUInt64 &&& Int64.toUInt64 63)).toInt64)) : aGd X H' pc ls (u :: v :: st) H := by
  refine ⟨G.1, fun Hp locs cells slots lsA Rl => ?_⟩
  have K := G.2 _ _ _ _ _ Rl
  rcases hf with ⟨x, y, rfl, rfl, rfl, rfl⟩ | ⟨x, y, rfl, rfl, rfl, rfl⟩ | ⟨x, y, rfl, rfl, rfl, rfl⟩ | ⟨x, y, rfl, rfl, rfl, rfl⟩ | ⟨x, y, rfl, rfl, rfl, rfl⟩
  · exact lv_land C.1 C.2.1 hd K
  · exact lv_lor C.1 C.2.1 hd K
  · exact lv_lshl C.1 C.2.1 hd rfl K
  · exact lv_lshr C.1 C.2.1 hd rfl K
  · exact lv_lushr C.1 C.2.1 hd rfl K
theorem g_i2l (C : aCx X cc o d ini H') {x : Int32} (hd : decode cc pc = .ok (.i2l, 1)) (G : aGd X H' (pc + 1) ls (.long x.toInt64 :: st) H) : aGd X H' pc ls (.int x :: st) H :=
  ⟨G.1, fun Hp locs cells slots lsA Rl => lv_i2l C.1 C.2.1 hd rfl (G.2 _ _ _ _ _ Rl)⟩
theorem g_l2i (C : aCx X cc o d ini H') {x : Int64} (hd : decode cc pc = .ok (.l2i, 1)) (G : aGd X H' (pc + 1) ls (.int x.toInt32 :: st) H) : aGd X H' pc ls (.long x :: st) H :=
  ⟨G.1, fun Hp locs cells slots lsA Rl => lv_l2i C.1 C.2.1 hd rfl (G.2 _ _ _ _ _ Rl)⟩
theorem g_idiv (C : aCx X cc o d ini H') {x y : Int32} (hd : decode cc pc = .ok (.idiv, 1)) (hy : ¬ y = 0) (G : aGd X H' (pc + 1) ls (.int (x / y) :: st) H) : aGd X H' pc ls (.int y :: .int x :: st) H :=
  ⟨G.1, fun Hp locs cells slots lsA Rl => lv_idiv C.1 C.2.1 hd hy (G.2 _ _ _ _ _ Rl)⟩
theorem g_irem (C : aCx X cc o d ini H') {x y : Int32} (hd : decode cc pc = .ok (.irem, 1)) (hy : ¬ y = 0) (G : aGd X H' (pc + 1) ls (.int (x - x / y * y) :: st) H) : aGd X H' pc ls (.int y :: .int x :: st) H :=
  ⟨G.1, fun Hp locs cells slots lsA Rl => lv_irem C.1 C.2.1 hd hy (G.2 _ _ _ _ _ Rl)⟩
theorem g_goto (C : aCx X cc o d ini H') {f : Int} {t : Nat} (hd : decode cc pc = .ok (.goto f, 3)) (ht : (pc : Int) + f = (t : Int)) (G : aGd X H' t ls st H) : aGd X H' pc ls st H :=
  ⟨G.1, fun Hp locs cells slots lsA Rl => lv_goto C.1 C.2.1 hd ht (G.2 _ _ _ _ _ Rl)⟩
theorem g_ifnull (C : aCx X cc o d ini H') {f : Int} {x : Nat} (hd : decode cc pc = .ok (.ifnull f, 3)) (G : aGd X H' (pc + 3) ls st H) : aGd X H' pc ls (.ref x :: st) H :=
  ⟨G.1, fun Hp locs cells slots lsA Rl => lv_ifnull C.1 C.2.1 hd (G.2 _ _ _ _ _ Rl)⟩
theorem g_ifnullN (C : aCx X cc o d ini H') {f : Int} {t : Nat} (hd : decode cc pc = .ok (.ifnull f, 3)) (ht : (pc : Int) + f = (t : Int)) (G : aGd X H' t ls st H) : aGd X H' pc ls (.null :: st) H :=
  ⟨G.1, fun Hp locs cells slots lsA Rl => lv_ifnullN C.1 C.2.1 hd ht (G.2 _ _ _ _ _ Rl)⟩
theorem g_ifnn (C : aCx X cc o d ini H') {f : Int} {t x : Nat} (hd : decode cc pc = .ok (.ifnonnull f, 3)) (ht : (pc : Int) + f = (t : Int)) (G : aGd X H' t ls st H) : aGd X H' pc ls (.ref x :: st) H :=
  ⟨G.1, fun Hp locs cells slots lsA Rl => lv_ifnonnull C.1 C.2.1 hd ht (G.2 _ _ _ _ _ Rl)⟩
theorem g_ifnnN (C : aCx X cc o d ini H') {f : Int} (hd : decode cc pc = .ok (.ifnonnull f, 3)) (G : aGd X H' (pc + 3) ls st H) : aGd X H' pc ls (.null :: st) H :=
  ⟨G.1, fun Hp locs cells slots lsA Rl => lv_ifnonnullN C.1 C.2.1 hd (G.2 _ _ _ _ _ Rl)⟩
theorem g_dup (C : aCx X cc o d ini H') {v : Value} (hd : decode cc pc = .ok (.dup, 1)) (hv : v.category = 1) (G : aGd X H' (pc + 1) ls (v :: v :: st) H) : aGd X H' pc ls (v :: st) H :=
  ⟨G.1, fun Hp locs cells slots lsA Rl => lv_dup C.1 C.2.1 hd (by rw [aVal_cat]; exact hv) (G.2 _ _ _ _ _ Rl)⟩
theorem g_dup2 (C : aCx X cc o d ini H') {v w : Value} (hd : decode cc pc = .ok (.dup2, 1)) (hv : v.category = 1) (hw : w.category = 1) (G : aGd X H' (pc + 1) ls (v :: w :: v :: w :: st) H) : aGd X H' pc ls (v :: w :: st) H :=
  ⟨G.1, fun Hp locs cells slots lsA Rl => lv_dup2_11 C.1 C.2.1 hd (by rw [aVal_cat]; exact hv) (by rw [aVal_cat]; exact hw) (G.2 _ _ _ _ _ Rl)⟩
theorem g_pop (C : aCx X cc o d ini H') {v : Value} (hd : decode cc pc = .ok (.pop, 1)) (hv : v.category = 1) (G : aGd X H' (pc + 1) ls st H) : aGd X H' pc ls (v :: st) H :=
  ⟨G.1, fun Hp locs cells slots lsA Rl => lv_pop C.1 C.2.1 hd (by rw [aVal_cat]; exact hv) (G.2 _ _ _ _ _ Rl)⟩
end RL
