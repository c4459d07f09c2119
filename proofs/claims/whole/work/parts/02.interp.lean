/-! AN INTERPRETER of the bytecode over a heap of numbered cells. A cell: its kind (0.. the classes of vwCl; 20 ints, 21 bytes, 22.. references) and its length; its ints; its references, by number. Cells from 1000 on: what stood before (static arrays 1000.., texts 2000.., the script 2999). -/
abbrev aH : Type := List (Nat × Nat) × (Nat → Nat → Int32) × List (List (Option Nat))
/-- pc, length, instruction, two numbers, a constant, a switch's arms -/
abbrev aCI : Type := Nat × Nat × Instr × Nat × Nat × Int32 × List (Int32 × Nat)
abbrev aCd : Type := List (List aCI)
abbrev aSc : Type := Option (Nat × (Nat → Int32))
abbrev aLs : Type := List (Option Value)
abbrev aRs : Type := Option (Option Value × aH)
def aFetch (cd : aCd) (pc : Nat) : Option aCI := match cd[pc / 16]? with
  | some l => l.find? (fun q => q.1 == pc)
  | none => none
def aUpd (I : Nat → Nat → Int32) (a k : Nat) (x : Int32) : Nat → Nat → Int32 := fun b j => if b = a then upd (I b) k x j else I b j
def aP (P : List (List (Option Nat))) (a k : Nat) : Option Nat := (P.getD a []).getD k none
def aSetP (P : List (List (Option Nat))) (a k : Nat) (v : Option Nat) : List (List (Option Nat)) := P.set a ((P.getD a []).set k v)
def aCpy (I : Nat → Nat → Int32) (a b sp dp n : Nat) : Nat → Nat → Int32 := fun c j => if c = b then va_cpy (I a) (I b) sp dp n j else I c j
/-- a field's type: 0 int, 1 boolean, 2 reference -/
def aFT : List (List Nat) := [[2,2,2,2,2,2,0,0,0,0,0,0,0,0,0],[0,2,2,2,0],[0,0,0,0,0,0],[2,2,0,0,2],[2,0,0],[0,0,0,0,0,1,0],[2,0,0,1,0,0,0],[2,2,2,2,2,2,2,2,0],[2,2,2,0,2,0,0,0,0,2,2,2,2,2,0,2,0,1,2,2,2,2]]
def aFk (ci k : Nat) : Nat := (aFT.getD ci []).getD k 9
def aLen (ci : Nat) : Nat := (aFT.getD ci []).length
/-- the static arrays and the script -/
def aKA : List Int32 := [-1, 0, 0, 0, 1, 2, 0]
def aMM : List Int32 := [2, 3, 9, 1]
def aBO : List Int32 := [10, 11, 12, 13, 20, 0, 0, 21, 0, 30, 0, 0, 0, 0, 40, 0, 50, 0, 51, 0, 0, 60, 0, 0, 70, 71, 0, 0]
def aSt (scr : aSc) (a : Nat) : Option (Nat × (Nat → Int32)) :=
  if a = 1000 then some (7, fun j => aKA.getD j 0) else if a = 1001 then some (4, fun j => aMM.getD j 0) else if a = 1002 then some (28, fun j => aBO.getD j 0) else if a = 2999 then scr else none
/-- the texts: 0 "", 1 "loa", 2 "lso" -/
def aTx : List (List Int32) := [[], [108, 111, 97], [108, 115, 111]]
def aPush (v : Value) (ls : aLs) (i : Nat) : Option aLs :=
  if i < ls.length then (match i with
    | 0 => some (ls.set 0 (some v))
    | j + 1 => match ls[j]? with
      | some (some w) => if w.category = 2 then none else some (ls.set (j + 1) (some v))
      | _ => some (ls.set (j + 1) (some v))) else none
def aSw : List (Int32 × Nat) → Nat → Int32 → (Nat → aRs) → aRs
  | [], d, _, k => k d
  | (c, t) :: r, d, x, k => if x = c then k t else aSw r d x k
def aArgs : List Value → aLs
  | [] => []
  | v :: r => if v.category = 2 then some v :: none :: aArgs r else some v :: aArgs r
def aInit (vs : List Value) (n : Nat) : aLs := aArgs vs ++ List.replicate (n - (aArgs vs).length) none
def aCat (st : List Value) : Nat := (st.map fun v => v.category).sum
def aLoad (k : List Value → aRs) (ls : aLs) (i : Nat) (st : List Value) : aRs := match ls[i]? with
  | some (some v) => k (v :: st)
  | _ => none
def aILoad (k : List Value → aRs) (ls : aLs) (i : Nat) (st : List Value) : aRs := match ls[i]? with
  | some (some (.int v)) => k (.int v :: st)
  | _ => none
def aRLoad (k : List Value → aRs) (ls : aLs) (i : Nat) (st : List Value) : aRs := match ls[i]? with
  | some (some (.ref v)) => k (.ref v :: st)
  | some (some .null) => k (.null :: st)
  | _ => none
def aLLoad (k : List Value → aRs) (ls : aLs) (i : Nat) (st : List Value) : aRs := match ls[i]? with
  | some (some (.long v)) => k (.long v :: st)
  | _ => none
def aIStore (k : aLs → List Value → aRs) (ls : aLs) (i : Nat) (st : List Value) : aRs := match st with
  | .int v :: st => (match aPush (.int v) ls i with
    | some ls => k ls st
    | none => none)
  | _ => none
def aRStore (k : aLs → List Value → aRs) (ls : aLs) (i : Nat) (st : List Value) : aRs := match st with
  | .ref v :: st => (match aPush (.ref v) ls i with
    | some ls => k ls st
    | none => none)
  | .null :: st => (match aPush .null ls i with
    | some ls => k ls st
    | none => none)
  | _ => none
def aBin (k : List Value → aRs) (f : Int32 → Int32 → Int32) (st : List Value) : aRs := match st with
  | .int y :: .int x :: st => k (.int (f x y) :: st)
  | _ => none
def aBinL (k : List Value → aRs) (f : Int64 → Int64 → Int64) (st : List Value) : aRs := match st with
  | .long y :: .long x :: st => k (.long (f x y) :: st)
  | _ => none
def aShL (k : List Value → aRs) (f : Int64 → Int32 → Int64) (st : List Value) : aRs := match st with
  | .int y :: .long x :: st => k (.long (f x y) :: st)
  | _ => none
def aUn (k : List Value → aRs) (f : Int32 → Int32) (st : List Value) : aRs := match st with
  | .int x :: st => k (.int (f x) :: st)
  | _ => none
def aIf (k : Nat → List Value → aRs) (c : Jvm.ClassFile.Cond) (t n : Nat) (st : List Value) : aRs := match st with
  | .int x :: st => (match c with
    | .eq => if x = 0 then k t st else k n st
    | .ne => if x = 0 then k n st else k t st
    | .lt => if x < 0 then k t st else k n st
    | .ge => if 0 ≤ x then k t st else k n st
    | .gt => if 0 < x then k t st else k n st
    | .le => if x ≤ 0 then k t st else k n st)
  | _ => none
def aIc (k : Nat → List Value → aRs) (c : Jvm.ClassFile.Cond) (t n : Nat) (st : List Value) : aRs := match st with
  | .int y :: .int x :: st => (match c with
    | .eq => if x = y then k t st else k n st
    | .ne => if x = y then k n st else k t st
    | .lt => if x < y then k t st else k n st
    | .ge => if y ≤ x then k t st else k n st
    | .gt => if y < x then k t st else k n st
    | .le => if x ≤ y then k t st else k n st)
  | _ => none
def aGet (k : List Value → aRs) (ci f : Nat) (H : aH) (st : List Value) : aRs := match st with
  | .ref a :: st => if H.1[a]? = some (ci, aLen ci) then (match aFk ci f with
      | 0 => k (.int (H.2.1 a f) :: st)
      | 1 => k (.int (H.2.1 a f) :: st)
      | 2 => (match aP H.2.2 a f with
        | some b => k (.ref b :: st)
        | none => k (.null :: st))
      | _ => none) else none
  | _ => none
def aPut (k : List Value → aH → aRs) (ci f : Nat) (H : aH) (st : List Value) : aRs := match st with
  | .int x :: .ref a :: st => if H.1[a]? = some (ci, aLen ci) then (match aFk ci f with
      | 0 => k st (H.1, aUpd H.2.1 a f x, H.2.2)
      | 1 => if x = 0 ∨ x = 1 then k st (H.1, aUpd H.2.1 a f x, H.2.2) else none
      | _ => none) else none
  | .ref x :: .ref a :: st => if H.1[a]? = some (ci, aLen ci) then (match aFk ci f with
      | 2 => if f < (H.2.2.getD a []).length then k st (H.1, H.2.1, aSetP H.2.2 a f (some x)) else none
      | _ => none) else none
  | _ => none
def aIald (k : List Value → aRs) (scr : aSc) (H : aH) (st : List Value) : aRs := match st with
  | .int i :: .ref a :: st => (match H.1[a]? with
    | some q => if q.1 = 20 then (if i < 0 ∨ q.2 ≤ i.toNatClampNeg then none else k (.int (H.2.1 a i.toNatClampNeg) :: st)) else none
    | none => match aSt scr a with
      | some q => if i < 0 ∨ q.1 ≤ i.toNatClampNeg then none else k (.int (q.2 i.toNatClampNeg) :: st)
      | none => none)
  | _ => none
def aBald (k : List Value → aRs) (H : aH) (st : List Value) : aRs := match st with
  | .int i :: .ref a :: st => (match H.1[a]? with
    | some q => if q.1 = 21 then (if i < 0 ∨ q.2 ≤ i.toNatClampNeg then none else k (.int (H.2.1 a i.toNatClampNeg) :: st)) else none
    | none => if 2500 ≤ a ∧ a < 2503 then (if i < 0 ∨ (aTx.getD (a - 2500) []).length ≤ i.toNatClampNeg then none else k (.int ((aTx.getD (a - 2500) []).getD i.toNatClampNeg 0) :: st)) else none)
  | _ => none
def aAald (k : List Value → aRs) (H : aH) (st : List Value) : aRs := match st with
  | .int i :: .ref a :: st => (match H.1[a]? with
    | some q => if 22 ≤ q.1 ∧ q.1 ≤ 24 then (if i < 0 ∨ q.2 ≤ i.toNatClampNeg then none else (match aP H.2.2 a i.toNatClampNeg with
      | some b => k (.ref b :: st)
      | none => k (.null :: st))) else none
    | none => none)
  | _ => none
def aIast (k : List Value → aH → aRs) (H : aH) (st : List Value) : aRs := match st with
  | .int x :: .int i :: .ref a :: st => (match H.1[a]? with
    | some q => if q.1 = 20 then (if i < 0 ∨ q.2 ≤ i.toNatClampNeg then none else k st (H.1, aUpd H.2.1 a i.toNatClampNeg x, H.2.2)) else none
    | none => none)
  | _ => none
def aBast (k : List Value → aH → aRs) (H : aH) (st : List Value) : aRs := match st with
  | .int x :: .int i :: .ref a :: st => (match H.1[a]? with
    | some q => if q.1 = 21 then (if i < 0 ∨ q.2 ≤ i.toNatClampNeg then none else k st (H.1, aUpd H.2.1 a i.toNatClampNeg x.toInt8.toInt32, H.2.2)) else none
    | none => none)
  | _ => none
/-- an array of references takes an object of its kind's class -/
def aKc (kd : Nat) : Nat := if kd = 22 then 2 else if kd = 23 then 5 else 4
def aAast (k : List Value → aH → aRs) (H : aH) (st : List Value) : aRs := match st with
  | .ref x :: .int i :: .ref a :: st => (match H.1[a]? with
    | some q => if 22 ≤ q.1 ∧ q.1 ≤ 24 then (if i < 0 ∨ q.2 ≤ i.toNatClampNeg then none else (if H.1[x]? = some (aKc q.1, aLen (aKc q.1)) ∧ i.toNatClampNeg < (H.2.2.getD a []).length then k st (H.1, H.2.1, aSetP H.2.2 a i.toNatClampNeg (some x)) else none)) else none
    | none => none)
  | _ => none
def aAlen (k : List Value → aRs) (scr : aSc) (H : aH) (st : List Value) : aRs := match st with
  | .ref a :: st => (match H.1[a]? with
    | some q => if 20 ≤ q.1 ∧ q.1 ≤ 24 then k (.int (Int32.ofNat q.2) :: st) else none
    | none => match aSt scr a with
      | some q => k (.int (Int32.ofNat q.1) :: st)
      | none => if 2500 ≤ a ∧ a < 2503 then k (.int (Int32.ofNat (aTx.getD (a - 2500) []).length) :: st) else none)
  | _ => none
/-- a new cell of a kind, with n places -/
def aNew (kd n : Nat) (H : aH) : aH := (H.1 ++ [(kd, n)], fun b j => if b = H.1.length then 0 else H.2.1 b j, H.2.2 ++ [if kd = 20 ∨ kd = 21 then [] else List.replicate n none])
def aNewA (k : List Value → aH → aRs) (kd : Nat) (H : aH) (st : List Value) : aRs := match st with
  | .int n :: st => if n < 0 ∨ 1000 < n.toNatClampNeg ∨ 900 < H.1.length then none else k (.ref H.1.length :: st) (aNew kd n.toNatClampNeg H)
  | _ => none
def aAty : ArrayType → Nat
  | .int => 20
  | .byte => 21
  | _ => 99
/-- System.arraycopy of ints or bytes -/
def aCopy (k : List Value → aH → aRs) (H : aH) (st : List Value) : aRs := match st with
  | .int n :: .int dp :: .ref b :: .int sp :: .ref a :: st => (match H.1[a]?, H.1[b]? with
    | some q, some r => if (q.1 = 20 ∨ q.1 = 21) ∧ aCat st ≤ 8 ∧ r.1 = q.1 ∧ ¬ sp < 0 ∧ ¬ dp < 0 ∧ ¬ n < 0 ∧ sp.toNatClampNeg + n.toNatClampNeg ≤ q.2 ∧ dp.toNatClampNeg + n.toNatClampNeg ≤ r.2 ∧ (q.1 = 21 → ∀ i, i < n.toNatClampNeg → fits .byte (.int (H.2.1 a (sp.toNatClampNeg + i))) = true)
        then k st (H.1, aCpy H.2.1 a b sp.toNatClampNeg dp.toNatClampNeg n.toNatClampNeg, H.2.2) else none
    | _, _ => none)
  | _ => none
def aSplit (n : Nat) (st : List Value) : List Value × List Value := ((st.take n).reverse, st.drop n)
def aRet (k : List Value → aH → aRs) (r : aRs) (st : List Value) : aRs := match r with
  | some (some v, H) => k (v :: st) H
  | some (none, H) => k st H
  | none => none
/-- a call: x the method, y how many arguments (the receiver counts). 900.. are the library's own -/
def aCallI (k : List Value → aH → aRs) (cl : Nat → List Value → aH → aRs) (x y : Nat) (H : aH) (st : List Value) : aRs :=
  if y ≤ st.length ∧ aCat (st.drop y) ≤ 8 then aRet k (cl x (st.take y).reverse H) (st.drop y) else none
/-- of an object: m arguments under which the receiver lies, one of class ci -/
def aCallV (k : List Value → aH → aRs) (cl : Nat → List Value → aH → aRs) (x m ci : Nat) (H : aH) (st : List Value) : aRs := match st[m]? with
  | some (.ref b) => if H.1[b]? = some (ci, aLen ci) ∨ (ci = 12 ∧ 2000 ≤ b ∧ b < 2003) then aCallI k cl x (m + 1) H st else none
  | _ => none
def aCallC (k : List Value → aH → aRs) (cl : Nat → List Value → aH → aRs) (x m : Nat) (H : aH) (st : List Value) : aRs := match st[m]? with
  | some (.ref _) => aCallI k cl x (m + 1) H st
  | _ => none
def aMax (k : List Value → aRs) (st : List Value) : aRs := match st with
  | .int y :: .int x :: st => if aCat st ≤ 8 then k (.int (if x < y then y else x) :: st) else none
  | _ => none
def aMin (k : List Value → aRs) (st : List Value) : aRs := match st with
  | .int y :: .int x :: st => if aCat st ≤ 8 then k (.int (if y < x then y else x) :: st) else none
  | _ => none
/-- a field of a text: 0 its bytes, 1 its coder -/
def aGetS (k : List Value → aRs) (y : Nat) (st : List Value) : aRs := match st with
  | .ref a :: st => if 2000 ≤ a ∧ a < 2003 then (if y = 0 then k (.ref (a + 500) :: st) else k (.int 0 :: st)) else none
  | _ => none
def aPop (k : List Value → aRs) (st : List Value) : aRs := match st with
  | .ref _ :: st => if aCat st ≤ 8 then k st else none
  | _ => none
def aDiv (k : List Value → aRs) (st : List Value) : aRs := match st with
  | .int y :: .int x :: st => if y = 0 then none else k (.int (x / y) :: st)
  | _ => none
def aRem (k : List Value → aRs) (st : List Value) : aRs := match st with
  | .int y :: .int x :: st => if y = 0 then none else k (.int (x - x / y * y) :: st)
  | _ => none
def aI2l (k : List Value → aRs) (st : List Value) : aRs := match st with
  | .int x :: st => k (.long x.toInt64 :: st)
  | _ => none
def aL2i (k : List Value → aRs) (st : List Value) : aRs := match st with
  | .long x :: st => k (.int x.toInt32 :: st)
  | _ => none
def aNul (k : Nat → List Value → aRs) (t n : Nat) (st : List Value) : aRs := match st with
  | .null :: st => k t st
  | .ref _ :: st => k n st
  | _ => none
def aSwS (k : Nat → List Value → aRs) (sw : List (Int32 × Nat)) (d : Nat) (st : List Value) : aRs := match st with
  | .int v :: st => aSw sw d v (fun p => k p st)
  | _ => none
def aInc (k : aLs → aRs) (ls : aLs) (n : Nat) (c : Int32) : aRs := match ls[n]? with
  | some (some (.int v)) => (match aPush (.int (v + c)) ls n with
    | some ls => k ls
    | none => none)
  | _ => none
def aDup (k : List Value → aRs) (st : List Value) : aRs := match st with
  | v :: st => if v.category = 1 then k (v :: v :: st) else none
  | _ => none
def aDup2 (k : List Value → aRs) (st : List Value) : aRs := match st with
  | v :: w :: st => if v.category = 1 ∧ w.category = 1 then k (v :: w :: v :: w :: st) else none
  | _ => none
def aPop1 (k : List Value → aRs) (st : List Value) : aRs := match st with
  | v :: st => if v.category = 1 then k st else none
  | _ => none
def aIret (rt : Nat) (st : List Value) (H : aH) : aRs := match st with
  | [.int v] => if rt = 1 then (if v = 0 ∨ v = 1 then some (some (.int v), H) else none) else if rt = 0 then some (some (.int v), H) else none
  | _ => none
def aAret (rt : Nat) (st : List Value) (H : aH) : aRs := match st with
  | [.ref a] => if rt = 2 then some (some (.ref a), H) else none
  | [.null] => if rt = 2 then some (some .null, H) else none
  | _ => none
def aVret (rt : Nat) (st : List Value) (H : aH) : aRs := match st with
  | [] => if rt = 3 then some (none, H) else none
  | _ => none
def aStep (cl : Nat → List Value → aH → aRs) (scr : aSc) (rt : Nat) (k : Nat → aLs → List Value → aH → aRs) (q : aCI) (ls : aLs) (st : List Value) (H : aH) : aRs :=
  match q with
  | (pc, len, i, x, y, c, sw) => match i with
    | .aload_n n => aRLoad (fun st => k (pc + len) ls st H) ls n.val st
    | .aload n => aRLoad (fun st => k (pc + len) ls st H) ls n st
    | .iload_n n => aILoad (fun st => k (pc + len) ls st H) ls n.val st
    | .iload n => aILoad (fun st => k (pc + len) ls st H) ls n st
    | .lload_n n => aLLoad (fun st => k (pc + len) ls st H) ls n.val st
    | .istore_n n => aIStore (fun ls st => k (pc + len) ls st H) ls n.val st
    | .istore n => aIStore (fun ls st => k (pc + len) ls st H) ls n st
    | .astore_n n => aRStore (fun ls st => k (pc + len) ls st H) ls n.val st
    | .astore n => aRStore (fun ls st => k (pc + len) ls st H) ls n st
    | .aconst_null => k (pc + len) ls (.null :: st) H
    | .iconst _ => k (pc + len) ls (.int c :: st) H
    | .bipush _ => k (pc + len) ls (.int c :: st) H
    | .sipush _ => k (pc + len) ls (.int c :: st) H
    | .ldc _ => if y = 0 then k (pc + len) ls (.int c :: st) H else k (pc + len) ls (.ref x :: st) H
    | .ldc_w _ => k (pc + len) ls (.int c :: st) H
    | .ldc2_w _ => k (pc + len) ls (.long (Int64.ofNat x) :: st) H
    | .getfield _ => if x = 50 then aGetS (fun st => k (pc + len) ls st H) y st else aGet (fun st => k (pc + len) ls st H) x y H st
    | .putfield _ => aPut (fun st H => k (pc + len) ls st H) x y H st
    | .getstatic _ => if x = 1 then k (pc + len) ls (.int 1 :: st) H else k (pc + len) ls (.ref x :: st) H
    | .iadd => aBin (fun st => k (pc + len) ls st H) (fun x y => x + y) st
    | .isub => aBin (fun st => k (pc + len) ls st H) (fun x y => x - y) st
    | .imul => aBin (fun st => k (pc + len) ls st H) (fun x y => x * y) st
    | .idiv => aDiv (fun st => k (pc + len) ls st H) st
    | .irem => aRem (fun st => k (pc + len) ls st H) st
    | .ineg => aUn (fun st => k (pc + len) ls st H) (fun x => -x) st
    | .iand => aBin (fun st => k (pc + len) ls st H) (fun x y => x &&& y) st
    | .ior => aBin (fun st => k (pc + len) ls st H) (fun x y => x ||| y) st
    | .ixor => aBin (fun st => k (pc + len) ls st H) (fun x y => x ^^^ y) st
    | .ishl => aBin (fun st => k (pc + len) ls st H) (fun x y => x <<< (y &&& 31)) st
    | .ishr => aBin (fun st => k (pc + len) ls st H) (fun x y => x >>> (y &&& 31)) st
    | .iushr => aBin (fun st => k (pc + len) ls st H) (fun x y => (x.toUInt32 >>> (y.toUInt32 &&& Int32.toUInt32 31)).toInt32) st
    | .lshl => aShL (fun st => k (pc + len) ls st H) (fun x y => x <<< (y.toInt64 &&& 63)) st
    | .lshr => aShL (fun st => k (pc + len) ls st H) (fun x y => x >>> (y.toInt64 &&& 63)) st
    | .lushr => aShL (fun st => k (pc + len) ls st H) (fun x y => (x.toUInt64 >>> (y.toInt64.toUInt64 &&& Int64.toUInt64 63)).toInt64) st
    | .land => aBinL (fun st => k (pc + len) ls st H) (fun x y => x &&& y) st
    | .lor => aBinL (fun st => k (pc + len) ls st H) (fun x y => x ||| y) st
    | .i2l => aI2l (fun st => k (pc + len) ls st H) st
    | .l2i => aL2i (fun st => k (pc + len) ls st H) st
    | .i2b => aUn (fun st => k (pc + len) ls st H) (fun x => x.toInt8.toInt32) st
    | .i2s => aUn (fun st => k (pc + len) ls st H) (fun x => x.toInt16.toInt32) st
    | .i2c => aUn (fun st => k (pc + len) ls st H) (fun x => (x.toUInt32 % 65536).toInt32) st
    | .ifCond cd _ => aIf (fun p st => k p ls st H) cd x (pc + len) st
    | .if_icmp cd _ => aIc (fun p st => k p ls st H) cd x (pc + len) st
    | .ifnull _ => aNul (fun p st => k p ls st H) x (pc + len) st
    | .ifnonnull _ => aNul (fun p st => k p ls st H) (pc + len) x st
    | .goto _ => k x ls st H
    | .tableswitch _ _ _ _ => aSwS (fun p st => k p ls st H) sw x st
    | .lookupswitch _ _ => aSwS (fun p st => k p ls st H) sw x st
    | .iinc n _ => aInc (fun ls => k (pc + len) ls st H) ls n c
    | .dup => aDup (fun st => k (pc + len) ls st H) st
    | .dup2 => aDup2 (fun st => k (pc + len) ls st H) st
    | .pop => aPop1 (fun st => k (pc + len) ls st H) st
    | .newarray t => aNewA (fun st H => k (pc + len) ls st H) (aAty t) H st
    | .anewarray _ => aNewA (fun st H => k (pc + len) ls st H) x H st
    | .new _ => if 900 < H.1.length then none else k (pc + len) ls (.ref H.1.length :: st) (aNew x (aLen x) H)
    | .iaload => aIald (fun st => k (pc + len) ls st H) scr H st
    | .baload => aBald (fun st => k (pc + len) ls st H) H st
    | .aaload => aAald (fun st => k (pc + len) ls st H) H st
    | .iastore => aIast (fun st H => k (pc + len) ls st H) H st
    | .bastore => aBast (fun st H => k (pc + len) ls st H) H st
    | .aastore => aAast (fun st H => k (pc + len) ls st H) H st
    | .arraylength => aAlen (fun st => k (pc + len) ls st H) scr H st
    | .ireturn => aIret rt st H
    | .areturn => aAret rt st H
    | .return_ => aVret rt st H
    | .invokevirtual _ => if x < 900 then aCallV (fun st H => k (pc + len) ls st H) cl x (y % 100) (y / 100) H st else none
    | .invokestatic _ => if x = 900 then aMax (fun st => k (pc + len) ls st H) st else if x = 901 then aMin (fun st => k (pc + len) ls st H) st else if x = 902 then aCopy (fun st H => k (pc + len) ls st H) H st else if x < 900 then aCallI (fun st H => k (pc + len) ls st H) cl x y H st else none
    | .invokespecial _ => if x = 904 then aPop (fun st => k (pc + len) ls st H) st else if x < 900 then aCallC (fun st H => k (pc + len) ls st H) cl x y H st else none
    | _ => none
def aRun (cl : Nat → List Value → aH → aRs) (scr : aSc) (cd : aCd) (rt : Nat) : Nat → Nat → aLs → List Value → aH → aRs
  | 0, _, _, _, _ => none
  | n + 1, pc, ls, st, H => match aFetch cd pc with
    | some q => aStep cl scr rt (aRun cl scr cd rt n) q ls st H
    | none => none
/-- a method: its name, bytes, locals, return type, the class it stands in, its arguments (the receiver counts), static (0), of an object (1) or a constructor (2), the code -/
abbrev aMeth : Type := MethodName × ByteArray × Nat × Option FieldType × String × Nat × Nat × aCd
def aRt : Option FieldType → Nat
  | some .int => 0
  | some .boolean => 1
  | some .byte => 1
  | some (.object _) => 2
  | none => 3
  | _ => 9
/-- with fuel enough -/
noncomputable def aGo (cl : Nat → List Value → aH → aRs) (scr : aSc) (cd : aCd) (rt : Nat) (pc : Nat) (ls : aLs) (st : List Value) (H : aH) : aRs :=
  @dite _ (∃ (r : Option Value × aH) (n : Nat), aRun cl scr cd rt n pc ls st H = some r) (Classical.propDecidable _) (fun h => some h.choose) (fun _ => none)
noncomputable def aCall (mt : List aMeth) : Nat → Nat → List Value → aH → aRs
  | 0, _, _, _ => none
  | d + 1, x, vs, H => match mt[x]? with
    | some q => if vs.length = q.2.2.2.2.2.1 ∧ (aArgs vs).length ≤ q.2.2.1 ∧ q.2.2.1 ≤ 13 then aGo (aCall mt d) none q.2.2.2.2.2.2.2 (aRt q.2.2.2.1) 0 (aInit vs q.2.2.1) [] H else none
    | none => none
/-- the same, with fuel: what the kernel can count out -/
def aCallF (mt : List aMeth) (f : Nat) : Nat → Nat → List Value → aH → aRs
  | 0, _, _, _ => none
  | d + 1, x, vs, H => match mt[x]? with
    | some q => if vs.length = q.2.2.2.2.2.1 ∧ (aArgs vs).length ≤ q.2.2.1 ∧ q.2.2.1 ≤ 13 then aRun (aCallF mt f d) none q.2.2.2.2.2.2.2 (aRt q.2.2.2.1) f 0 (aInit vs q.2.2.1) [] H else none
    | none => none
