/-! THE LAW: its rows, and a lemma a case (by program gen89.py) -/
def lw_sw : List (Int32 × Nat) := [(0, 212), (1, 235), (2, 268), (3, 301), (4, 334), (5, 377), (6, 430), (7, 463), (8, 506), (9, 529), (10, 592), (11, 615), (12, 638), (13, 691), (14, 724), (15, 757), (16, 790), (17, 813), (18, 836), (19, 859), (20, 902), (21, 935), (22, 958), (23, 981), (24, 1014), (25, 1047), (26, 1070), (27, 1103), (28, 1116), (29, 1159), (30, 1182), (31, 1225), (32, 1268), (33, 1331), (34, 1354), (35, 1377), (36, 1390), (37, 1403), (38, 1426), (39, 1439), (40, 1462)]
theorem w_begin {cl : Nat → List Value → aH → aRs} {L : Nat} {xs : Nat → Int32} : (∀ ls st H, aGo cl (some (L, xs)) cd_law 1 0 ls st H = if 900 < H.1.length then none else aGo cl (some (L, xs)) cd_law 1 3 ls (.ref H.1.length :: st) (aNew 7 (aLen 7) H)) ∧
  (∀ ls st H, aGo cl (some (L, xs)) cd_law 1 3 ls st H = aDup (fun st => aGo cl (some (L, xs)) cd_law 1 4 ls st H) st) ∧
  (∀ ls st H, aGo cl (some (L, xs)) cd_law 1 4 ls st H = aCallC (fun st H => aGo cl (some (L, xs)) cd_law 1 7 ls st H) cl 63 0 H st) ∧
  (∀ ls st H, aGo cl (some (L, xs)) cd_law 1 7 ls st H = aRStore (fun ls st => aGo cl (some (L, xs)) cd_law 1 8 ls st H) ls 1 st) ∧
  (∀ ls st H, aGo cl (some (L, xs)) cd_law 1 8 ls st H = if 900 < H.1.length then none else aGo cl (some (L, xs)) cd_law 1 11 ls (.ref H.1.length :: st) (aNew 8 (aLen 8) H)) ∧
  (∀ ls st H, aGo cl (some (L, xs)) cd_law 1 11 ls st H = aDup (fun st => aGo cl (some (L, xs)) cd_law 1 12 ls st H) st) ∧
  (∀ ls st H, aGo cl (some (L, xs)) cd_law 1 12 ls st H = aCallC (fun st H => aGo cl (some (L, xs)) cd_law 1 15 ls st H) cl 115 0 H st) ∧
  (∀ ls st H, aGo cl (some (L, xs)) cd_law 1 15 ls st H = aRStore (fun ls st => aGo cl (some (L, xs)) cd_law 1 16 ls st H) ls 2 st) ∧
  (∀ ls st H, aGo cl (some (L, xs)) cd_law 1 16 ls st H = aGo cl (some (L, xs)) cd_law 1 17 ls (.int 0 :: st) H) ∧
  (∀ ls st H, aGo cl (some (L, xs)) cd_law 1 17 ls st H = aIStore (fun ls st => aGo cl (some (L, xs)) cd_law 1 18 ls st H) ls 3 st) :=
  ⟨fun _ _ _ => (aGo_s rfl).trans rfl, fun _ _ _ => (aGo_s rfl).trans rfl, fun _ _ _ => (aGo_s rfl).trans rfl, fun _ _ _ => (aGo_s rfl).trans rfl, fun _ _ _ => (aGo_s rfl).trans rfl, fun _ _ _ => (aGo_s rfl).trans rfl, fun _ _ _ => (aGo_s rfl).trans rfl, fun _ _ _ => (aGo_s rfl).trans rfl, fun _ _ _ => (aGo_s rfl).trans rfl, fun _ _ _ => (aGo_s rfl).trans rfl⟩
theorem w_head {cl : Nat → List Value → aH → aRs} {L : Nat} {xs : Nat → Int32} : (∀ ls st H, aGo cl (some (L, xs)) cd_law 1 19 ls st H = aRLoad (fun st => aGo cl (some (L, xs)) cd_law 1 20 ls st H) ls 0 st) ∧
  (∀ ls st H, aGo cl (some (L, xs)) cd_law 1 20 ls st H = aAlen (fun st => aGo cl (some (L, xs)) cd_law 1 21 ls st H) (some (L, xs)) H st) ∧
  (∀ ls st H, aGo cl (some (L, xs)) cd_law 1 21 ls st H = aGo cl (some (L, xs)) cd_law 1 23 ls (.int 6 :: st) H) ∧
  (∀ ls st H, aGo cl (some (L, xs)) cd_law 1 23 ls st H = aBin (fun st => aGo cl (some (L, xs)) cd_law 1 24 ls st H) (fun x y => x - y) st) ∧
  (∀ ls st H, aGo cl (some (L, xs)) cd_law 1 24 ls st H = aIc (fun p st => aGo cl (some (L, xs)) cd_law 1 p ls st H) .gt 1491 27 st) ∧
  (∀ ls st H, aGo cl (some (L, xs)) cd_law 1 27 ls st H = aRLoad (fun st => aGo cl (some (L, xs)) cd_law 1 28 ls st H) ls 0 st) ∧
  (∀ ls st H, aGo cl (some (L, xs)) cd_law 1 28 ls st H = aILoad (fun st => aGo cl (some (L, xs)) cd_law 1 29 ls st H) ls 3 st) ∧
  (∀ ls st H, aGo cl (some (L, xs)) cd_law 1 29 ls st H = aIald (fun st => aGo cl (some (L, xs)) cd_law 1 30 ls st H) (some (L, xs)) H st) ∧
  (∀ ls st H, aGo cl (some (L, xs)) cd_law 1 30 ls st H = aGo cl (some (L, xs)) cd_law 1 32 ls (.int 63 :: st) H) ∧
  (∀ ls st H, aGo cl (some (L, xs)) cd_law 1 32 ls st H = aBin (fun st => aGo cl (some (L, xs)) cd_law 1 33 ls st H) (fun x y => x &&& y) st) :=
  ⟨fun _ _ _ => (aGo_s rfl).trans rfl, fun _ _ _ => (aGo_s rfl).trans rfl, fun _ _ _ => (aGo_s rfl).trans rfl, fun _ _ _ => (aGo_s rfl).trans rfl, fun _ _ _ => (aGo_s rfl).trans rfl, fun _ _ _ => (aGo_s rfl).trans rfl, fun _ _ _ => (aGo_s rfl).trans rfl, fun _ _ _ => (aGo_s rfl).trans rfl, fun _ _ _ => (aGo_s rfl).trans rfl, fun _ _ _ => (aGo_s rfl).trans rfl⟩
theorem w_h18 {cl : Nat → List Value → aH → aRs} {L : Nat} {xs : Nat → Int32} : (∀ ls st H, aGo cl (some (L, xs)) cd_law 1 18 ls st H = aILoad (fun st => aGo cl (some (L, xs)) cd_law 1 19 ls st H) ls 3 st) :=
  fun _ _ _ => (aGo_s rfl).trans rfl
theorem w_sw {cl : Nat → List Value → aH → aRs} {L : Nat} {xs : Nat → Int32} : (∀ ls st H, aGo cl (some (L, xs)) cd_law 1 33 ls st H = aSwS (fun p st => aGo cl (some (L, xs)) cd_law 1 p ls st H) lw_sw 1485 st) :=
  fun _ _ _ => (aGo_s rfl).trans rfl
theorem w_next {cl : Nat → List Value → aH → aRs} {L : Nat} {xs : Nat → Int32} : (∀ ls st H, aGo cl (some (L, xs)) cd_law 1 1485 ls st H = aInc (fun ls => aGo cl (some (L, xs)) cd_law 1 1488 ls st H) ls 3 6) ∧
  (∀ ls st H, aGo cl (some (L, xs)) cd_law 1 1488 ls st H = aGo cl (some (L, xs)) cd_law 1 18 ls st H) ∧
  (∀ ls st H, aGo cl (some (L, xs)) cd_law 1 1491 ls st H = aGo cl (some (L, xs)) cd_law 1 1492 ls (.int 1 :: st) H) ∧
  (∀ ls st H, aGo cl (some (L, xs)) cd_law 1 1492 ls st H = aIret 1 st H) :=
  ⟨fun _ _ _ => (aGo_s rfl).trans rfl, fun _ _ _ => (aGo_s rfl).trans rfl, fun _ _ _ => (aGo_s rfl).trans rfl, fun _ _ _ => (aGo_s rfl).trans rfl⟩
theorem lw_ld {L i : Nat} {xs : Nat → Int32} (hi : i + 6 ≤ L) (hL : L ≤ 3072) : ∀ j, j < 6 → ∀ (k : List Value → aRs) (I : Nat → Nat → Int32) (x y : Option Nat) (st : List Value), aIald k (some (L, xs)) (SH, I, PP x y) (.int (nI i + nI j) :: .ref 2999 :: st) = k (.int (xs (i + j)) :: st) := by
  intro j hj k I x y st
  have e : SH[2999]? = none := rfl
  have e2 : nI i + nI j = nI (i + j) := nI_add i j
  rw [e2]
  simp [aIald, e, aSt, toNat_nI (show i + j < 2 ^ 31 by omega), nI_lt0 (show i + j < 2 ^ 31 by omega), show ¬ L ≤ i + j by omega]
theorem lw_l {L i : Nat} {xs : Nat → Int32} (hi : i + 6 ≤ L) (hL : L ≤ 3072) : (∀ (k : List Value → aRs) (I : Nat → Nat → Int32) (x y : Option Nat) (st : List Value), aIald k (some (L, xs)) (SH, I, PP x y) (.int (nI i + 1) :: .ref 2999 :: st) = k (.int (xs (i + 1)) :: st)) ∧ (∀ (k : List Value → aRs) (I : Nat → Nat → Int32) (x y : Option Nat) (st : List Value), aIald k (some (L, xs)) (SH, I, PP x y) (.int (nI i + 2) :: .ref 2999 :: st) = k (.int (xs (i + 2)) :: st)) ∧ (∀ (k : List Value → aRs) (I : Nat → Nat → Int32) (x y : Option Nat) (st : List Value), aIald k (some (L, xs)) (SH, I, PP x y) (.int (nI i + 3) :: .ref 2999 :: st) = k (.int (xs (i + 3)) :: st)) ∧ (∀ (k : List Value → aRs) (I : Nat → Nat → Int32) (x y : Option Nat) (st : List Value), aIald k (some (L, xs)) (SH, I, PP x y) (.int (nI i + 4) :: .ref 2999 :: st) = k (.int (xs (i + 4)) :: st)) ∧ (∀ (k : List Value → aRs) (I : Nat → Nat → Int32) (x y : Option Nat) (st : List Value), aIald k (some (L, xs)) (SH, I, PP x y) (.int (nI i + 5) :: .ref 2999 :: st) = k (.int (xs (i + 5)) :: st)) := ⟨lw_ld hi hL 1 (by decide), lw_ld hi hL 2 (by decide), lw_ld hi hL 3 (by decide), lw_ld hi hL 4 (by decide), lw_ld hi hL 5 (by decide)⟩
/-- what the law's loop stands on -/
abbrev lwLs (i : Nat) : aLs := [some (.ref 2999), some (.ref 0), some (.ref 113), some (.int (nI i))]
theorem w_0 {cl : Nat → List Value → aH → aRs} {L : Nat} {xs : Nat → Int32} : (∀ ls st H, aGo cl (some (L, xs)) cd_law 1 212 ls st H = aRLoad (fun st => aGo cl (some (L, xs)) cd_law 1 213 ls st H) ls 1 st) ∧
  (∀ ls st H, aGo cl (some (L, xs)) cd_law 1 213 ls st H = aRLoad (fun st => aGo cl (some (L, xs)) cd_law 1 214 ls st H) ls 0 st) ∧
  (∀ ls st H, aGo cl (some (L, xs)) cd_law 1 214 ls st H = aILoad (fun st => aGo cl (some (L, xs)) cd_law 1 215 ls st H) ls 3 st) ∧
  (∀ ls st H, aGo cl (some (L, xs)) cd_law 1 215 ls st H = aGo cl (some (L, xs)) cd_law 1 216 ls (.int 1 :: st) H) ∧
  (∀ ls st H, aGo cl (some (L, xs)) cd_law 1 216 ls st H = aBin (fun st => aGo cl (some (L, xs)) cd_law 1 217 ls st H) (fun x y => x + y) st) ∧
  (∀ ls st H, aGo cl (some (L, xs)) cd_law 1 217 ls st H = aIald (fun st => aGo cl (some (L, xs)) cd_law 1 218 ls st H) (some (L, xs)) H st) ∧
  (∀ ls st H, aGo cl (some (L, xs)) cd_law 1 218 ls st H = aCallV (fun st H => aGo cl (some (L, xs)) cd_law 1 221 ls st H) cl 64 1 7 H st) ∧
  (∀ ls st H, aGo cl (some (L, xs)) cd_law 1 221 ls st H = aRLoad (fun st => aGo cl (some (L, xs)) cd_law 1 222 ls st H) ls 2 st) ∧
  (∀ ls st H, aGo cl (some (L, xs)) cd_law 1 222 ls st H = aRLoad (fun st => aGo cl (some (L, xs)) cd_law 1 223 ls st H) ls 0 st) ∧
  (∀ ls st H, aGo cl (some (L, xs)) cd_law 1 223 ls st H = aILoad (fun st => aGo cl (some (L, xs)) cd_law 1 224 ls st H) ls 3 st) ∧
  (∀ ls st H, aGo cl (some (L, xs)) cd_law 1 224 ls st H = aGo cl (some (L, xs)) cd_law 1 225 ls (.int 1 :: st) H) ∧
  (∀ ls st H, aGo cl (some (L, xs)) cd_law 1 225 ls st H = aBin (fun st => aGo cl (some (L, xs)) cd_law 1 226 ls st H) (fun x y => x + y) st) ∧
  (∀ ls st H, aGo cl (some (L, xs)) cd_law 1 226 ls st H = aIald (fun st => aGo cl (some (L, xs)) cd_law 1 227 ls st H) (some (L, xs)) H st) ∧
  (∀ ls st H, aGo cl (some (L, xs)) cd_law 1 227 ls st H = aCallV (fun st H => aGo cl (some (L, xs)) cd_law 1 230 ls st H) cl 164 1 8 H st) ∧
  (∀ ls st H, aGo cl (some (L, xs)) cd_law 1 230 ls st H = aIc (fun p st => aGo cl (some (L, xs)) cd_law 1 p ls st H) .eq 1485 233 st) :=
  ⟨fun _ _ _ => (aGo_s rfl).trans rfl, fun _ _ _ => (aGo_s rfl).trans rfl, fun _ _ _ => (aGo_s rfl).trans rfl, fun _ _ _ => (aGo_s rfl).trans rfl, fun _ _ _ => (aGo_s rfl).trans rfl, fun _ _ _ => (aGo_s rfl).trans rfl, fun _ _ _ => (aGo_s rfl).trans rfl, fun _ _ _ => (aGo_s rfl).trans rfl, fun _ _ _ => (aGo_s rfl).trans rfl, fun _ _ _ => (aGo_s rfl).trans rfl, fun _ _ _ => (aGo_s rfl).trans rfl, fun _ _ _ => (aGo_s rfl).trans rfl, fun _ _ _ => (aGo_s rfl).trans rfl, fun _ _ _ => (aGo_s rfl).trans rfl, fun _ _ _ => (aGo_s rfl).trans rfl⟩
theorem lw_0 {cl : Nat → List Value → aH → aRs} {L i : Nat} {xs : Nat → Int32} {I I1 I2 : Nat → Nat → Int32} {x y x1 y1 : Option Nat} {v : Int32} (hi : i + 6 ≤ L) (hL : L ≤ 3072) (h1 : cl 64 [.ref 0, .int (xs (i + 1))] (HH I x y) = some (some (.int v), HH I1 x1 y1)) (h2 : cl 164 [.ref 113, .int (xs (i + 1))] (HH I1 x1 y1) = some (some (.int v), HH I2 x1 y1)) : aGo cl (some (L, xs)) cd_law 1 212 (lwLs i) [] (HH I x y) = aGo cl (some (L, xs)) cd_law 1 1485 (lwLs i) [] (HH I2 x1 y1) := by
  simp [w_0, aILoad, aRLoad, aLLoad, aIStore, aRStore, aPush, aBin, aBinL, aShL, aUn, aIf, aIc, aGet, aPut, aBald, aAald, aIast, aBast, aAast, aAlen, aCopy, aCallV, aCallC, aCallI, aRet, aCat, aMax, aMin, aDiv, aRem, aI2l, aL2i, aNul, aSwS, aSw, aInc, aDup, aDup2, aPop1, aIret, aAret, aVret, aLen, aFk, aFT, Value.category, c_sh, m_sh, lw_l hi hL, h1, h2]
theorem w_1 {cl : Nat → List Value → aH → aRs} {L : Nat} {xs : Nat → Int32} : (∀ ls st H, aGo cl (some (L, xs)) cd_law 1 235 ls st H = aRLoad (fun st => aGo cl (some (L, xs)) cd_law 1 236 ls st H) ls 1 st) ∧
  (∀ ls st H, aGo cl (some (L, xs)) cd_law 1 236 ls st H = aRLoad (fun st => aGo cl (some (L, xs)) cd_law 1 237 ls st H) ls 0 st) ∧
  (∀ ls st H, aGo cl (some (L, xs)) cd_law 1 237 ls st H = aILoad (fun st => aGo cl (some (L, xs)) cd_law 1 238 ls st H) ls 3 st) ∧
  (∀ ls st H, aGo cl (some (L, xs)) cd_law 1 238 ls st H = aGo cl (some (L, xs)) cd_law 1 239 ls (.int 1 :: st) H) ∧
  (∀ ls st H, aGo cl (some (L, xs)) cd_law 1 239 ls st H = aBin (fun st => aGo cl (some (L, xs)) cd_law 1 240 ls st H) (fun x y => x + y) st) ∧
  (∀ ls st H, aGo cl (some (L, xs)) cd_law 1 240 ls st H = aIald (fun st => aGo cl (some (L, xs)) cd_law 1 241 ls st H) (some (L, xs)) H st) ∧
  (∀ ls st H, aGo cl (some (L, xs)) cd_law 1 241 ls st H = aRLoad (fun st => aGo cl (some (L, xs)) cd_law 1 242 ls st H) ls 0 st) ∧
  (∀ ls st H, aGo cl (some (L, xs)) cd_law 1 242 ls st H = aILoad (fun st => aGo cl (some (L, xs)) cd_law 1 243 ls st H) ls 3 st) ∧
  (∀ ls st H, aGo cl (some (L, xs)) cd_law 1 243 ls st H = aGo cl (some (L, xs)) cd_law 1 244 ls (.int 2 :: st) H) ∧
  (∀ ls st H, aGo cl (some (L, xs)) cd_law 1 244 ls st H = aBin (fun st => aGo cl (some (L, xs)) cd_law 1 245 ls st H) (fun x y => x + y) st) ∧
  (∀ ls st H, aGo cl (some (L, xs)) cd_law 1 245 ls st H = aIald (fun st => aGo cl (some (L, xs)) cd_law 1 246 ls st H) (some (L, xs)) H st) ∧
  (∀ ls st H, aGo cl (some (L, xs)) cd_law 1 246 ls st H = aCallV (fun st H => aGo cl (some (L, xs)) cd_law 1 249 ls st H) cl 65 2 7 H st) ∧
  (∀ ls st H, aGo cl (some (L, xs)) cd_law 1 249 ls st H = aRLoad (fun st => aGo cl (some (L, xs)) cd_law 1 250 ls st H) ls 2 st) ∧
  (∀ ls st H, aGo cl (some (L, xs)) cd_law 1 250 ls st H = aRLoad (fun st => aGo cl (some (L, xs)) cd_law 1 251 ls st H) ls 0 st) ∧
  (∀ ls st H, aGo cl (some (L, xs)) cd_law 1 251 ls st H = aILoad (fun st => aGo cl (some (L, xs)) cd_law 1 252 ls st H) ls 3 st) ∧
  (∀ ls st H, aGo cl (some (L, xs)) cd_law 1 252 ls st H = aGo cl (some (L, xs)) cd_law 1 253 ls (.int 1 :: st) H) ∧
  (∀ ls st H, aGo cl (some (L, xs)) cd_law 1 253 ls st H = aBin (fun st => aGo cl (some (L, xs)) cd_law 1 254 ls st H) (fun x y => x + y) st) ∧
  (∀ ls st H, aGo cl (some (L, xs)) cd_law 1 254 ls st H = aIald (fun st => aGo cl (some (L, xs)) cd_law 1 255 ls st H) (some (L, xs)) H st) ∧
  (∀ ls st H, aGo cl (some (L, xs)) cd_law 1 255 ls st H = aRLoad (fun st => aGo cl (some (L, xs)) cd_law 1 256 ls st H) ls 0 st) ∧
  (∀ ls st H, aGo cl (some (L, xs)) cd_law 1 256 ls st H = aILoad (fun st => aGo cl (some (L, xs)) cd_law 1 257 ls st H) ls 3 st) ∧
  (∀ ls st H, aGo cl (some (L, xs)) cd_law 1 257 ls st H = aGo cl (some (L, xs)) cd_law 1 258 ls (.int 2 :: st) H) ∧
  (∀ ls st H, aGo cl (some (L, xs)) cd_law 1 258 ls st H = aBin (fun st => aGo cl (some (L, xs)) cd_law 1 259 ls st H) (fun x y => x + y) st) ∧
  (∀ ls st H, aGo cl (some (L, xs)) cd_law 1 259 ls st H = aIald (fun st => aGo cl (some (L, xs)) cd_law 1 260 ls st H) (some (L, xs)) H st) ∧
  (∀ ls st H, aGo cl (some (L, xs)) cd_law 1 260 ls st H = aCallV (fun st H => aGo cl (some (L, xs)) cd_law 1 263 ls st H) cl 166 2 8 H st) ∧
  (∀ ls st H, aGo cl (some (L, xs)) cd_law 1 263 ls st H = aIc (fun p st => aGo cl (some (L, xs)) cd_law 1 p ls st H) .eq 1485 266 st) :=
  ⟨fun _ _ _ => (aGo_s rfl).trans rfl, fun _ _ _ => (aGo_s rfl).trans rfl, fun _ _ _ => (aGo_s rfl).trans rfl, fun _ _ _ => (aGo_s rfl).trans rfl, fun _ _ _ => (aGo_s rfl).trans rfl, fun _ _ _ => (aGo_s rfl).trans rfl, fun _ _ _ => (aGo_s rfl).trans rfl, fun _ _ _ => (aGo_s rfl).trans rfl, fun _ _ _ => (aGo_s rfl).trans rfl, fun _ _ _ => (aGo_s rfl).trans rfl, fun _ _ _ => (aGo_s rfl).trans rfl, fun _ _ _ => (aGo_s rfl).trans rfl, fun _ _ _ => (aGo_s rfl).trans rfl, fun _ _ _ => (aGo_s rfl).trans rfl, fun _ _ _ => (aGo_s rfl).trans rfl, fun _ _ _ => (aGo_s rfl).trans rfl, fun _ _ _ => (aGo_s rfl).trans rfl, fun _ _ _ => (aGo_s rfl).trans rfl, fun _ _ _ => (aGo_s rfl).trans rfl, fun _ _ _ => (aGo_s rfl).trans rfl, fun _ _ _ => (aGo_s rfl).trans rfl, fun _ _ _ => (aGo_s rfl).trans rfl, fun _ _ _ => (aGo_s rfl).trans rfl, fun _ _ _ => (aGo_s rfl).trans rfl, fun _ _ _ => (aGo_s rfl).trans rfl⟩
theorem lw_1 {cl : Nat → List Value → aH → aRs} {L i : Nat} {xs : Nat → Int32} {I I1 I2 : Nat → Nat → Int32} {x y x1 y1 : Option Nat} {v : Int32} (hi : i + 6 ≤ L) (hL : L ≤ 3072) (h1 : cl 65 [.ref 0, .int (xs (i + 1)), .int (xs (i + 2))] (HH I x y) = some (some (.int v), HH I1 x1 y1)) (h2 : cl 166 [.ref 113, .int (xs (i + 1)), .int (xs (i + 2))] (HH I1 x1 y1) = some (some (.int v), HH I2 x1 y1)) : aGo cl (some (L, xs)) cd_law 1 235 (lwLs i) [] (HH I x y) = aGo cl (some (L, xs)) cd_law 1 1485 (lwLs i) [] (HH I2 x1 y1) := by
  simp [w_1, aILoad, aRLoad, aLLoad, aIStore, aRStore, aPush, aBin, aBinL, aShL, aUn, aIf, aIc, aGet, aPut, aBald, aAald, aIast, aBast, aAast, aAlen, aCopy, aCallV, aCallC, aCallI, aRet, aCat, aMax, aMin, aDiv, aRem, aI2l, aL2i, aNul, aSwS, aSw, aInc, aDup, aDup2, aPop1, aIret, aAret, aVret, aLen, aFk, aFT, Value.category, c_sh, m_sh, lw_l hi hL, h1, h2]
theorem w_2 {cl : Nat → List Value → aH → aRs} {L : Nat} {xs : Nat → Int32} : (∀ ls st H, aGo cl (some (L, xs)) cd_law 1 268 ls st H = aRLoad (fun st => aGo cl (some (L, xs)) cd_law 1 269 ls st H) ls 1 st) ∧
  (∀ ls st H, aGo cl (some (L, xs)) cd_law 1 269 ls st H = aRLoad (fun st => aGo cl (some (L, xs)) cd_law 1 270 ls st H) ls 0 st) ∧
  (∀ ls st H, aGo cl (some (L, xs)) cd_law 1 270 ls st H = aILoad (fun st => aGo cl (some (L, xs)) cd_law 1 271 ls st H) ls 3 st) ∧
  (∀ ls st H, aGo cl (some (L, xs)) cd_law 1 271 ls st H = aGo cl (some (L, xs)) cd_law 1 272 ls (.int 1 :: st) H) ∧
  (∀ ls st H, aGo cl (some (L, xs)) cd_law 1 272 ls st H = aBin (fun st => aGo cl (some (L, xs)) cd_law 1 273 ls st H) (fun x y => x + y) st) ∧
  (∀ ls st H, aGo cl (some (L, xs)) cd_law 1 273 ls st H = aIald (fun st => aGo cl (some (L, xs)) cd_law 1 274 ls st H) (some (L, xs)) H st) ∧
  (∀ ls st H, aGo cl (some (L, xs)) cd_law 1 274 ls st H = aRLoad (fun st => aGo cl (some (L, xs)) cd_law 1 275 ls st H) ls 0 st) ∧
  (∀ ls st H, aGo cl (some (L, xs)) cd_law 1 275 ls st H = aILoad (fun st => aGo cl (some (L, xs)) cd_law 1 276 ls st H) ls 3 st) ∧
  (∀ ls st H, aGo cl (some (L, xs)) cd_law 1 276 ls st H = aGo cl (some (L, xs)) cd_law 1 277 ls (.int 2 :: st) H) ∧
  (∀ ls st H, aGo cl (some (L, xs)) cd_law 1 277 ls st H = aBin (fun st => aGo cl (some (L, xs)) cd_law 1 278 ls st H) (fun x y => x + y) st) ∧
  (∀ ls st H, aGo cl (some (L, xs)) cd_law 1 278 ls st H = aIald (fun st => aGo cl (some (L, xs)) cd_law 1 279 ls st H) (some (L, xs)) H st) ∧
  (∀ ls st H, aGo cl (some (L, xs)) cd_law 1 279 ls st H = aCallV (fun st H => aGo cl (some (L, xs)) cd_law 1 282 ls st H) cl 66 2 7 H st) ∧
  (∀ ls st H, aGo cl (some (L, xs)) cd_law 1 282 ls st H = aRLoad (fun st => aGo cl (some (L, xs)) cd_law 1 283 ls st H) ls 2 st) ∧
  (∀ ls st H, aGo cl (some (L, xs)) cd_law 1 283 ls st H = aRLoad (fun st => aGo cl (some (L, xs)) cd_law 1 284 ls st H) ls 0 st) ∧
  (∀ ls st H, aGo cl (some (L, xs)) cd_law 1 284 ls st H = aILoad (fun st => aGo cl (some (L, xs)) cd_law 1 285 ls st H) ls 3 st) ∧
  (∀ ls st H, aGo cl (some (L, xs)) cd_law 1 285 ls st H = aGo cl (some (L, xs)) cd_law 1 286 ls (.int 1 :: st) H) ∧
  (∀ ls st H, aGo cl (some (L, xs)) cd_law 1 286 ls st H = aBin (fun st => aGo cl (some (L, xs)) cd_law 1 287 ls st H) (fun x y => x + y) st) ∧
  (∀ ls st H, aGo cl (some (L, xs)) cd_law 1 287 ls st H = aIald (fun st => aGo cl (some (L, xs)) cd_law 1 288 ls st H) (some (L, xs)) H st) ∧
  (∀ ls st H, aGo cl (some (L, xs)) cd_law 1 288 ls st H = aRLoad (fun st => aGo cl (some (L, xs)) cd_law 1 289 ls st H) ls 0 st) ∧
  (∀ ls st H, aGo cl (some (L, xs)) cd_law 1 289 ls st H = aILoad (fun st => aGo cl (some (L, xs)) cd_law 1 290 ls st H) ls 3 st) ∧
  (∀ ls st H, aGo cl (some (L, xs)) cd_law 1 290 ls st H = aGo cl (some (L, xs)) cd_law 1 291 ls (.int 2 :: st) H) ∧
  (∀ ls st H, aGo cl (some (L, xs)) cd_law 1 291 ls st H = aBin (fun st => aGo cl (some (L, xs)) cd_law 1 292 ls st H) (fun x y => x + y) st) ∧
  (∀ ls st H, aGo cl (some (L, xs)) cd_law 1 292 ls st H = aIald (fun st => aGo cl (some (L, xs)) cd_law 1 293 ls st H) (some (L, xs)) H st) ∧
  (∀ ls st H, aGo cl (some (L, xs)) cd_law 1 293 ls st H = aCallV (fun st H => aGo cl (some (L, xs)) cd_law 1 296 ls st H) cl 167 2 8 H st) ∧
  (∀ ls st H, aGo cl (some (L, xs)) cd_law 1 296 ls st H = aIc (fun p st => aGo cl (some (L, xs)) cd_law 1 p ls st H) .eq 1485 299 st) :=
  ⟨fun _ _ _ => (aGo_s rfl).trans rfl, fun _ _ _ => (aGo_s rfl).trans rfl, fun _ _ _ => (aGo_s rfl).trans rfl, fun _ _ _ => (aGo_s rfl).trans rfl, fun _ _ _ => (aGo_s rfl).trans rfl, fun _ _ _ => (aGo_s rfl).trans rfl, fun _ _ _ => (aGo_s rfl).trans rfl, fun _ _ _ => (aGo_s rfl).trans rfl, fun _ _ _ => (aGo_s rfl).trans rfl, fun _ _ _ => (aGo_s rfl).trans rfl, fun _ _ _ => (aGo_s rfl).trans rfl, fun _ _ _ => (aGo_s rfl).trans rfl, fun _ _ _ => (aGo_s rfl).trans rfl, fun _ _ _ => (aGo_s rfl).trans rfl, fun _ _ _ => (aGo_s rfl).trans rfl, fun _ _ _ => (aGo_s rfl).trans rfl, fun _ _ _ => (aGo_s rfl).trans rfl, fun _ _ _ => (aGo_s rfl).trans rfl, fun _ _ _ => (aGo_s rfl).trans rfl, fun _ _ _ => (aGo_s rfl).trans rfl, fun _ _ _ => (aGo_s rfl).trans rfl, fun _ _ _ => (aGo_s rfl).trans rfl, fun _ _ _ => (aGo_s rfl).trans rfl, fun _ _ _ => (aGo_s rfl).trans rfl, fun _ _ _ => (aGo_s rfl).trans rfl⟩
theorem lw_2 {cl : Nat → List Value → aH → aRs} {L i : Nat} {xs : Nat → Int32} {I I1 I2 : Nat → Nat → Int32} {x y x1 y1 : Option Nat} {v : Int32} (hi : i + 6 ≤ L) (hL : L ≤ 3072) (h1 : cl 66 [.ref 0, .int (xs (i + 1)), .int (xs (i + 2))] (HH I x y) = some (some (.int v), HH I1 x1 y1)) (h2 : cl 167 [.ref 113, .int (xs (i + 1)), .int (xs (i + 2))] (HH I1 x1 y1) = some (some (.int v), HH I2 x1 y1)) : aGo cl (some (L, xs)) cd_law 1 268 (lwLs i) [] (HH I x y) = aGo cl (some (L, xs)) cd_law 1 1485 (lwLs i) [] (HH I2 x1 y1) := by
  simp [w_2, aILoad, aRLoad, aLLoad, aIStore, aRStore, aPush, aBin, aBinL, aShL, aUn, aIf, aIc, aGet, aPut, aBald, aAald, aIast, aBast, aAast, aAlen, aCopy, aCallV, aCallC, aCallI, aRet, aCat, aMax, aMin, aDiv, aRem, aI2l, aL2i, aNul, aSwS, aSw, aInc, aDup, aDup2, aPop1, aIret, aAret, aVret, aLen, aFk, aFT, Value.category, c_sh, m_sh, lw_l hi hL, h1, h2]
theorem w_3 {cl : Nat → List Value → aH → aRs} {L : Nat} {xs : Nat → Int32} : (∀ ls st H, aGo cl (some (L, xs)) cd_law 1 301 ls st H = aRLoad (fun st => aGo cl (some (L, xs)) cd_law 1 302 ls st H) ls 1 st) ∧
  (∀ ls st H, aGo cl (some (L, xs)) cd_law 1 302 ls st H = aRLoad (fun st => aGo cl (some (L, xs)) cd_law 1 303 ls st H) ls 0 st) ∧
  (∀ ls st H, aGo cl (some (L, xs)) cd_law 1 303 ls st H = aILoad (fun st => aGo cl (some (L, xs)) cd_law 1 304 ls st H) ls 3 st) ∧
  (∀ ls st H, aGo cl (some (L, xs)) cd_law 1 304 ls st H = aGo cl (some (L, xs)) cd_law 1 305 ls (.int 1 :: st) H) ∧
  (∀ ls st H, aGo cl (some (L, xs)) cd_law 1 305 ls st H = aBin (fun st => aGo cl (some (L, xs)) cd_law 1 306 ls st H) (fun x y => x + y) st) ∧
  (∀ ls st H, aGo cl (some (L, xs)) cd_law 1 306 ls st H = aIald (fun st => aGo cl (some (L, xs)) cd_law 1 307 ls st H) (some (L, xs)) H st) ∧
  (∀ ls st H, aGo cl (some (L, xs)) cd_law 1 307 ls st H = aRLoad (fun st => aGo cl (some (L, xs)) cd_law 1 308 ls st H) ls 0 st) ∧
  (∀ ls st H, aGo cl (some (L, xs)) cd_law 1 308 ls st H = aILoad (fun st => aGo cl (some (L, xs)) cd_law 1 309 ls st H) ls 3 st) ∧
  (∀ ls st H, aGo cl (some (L, xs)) cd_law 1 309 ls st H = aGo cl (some (L, xs)) cd_law 1 310 ls (.int 2 :: st) H) ∧
  (∀ ls st H, aGo cl (some (L, xs)) cd_law 1 310 ls st H = aBin (fun st => aGo cl (some (L, xs)) cd_law 1 311 ls st H) (fun x y => x + y) st) ∧
  (∀ ls st H, aGo cl (some (L, xs)) cd_law 1 311 ls st H = aIald (fun st => aGo cl (some (L, xs)) cd_law 1 312 ls st H) (some (L, xs)) H st) ∧
  (∀ ls st H, aGo cl (some (L, xs)) cd_law 1 312 ls st H = aCallV (fun st H => aGo cl (some (L, xs)) cd_law 1 315 ls st H) cl 67 2 7 H st) ∧
  (∀ ls st H, aGo cl (some (L, xs)) cd_law 1 315 ls st H = aRLoad (fun st => aGo cl (some (L, xs)) cd_law 1 316 ls st H) ls 2 st) ∧
  (∀ ls st H, aGo cl (some (L, xs)) cd_law 1 316 ls st H = aRLoad (fun st => aGo cl (some (L, xs)) cd_law 1 317 ls st H) ls 0 st) ∧
  (∀ ls st H, aGo cl (some (L, xs)) cd_law 1 317 ls st H = aILoad (fun st => aGo cl (some (L, xs)) cd_law 1 318 ls st H) ls 3 st) ∧
  (∀ ls st H, aGo cl (some (L, xs)) cd_law 1 318 ls st H = aGo cl (some (L, xs)) cd_law 1 319 ls (.int 1 :: st) H) ∧
  (∀ ls st H, aGo cl (some (L, xs)) cd_law 1 319 ls st H = aBin (fun st => aGo cl (some (L, xs)) cd_law 1 320 ls st H) (fun x y => x + y) st) ∧
  (∀ ls st H, aGo cl (some (L, xs)) cd_law 1 320 ls st H = aIald (fun st => aGo cl (some (L, xs)) cd_law 1 321 ls st H) (some (L, xs)) H st) ∧
  (∀ ls st H, aGo cl (some (L, xs)) cd_law 1 321 ls st H = aRLoad (fun st => aGo cl (some (L, xs)) cd_law 1 322 ls st H) ls 0 st) ∧
  (∀ ls st H, aGo cl (some (L, xs)) cd_law 1 322 ls st H = aILoad (fun st => aGo cl (some (L, xs)) cd_law 1 323 ls st H) ls 3 st) ∧
  (∀ ls st H, aGo cl (some (L, xs)) cd_law 1 323 ls st H = aGo cl (some (L, xs)) cd_law 1 324 ls (.int 2 :: st) H) ∧
  (∀ ls st H, aGo cl (some (L, xs)) cd_law 1 324 ls st H = aBin (fun st => aGo cl (some (L, xs)) cd_law 1 325 ls st H) (fun x y => x + y) st) ∧
  (∀ ls st H, aGo cl (some (L, xs)) cd_law 1 325 ls st H = aIald (fun st => aGo cl (some (L, xs)) cd_law 1 326 ls st H) (some (L, xs)) H st) ∧
  (∀ ls st H, aGo cl (some (L, xs)) cd_law 1 326 ls st H = aCallV (fun st H => aGo cl (some (L, xs)) cd_law 1 329 ls st H) cl 168 2 8 H st) ∧
  (∀ ls st H, aGo cl (some (L, xs)) cd_law 1 329 ls st H = aIc (fun p st => aGo cl (some (L, xs)) cd_law 1 p ls st H) .eq 1485 332 st) :=
  ⟨fun _ _ _ => (aGo_s rfl).trans rfl, fun _ _ _ => (aGo_s rfl).trans rfl, fun _ _ _ => (aGo_s rfl).trans rfl, fun _ _ _ => (aGo_s rfl).trans rfl, fun _ _ _ => (aGo_s rfl).trans rfl, fun _ _ _ => (aGo_s rfl).trans rfl, fun _ _ _ => (aGo_s rfl).trans rfl, fun _ _ _ => (aGo_s rfl).trans rfl, fun _ _ _ => (aGo_s rfl).trans rfl, fun _ _ _ => (aGo_s rfl).trans rfl, fun _ _ _ => (aGo_s rfl).trans rfl, fun _ _ _ => (aGo_s rfl).trans rfl, fun _ _ _ => (aGo_s rfl).trans rfl, fun _ _ _ => (aGo_s rfl).trans rfl, fun _ _ _ => (aGo_s rfl).trans rfl, fun _ _ _ => (aGo_s rfl).trans rfl, fun _ _ _ => (aGo_s rfl).trans rfl, fun _ _ _ => (aGo_s rfl).trans rfl, fun _ _ _ => (aGo_s rfl).trans rfl, fun _ _ _ => (aGo_s rfl).trans rfl, fun _ _ _ => (aGo_s rfl).trans rfl, fun _ _ _ => (aGo_s rfl).trans rfl, fun _ _ _ => (aGo_s rfl).trans rfl, fun _ _ _ => (aGo_s rfl).trans rfl, fun _ _ _ => (aGo_s rfl).trans rfl⟩
theorem lw_3 {cl : Nat → List Value → aH → aRs} {L i : Nat} {xs : Nat → Int32} {I I1 I2 : Nat → Nat → Int32} {x y x1 y1 : Option Nat} {v : Int32} (hi : i + 6 ≤ L) (hL : L ≤ 3072) (h1 : cl 67 [.ref 0, .int (xs (i + 1)), .int (xs (i + 2))] (HH I x y) = some (some (.int v), HH I1 x1 y1)) (h2 : cl 168 [.ref 113, .int (xs (i + 1)), .int (xs (i + 2))] (HH I1 x1 y1) = some (some (.int v), HH I2 x1 y1)) : aGo cl (some (L, xs)) cd_law 1 301 (lwLs i) [] (HH I x y) = aGo cl (some (L, xs)) cd_law 1 1485 (lwLs i) [] (HH I2 x1 y1) := by
  simp [w_3, aILoad, aRLoad, aLLoad, aIStore, aRStore, aPush, aBin, aBinL, aShL, aUn, aIf, aIc, aGet, aPut, aBald, aAald, aIast, aBast, aAast, aAlen, aCopy, aCallV, aCallC, aCallI, aRet, aCat, aMax, aMin, aDiv, aRem, aI2l, aL2i, aNul, aSwS, aSw, aInc, aDup, aDup2, aPop1, aIret, aAret, aVret, aLen, aFk, aFT, Value.category, c_sh, m_sh, lw_l hi hL, h1, h2]
theorem w_4 {cl : Nat → List Value → aH → aRs} {L : Nat} {xs : Nat → Int32} : (∀ ls st H, aGo cl (some (L, xs)) cd_law 1 334 ls st H = aRLoad (fun st => aGo cl (some (L, xs)) cd_law 1 335 ls st H) ls 1 st) ∧
  (∀ ls st H, aGo cl (some (L, xs)) cd_law 1 335 ls st H = aRLoad (fun st => aGo cl (some (L, xs)) cd_law 1 336 ls st H) ls 0 st) ∧
  (∀ ls st H, aGo cl (some (L, xs)) cd_law 1 336 ls st H = aILoad (fun st => aGo cl (some (L, xs)) cd_law 1 337 ls st H) ls 3 st) ∧
  (∀ ls st H, aGo cl (some (L, xs)) cd_law 1 337 ls st H = aGo cl (some (L, xs)) cd_law 1 338 ls (.int 1 :: st) H) ∧
  (∀ ls st H, aGo cl (some (L, xs)) cd_law 1 338 ls st H = aBin (fun st => aGo cl (some (L, xs)) cd_law 1 339 ls st H) (fun x y => x + y) st) ∧
  (∀ ls st H, aGo cl (some (L, xs)) cd_law 1 339 ls st H = aIald (fun st => aGo cl (some (L, xs)) cd_law 1 340 ls st H) (some (L, xs)) H st) ∧
  (∀ ls st H, aGo cl (some (L, xs)) cd_law 1 340 ls st H = aRLoad (fun st => aGo cl (some (L, xs)) cd_law 1 341 ls st H) ls 0 st) ∧
  (∀ ls st H, aGo cl (some (L, xs)) cd_law 1 341 ls st H = aILoad (fun st => aGo cl (some (L, xs)) cd_law 1 342 ls st H) ls 3 st) ∧
  (∀ ls st H, aGo cl (some (L, xs)) cd_law 1 342 ls st H = aGo cl (some (L, xs)) cd_law 1 343 ls (.int 2 :: st) H) ∧
  (∀ ls st H, aGo cl (some (L, xs)) cd_law 1 343 ls st H = aBin (fun st => aGo cl (some (L, xs)) cd_law 1 344 ls st H) (fun x y => x + y) st) ∧
  (∀ ls st H, aGo cl (some (L, xs)) cd_law 1 344 ls st H = aIald (fun st => aGo cl (some (L, xs)) cd_law 1 345 ls st H) (some (L, xs)) H st) ∧
  (∀ ls st H, aGo cl (some (L, xs)) cd_law 1 345 ls st H = aRLoad (fun st => aGo cl (some (L, xs)) cd_law 1 346 ls st H) ls 0 st) ∧
  (∀ ls st H, aGo cl (some (L, xs)) cd_law 1 346 ls st H = aILoad (fun st => aGo cl (some (L, xs)) cd_law 1 347 ls st H) ls 3 st) ∧
  (∀ ls st H, aGo cl (some (L, xs)) cd_law 1 347 ls st H = aGo cl (some (L, xs)) cd_law 1 348 ls (.int 3 :: st) H) ∧
  (∀ ls st H, aGo cl (some (L, xs)) cd_law 1 348 ls st H = aBin (fun st => aGo cl (some (L, xs)) cd_law 1 349 ls st H) (fun x y => x + y) st) ∧
  (∀ ls st H, aGo cl (some (L, xs)) cd_law 1 349 ls st H = aIald (fun st => aGo cl (some (L, xs)) cd_law 1 350 ls st H) (some (L, xs)) H st) ∧
  (∀ ls st H, aGo cl (some (L, xs)) cd_law 1 350 ls st H = aCallV (fun st H => aGo cl (some (L, xs)) cd_law 1 353 ls st H) cl 68 3 7 H st) ∧
  (∀ ls st H, aGo cl (some (L, xs)) cd_law 1 353 ls st H = aRLoad (fun st => aGo cl (some (L, xs)) cd_law 1 354 ls st H) ls 2 st) ∧
  (∀ ls st H, aGo cl (some (L, xs)) cd_law 1 354 ls st H = aRLoad (fun st => aGo cl (some (L, xs)) cd_law 1 355 ls st H) ls 0 st) ∧
  (∀ ls st H, aGo cl (some (L, xs)) cd_law 1 355 ls st H = aILoad (fun st => aGo cl (some (L, xs)) cd_law 1 356 ls st H) ls 3 st) ∧
  (∀ ls st H, aGo cl (some (L, xs)) cd_law 1 356 ls st H = aGo cl (some (L, xs)) cd_law 1 357 ls (.int 1 :: st) H) ∧
  (∀ ls st H, aGo cl (some (L, xs)) cd_law 1 357 ls st H = aBin (fun st => aGo cl (some (L, xs)) cd_law 1 358 ls st H) (fun x y => x + y) st) ∧
  (∀ ls st H, aGo cl (some (L, xs)) cd_law 1 358 ls st H = aIald (fun st => aGo cl (some (L, xs)) cd_law 1 359 ls st H) (some (L, xs)) H st) ∧
  (∀ ls st H, aGo cl (some (L, xs)) cd_law 1 359 ls st H = aRLoad (fun st => aGo cl (some (L, xs)) cd_law 1 360 ls st H) ls 0 st) ∧
  (∀ ls st H, aGo cl (some (L, xs)) cd_law 1 360 ls st H = aILoad (fun st => aGo cl (some (L, xs)) cd_law 1 361 ls st H) ls 3 st) ∧
  (∀ ls st H, aGo cl (some (L, xs)) cd_law 1 361 ls st H = aGo cl (some (L, xs)) cd_law 1 362 ls (.int 2 :: st) H) ∧
  (∀ ls st H, aGo cl (some (L, xs)) cd_law 1 362 ls st H = aBin (fun st => aGo cl (some (L, xs)) cd_law 1 363 ls st H) (fun x y => x + y) st) ∧
  (∀ ls st H, aGo cl (some (L, xs)) cd_law 1 363 ls st H = aIald (fun st => aGo cl (some (L, xs)) cd_law 1 364 ls st H) (some (L, xs)) H st) ∧
  (∀ ls st H, aGo cl (some (L, xs)) cd_law 1 364 ls st H = aRLoad (fun st => aGo cl (some (L, xs)) cd_law 1 365 ls st H) ls 0 st) ∧
  (∀ ls st H, aGo cl (some (L, xs)) cd_law 1 365 ls st H = aILoad (fun st => aGo cl (some (L, xs)) cd_law 1 366 ls st H) ls 3 st) ∧
  (∀ ls st H, aGo cl (some (L, xs)) cd_law 1 366 ls st H = aGo cl (some (L, xs)) cd_law 1 367 ls (.int 3 :: st) H) ∧
  (∀ ls st H, aGo cl (some (L, xs)) cd_law 1 367 ls st H = aBin (fun st => aGo cl (some (L, xs)) cd_law 1 368 ls st H) (fun x y => x + y) st) ∧
  (∀ ls st H, aGo cl (some (L, xs)) cd_law 1 368 ls st H = aIald (fun st => aGo cl (some (L, xs)) cd_law 1 369 ls st H) (some (L, xs)) H st) ∧
  (∀ ls st H, aGo cl (some (L, xs)) cd_law 1 369 ls st H = aCallV (fun st H => aGo cl (some (L, xs)) cd_law 1 372 ls st H) cl 169 3 8 H st) ∧
  (∀ ls st H, aGo cl (some (L, xs)) cd_law 1 372 ls st H = aIc (fun p st => aGo cl (some (L, xs)) cd_law 1 p ls st H) .eq 1485 375 st) :=
  ⟨fun _ _ _ => (aGo_s rfl).trans rfl, fun _ _ _ => (aGo_s rfl).trans rfl, fun _ _ _ => (aGo_s rfl).trans rfl, fun _ _ _ => (aGo_s rfl).trans rfl, fun _ _ _ => (aGo_s rfl).trans rfl, fun _ _ _ => (aGo_s rfl).trans rfl, fun _ _ _ => (aGo_s rfl).trans rfl, fun _ _ _ => (aGo_s rfl).trans rfl, fun _ _ _ => (aGo_s rfl).trans rfl, fun _ _ _ => (aGo_s rfl).trans rfl, fun _ _ _ => (aGo_s rfl).trans rfl, fun _ _ _ => (aGo_s rfl).trans rfl, fun _ _ _ => (aGo_s rfl).trans rfl, fun _ _ _ => (aGo_s rfl).trans rfl, fun _ _ _ => (aGo_s rfl).trans rfl, fun _ _ _ => (aGo_s rfl).trans rfl, fun _ _ _ => (aGo_s rfl).trans rfl, fun _ _ _ => (aGo_s rfl).trans rfl, fun _ _ _ => (aGo_s rfl).trans rfl, fun _ _ _ => (aGo_s rfl).trans rfl, fun _ _ _ => (aGo_s rfl).trans rfl, fun _ _ _ => (aGo_s rfl).trans rfl, fun _ _ _ => (aGo_s rfl).trans rfl, fun _ _ _ => (aGo_s rfl).trans rfl, fun _ _ _ => (aGo_s rfl).trans rfl, fun _ _ _ => (aGo_s rfl).trans rfl, fun _ _ _ => (aGo_s rfl).trans rfl, fun _ _ _ => (aGo_s rfl).trans rfl, fun _ _ _ => (aGo_s rfl).trans rfl, fun _ _ _ => (aGo_s rfl).trans rfl, fun _ _ _ => (aGo_s rfl).trans rfl, fun _ _ _ => (aGo_s rfl).trans rfl, fun _ _ _ => (aGo_s rfl).trans rfl, fun _ _ _ => (aGo_s rfl).trans rfl, fun _ _ _ => (aGo_s rfl).trans rfl⟩
theorem lw_4 {cl : Nat → List Value → aH → aRs} {L i : Nat} {xs : Nat → Int32} {I I1 I2 : Nat → Nat → Int32} {x y x1 y1 : Option Nat} {v : Int32} (hi : i + 6 ≤ L) (hL : L ≤ 3072) (h1 : cl 68 [.ref 0, .int (xs (i + 1)), .int (xs (i + 2)), .int (xs (i + 3))] (HH I x y) = some (some (.int v), HH I1 x1 y1)) (h2 : cl 169 [.ref 113, .int (xs (i + 1)), .int (xs (i + 2)), .int (xs (i + 3))] (HH I1 x1 y1) = some (some (.int v), HH I2 x1 y1)) : aGo cl (some (L, xs)) cd_law 1 334 (lwLs i) [] (HH I x y) = aGo cl (some (L, xs)) cd_law 1 1485 (lwLs i) [] (HH I2 x1 y1) := by
  simp [w_4, aILoad, aRLoad, aLLoad, aIStore, aRStore, aPush, aBin, aBinL, aShL, aUn, aIf, aIc, aGet, aPut, aBald, aAald, aIast, aBast, aAast, aAlen, aCopy, aCallV, aCallC, aCallI, aRet, aCat, aMax, aMin, aDiv, aRem, aI2l, aL2i, aNul, aSwS, aSw, aInc, aDup, aDup2, aPop1, aIret, aAret, aVret, aLen, aFk, aFT, Value.category, c_sh, m_sh, lw_l hi hL, h1, h2]
theorem w_5 {cl : Nat → List Value → aH → aRs} {L : Nat} {xs : Nat → Int32} : (∀ ls st H, aGo cl (some (L, xs)) cd_law 1 377 ls st H = aRLoad (fun st => aGo cl (some (L, xs)) cd_law 1 378 ls st H) ls 1 st) ∧
  (∀ ls st H, aGo cl (some (L, xs)) cd_law 1 378 ls st H = aRLoad (fun st => aGo cl (some (L, xs)) cd_law 1 379 ls st H) ls 0 st) ∧
  (∀ ls st H, aGo cl (some (L, xs)) cd_law 1 379 ls st H = aILoad (fun st => aGo cl (some (L, xs)) cd_law 1 380 ls st H) ls 3 st) ∧
  (∀ ls st H, aGo cl (some (L, xs)) cd_law 1 380 ls st H = aGo cl (some (L, xs)) cd_law 1 381 ls (.int 1 :: st) H) ∧
  (∀ ls st H, aGo cl (some (L, xs)) cd_law 1 381 ls st H = aBin (fun st => aGo cl (some (L, xs)) cd_law 1 382 ls st H) (fun x y => x + y) st) ∧
  (∀ ls st H, aGo cl (some (L, xs)) cd_law 1 382 ls st H = aIald (fun st => aGo cl (some (L, xs)) cd_law 1 383 ls st H) (some (L, xs)) H st) ∧
  (∀ ls st H, aGo cl (some (L, xs)) cd_law 1 383 ls st H = aRLoad (fun st => aGo cl (some (L, xs)) cd_law 1 384 ls st H) ls 0 st) ∧
  (∀ ls st H, aGo cl (some (L, xs)) cd_law 1 384 ls st H = aILoad (fun st => aGo cl (some (L, xs)) cd_law 1 385 ls st H) ls 3 st) ∧
  (∀ ls st H, aGo cl (some (L, xs)) cd_law 1 385 ls st H = aGo cl (some (L, xs)) cd_law 1 386 ls (.int 2 :: st) H) ∧
  (∀ ls st H, aGo cl (some (L, xs)) cd_law 1 386 ls st H = aBin (fun st => aGo cl (some (L, xs)) cd_law 1 387 ls st H) (fun x y => x + y) st) ∧
  (∀ ls st H, aGo cl (some (L, xs)) cd_law 1 387 ls st H = aIald (fun st => aGo cl (some (L, xs)) cd_law 1 388 ls st H) (some (L, xs)) H st) ∧
  (∀ ls st H, aGo cl (some (L, xs)) cd_law 1 388 ls st H = aRLoad (fun st => aGo cl (some (L, xs)) cd_law 1 389 ls st H) ls 0 st) ∧
  (∀ ls st H, aGo cl (some (L, xs)) cd_law 1 389 ls st H = aILoad (fun st => aGo cl (some (L, xs)) cd_law 1 390 ls st H) ls 3 st) ∧
  (∀ ls st H, aGo cl (some (L, xs)) cd_law 1 390 ls st H = aGo cl (some (L, xs)) cd_law 1 391 ls (.int 3 :: st) H) ∧
  (∀ ls st H, aGo cl (some (L, xs)) cd_law 1 391 ls st H = aBin (fun st => aGo cl (some (L, xs)) cd_law 1 392 ls st H) (fun x y => x + y) st) ∧
  (∀ ls st H, aGo cl (some (L, xs)) cd_law 1 392 ls st H = aIald (fun st => aGo cl (some (L, xs)) cd_law 1 393 ls st H) (some (L, xs)) H st) ∧
  (∀ ls st H, aGo cl (some (L, xs)) cd_law 1 393 ls st H = aRLoad (fun st => aGo cl (some (L, xs)) cd_law 1 394 ls st H) ls 0 st) ∧
  (∀ ls st H, aGo cl (some (L, xs)) cd_law 1 394 ls st H = aILoad (fun st => aGo cl (some (L, xs)) cd_law 1 395 ls st H) ls 3 st) ∧
  (∀ ls st H, aGo cl (some (L, xs)) cd_law 1 395 ls st H = aGo cl (some (L, xs)) cd_law 1 396 ls (.int 4 :: st) H) ∧
  (∀ ls st H, aGo cl (some (L, xs)) cd_law 1 396 ls st H = aBin (fun st => aGo cl (some (L, xs)) cd_law 1 397 ls st H) (fun x y => x + y) st) ∧
  (∀ ls st H, aGo cl (some (L, xs)) cd_law 1 397 ls st H = aIald (fun st => aGo cl (some (L, xs)) cd_law 1 398 ls st H) (some (L, xs)) H st) ∧
  (∀ ls st H, aGo cl (some (L, xs)) cd_law 1 398 ls st H = aCallV (fun st H => aGo cl (some (L, xs)) cd_law 1 401 ls st H) cl 69 4 7 H st) ∧
  (∀ ls st H, aGo cl (some (L, xs)) cd_law 1 401 ls st H = aRLoad (fun st => aGo cl (some (L, xs)) cd_law 1 402 ls st H) ls 2 st) ∧
  (∀ ls st H, aGo cl (some (L, xs)) cd_law 1 402 ls st H = aRLoad (fun st => aGo cl (some (L, xs)) cd_law 1 403 ls st H) ls 0 st) ∧
  (∀ ls st H, aGo cl (some (L, xs)) cd_law 1 403 ls st H = aILoad (fun st => aGo cl (some (L, xs)) cd_law 1 404 ls st H) ls 3 st) ∧
  (∀ ls st H, aGo cl (some (L, xs)) cd_law 1 404 ls st H = aGo cl (some (L, xs)) cd_law 1 405 ls (.int 1 :: st) H) ∧
  (∀ ls st H, aGo cl (some (L, xs)) cd_law 1 405 ls st H = aBin (fun st => aGo cl (some (L, xs)) cd_law 1 406 ls st H) (fun x y => x + y) st) ∧
  (∀ ls st H, aGo cl (some (L, xs)) cd_law 1 406 ls st H = aIald (fun st => aGo cl (some (L, xs)) cd_law 1 407 ls st H) (some (L, xs)) H st) ∧
  (∀ ls st H, aGo cl (some (L, xs)) cd_law 1 407 ls st H = aRLoad (fun st => aGo cl (some (L, xs)) cd_law 1 408 ls st H) ls 0 st) ∧
  (∀ ls st H, aGo cl (some (L, xs)) cd_law 1 408 ls st H = aILoad (fun st => aGo cl (some (L, xs)) cd_law 1 409 ls st H) ls 3 st) ∧
  (∀ ls st H, aGo cl (some (L, xs)) cd_law 1 409 ls st H = aGo cl (some (L, xs)) cd_law 1 410 ls (.int 2 :: st) H) ∧
  (∀ ls st H, aGo cl (some (L, xs)) cd_law 1 410 ls st H = aBin (fun st => aGo cl (some (L, xs)) cd_law 1 411 ls st H) (fun x y => x + y) st) ∧
  (∀ ls st H, aGo cl (some (L, xs)) cd_law 1 411 ls st H = aIald (fun st => aGo cl (some (L, xs)) cd_law 1 412 ls st H) (some (L, xs)) H st) ∧
  (∀ ls st H, aGo cl (some (L, xs)) cd_law 1 412 ls st H = aRLoad (fun st => aGo cl (some (L, xs)) cd_law 1 413 ls st H) ls 0 st) ∧
  (∀ ls st H, aGo cl (some (L, xs)) cd_law 1 413 ls st H = aILoad (fun st => aGo cl (some (L, xs)) cd_law 1 414 ls st H) ls 3 st) ∧
  (∀ ls st H, aGo cl (some (L, xs)) cd_law 1 414 ls st H = aGo cl (some (L, xs)) cd_law 1 415 ls (.int 3 :: st) H) ∧
  (∀ ls st H, aGo cl (some (L, xs)) cd_law 1 415 ls st H = aBin (fun st => aGo cl (some (L, xs)) cd_law 1 416 ls st H) (fun x y => x + y) st) ∧
  (∀ ls st H, aGo cl (some (L, xs)) cd_law 1 416 ls st H = aIald (fun st => aGo cl (some (L, xs)) cd_law 1 417 ls st H) (some (L, xs)) H st) ∧
  (∀ ls st H, aGo cl (some (L, xs)) cd_law 1 417 ls st H = aRLoad (fun st => aGo cl (some (L, xs)) cd_law 1 418 ls st H) ls 0 st) ∧
  (∀ ls st H, aGo cl (some (L, xs)) cd_law 1 418 ls st H = aILoad (fun st => aGo cl (some (L, xs)) cd_law 1 419 ls st H) ls 3 st) ∧
  (∀ ls st H, aGo cl (some (L, xs)) cd_law 1 419 ls st H = aGo cl (some (L, xs)) cd_law 1 420 ls (.int 4 :: st) H) ∧
  (∀ ls st H, aGo cl (some (L, xs)) cd_law 1 420 ls st H = aBin (fun st => aGo cl (some (L, xs)) cd_law 1 421 ls st H) (fun x y => x + y) st) ∧
  (∀ ls st H, aGo cl (some (L, xs)) cd_law 1 421 ls st H = aIald (fun st => aGo cl (some (L, xs)) cd_law 1 422 ls st H) (some (L, xs)) H st) ∧
  (∀ ls st H, aGo cl (some (L, xs)) cd_law 1 422 ls st H = aCallV (fun st H => aGo cl (some (L, xs)) cd_law 1 425 ls st H) cl 171 4 8 H st) ∧
  (∀ ls st H, aGo cl (some (L, xs)) cd_law 1 425 ls st H = aIc (fun p st => aGo cl (some (L, xs)) cd_law 1 p ls st H) .eq 1485 428 st) :=
  ⟨fun _ _ _ => (aGo_s rfl).trans rfl, fun _ _ _ => (aGo_s rfl).trans rfl, fun _ _ _ => (aGo_s rfl).trans rfl, fun _ _ _ => (aGo_s rfl).trans rfl, fun _ _ _ => (aGo_s rfl).trans rfl, fun _ _ _ => (aGo_s rfl).trans rfl, fun _ _ _ => (aGo_s rfl).trans rfl, fun _ _ _ => (aGo_s rfl).trans rfl, fun _ _ _ => (aGo_s rfl).trans rfl, fun _ _ _ => (aGo_s rfl).trans rfl, fun _ _ _ => (aGo_s rfl).trans rfl, fun _ _ _ => (aGo_s rfl).trans rfl, fun _ _ _ => (aGo_s rfl).trans rfl, fun _ _ _ => (aGo_s rfl).trans rfl, fun _ _ _ => (aGo_s rfl).trans rfl, fun _ _ _ => (aGo_s rfl).trans rfl, fun _ _ _ => (aGo_s rfl).trans rfl, fun _ _ _ => (aGo_s rfl).trans rfl, fun _ _ _ => (aGo_s rfl).trans rfl, fun _ _ _ => (aGo_s rfl).trans rfl, fun _ _ _ => (aGo_s rfl).trans rfl, fun _ _ _ => (aGo_s rfl).trans rfl, fun _ _ _ => (aGo_s rfl).trans rfl, fun _ _ _ => (aGo_s rfl).trans rfl, fun _ _ _ => (aGo_s rfl).trans rfl, fun _ _ _ => (aGo_s rfl).trans rfl, fun _ _ _ => (aGo_s rfl).trans rfl, fun _ _ _ => (aGo_s rfl).trans rfl, fun _ _ _ => (aGo_s rfl).trans rfl, fun _ _ _ => (aGo_s rfl).trans rfl, fun _ _ _ => (aGo_s rfl).trans rfl, fun _ _ _ => (aGo_s rfl).trans rfl, fun _ _ _ => (aGo_s rfl).trans rfl, fun _ _ _ => (aGo_s rfl).trans rfl, fun _ _ _ => (aGo_s rfl).trans rfl, fun _ _ _ => (aGo_s rfl).trans rfl, fun _ _ _ => (aGo_s rfl).trans rfl, fun _ _ _ => (aGo_s rfl).trans rfl, fun _ _ _ => (aGo_s rfl).trans rfl, fun _ _ _ => (aGo_s rfl).trans rfl, fun _ _ _ => (aGo_s rfl).trans rfl, fun _ _ _ => (aGo_s rfl).trans rfl, fun _ _ _ => (aGo_s rfl).trans rfl, fun _ _ _ => (aGo_s rfl).trans rfl, fun _ _ _ => (aGo_s rfl).trans rfl⟩
theorem lw_5 {cl : Nat → List Value → aH → aRs} {L i : Nat} {xs : Nat → Int32} {I I1 I2 : Nat → Nat → Int32} {x y x1 y1 : Option Nat} {v : Int32} (hi : i + 6 ≤ L) (hL : L ≤ 3072) (h1 : cl 69 [.ref 0, .int (xs (i + 1)), .int (xs (i + 2)), .int (xs (i + 3)), .int (xs (i + 4))] (HH I x y) = some (some (.int v), HH I1 x1 y1)) (h2 : cl 171 [.ref 113, .int (xs (i + 1)), .int (xs (i + 2)), .int (xs (i + 3)), .int (xs (i + 4))] (HH I1 x1 y1) = some (some (.int v), HH I2 x1 y1)) : aGo cl (some (L, xs)) cd_law 1 377 (lwLs i) [] (HH I x y) = aGo cl (some (L, xs)) cd_law 1 1485 (lwLs i) [] (HH I2 x1 y1) := by
  simp [w_5, aILoad, aRLoad, aLLoad, aIStore, aRStore, aPush, aBin, aBinL, aShL, aUn, aIf, aIc, aGet, aPut, aBald, aAald, aIast, aBast, aAast, aAlen, aCopy, aCallV, aCallC, aCallI, aRet, aCat, aMax, aMin, aDiv, aRem, aI2l, aL2i, aNul, aSwS, aSw, aInc, aDup, aDup2, aPop1, aIret, aAret, aVret, aLen, aFk, aFT, Value.category, c_sh, m_sh, lw_l hi hL, h1, h2]
theorem w_6 {cl : Nat → List Value → aH → aRs} {L : Nat} {xs : Nat → Int32} : (∀ ls st H, aGo cl (some (L, xs)) cd_law 1 430 ls st H = aRLoad (fun st => aGo cl (some (L, xs)) cd_law 1 431 ls st H) ls 1 st) ∧
  (∀ ls st H, aGo cl (some (L, xs)) cd_law 1 431 ls st H = aRLoad (fun st => aGo cl (some (L, xs)) cd_law 1 432 ls st H) ls 0 st) ∧
  (∀ ls st H, aGo cl (some (L, xs)) cd_law 1 432 ls st H = aILoad (fun st => aGo cl (some (L, xs)) cd_law 1 433 ls st H) ls 3 st) ∧
  (∀ ls st H, aGo cl (some (L, xs)) cd_law 1 433 ls st H = aGo cl (some (L, xs)) cd_law 1 434 ls (.int 1 :: st) H) ∧
  (∀ ls st H, aGo cl (some (L, xs)) cd_law 1 434 ls st H = aBin (fun st => aGo cl (some (L, xs)) cd_law 1 435 ls st H) (fun x y => x + y) st) ∧
  (∀ ls st H, aGo cl (some (L, xs)) cd_law 1 435 ls st H = aIald (fun st => aGo cl (some (L, xs)) cd_law 1 436 ls st H) (some (L, xs)) H st) ∧
  (∀ ls st H, aGo cl (some (L, xs)) cd_law 1 436 ls st H = aRLoad (fun st => aGo cl (some (L, xs)) cd_law 1 437 ls st H) ls 0 st) ∧
  (∀ ls st H, aGo cl (some (L, xs)) cd_law 1 437 ls st H = aILoad (fun st => aGo cl (some (L, xs)) cd_law 1 438 ls st H) ls 3 st) ∧
  (∀ ls st H, aGo cl (some (L, xs)) cd_law 1 438 ls st H = aGo cl (some (L, xs)) cd_law 1 439 ls (.int 2 :: st) H) ∧
  (∀ ls st H, aGo cl (some (L, xs)) cd_law 1 439 ls st H = aBin (fun st => aGo cl (some (L, xs)) cd_law 1 440 ls st H) (fun x y => x + y) st) ∧
  (∀ ls st H, aGo cl (some (L, xs)) cd_law 1 440 ls st H = aIald (fun st => aGo cl (some (L, xs)) cd_law 1 441 ls st H) (some (L, xs)) H st) ∧
  (∀ ls st H, aGo cl (some (L, xs)) cd_law 1 441 ls st H = aCallV (fun st H => aGo cl (some (L, xs)) cd_law 1 444 ls st H) cl 70 2 7 H st) ∧
  (∀ ls st H, aGo cl (some (L, xs)) cd_law 1 444 ls st H = aRLoad (fun st => aGo cl (some (L, xs)) cd_law 1 445 ls st H) ls 2 st) ∧
  (∀ ls st H, aGo cl (some (L, xs)) cd_law 1 445 ls st H = aRLoad (fun st => aGo cl (some (L, xs)) cd_law 1 446 ls st H) ls 0 st) ∧
  (∀ ls st H, aGo cl (some (L, xs)) cd_law 1 446 ls st H = aILoad (fun st => aGo cl (some (L, xs)) cd_law 1 447 ls st H) ls 3 st) ∧
  (∀ ls st H, aGo cl (some (L, xs)) cd_law 1 447 ls st H = aGo cl (some (L, xs)) cd_law 1 448 ls (.int 1 :: st) H) ∧
  (∀ ls st H, aGo cl (some (L, xs)) cd_law 1 448 ls st H = aBin (fun st => aGo cl (some (L, xs)) cd_law 1 449 ls st H) (fun x y => x + y) st) ∧
  (∀ ls st H, aGo cl (some (L, xs)) cd_law 1 449 ls st H = aIald (fun st => aGo cl (some (L, xs)) cd_law 1 450 ls st H) (some (L, xs)) H st) ∧
  (∀ ls st H, aGo cl (some (L, xs)) cd_law 1 450 ls st H = aRLoad (fun st => aGo cl (some (L, xs)) cd_law 1 451 ls st H) ls 0 st) ∧
  (∀ ls st H, aGo cl (some (L, xs)) cd_law 1 451 ls st H = aILoad (fun st => aGo cl (some (L, xs)) cd_law 1 452 ls st H) ls 3 st) ∧
  (∀ ls st H, aGo cl (some (L, xs)) cd_law 1 452 ls st H = aGo cl (some (L, xs)) cd_law 1 453 ls (.int 2 :: st) H) ∧
  (∀ ls st H, aGo cl (some (L, xs)) cd_law 1 453 ls st H = aBin (fun st => aGo cl (some (L, xs)) cd_law 1 454 ls st H) (fun x y => x + y) st) ∧
  (∀ ls st H, aGo cl (some (L, xs)) cd_law 1 454 ls st H = aIald (fun st => aGo cl (some (L, xs)) cd_law 1 455 ls st H) (some (L, xs)) H st) ∧
  (∀ ls st H, aGo cl (some (L, xs)) cd_law 1 455 ls st H = aCallV (fun st H => aGo cl (some (L, xs)) cd_law 1 458 ls st H) cl 172 2 8 H st) ∧
  (∀ ls st H, aGo cl (some (L, xs)) cd_law 1 458 ls st H = aIc (fun p st => aGo cl (some (L, xs)) cd_law 1 p ls st H) .eq 1485 461 st) :=
  ⟨fun _ _ _ => (aGo_s rfl).trans rfl, fun _ _ _ => (aGo_s rfl).trans rfl, fun _ _ _ => (aGo_s rfl).trans rfl, fun _ _ _ => (aGo_s rfl).trans rfl, fun _ _ _ => (aGo_s rfl).trans rfl, fun _ _ _ => (aGo_s rfl).trans rfl, fun _ _ _ => (aGo_s rfl).trans rfl, fun _ _ _ => (aGo_s rfl).trans rfl, fun _ _ _ => (aGo_s rfl).trans rfl, fun _ _ _ => (aGo_s rfl).trans rfl, fun _ _ _ => (aGo_s rfl).trans rfl, fun _ _ _ => (aGo_s rfl).trans rfl, fun _ _ _ => (aGo_s rfl).trans rfl, fun _ _ _ => (aGo_s rfl).trans rfl, fun _ _ _ => (aGo_s rfl).trans rfl, fun _ _ _ => (aGo_s rfl).trans rfl, fun _ _ _ => (aGo_s rfl).trans rfl, fun _ _ _ => (aGo_s rfl).trans rfl, fun _ _ _ => (aGo_s rfl).trans rfl, fun _ _ _ => (aGo_s rfl).trans rfl, fun _ _ _ => (aGo_s rfl).trans rfl, fun _ _ _ => (aGo_s rfl).trans rfl, fun _ _ _ => (aGo_s rfl).trans rfl, fun _ _ _ => (aGo_s rfl).trans rfl, fun _ _ _ => (aGo_s rfl).trans rfl⟩
theorem lw_6 {cl : Nat → List Value → aH → aRs} {L i : Nat} {xs : Nat → Int32} {I I1 I2 : Nat → Nat → Int32} {x y x1 y1 : Option Nat} {v : Int32} (hi : i + 6 ≤ L) (hL : L ≤ 3072) (h1 : cl 70 [.ref 0, .int (xs (i + 1)), .int (xs (i + 2))] (HH I x y) = some (some (.int v), HH I1 x1 y1)) (h2 : cl 172 [.ref 113, .int (xs (i + 1)), .int (xs (i + 2))] (HH I1 x1 y1) = some (some (.int v), HH I2 x1 y1)) : aGo cl (some (L, xs)) cd_law 1 430 (lwLs i) [] (HH I x y) = aGo cl (some (L, xs)) cd_law 1 1485 (lwLs i) [] (HH I2 x1 y1) := by
  simp [w_6, aILoad, aRLoad, aLLoad, aIStore, aRStore, aPush, aBin, aBinL, aShL, aUn, aIf, aIc, aGet, aPut, aBald, aAald, aIast, aBast, aAast, aAlen, aCopy, aCallV, aCallC, aCallI, aRet, aCat, aMax, aMin, aDiv, aRem, aI2l, aL2i, aNul, aSwS, aSw, aInc, aDup, aDup2, aPop1, aIret, aAret, aVret, aLen, aFk, aFT, Value.category, c_sh, m_sh, lw_l hi hL, h1, h2]
theorem w_7 {cl : Nat → List Value → aH → aRs} {L : Nat} {xs : Nat → Int32} : (∀ ls st H, aGo cl (some (L, xs)) cd_law 1 463 ls st H = aRLoad (fun st => aGo cl (some (L, xs)) cd_law 1 464 ls st H) ls 1 st) ∧
  (∀ ls st H, aGo cl (some (L, xs)) cd_law 1 464 ls st H = aRLoad (fun st => aGo cl (some (L, xs)) cd_law 1 465 ls st H) ls 0 st) ∧
  (∀ ls st H, aGo cl (some (L, xs)) cd_law 1 465 ls st H = aILoad (fun st => aGo cl (some (L, xs)) cd_law 1 466 ls st H) ls 3 st) ∧
  (∀ ls st H, aGo cl (some (L, xs)) cd_law 1 466 ls st H = aGo cl (some (L, xs)) cd_law 1 467 ls (.int 1 :: st) H) ∧
  (∀ ls st H, aGo cl (some (L, xs)) cd_law 1 467 ls st H = aBin (fun st => aGo cl (some (L, xs)) cd_law 1 468 ls st H) (fun x y => x + y) st) ∧
  (∀ ls st H, aGo cl (some (L, xs)) cd_law 1 468 ls st H = aIald (fun st => aGo cl (some (L, xs)) cd_law 1 469 ls st H) (some (L, xs)) H st) ∧
  (∀ ls st H, aGo cl (some (L, xs)) cd_law 1 469 ls st H = aRLoad (fun st => aGo cl (some (L, xs)) cd_law 1 470 ls st H) ls 0 st) ∧
  (∀ ls st H, aGo cl (some (L, xs)) cd_law 1 470 ls st H = aILoad (fun st => aGo cl (some (L, xs)) cd_law 1 471 ls st H) ls 3 st) ∧
  (∀ ls st H, aGo cl (some (L, xs)) cd_law 1 471 ls st H = aGo cl (some (L, xs)) cd_law 1 472 ls (.int 2 :: st) H) ∧
  (∀ ls st H, aGo cl (some (L, xs)) cd_law 1 472 ls st H = aBin (fun st => aGo cl (some (L, xs)) cd_law 1 473 ls st H) (fun x y => x + y) st) ∧
  (∀ ls st H, aGo cl (some (L, xs)) cd_law 1 473 ls st H = aIald (fun st => aGo cl (some (L, xs)) cd_law 1 474 ls st H) (some (L, xs)) H st) ∧
  (∀ ls st H, aGo cl (some (L, xs)) cd_law 1 474 ls st H = aRLoad (fun st => aGo cl (some (L, xs)) cd_law 1 475 ls st H) ls 0 st) ∧
  (∀ ls st H, aGo cl (some (L, xs)) cd_law 1 475 ls st H = aILoad (fun st => aGo cl (some (L, xs)) cd_law 1 476 ls st H) ls 3 st) ∧
  (∀ ls st H, aGo cl (some (L, xs)) cd_law 1 476 ls st H = aGo cl (some (L, xs)) cd_law 1 477 ls (.int 3 :: st) H) ∧
  (∀ ls st H, aGo cl (some (L, xs)) cd_law 1 477 ls st H = aBin (fun st => aGo cl (some (L, xs)) cd_law 1 478 ls st H) (fun x y => x + y) st) ∧
  (∀ ls st H, aGo cl (some (L, xs)) cd_law 1 478 ls st H = aIald (fun st => aGo cl (some (L, xs)) cd_law 1 479 ls st H) (some (L, xs)) H st) ∧
  (∀ ls st H, aGo cl (some (L, xs)) cd_law 1 479 ls st H = aCallV (fun st H => aGo cl (some (L, xs)) cd_law 1 482 ls st H) cl 71 3 7 H st) ∧
  (∀ ls st H, aGo cl (some (L, xs)) cd_law 1 482 ls st H = aRLoad (fun st => aGo cl (some (L, xs)) cd_law 1 483 ls st H) ls 2 st) ∧
  (∀ ls st H, aGo cl (some (L, xs)) cd_law 1 483 ls st H = aRLoad (fun st => aGo cl (some (L, xs)) cd_law 1 484 ls st H) ls 0 st) ∧
  (∀ ls st H, aGo cl (some (L, xs)) cd_law 1 484 ls st H = aILoad (fun st => aGo cl (some (L, xs)) cd_law 1 485 ls st H) ls 3 st) ∧
  (∀ ls st H, aGo cl (some (L, xs)) cd_law 1 485 ls st H = aGo cl (some (L, xs)) cd_law 1 486 ls (.int 1 :: st) H) ∧
  (∀ ls st H, aGo cl (some (L, xs)) cd_law 1 486 ls st H = aBin (fun st => aGo cl (some (L, xs)) cd_law 1 487 ls st H) (fun x y => x + y) st) ∧
  (∀ ls st H, aGo cl (some (L, xs)) cd_law 1 487 ls st H = aIald (fun st => aGo cl (some (L, xs)) cd_law 1 488 ls st H) (some (L, xs)) H st) ∧
  (∀ ls st H, aGo cl (some (L, xs)) cd_law 1 488 ls st H = aRLoad (fun st => aGo cl (some (L, xs)) cd_law 1 489 ls st H) ls 0 st) ∧
  (∀ ls st H, aGo cl (some (L, xs)) cd_law 1 489 ls st H = aILoad (fun st => aGo cl (some (L, xs)) cd_law 1 490 ls st H) ls 3 st) ∧
  (∀ ls st H, aGo cl (some (L, xs)) cd_law 1 490 ls st H = aGo cl (some (L, xs)) cd_law 1 491 ls (.int 2 :: st) H) ∧
  (∀ ls st H, aGo cl (some (L, xs)) cd_law 1 491 ls st H = aBin (fun st => aGo cl (some (L, xs)) cd_law 1 492 ls st H) (fun x y => x + y) st) ∧
  (∀ ls st H, aGo cl (some (L, xs)) cd_law 1 492 ls st H = aIald (fun st => aGo cl (some (L, xs)) cd_law 1 493 ls st H) (some (L, xs)) H st) ∧
  (∀ ls st H, aGo cl (some (L, xs)) cd_law 1 493 ls st H = aRLoad (fun st => aGo cl (some (L, xs)) cd_law 1 494 ls st H) ls 0 st) ∧
  (∀ ls st H, aGo cl (some (L, xs)) cd_law 1 494 ls st H = aILoad (fun st => aGo cl (some (L, xs)) cd_law 1 495 ls st H) ls 3 st) ∧
  (∀ ls st H, aGo cl (some (L, xs)) cd_law 1 495 ls st H = aGo cl (some (L, xs)) cd_law 1 496 ls (.int 3 :: st) H) ∧
  (∀ ls st H, aGo cl (some (L, xs)) cd_law 1 496 ls st H = aBin (fun st => aGo cl (some (L, xs)) cd_law 1 497 ls st H) (fun x y => x + y) st) ∧
  (∀ ls st H, aGo cl (some (L, xs)) cd_law 1 497 ls st H = aIald (fun st => aGo cl (some (L, xs)) cd_law 1 498 ls st H) (some (L, xs)) H st) ∧
  (∀ ls st H, aGo cl (some (L, xs)) cd_law 1 498 ls st H = aCallV (fun st H => aGo cl (some (L, xs)) cd_law 1 501 ls st H) cl 173 3 8 H st) ∧
  (∀ ls st H, aGo cl (some (L, xs)) cd_law 1 501 ls st H = aIc (fun p st => aGo cl (some (L, xs)) cd_law 1 p ls st H) .eq 1485 504 st) :=
  ⟨fun _ _ _ => (aGo_s rfl).trans rfl, fun _ _ _ => (aGo_s rfl).trans rfl, fun _ _ _ => (aGo_s rfl).trans rfl, fun _ _ _ => (aGo_s rfl).trans rfl, fun _ _ _ => (aGo_s rfl).trans rfl, fun _ _ _ => (aGo_s rfl).trans rfl, fun _ _ _ => (aGo_s rfl).trans rfl, fun _ _ _ => (aGo_s rfl).trans rfl, fun _ _ _ => (aGo_s rfl).trans rfl, fun _ _ _ => (aGo_s rfl).trans rfl, fun _ _ _ => (aGo_s rfl).trans rfl, fun _ _ _ => (aGo_s rfl).trans rfl, fun _ _ _ => (aGo_s rfl).trans rfl, fun _ _ _ => (aGo_s rfl).trans rfl, fun _ _ _ => (aGo_s rfl).trans rfl, fun _ _ _ => (aGo_s rfl).trans rfl, fun _ _ _ => (aGo_s rfl).trans rfl, fun _ _ _ => (aGo_s rfl).trans rfl, fun _ _ _ => (aGo_s rfl).trans rfl, fun _ _ _ => (aGo_s rfl).trans rfl, fun _ _ _ => (aGo_s rfl).trans rfl, fun _ _ _ => (aGo_s rfl).trans rfl, fun _ _ _ => (aGo_s rfl).trans rfl, fun _ _ _ => (aGo_s rfl).trans rfl, fun _ _ _ => (aGo_s rfl).trans rfl, fun _ _ _ => (aGo_s rfl).trans rfl, fun _ _ _ => (aGo_s rfl).trans rfl, fun _ _ _ => (aGo_s rfl).trans rfl, fun _ _ _ => (aGo_s rfl).trans rfl, fun _ _ _ => (aGo_s rfl).trans rfl, fun _ _ _ => (aGo_s rfl).trans rfl, fun _ _ _ => (aGo_s rfl).trans rfl, fun _ _ _ => (aGo_s rfl).trans rfl, fun _ _ _ => (aGo_s rfl).trans rfl, fun _ _ _ => (aGo_s rfl).trans rfl⟩
theorem lw_7 {cl : Nat → List Value → aH → aRs} {L i : Nat} {xs : Nat → Int32} {I I1 I2 : Nat → Nat → Int32} {x y x1 y1 : Option Nat} {v : Int32} (hi : i + 6 ≤ L) (hL : L ≤ 3072) (h1 : cl 71 [.ref 0, .int (xs (i + 1)), .int (xs (i + 2)), .int (xs (i + 3))] (HH I x y) = some (some (.int v), HH I1 x1 y1)) (h2 : cl 173 [.ref 113, .int (xs (i + 1)), .int (xs (i + 2)), .int (xs (i + 3))] (HH I1 x1 y1) = some (some (.int v), HH I2 x1 y1)) : aGo cl (some (L, xs)) cd_law 1 463 (lwLs i) [] (HH I x y) = aGo cl (some (L, xs)) cd_law 1 1485 (lwLs i) [] (HH I2 x1 y1) := by
  simp [w_7, aILoad, aRLoad, aLLoad, aIStore, aRStore, aPush, aBin, aBinL, aShL, aUn, aIf, aIc, aGet, aPut, aBald, aAald, aIast, aBast, aAast, aAlen, aCopy, aCallV, aCallC, aCallI, aRet, aCat, aMax, aMin, aDiv, aRem, aI2l, aL2i, aNul, aSwS, aSw, aInc, aDup, aDup2, aPop1, aIret, aAret, aVret, aLen, aFk, aFT, Value.category, c_sh, m_sh, lw_l hi hL, h1, h2]
theorem w_8 {cl : Nat → List Value → aH → aRs} {L : Nat} {xs : Nat → Int32} : (∀ ls st H, aGo cl (some (L, xs)) cd_law 1 506 ls st H = aRLoad (fun st => aGo cl (some (L, xs)) cd_law 1 507 ls st H) ls 1 st) ∧
  (∀ ls st H, aGo cl (some (L, xs)) cd_law 1 507 ls st H = aRLoad (fun st => aGo cl (some (L, xs)) cd_law 1 508 ls st H) ls 0 st) ∧
  (∀ ls st H, aGo cl (some (L, xs)) cd_law 1 508 ls st H = aILoad (fun st => aGo cl (some (L, xs)) cd_law 1 509 ls st H) ls 3 st) ∧
  (∀ ls st H, aGo cl (some (L, xs)) cd_law 1 509 ls st H = aGo cl (some (L, xs)) cd_law 1 510 ls (.int 1 :: st) H) ∧
  (∀ ls st H, aGo cl (some (L, xs)) cd_law 1 510 ls st H = aBin (fun st => aGo cl (some (L, xs)) cd_law 1 511 ls st H) (fun x y => x + y) st) ∧
  (∀ ls st H, aGo cl (some (L, xs)) cd_law 1 511 ls st H = aIald (fun st => aGo cl (some (L, xs)) cd_law 1 512 ls st H) (some (L, xs)) H st) ∧
  (∀ ls st H, aGo cl (some (L, xs)) cd_law 1 512 ls st H = aCallV (fun st H => aGo cl (some (L, xs)) cd_law 1 515 ls st H) cl 72 1 7 H st) ∧
  (∀ ls st H, aGo cl (some (L, xs)) cd_law 1 515 ls st H = aRLoad (fun st => aGo cl (some (L, xs)) cd_law 1 516 ls st H) ls 2 st) ∧
  (∀ ls st H, aGo cl (some (L, xs)) cd_law 1 516 ls st H = aRLoad (fun st => aGo cl (some (L, xs)) cd_law 1 517 ls st H) ls 0 st) ∧
  (∀ ls st H, aGo cl (some (L, xs)) cd_law 1 517 ls st H = aILoad (fun st => aGo cl (some (L, xs)) cd_law 1 518 ls st H) ls 3 st) ∧
  (∀ ls st H, aGo cl (some (L, xs)) cd_law 1 518 ls st H = aGo cl (some (L, xs)) cd_law 1 519 ls (.int 1 :: st) H) ∧
  (∀ ls st H, aGo cl (some (L, xs)) cd_law 1 519 ls st H = aBin (fun st => aGo cl (some (L, xs)) cd_law 1 520 ls st H) (fun x y => x + y) st) ∧
  (∀ ls st H, aGo cl (some (L, xs)) cd_law 1 520 ls st H = aIald (fun st => aGo cl (some (L, xs)) cd_law 1 521 ls st H) (some (L, xs)) H st) ∧
  (∀ ls st H, aGo cl (some (L, xs)) cd_law 1 521 ls st H = aCallV (fun st H => aGo cl (some (L, xs)) cd_law 1 524 ls st H) cl 174 1 8 H st) ∧
  (∀ ls st H, aGo cl (some (L, xs)) cd_law 1 524 ls st H = aIc (fun p st => aGo cl (some (L, xs)) cd_law 1 p ls st H) .eq 1485 527 st) :=
  ⟨fun _ _ _ => (aGo_s rfl).trans rfl, fun _ _ _ => (aGo_s rfl).trans rfl, fun _ _ _ => (aGo_s rfl).trans rfl, fun _ _ _ => (aGo_s rfl).trans rfl, fun _ _ _ => (aGo_s rfl).trans rfl, fun _ _ _ => (aGo_s rfl).trans rfl, fun _ _ _ => (aGo_s rfl).trans rfl, fun _ _ _ => (aGo_s rfl).trans rfl, fun _ _ _ => (aGo_s rfl).trans rfl, fun _ _ _ => (aGo_s rfl).trans rfl, fun _ _ _ => (aGo_s rfl).trans rfl, fun _ _ _ => (aGo_s rfl).trans rfl, fun _ _ _ => (aGo_s rfl).trans rfl, fun _ _ _ => (aGo_s rfl).trans rfl, fun _ _ _ => (aGo_s rfl).trans rfl⟩
theorem lw_8 {cl : Nat → List Value → aH → aRs} {L i : Nat} {xs : Nat → Int32} {I I1 I2 : Nat → Nat → Int32} {x y x1 y1 : Option Nat} {v : Int32} (hi : i + 6 ≤ L) (hL : L ≤ 3072) (h1 : cl 72 [.ref 0, .int (xs (i + 1))] (HH I x y) = some (some (.int v), HH I1 x1 y1)) (h2 : cl 174 [.ref 113, .int (xs (i + 1))] (HH I1 x1 y1) = some (some (.int v), HH I2 x1 y1)) : aGo cl (some (L, xs)) cd_law 1 506 (lwLs i) [] (HH I x y) = aGo cl (some (L, xs)) cd_law 1 1485 (lwLs i) [] (HH I2 x1 y1) := by
  simp [w_8, aILoad, aRLoad, aLLoad, aIStore, aRStore, aPush, aBin, aBinL, aShL, aUn, aIf, aIc, aGet, aPut, aBald, aAald, aIast, aBast, aAast, aAlen, aCopy, aCallV, aCallC, aCallI, aRet, aCat, aMax, aMin, aDiv, aRem, aI2l, aL2i, aNul, aSwS, aSw, aInc, aDup, aDup2, aPop1, aIret, aAret, aVret, aLen, aFk, aFT, Value.category, c_sh, m_sh, lw_l hi hL, h1, h2]
theorem w_9 {cl : Nat → List Value → aH → aRs} {L : Nat} {xs : Nat → Int32} : (∀ ls st H, aGo cl (some (L, xs)) cd_law 1 529 ls st H = aRLoad (fun st => aGo cl (some (L, xs)) cd_law 1 530 ls st H) ls 1 st) ∧
  (∀ ls st H, aGo cl (some (L, xs)) cd_law 1 530 ls st H = aRLoad (fun st => aGo cl (some (L, xs)) cd_law 1 531 ls st H) ls 0 st) ∧
  (∀ ls st H, aGo cl (some (L, xs)) cd_law 1 531 ls st H = aILoad (fun st => aGo cl (some (L, xs)) cd_law 1 532 ls st H) ls 3 st) ∧
  (∀ ls st H, aGo cl (some (L, xs)) cd_law 1 532 ls st H = aGo cl (some (L, xs)) cd_law 1 533 ls (.int 1 :: st) H) ∧
  (∀ ls st H, aGo cl (some (L, xs)) cd_law 1 533 ls st H = aBin (fun st => aGo cl (some (L, xs)) cd_law 1 534 ls st H) (fun x y => x + y) st) ∧
  (∀ ls st H, aGo cl (some (L, xs)) cd_law 1 534 ls st H = aIald (fun st => aGo cl (some (L, xs)) cd_law 1 535 ls st H) (some (L, xs)) H st) ∧
  (∀ ls st H, aGo cl (some (L, xs)) cd_law 1 535 ls st H = aI2l (fun st => aGo cl (some (L, xs)) cd_law 1 536 ls st H) st) ∧
  (∀ ls st H, aGo cl (some (L, xs)) cd_law 1 536 ls st H = aGo cl (some (L, xs)) cd_law 1 538 ls (.int 32 :: st) H) ∧
  (∀ ls st H, aGo cl (some (L, xs)) cd_law 1 538 ls st H = aShL (fun st => aGo cl (some (L, xs)) cd_law 1 539 ls st H) (fun x y => x <<< (y.toInt64 &&& 63)) st) ∧
  (∀ ls st H, aGo cl (some (L, xs)) cd_law 1 539 ls st H = aRLoad (fun st => aGo cl (some (L, xs)) cd_law 1 540 ls st H) ls 0 st) ∧
  (∀ ls st H, aGo cl (some (L, xs)) cd_law 1 540 ls st H = aILoad (fun st => aGo cl (some (L, xs)) cd_law 1 541 ls st H) ls 3 st) ∧
  (∀ ls st H, aGo cl (some (L, xs)) cd_law 1 541 ls st H = aGo cl (some (L, xs)) cd_law 1 542 ls (.int 2 :: st) H) ∧
  (∀ ls st H, aGo cl (some (L, xs)) cd_law 1 542 ls st H = aBin (fun st => aGo cl (some (L, xs)) cd_law 1 543 ls st H) (fun x y => x + y) st) ∧
  (∀ ls st H, aGo cl (some (L, xs)) cd_law 1 543 ls st H = aIald (fun st => aGo cl (some (L, xs)) cd_law 1 544 ls st H) (some (L, xs)) H st) ∧
  (∀ ls st H, aGo cl (some (L, xs)) cd_law 1 544 ls st H = aI2l (fun st => aGo cl (some (L, xs)) cd_law 1 545 ls st H) st) ∧
  (∀ ls st H, aGo cl (some (L, xs)) cd_law 1 545 ls st H = aGo cl (some (L, xs)) cd_law 1 548 ls (.long (Int64.ofNat 4294967295) :: st) H) ∧
  (∀ ls st H, aGo cl (some (L, xs)) cd_law 1 548 ls st H = aBinL (fun st => aGo cl (some (L, xs)) cd_law 1 549 ls st H) (fun x y => x &&& y) st) ∧
  (∀ ls st H, aGo cl (some (L, xs)) cd_law 1 549 ls st H = aBinL (fun st => aGo cl (some (L, xs)) cd_law 1 550 ls st H) (fun x y => x ||| y) st) ∧
  (∀ ls st H, aGo cl (some (L, xs)) cd_law 1 550 ls st H = aRLoad (fun st => aGo cl (some (L, xs)) cd_law 1 551 ls st H) ls 0 st) ∧
  (∀ ls st H, aGo cl (some (L, xs)) cd_law 1 551 ls st H = aILoad (fun st => aGo cl (some (L, xs)) cd_law 1 552 ls st H) ls 3 st) ∧
  (∀ ls st H, aGo cl (some (L, xs)) cd_law 1 552 ls st H = aGo cl (some (L, xs)) cd_law 1 553 ls (.int 3 :: st) H) ∧
  (∀ ls st H, aGo cl (some (L, xs)) cd_law 1 553 ls st H = aBin (fun st => aGo cl (some (L, xs)) cd_law 1 554 ls st H) (fun x y => x + y) st) ∧
  (∀ ls st H, aGo cl (some (L, xs)) cd_law 1 554 ls st H = aIald (fun st => aGo cl (some (L, xs)) cd_law 1 555 ls st H) (some (L, xs)) H st) ∧
  (∀ ls st H, aGo cl (some (L, xs)) cd_law 1 555 ls st H = aCallV (fun st H => aGo cl (some (L, xs)) cd_law 1 558 ls st H) cl 73 2 7 H st) ∧
  (∀ ls st H, aGo cl (some (L, xs)) cd_law 1 558 ls st H = aRLoad (fun st => aGo cl (some (L, xs)) cd_law 1 559 ls st H) ls 2 st) ∧
  (∀ ls st H, aGo cl (some (L, xs)) cd_law 1 559 ls st H = aRLoad (fun st => aGo cl (some (L, xs)) cd_law 1 560 ls st H) ls 0 st) ∧
  (∀ ls st H, aGo cl (some (L, xs)) cd_law 1 560 ls st H = aILoad (fun st => aGo cl (some (L, xs)) cd_law 1 561 ls st H) ls 3 st) ∧
  (∀ ls st H, aGo cl (some (L, xs)) cd_law 1 561 ls st H = aGo cl (some (L, xs)) cd_law 1 562 ls (.int 1 :: st) H) ∧
  (∀ ls st H, aGo cl (some (L, xs)) cd_law 1 562 ls st H = aBin (fun st => aGo cl (some (L, xs)) cd_law 1 563 ls st H) (fun x y => x + y) st) ∧
  (∀ ls st H, aGo cl (some (L, xs)) cd_law 1 563 ls st H = aIald (fun st => aGo cl (some (L, xs)) cd_law 1 564 ls st H) (some (L, xs)) H st) ∧
  (∀ ls st H, aGo cl (some (L, xs)) cd_law 1 564 ls st H = aI2l (fun st => aGo cl (some (L, xs)) cd_law 1 565 ls st H) st) ∧
  (∀ ls st H, aGo cl (some (L, xs)) cd_law 1 565 ls st H = aGo cl (some (L, xs)) cd_law 1 567 ls (.int 32 :: st) H) ∧
  (∀ ls st H, aGo cl (some (L, xs)) cd_law 1 567 ls st H = aShL (fun st => aGo cl (some (L, xs)) cd_law 1 568 ls st H) (fun x y => x <<< (y.toInt64 &&& 63)) st) ∧
  (∀ ls st H, aGo cl (some (L, xs)) cd_law 1 568 ls st H = aRLoad (fun st => aGo cl (some (L, xs)) cd_law 1 569 ls st H) ls 0 st) ∧
  (∀ ls st H, aGo cl (some (L, xs)) cd_law 1 569 ls st H = aILoad (fun st => aGo cl (some (L, xs)) cd_law 1 570 ls st H) ls 3 st) ∧
  (∀ ls st H, aGo cl (some (L, xs)) cd_law 1 570 ls st H = aGo cl (some (L, xs)) cd_law 1 571 ls (.int 2 :: st) H) ∧
  (∀ ls st H, aGo cl (some (L, xs)) cd_law 1 571 ls st H = aBin (fun st => aGo cl (some (L, xs)) cd_law 1 572 ls st H) (fun x y => x + y) st) ∧
  (∀ ls st H, aGo cl (some (L, xs)) cd_law 1 572 ls st H = aIald (fun st => aGo cl (some (L, xs)) cd_law 1 573 ls st H) (some (L, xs)) H st) ∧
  (∀ ls st H, aGo cl (some (L, xs)) cd_law 1 573 ls st H = aI2l (fun st => aGo cl (some (L, xs)) cd_law 1 574 ls st H) st) ∧
  (∀ ls st H, aGo cl (some (L, xs)) cd_law 1 574 ls st H = aGo cl (some (L, xs)) cd_law 1 577 ls (.long (Int64.ofNat 4294967295) :: st) H) ∧
  (∀ ls st H, aGo cl (some (L, xs)) cd_law 1 577 ls st H = aBinL (fun st => aGo cl (some (L, xs)) cd_law 1 578 ls st H) (fun x y => x &&& y) st) ∧
  (∀ ls st H, aGo cl (some (L, xs)) cd_law 1 578 ls st H = aBinL (fun st => aGo cl (some (L, xs)) cd_law 1 579 ls st H) (fun x y => x ||| y) st) ∧
  (∀ ls st H, aGo cl (some (L, xs)) cd_law 1 579 ls st H = aRLoad (fun st => aGo cl (some (L, xs)) cd_law 1 580 ls st H) ls 0 st) ∧
  (∀ ls st H, aGo cl (some (L, xs)) cd_law 1 580 ls st H = aILoad (fun st => aGo cl (some (L, xs)) cd_law 1 581 ls st H) ls 3 st) ∧
  (∀ ls st H, aGo cl (some (L, xs)) cd_law 1 581 ls st H = aGo cl (some (L, xs)) cd_law 1 582 ls (.int 3 :: st) H) ∧
  (∀ ls st H, aGo cl (some (L, xs)) cd_law 1 582 ls st H = aBin (fun st => aGo cl (some (L, xs)) cd_law 1 583 ls st H) (fun x y => x + y) st) ∧
  (∀ ls st H, aGo cl (some (L, xs)) cd_law 1 583 ls st H = aIald (fun st => aGo cl (some (L, xs)) cd_law 1 584 ls st H) (some (L, xs)) H st) ∧
  (∀ ls st H, aGo cl (some (L, xs)) cd_law 1 584 ls st H = aCallV (fun st H => aGo cl (some (L, xs)) cd_law 1 587 ls st H) cl 131 2 8 H st) ∧
  (∀ ls st H, aGo cl (some (L, xs)) cd_law 1 587 ls st H = aIc (fun p st => aGo cl (some (L, xs)) cd_law 1 p ls st H) .eq 1485 590 st) :=
  ⟨fun _ _ _ => (aGo_s rfl).trans rfl, fun _ _ _ => (aGo_s rfl).trans rfl, fun _ _ _ => (aGo_s rfl).trans rfl, fun _ _ _ => (aGo_s rfl).trans rfl, fun _ _ _ => (aGo_s rfl).trans rfl, fun _ _ _ => (aGo_s rfl).trans rfl, fun _ _ _ => (aGo_s rfl).trans rfl, fun _ _ _ => (aGo_s rfl).trans rfl, fun _ _ _ => (aGo_s rfl).trans rfl, fun _ _ _ => (aGo_s rfl).trans rfl, fun _ _ _ => (aGo_s rfl).trans rfl, fun _ _ _ => (aGo_s rfl).trans rfl, fun _ _ _ => (aGo_s rfl).trans rfl, fun _ _ _ => (aGo_s rfl).trans rfl, fun _ _ _ => (aGo_s rfl).trans rfl, fun _ _ _ => (aGo_s rfl).trans rfl, fun _ _ _ => (aGo_s rfl).trans rfl, fun _ _ _ => (aGo_s rfl).trans rfl, fun _ _ _ => (aGo_s rfl).trans rfl, fun _ _ _ => (aGo_s rfl).trans rfl, fun _ _ _ => (aGo_s rfl).trans rfl, fun _ _ _ => (aGo_s rfl).trans rfl, fun _ _ _ => (aGo_s rfl).trans rfl, fun _ _ _ => (aGo_s rfl).trans rfl, fun _ _ _ => (aGo_s rfl).trans rfl, fun _ _ _ => (aGo_s rfl).trans rfl, fun _ _ _ => (aGo_s rfl).trans rfl, fun _ _ _ => (aGo_s rfl).trans rfl, fun _ _ _ => (aGo_s rfl).trans rfl, fun _ _ _ => (aGo_s rfl).trans rfl, fun _ _ _ => (aGo_s rfl).trans rfl, fun _ _ _ => (aGo_s rfl).trans rfl, fun _ _ _ => (aGo_s rfl).trans rfl, fun _ _ _ => (aGo_s rfl).trans rfl, fun _ _ _ => (aGo_s rfl).trans rfl, fun _ _ _ => (aGo_s rfl).trans rfl, fun _ _ _ => (aGo_s rfl).trans rfl, fun _ _ _ => (aGo_s rfl).trans rfl, fun _ _ _ => (aGo_s rfl).trans rfl, fun _ _ _ => (aGo_s rfl).trans rfl, fun _ _ _ => (aGo_s rfl).trans rfl, fun _ _ _ => (aGo_s rfl).trans rfl, fun _ _ _ => (aGo_s rfl).trans rfl, fun _ _ _ => (aGo_s rfl).trans rfl, fun _ _ _ => (aGo_s rfl).trans rfl, fun _ _ _ => (aGo_s rfl).trans rfl, fun _ _ _ => (aGo_s rfl).trans rfl, fun _ _ _ => (aGo_s rfl).trans rfl, fun _ _ _ => (aGo_s rfl).trans rfl⟩
theorem lw_9 {cl : Nat → List Value → aH → aRs} {L i : Nat} {xs : Nat → Int32} {I I1 I2 : Nat → Nat → Int32} {x y x1 y1 : Option Nat} {v : Int32} (hi : i + 6 ≤ L) (hL : L ≤ 3072) (h1 : cl 73 [.ref 0, .long (((xs (i + 1)).toInt64 <<< ((32 : Int32).toInt64 &&& 63)) ||| ((xs (i + 2)).toInt64 &&& Int64.ofNat 4294967295)), .int (xs (i + 3))] (HH I x y) = some (some (.int v), HH I1 x1 y1)) (h2 : cl 131 [.ref 113, .long (((xs (i + 1)).toInt64 <<< ((32 : Int32).toInt64 &&& 63)) ||| ((xs (i + 2)).toInt64 &&& Int64.ofNat 4294967295)), .int (xs (i + 3))] (HH I1 x1 y1) = some (some (.int v), HH I2 x1 y1)) : aGo cl (some (L, xs)) cd_law 1 529 (lwLs i) [] (HH I x y) = aGo cl (some (L, xs)) cd_law 1 1485 (lwLs i) [] (HH I2 x1 y1) := by
  obtain ⟨w, hw⟩ : ∃ w, ((xs (i + 1)).toInt64 <<< ((32 : Int32).toInt64 &&& 63)) ||| ((xs (i + 2)).toInt64 &&& Int64.ofNat 4294967295) = w := ⟨_, rfl⟩
  rw [hw] at h1 h2
  simp at hw
  simp [w_9, aILoad, aRLoad, aLLoad, aIStore, aRStore, aPush, aBin, aBinL, aShL, aUn, aIf, aIc, aGet, aPut, aBald, aAald, aIast, aBast, aAast, aAlen, aCopy, aCallV, aCallC, aCallI, aRet, aCat, aMax, aMin, aDiv, aRem, aI2l, aL2i, aNul, aSwS, aSw, aInc, aDup, aDup2, aPop1, aIret, aAret, aVret, aLen, aFk, aFT, Value.category, c_sh, m_sh, lw_l hi hL, hw, h1, h2]
theorem w_10 {cl : Nat → List Value → aH → aRs} {L : Nat} {xs : Nat → Int32} : (∀ ls st H, aGo cl (some (L, xs)) cd_law 1 592 ls st H = aRLoad (fun st => aGo cl (some (L, xs)) cd_law 1 593 ls st H) ls 1 st) ∧
  (∀ ls st H, aGo cl (some (L, xs)) cd_law 1 593 ls st H = aRLoad (fun st => aGo cl (some (L, xs)) cd_law 1 594 ls st H) ls 0 st) ∧
  (∀ ls st H, aGo cl (some (L, xs)) cd_law 1 594 ls st H = aILoad (fun st => aGo cl (some (L, xs)) cd_law 1 595 ls st H) ls 3 st) ∧
  (∀ ls st H, aGo cl (some (L, xs)) cd_law 1 595 ls st H = aGo cl (some (L, xs)) cd_law 1 596 ls (.int 1 :: st) H) ∧
  (∀ ls st H, aGo cl (some (L, xs)) cd_law 1 596 ls st H = aBin (fun st => aGo cl (some (L, xs)) cd_law 1 597 ls st H) (fun x y => x + y) st) ∧
  (∀ ls st H, aGo cl (some (L, xs)) cd_law 1 597 ls st H = aIald (fun st => aGo cl (some (L, xs)) cd_law 1 598 ls st H) (some (L, xs)) H st) ∧
  (∀ ls st H, aGo cl (some (L, xs)) cd_law 1 598 ls st H = aCallV (fun st H => aGo cl (some (L, xs)) cd_law 1 601 ls st H) cl 74 1 7 H st) ∧
  (∀ ls st H, aGo cl (some (L, xs)) cd_law 1 601 ls st H = aRLoad (fun st => aGo cl (some (L, xs)) cd_law 1 602 ls st H) ls 2 st) ∧
  (∀ ls st H, aGo cl (some (L, xs)) cd_law 1 602 ls st H = aRLoad (fun st => aGo cl (some (L, xs)) cd_law 1 603 ls st H) ls 0 st) ∧
  (∀ ls st H, aGo cl (some (L, xs)) cd_law 1 603 ls st H = aILoad (fun st => aGo cl (some (L, xs)) cd_law 1 604 ls st H) ls 3 st) ∧
  (∀ ls st H, aGo cl (some (L, xs)) cd_law 1 604 ls st H = aGo cl (some (L, xs)) cd_law 1 605 ls (.int 1 :: st) H) ∧
  (∀ ls st H, aGo cl (some (L, xs)) cd_law 1 605 ls st H = aBin (fun st => aGo cl (some (L, xs)) cd_law 1 606 ls st H) (fun x y => x + y) st) ∧
  (∀ ls st H, aGo cl (some (L, xs)) cd_law 1 606 ls st H = aIald (fun st => aGo cl (some (L, xs)) cd_law 1 607 ls st H) (some (L, xs)) H st) ∧
  (∀ ls st H, aGo cl (some (L, xs)) cd_law 1 607 ls st H = aCallV (fun st H => aGo cl (some (L, xs)) cd_law 1 610 ls st H) cl 143 1 8 H st) ∧
  (∀ ls st H, aGo cl (some (L, xs)) cd_law 1 610 ls st H = aIc (fun p st => aGo cl (some (L, xs)) cd_law 1 p ls st H) .eq 1485 613 st) :=
  ⟨fun _ _ _ => (aGo_s rfl).trans rfl, fun _ _ _ => (aGo_s rfl).trans rfl, fun _ _ _ => (aGo_s rfl).trans rfl, fun _ _ _ => (aGo_s rfl).trans rfl, fun _ _ _ => (aGo_s rfl).trans rfl, fun _ _ _ => (aGo_s rfl).trans rfl, fun _ _ _ => (aGo_s rfl).trans rfl, fun _ _ _ => (aGo_s rfl).trans rfl, fun _ _ _ => (aGo_s rfl).trans rfl, fun _ _ _ => (aGo_s rfl).trans rfl, fun _ _ _ => (aGo_s rfl).trans rfl, fun _ _ _ => (aGo_s rfl).trans rfl, fun _ _ _ => (aGo_s rfl).trans rfl, fun _ _ _ => (aGo_s rfl).trans rfl, fun _ _ _ => (aGo_s rfl).trans rfl⟩
theorem lw_10 {cl : Nat → List Value → aH → aRs} {L i : Nat} {xs : Nat → Int32} {I I1 I2 : Nat → Nat → Int32} {x y x1 y1 : Option Nat} {v : Int32} (hi : i + 6 ≤ L) (hL : L ≤ 3072) (h1 : cl 74 [.ref 0, .int (xs (i + 1))] (HH I x y) = some (some (.int v), HH I1 x1 y1)) (h2 : cl 143 [.ref 113, .int (xs (i + 1))] (HH I1 x1 y1) = some (some (.int v), HH I2 x1 y1)) : aGo cl (some (L, xs)) cd_law 1 592 (lwLs i) [] (HH I x y) = aGo cl (some (L, xs)) cd_law 1 1485 (lwLs i) [] (HH I2 x1 y1) := by
  simp [w_10, aILoad, aRLoad, aLLoad, aIStore, aRStore, aPush, aBin, aBinL, aShL, aUn, aIf, aIc, aGet, aPut, aBald, aAald, aIast, aBast, aAast, aAlen, aCopy, aCallV, aCallC, aCallI, aRet, aCat, aMax, aMin, aDiv, aRem, aI2l, aL2i, aNul, aSwS, aSw, aInc, aDup, aDup2, aPop1, aIret, aAret, aVret, aLen, aFk, aFT, Value.category, c_sh, m_sh, lw_l hi hL, h1, h2]
theorem w_11 {cl : Nat → List Value → aH → aRs} {L : Nat} {xs : Nat → Int32} : (∀ ls st H, aGo cl (some (L, xs)) cd_law 1 615 ls st H = aRLoad (fun st => aGo cl (some (L, xs)) cd_law 1 616 ls st H) ls 1 st) ∧
  (∀ ls st H, aGo cl (some (L, xs)) cd_law 1 616 ls st H = aRLoad (fun st => aGo cl (some (L, xs)) cd_law 1 617 ls st H) ls 0 st) ∧
  (∀ ls st H, aGo cl (some (L, xs)) cd_law 1 617 ls st H = aILoad (fun st => aGo cl (some (L, xs)) cd_law 1 618 ls st H) ls 3 st) ∧
  (∀ ls st H, aGo cl (some (L, xs)) cd_law 1 618 ls st H = aGo cl (some (L, xs)) cd_law 1 619 ls (.int 1 :: st) H) ∧
  (∀ ls st H, aGo cl (some (L, xs)) cd_law 1 619 ls st H = aBin (fun st => aGo cl (some (L, xs)) cd_law 1 620 ls st H) (fun x y => x + y) st) ∧
  (∀ ls st H, aGo cl (some (L, xs)) cd_law 1 620 ls st H = aIald (fun st => aGo cl (some (L, xs)) cd_law 1 621 ls st H) (some (L, xs)) H st) ∧
  (∀ ls st H, aGo cl (some (L, xs)) cd_law 1 621 ls st H = aCallV (fun st H => aGo cl (some (L, xs)) cd_law 1 624 ls st H) cl 75 1 7 H st) ∧
  (∀ ls st H, aGo cl (some (L, xs)) cd_law 1 624 ls st H = aRLoad (fun st => aGo cl (some (L, xs)) cd_law 1 625 ls st H) ls 2 st) ∧
  (∀ ls st H, aGo cl (some (L, xs)) cd_law 1 625 ls st H = aRLoad (fun st => aGo cl (some (L, xs)) cd_law 1 626 ls st H) ls 0 st) ∧
  (∀ ls st H, aGo cl (some (L, xs)) cd_law 1 626 ls st H = aILoad (fun st => aGo cl (some (L, xs)) cd_law 1 627 ls st H) ls 3 st) ∧
  (∀ ls st H, aGo cl (some (L, xs)) cd_law 1 627 ls st H = aGo cl (some (L, xs)) cd_law 1 628 ls (.int 1 :: st) H) ∧
  (∀ ls st H, aGo cl (some (L, xs)) cd_law 1 628 ls st H = aBin (fun st => aGo cl (some (L, xs)) cd_law 1 629 ls st H) (fun x y => x + y) st) ∧
  (∀ ls st H, aGo cl (some (L, xs)) cd_law 1 629 ls st H = aIald (fun st => aGo cl (some (L, xs)) cd_law 1 630 ls st H) (some (L, xs)) H st) ∧
  (∀ ls st H, aGo cl (some (L, xs)) cd_law 1 630 ls st H = aCallV (fun st H => aGo cl (some (L, xs)) cd_law 1 633 ls st H) cl 144 1 8 H st) ∧
  (∀ ls st H, aGo cl (some (L, xs)) cd_law 1 633 ls st H = aIc (fun p st => aGo cl (some (L, xs)) cd_law 1 p ls st H) .eq 1485 636 st) :=
  ⟨fun _ _ _ => (aGo_s rfl).trans rfl, fun _ _ _ => (aGo_s rfl).trans rfl, fun _ _ _ => (aGo_s rfl).trans rfl, fun _ _ _ => (aGo_s rfl).trans rfl, fun _ _ _ => (aGo_s rfl).trans rfl, fun _ _ _ => (aGo_s rfl).trans rfl, fun _ _ _ => (aGo_s rfl).trans rfl, fun _ _ _ => (aGo_s rfl).trans rfl, fun _ _ _ => (aGo_s rfl).trans rfl, fun _ _ _ => (aGo_s rfl).trans rfl, fun _ _ _ => (aGo_s rfl).trans rfl, fun _ _ _ => (aGo_s rfl).trans rfl, fun _ _ _ => (aGo_s rfl).trans rfl, fun _ _ _ => (aGo_s rfl).trans rfl, fun _ _ _ => (aGo_s rfl).trans rfl⟩
theorem lw_11 {cl : Nat → List Value → aH → aRs} {L i : Nat} {xs : Nat → Int32} {I I1 I2 : Nat → Nat → Int32} {x y x1 y1 : Option Nat} {v : Int32} (hi : i + 6 ≤ L) (hL : L ≤ 3072) (h1 : cl 75 [.ref 0, .int (xs (i + 1))] (HH I x y) = some (some (.int v), HH I1 x1 y1)) (h2 : cl 144 [.ref 113, .int (xs (i + 1))] (HH I1 x1 y1) = some (some (.int v), HH I2 x1 y1)) : aGo cl (some (L, xs)) cd_law 1 615 (lwLs i) [] (HH I x y) = aGo cl (some (L, xs)) cd_law 1 1485 (lwLs i) [] (HH I2 x1 y1) := by
  simp [w_11, aILoad, aRLoad, aLLoad, aIStore, aRStore, aPush, aBin, aBinL, aShL, aUn, aIf, aIc, aGet, aPut, aBald, aAald, aIast, aBast, aAast, aAlen, aCopy, aCallV, aCallC, aCallI, aRet, aCat, aMax, aMin, aDiv, aRem, aI2l, aL2i, aNul, aSwS, aSw, aInc, aDup, aDup2, aPop1, aIret, aAret, aVret, aLen, aFk, aFT, Value.category, c_sh, m_sh, lw_l hi hL, h1, h2]
theorem w_12 {cl : Nat → List Value → aH → aRs} {L : Nat} {xs : Nat → Int32} : (∀ ls st H, aGo cl (some (L, xs)) cd_law 1 638 ls st H = aRLoad (fun st => aGo cl (some (L, xs)) cd_law 1 639 ls st H) ls 1 st) ∧
  (∀ ls st H, aGo cl (some (L, xs)) cd_law 1 639 ls st H = aRLoad (fun st => aGo cl (some (L, xs)) cd_law 1 640 ls st H) ls 0 st) ∧
  (∀ ls st H, aGo cl (some (L, xs)) cd_law 1 640 ls st H = aILoad (fun st => aGo cl (some (L, xs)) cd_law 1 641 ls st H) ls 3 st) ∧
  (∀ ls st H, aGo cl (some (L, xs)) cd_law 1 641 ls st H = aGo cl (some (L, xs)) cd_law 1 642 ls (.int 1 :: st) H) ∧
  (∀ ls st H, aGo cl (some (L, xs)) cd_law 1 642 ls st H = aBin (fun st => aGo cl (some (L, xs)) cd_law 1 643 ls st H) (fun x y => x + y) st) ∧
  (∀ ls st H, aGo cl (some (L, xs)) cd_law 1 643 ls st H = aIald (fun st => aGo cl (some (L, xs)) cd_law 1 644 ls st H) (some (L, xs)) H st) ∧
  (∀ ls st H, aGo cl (some (L, xs)) cd_law 1 644 ls st H = aRLoad (fun st => aGo cl (some (L, xs)) cd_law 1 645 ls st H) ls 0 st) ∧
  (∀ ls st H, aGo cl (some (L, xs)) cd_law 1 645 ls st H = aILoad (fun st => aGo cl (some (L, xs)) cd_law 1 646 ls st H) ls 3 st) ∧
  (∀ ls st H, aGo cl (some (L, xs)) cd_law 1 646 ls st H = aGo cl (some (L, xs)) cd_law 1 647 ls (.int 2 :: st) H) ∧
  (∀ ls st H, aGo cl (some (L, xs)) cd_law 1 647 ls st H = aBin (fun st => aGo cl (some (L, xs)) cd_law 1 648 ls st H) (fun x y => x + y) st) ∧
  (∀ ls st H, aGo cl (some (L, xs)) cd_law 1 648 ls st H = aIald (fun st => aGo cl (some (L, xs)) cd_law 1 649 ls st H) (some (L, xs)) H st) ∧
  (∀ ls st H, aGo cl (some (L, xs)) cd_law 1 649 ls st H = aRLoad (fun st => aGo cl (some (L, xs)) cd_law 1 650 ls st H) ls 0 st) ∧
  (∀ ls st H, aGo cl (some (L, xs)) cd_law 1 650 ls st H = aILoad (fun st => aGo cl (some (L, xs)) cd_law 1 651 ls st H) ls 3 st) ∧
  (∀ ls st H, aGo cl (some (L, xs)) cd_law 1 651 ls st H = aGo cl (some (L, xs)) cd_law 1 652 ls (.int 3 :: st) H) ∧
  (∀ ls st H, aGo cl (some (L, xs)) cd_law 1 652 ls st H = aBin (fun st => aGo cl (some (L, xs)) cd_law 1 653 ls st H) (fun x y => x + y) st) ∧
  (∀ ls st H, aGo cl (some (L, xs)) cd_law 1 653 ls st H = aIald (fun st => aGo cl (some (L, xs)) cd_law 1 654 ls st H) (some (L, xs)) H st) ∧
  (∀ ls st H, aGo cl (some (L, xs)) cd_law 1 654 ls st H = aRLoad (fun st => aGo cl (some (L, xs)) cd_law 1 655 ls st H) ls 0 st) ∧
  (∀ ls st H, aGo cl (some (L, xs)) cd_law 1 655 ls st H = aILoad (fun st => aGo cl (some (L, xs)) cd_law 1 656 ls st H) ls 3 st) ∧
  (∀ ls st H, aGo cl (some (L, xs)) cd_law 1 656 ls st H = aGo cl (some (L, xs)) cd_law 1 657 ls (.int 4 :: st) H) ∧
  (∀ ls st H, aGo cl (some (L, xs)) cd_law 1 657 ls st H = aBin (fun st => aGo cl (some (L, xs)) cd_law 1 658 ls st H) (fun x y => x + y) st) ∧
  (∀ ls st H, aGo cl (some (L, xs)) cd_law 1 658 ls st H = aIald (fun st => aGo cl (some (L, xs)) cd_law 1 659 ls st H) (some (L, xs)) H st) ∧
  (∀ ls st H, aGo cl (some (L, xs)) cd_law 1 659 ls st H = aCallV (fun st H => aGo cl (some (L, xs)) cd_law 1 662 ls st H) cl 76 4 7 H st) ∧
  (∀ ls st H, aGo cl (some (L, xs)) cd_law 1 662 ls st H = aRLoad (fun st => aGo cl (some (L, xs)) cd_law 1 663 ls st H) ls 2 st) ∧
  (∀ ls st H, aGo cl (some (L, xs)) cd_law 1 663 ls st H = aRLoad (fun st => aGo cl (some (L, xs)) cd_law 1 664 ls st H) ls 0 st) ∧
  (∀ ls st H, aGo cl (some (L, xs)) cd_law 1 664 ls st H = aILoad (fun st => aGo cl (some (L, xs)) cd_law 1 665 ls st H) ls 3 st) ∧
  (∀ ls st H, aGo cl (some (L, xs)) cd_law 1 665 ls st H = aGo cl (some (L, xs)) cd_law 1 666 ls (.int 1 :: st) H) ∧
  (∀ ls st H, aGo cl (some (L, xs)) cd_law 1 666 ls st H = aBin (fun st => aGo cl (some (L, xs)) cd_law 1 667 ls st H) (fun x y => x + y) st) ∧
  (∀ ls st H, aGo cl (some (L, xs)) cd_law 1 667 ls st H = aIald (fun st => aGo cl (some (L, xs)) cd_law 1 668 ls st H) (some (L, xs)) H st) ∧
  (∀ ls st H, aGo cl (some (L, xs)) cd_law 1 668 ls st H = aRLoad (fun st => aGo cl (some (L, xs)) cd_law 1 669 ls st H) ls 0 st) ∧
  (∀ ls st H, aGo cl (some (L, xs)) cd_law 1 669 ls st H = aILoad (fun st => aGo cl (some (L, xs)) cd_law 1 670 ls st H) ls 3 st) ∧
  (∀ ls st H, aGo cl (some (L, xs)) cd_law 1 670 ls st H = aGo cl (some (L, xs)) cd_law 1 671 ls (.int 2 :: st) H) ∧
  (∀ ls st H, aGo cl (some (L, xs)) cd_law 1 671 ls st H = aBin (fun st => aGo cl (some (L, xs)) cd_law 1 672 ls st H) (fun x y => x + y) st) ∧
  (∀ ls st H, aGo cl (some (L, xs)) cd_law 1 672 ls st H = aIald (fun st => aGo cl (some (L, xs)) cd_law 1 673 ls st H) (some (L, xs)) H st) ∧
  (∀ ls st H, aGo cl (some (L, xs)) cd_law 1 673 ls st H = aRLoad (fun st => aGo cl (some (L, xs)) cd_law 1 674 ls st H) ls 0 st) ∧
  (∀ ls st H, aGo cl (some (L, xs)) cd_law 1 674 ls st H = aILoad (fun st => aGo cl (some (L, xs)) cd_law 1 675 ls st H) ls 3 st) ∧
  (∀ ls st H, aGo cl (some (L, xs)) cd_law 1 675 ls st H = aGo cl (some (L, xs)) cd_law 1 676 ls (.int 3 :: st) H) ∧
  (∀ ls st H, aGo cl (some (L, xs)) cd_law 1 676 ls st H = aBin (fun st => aGo cl (some (L, xs)) cd_law 1 677 ls st H) (fun x y => x + y) st) ∧
  (∀ ls st H, aGo cl (some (L, xs)) cd_law 1 677 ls st H = aIald (fun st => aGo cl (some (L, xs)) cd_law 1 678 ls st H) (some (L, xs)) H st) ∧
  (∀ ls st H, aGo cl (some (L, xs)) cd_law 1 678 ls st H = aRLoad (fun st => aGo cl (some (L, xs)) cd_law 1 679 ls st H) ls 0 st) ∧
  (∀ ls st H, aGo cl (some (L, xs)) cd_law 1 679 ls st H = aILoad (fun st => aGo cl (some (L, xs)) cd_law 1 680 ls st H) ls 3 st) ∧
  (∀ ls st H, aGo cl (some (L, xs)) cd_law 1 680 ls st H = aGo cl (some (L, xs)) cd_law 1 681 ls (.int 4 :: st) H) ∧
  (∀ ls st H, aGo cl (some (L, xs)) cd_law 1 681 ls st H = aBin (fun st => aGo cl (some (L, xs)) cd_law 1 682 ls st H) (fun x y => x + y) st) ∧
  (∀ ls st H, aGo cl (some (L, xs)) cd_law 1 682 ls st H = aIald (fun st => aGo cl (some (L, xs)) cd_law 1 683 ls st H) (some (L, xs)) H st) ∧
  (∀ ls st H, aGo cl (some (L, xs)) cd_law 1 683 ls st H = aCallV (fun st H => aGo cl (some (L, xs)) cd_law 1 686 ls st H) cl 175 4 8 H st) ∧
  (∀ ls st H, aGo cl (some (L, xs)) cd_law 1 686 ls st H = aIc (fun p st => aGo cl (some (L, xs)) cd_law 1 p ls st H) .eq 1485 689 st) :=
  ⟨fun _ _ _ => (aGo_s rfl).trans rfl, fun _ _ _ => (aGo_s rfl).trans rfl, fun _ _ _ => (aGo_s rfl).trans rfl, fun _ _ _ => (aGo_s rfl).trans rfl, fun _ _ _ => (aGo_s rfl).trans rfl, fun _ _ _ => (aGo_s rfl).trans rfl, fun _ _ _ => (aGo_s rfl).trans rfl, fun _ _ _ => (aGo_s rfl).trans rfl, fun _ _ _ => (aGo_s rfl).trans rfl, fun _ _ _ => (aGo_s rfl).trans rfl, fun _ _ _ => (aGo_s rfl).trans rfl, fun _ _ _ => (aGo_s rfl).trans rfl, fun _ _ _ => (aGo_s rfl).trans rfl, fun _ _ _ => (aGo_s rfl).trans rfl, fun _ _ _ => (aGo_s rfl).trans rfl, fun _ _ _ => (aGo_s rfl).trans rfl, fun _ _ _ => (aGo_s rfl).trans rfl, fun _ _ _ => (aGo_s rfl).trans rfl, fun _ _ _ => (aGo_s rfl).trans rfl, fun _ _ _ => (aGo_s rfl).trans rfl, fun _ _ _ => (aGo_s rfl).trans rfl, fun _ _ _ => (aGo_s rfl).trans rfl, fun _ _ _ => (aGo_s rfl).trans rfl, fun _ _ _ => (aGo_s rfl).trans rfl, fun _ _ _ => (aGo_s rfl).trans rfl, fun _ _ _ => (aGo_s rfl).trans rfl, fun _ _ _ => (aGo_s rfl).trans rfl, fun _ _ _ => (aGo_s rfl).trans rfl, fun _ _ _ => (aGo_s rfl).trans rfl, fun _ _ _ => (aGo_s rfl).trans rfl, fun _ _ _ => (aGo_s rfl).trans rfl, fun _ _ _ => (aGo_s rfl).trans rfl, fun _ _ _ => (aGo_s rfl).trans rfl, fun _ _ _ => (aGo_s rfl).trans rfl, fun _ _ _ => (aGo_s rfl).trans rfl, fun _ _ _ => (aGo_s rfl).trans rfl, fun _ _ _ => (aGo_s rfl).trans rfl, fun _ _ _ => (aGo_s rfl).trans rfl, fun _ _ _ => (aGo_s rfl).trans rfl, fun _ _ _ => (aGo_s rfl).trans rfl, fun _ _ _ => (aGo_s rfl).trans rfl, fun _ _ _ => (aGo_s rfl).trans rfl, fun _ _ _ => (aGo_s rfl).trans rfl, fun _ _ _ => (aGo_s rfl).trans rfl, fun _ _ _ => (aGo_s rfl).trans rfl⟩
theorem lw_12 {cl : Nat → List Value → aH → aRs} {L i : Nat} {xs : Nat → Int32} {I I1 I2 : Nat → Nat → Int32} {x y x1 y1 : Option Nat} {v : Int32} (hi : i + 6 ≤ L) (hL : L ≤ 3072) (h1 : cl 76 [.ref 0, .int (xs (i + 1)), .int (xs (i + 2)), .int (xs (i + 3)), .int (xs (i + 4))] (HH I x y) = some (some (.int v), HH I1 x1 y1)) (h2 : cl 175 [.ref 113, .int (xs (i + 1)), .int (xs (i + 2)), .int (xs (i + 3)), .int (xs (i + 4))] (HH I1 x1 y1) = some (some (.int v), HH I2 x1 y1)) : aGo cl (some (L, xs)) cd_law 1 638 (lwLs i) [] (HH I x y) = aGo cl (some (L, xs)) cd_law 1 1485 (lwLs i) [] (HH I2 x1 y1) := by
  simp [w_12, aILoad, aRLoad, aLLoad, aIStore, aRStore, aPush, aBin, aBinL, aShL, aUn, aIf, aIc, aGet, aPut, aBald, aAald, aIast, aBast, aAast, aAlen, aCopy, aCallV, aCallC, aCallI, aRet, aCat, aMax, aMin, aDiv, aRem, aI2l, aL2i, aNul, aSwS, aSw, aInc, aDup, aDup2, aPop1, aIret, aAret, aVret, aLen, aFk, aFT, Value.category, c_sh, m_sh, lw_l hi hL, h1, h2]
theorem w_13 {cl : Nat → List Value → aH → aRs} {L : Nat} {xs : Nat → Int32} : (∀ ls st H, aGo cl (some (L, xs)) cd_law 1 691 ls st H = aRLoad (fun st => aGo cl (some (L, xs)) cd_law 1 692 ls st H) ls 1 st) ∧
  (∀ ls st H, aGo cl (some (L, xs)) cd_law 1 692 ls st H = aRLoad (fun st => aGo cl (some (L, xs)) cd_law 1 693 ls st H) ls 0 st) ∧
  (∀ ls st H, aGo cl (some (L, xs)) cd_law 1 693 ls st H = aILoad (fun st => aGo cl (some (L, xs)) cd_law 1 694 ls st H) ls 3 st) ∧
  (∀ ls st H, aGo cl (some (L, xs)) cd_law 1 694 ls st H = aGo cl (some (L, xs)) cd_law 1 695 ls (.int 1 :: st) H) ∧
  (∀ ls st H, aGo cl (some (L, xs)) cd_law 1 695 ls st H = aBin (fun st => aGo cl (some (L, xs)) cd_law 1 696 ls st H) (fun x y => x + y) st) ∧
  (∀ ls st H, aGo cl (some (L, xs)) cd_law 1 696 ls st H = aIald (fun st => aGo cl (some (L, xs)) cd_law 1 697 ls st H) (some (L, xs)) H st) ∧
  (∀ ls st H, aGo cl (some (L, xs)) cd_law 1 697 ls st H = aRLoad (fun st => aGo cl (some (L, xs)) cd_law 1 698 ls st H) ls 0 st) ∧
  (∀ ls st H, aGo cl (some (L, xs)) cd_law 1 698 ls st H = aILoad (fun st => aGo cl (some (L, xs)) cd_law 1 699 ls st H) ls 3 st) ∧
  (∀ ls st H, aGo cl (some (L, xs)) cd_law 1 699 ls st H = aGo cl (some (L, xs)) cd_law 1 700 ls (.int 2 :: st) H) ∧
  (∀ ls st H, aGo cl (some (L, xs)) cd_law 1 700 ls st H = aBin (fun st => aGo cl (some (L, xs)) cd_law 1 701 ls st H) (fun x y => x + y) st) ∧
  (∀ ls st H, aGo cl (some (L, xs)) cd_law 1 701 ls st H = aIald (fun st => aGo cl (some (L, xs)) cd_law 1 702 ls st H) (some (L, xs)) H st) ∧
  (∀ ls st H, aGo cl (some (L, xs)) cd_law 1 702 ls st H = aCallV (fun st H => aGo cl (some (L, xs)) cd_law 1 705 ls st H) cl 77 2 7 H st) ∧
  (∀ ls st H, aGo cl (some (L, xs)) cd_law 1 705 ls st H = aRLoad (fun st => aGo cl (some (L, xs)) cd_law 1 706 ls st H) ls 2 st) ∧
  (∀ ls st H, aGo cl (some (L, xs)) cd_law 1 706 ls st H = aRLoad (fun st => aGo cl (some (L, xs)) cd_law 1 707 ls st H) ls 0 st) ∧
  (∀ ls st H, aGo cl (some (L, xs)) cd_law 1 707 ls st H = aILoad (fun st => aGo cl (some (L, xs)) cd_law 1 708 ls st H) ls 3 st) ∧
  (∀ ls st H, aGo cl (some (L, xs)) cd_law 1 708 ls st H = aGo cl (some (L, xs)) cd_law 1 709 ls (.int 1 :: st) H) ∧
  (∀ ls st H, aGo cl (some (L, xs)) cd_law 1 709 ls st H = aBin (fun st => aGo cl (some (L, xs)) cd_law 1 710 ls st H) (fun x y => x + y) st) ∧
  (∀ ls st H, aGo cl (some (L, xs)) cd_law 1 710 ls st H = aIald (fun st => aGo cl (some (L, xs)) cd_law 1 711 ls st H) (some (L, xs)) H st) ∧
  (∀ ls st H, aGo cl (some (L, xs)) cd_law 1 711 ls st H = aRLoad (fun st => aGo cl (some (L, xs)) cd_law 1 712 ls st H) ls 0 st) ∧
  (∀ ls st H, aGo cl (some (L, xs)) cd_law 1 712 ls st H = aILoad (fun st => aGo cl (some (L, xs)) cd_law 1 713 ls st H) ls 3 st) ∧
  (∀ ls st H, aGo cl (some (L, xs)) cd_law 1 713 ls st H = aGo cl (some (L, xs)) cd_law 1 714 ls (.int 2 :: st) H) ∧
  (∀ ls st H, aGo cl (some (L, xs)) cd_law 1 714 ls st H = aBin (fun st => aGo cl (some (L, xs)) cd_law 1 715 ls st H) (fun x y => x + y) st) ∧
  (∀ ls st H, aGo cl (some (L, xs)) cd_law 1 715 ls st H = aIald (fun st => aGo cl (some (L, xs)) cd_law 1 716 ls st H) (some (L, xs)) H st) ∧
  (∀ ls st H, aGo cl (some (L, xs)) cd_law 1 716 ls st H = aCallV (fun st H => aGo cl (some (L, xs)) cd_law 1 719 ls st H) cl 176 2 8 H st) ∧
  (∀ ls st H, aGo cl (some (L, xs)) cd_law 1 719 ls st H = aIc (fun p st => aGo cl (some (L, xs)) cd_law 1 p ls st H) .eq 1485 722 st) :=
  ⟨fun _ _ _ => (aGo_s rfl).trans rfl, fun _ _ _ => (aGo_s rfl).trans rfl, fun _ _ _ => (aGo_s rfl).trans rfl, fun _ _ _ => (aGo_s rfl).trans rfl, fun _ _ _ => (aGo_s rfl).trans rfl, fun _ _ _ => (aGo_s rfl).trans rfl, fun _ _ _ => (aGo_s rfl).trans rfl, fun _ _ _ => (aGo_s rfl).trans rfl, fun _ _ _ => (aGo_s rfl).trans rfl, fun _ _ _ => (aGo_s rfl).trans rfl, fun _ _ _ => (aGo_s rfl).trans rfl, fun _ _ _ => (aGo_s rfl).trans rfl, fun _ _ _ => (aGo_s rfl).trans rfl, fun _ _ _ => (aGo_s rfl).trans rfl, fun _ _ _ => (aGo_s rfl).trans rfl, fun _ _ _ => (aGo_s rfl).trans rfl, fun _ _ _ => (aGo_s rfl).trans rfl, fun _ _ _ => (aGo_s rfl).trans rfl, fun _ _ _ => (aGo_s rfl).trans rfl, fun _ _ _ => (aGo_s rfl).trans rfl, fun _ _ _ => (aGo_s rfl).trans rfl, fun _ _ _ => (aGo_s rfl).trans rfl, fun _ _ _ => (aGo_s rfl).trans rfl, fun _ _ _ => (aGo_s rfl).trans rfl, fun _ _ _ => (aGo_s rfl).trans rfl⟩
theorem lw_13 {cl : Nat → List Value → aH → aRs} {L i : Nat} {xs : Nat → Int32} {I I1 I2 : Nat → Nat → Int32} {x y x1 y1 : Option Nat} {v : Int32} (hi : i + 6 ≤ L) (hL : L ≤ 3072) (h1 : cl 77 [.ref 0, .int (xs (i + 1)), .int (xs (i + 2))] (HH I x y) = some (some (.int v), HH I1 x1 y1)) (h2 : cl 176 [.ref 113, .int (xs (i + 1)), .int (xs (i + 2))] (HH I1 x1 y1) = some (some (.int v), HH I2 x1 y1)) : aGo cl (some (L, xs)) cd_law 1 691 (lwLs i) [] (HH I x y) = aGo cl (some (L, xs)) cd_law 1 1485 (lwLs i) [] (HH I2 x1 y1) := by
  simp [w_13, aILoad, aRLoad, aLLoad, aIStore, aRStore, aPush, aBin, aBinL, aShL, aUn, aIf, aIc, aGet, aPut, aBald, aAald, aIast, aBast, aAast, aAlen, aCopy, aCallV, aCallC, aCallI, aRet, aCat, aMax, aMin, aDiv, aRem, aI2l, aL2i, aNul, aSwS, aSw, aInc, aDup, aDup2, aPop1, aIret, aAret, aVret, aLen, aFk, aFT, Value.category, c_sh, m_sh, lw_l hi hL, h1, h2]
